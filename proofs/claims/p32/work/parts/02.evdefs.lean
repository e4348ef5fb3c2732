/-! ===== an abstract run of a method's body: locals, stack and cells as lists, references by places; one theorem carries it to the machine ===== -/
abbrev ev_E : Type := (Nat × vp_A) ⊕ (Nat × List Value)
abbrev ev_I : Type := Instr × Nat × Nat × Nat × Nat × Value
abbrev ev_L : Type := List (Option Value)
abbrev ev_T : Type := List (Nat × ev_I)
def ev_cv (ad : Nat → Nat) (v : Value) : Value := match v with
  | .ref a => .ref (ad a)
  | .int x => .int x
  | .long x => .long x
  | .float x => .float x
  | .double x => .double x
  | .null => .null
  | .retAddr x => .retAddr x
def ev_ca (ad : Nat → Nat) (a : vp_A) : vp_A := (a.1, match a.2 with
  | .inr (.inr (.inr (.inr f))) => .inr (.inr (.inr (.inr (fun i => (f i).map ad))))
  | .inr (.inr (.inr (.inl f))) => .inr (.inr (.inr (.inl f)))
  | .inr (.inr (.inl f)) => .inr (.inr (.inl f))
  | .inr (.inl f) => .inr (.inl f)
  | .inl f => .inl f)
def ev_ce (ad : Nat → Nat) (ct : Nat → ClassId) (E : ev_E) : va_E := match E with
  | .inl a => .inl (ct a.1, ev_ca ad a.2)
  | .inr o => .inr (o.1, o.2.map (ev_cv ad))
def ev_lay (ad : Nat → Nat) (ct : Nat → ClassId) (w : List ev_E) : va_W := w.mapIdx (fun k E => (ad k, ev_ce ad ct E))
def ev_tys (ct : Nat → ClassId) : List (ClassId × FieldType) := [(ct 0, .int), (ct 0, .int), (ct 2, .object "GossipCounts$World")]
theorem ev_lay_get {ad : Nat → Nat} {ct : Nat → ClassId} {w : List ev_E} {k : Nat} {E : ev_E} (h : w[k]? = some E) : (ev_lay ad ct w)[k]? = some (ad k, ev_ce ad ct E) := by
  unfold ev_lay
  rw [List.getElem?_mapIdx, h]
  rfl
theorem ev_lay_inv {ad : Nat → Nat} {ct : Nat → ClassId} {w : List ev_E} {k : Nat} {q : Nat × va_E} (h : (ev_lay ad ct w)[k]? = some q) : ∃ E, w[k]? = some E ∧ q = (ad k, ev_ce ad ct E) := by
  unfold ev_lay at h
  rw [List.getElem?_mapIdx] at h
  cases hw : w[k]? with
  | none => rw [hw] at h; cases h
  | some E => rw [hw] at h; exact ⟨E, rfl, (Option.some.inj h).symm⟩
theorem ev_lay_len {ad : Nat → Nat} {ct : Nat → ClassId} {w : List ev_E} : (ev_lay ad ct w).length = w.length := by
  unfold ev_lay
  simp
theorem ev_lay_set {ad : Nat → Nat} {ct : Nat → ClassId} {w : List ev_E} {k : Nat} {E : ev_E} : (ev_lay ad ct w).set k (ad k, ev_ce ad ct E) = ev_lay ad ct (w.set k E) := by
  apply List.ext_getElem?
  intro j
  unfold ev_lay
  rw [List.getElem?_set, List.getElem?_mapIdx, List.getElem?_mapIdx, List.getElem?_set]
  by_cases h : k = j
  · subst h
    simp only [if_true, List.length_mapIdx]
    by_cases h2 : k < w.length <;> simp [h2]
  · simp [h]
-- the words
def ev_okw (w : Jvm.Cond) : Bool := goodWord w || match w with
  | .fieldLinkNest _ _ _ _ _ _ => true
  | .methodLinkNest _ _ _ _ => true
  | _ => false
def ev_WA : List Jvm.Cond := lw_tbl.filter ev_okw
def ev_has (k : Nat) (w : Jvm.Cond) : Bool := decide (lw_tbl[k]? = some w) && ev_okw w
theorem ev_okw_warm {w : Jvm.Cond} (h : ev_okw w = true) {args a' : Array Value} {s U : State} (hW : s.WarmedH U.vm) (hb : w.before args s = true) : w.before a' U = true := by
  unfold ev_okw at h
  rw [Bool.or_eq_true] at h
  rcases h with h | h
  · exact word_at hW (good_of_word h) hb
  · split at h
    · exact va_Nw.use rfl (va_Nw.warmF hW (va_Nw.of rfl hb))
    · exact va_Nw.use rfl (va_Nw.warmM hW (va_Nw.of rfl hb))
    · cases h
theorem ev_has_in {k : Nat} {w : Jvm.Cond} (h : ev_has k w = true) : w ∈ ev_WA := by
  unfold ev_has at h
  rw [Bool.and_eq_true] at h
  exact List.mem_filter.mpr ⟨List.mem_of_getElem? (of_decide_eq_true h.1), h.2⟩
-- the classes
def ev_ty (ci : Nat) : Nat → FieldType := match ci with
  | 0 => tyX0
  | 1 => tyX1
  | 2 => tyX2
  | 3 => tyX3
  | _ => tyX4
def ev_F (ci : Nat) : u_T := match ci with
  | 0 => TX0
  | 1 => TX1
  | 2 => TX2
  | 3 => TX3
  | _ => TX4
def ev_R (ci : Nat) : String := match ci with
  | 0 => RX0
  | 1 => RX1
  | 2 => RX2
  | 3 => RX3
  | _ => RX4
def ev_N (ci : Nat) : Nat := match ci with
  | 0 => 1
  | 1 => 5
  | 2 => 5
  | 3 => 17
  | _ => 6
theorem ev_cl {ci : Nat} (h : ci < 5) : vwCl[ci]? = some (ev_R ci, ev_F ci, ev_N ci) := by
  match ci, h with
  | 0, _ => rfl
  | 1, _ => rfl
  | 2, _ => rfl
  | 3, _ => rfl
  | 4, _ => rfl
theorem ev_tyok {ci : Nat} (h : ci < 5) : ∀ k, k < ev_N ci → parseFieldDescriptor (ev_F ci k).2.2.1 = some (ev_ty ci k) := by
  match ci, h with
  | 0, _ => exact tyX0_ok
  | 1, _ => exact tyX1_ok
  | 2, _ => exact tyX2_ok
  | 3, _ => exact tyX3_ok
  | 4, _ => exact tyX4_ok
theorem ev_nm {ci : Nat} (h : ci < 5) : ∀ a, a < ev_N ci → ∀ b, b < ev_N ci → a ≠ b → (ev_F ci a).2.1 ≠ (ev_F ci b).2.1 := by
  match ci, h with
  | 0, _ => exact nmX0
  | 1, _ => exact nmX1
  | 2, _ => exact nmX2
  | 3, _ => exact nmX3
  | 4, _ => exact nmX4
set_option maxRecDepth 20000 in
theorem ev_win : ((List.range 5).all fun ci => (u_ws (ev_R ci) (ev_F ci) (ev_N ci)).all fun w => decide (w ∈ lw_tbl) && ev_okw w) = true := by decide +kernel
theorem ev_wsin {ci : Nat} (h : ci < 5) : ∀ w ∈ u_ws (ev_R ci) (ev_F ci) (ev_N ci), w ∈ ev_WA := by
  intro w hw
  have h1 := List.all_eq_true.mp (List.all_eq_true.mp ev_win ci (List.mem_range.mpr h)) w hw
  rw [Bool.and_eq_true] at h1
  exact List.mem_filter.mpr ⟨of_decide_eq_true h1.1, h1.2⟩
/-- the link of a field, by its word's place -/
def ev_fl (own : String) (idx k ci f : Nat) : Bool :=
  decide (ci < 5) && decide (f < ev_N ci) && (ev_has k (.fieldLink own idx (ev_F ci f).1 (ev_F ci f).2.1 (ev_F ci f).2.2.1) ||
    match lw_tbl[k]? with
    | some (.fieldLinkNest _ _ _ _ _ h) => ev_has k (.fieldLinkNest own idx (ev_F ci f).1 (ev_F ci f).2.1 (ev_F ci f).2.2.1 h)
    | _ => false)
theorem ev_fl_use {own : String} {idx k ci f : Nat} (h : ev_fl own idx k ci f = true) : ci < 5 ∧ f < ev_N ci ∧ (Jvm.Cond.fieldLink own idx (ev_F ci f).1 (ev_F ci f).2.1 (ev_F ci f).2.2.1 ∈ ev_WA ∨ ∃ host, Jvm.Cond.fieldLinkNest own idx (ev_F ci f).1 (ev_F ci f).2.1 (ev_F ci f).2.2.1 host ∈ ev_WA) := by
  unfold ev_fl at h
  rw [Bool.and_eq_true, Bool.and_eq_true, Bool.or_eq_true] at h
  obtain ⟨⟨h1, h2⟩, h3⟩ := h
  refine ⟨of_decide_eq_true h1, of_decide_eq_true h2, ?_⟩
  rcases h3 with h3 | h3
  · exact Or.inl (ev_has_in h3)
  · split at h3
    · exact Or.inr ⟨_, ev_has_in h3⟩
    · cases h3
-- the locals
def ev_nth : ev_L → Nat → Option Value
  | [], _ => none
  | x :: _, 0 => x
  | _ :: l, n + 1 => ev_nth l n
def ev_clr (x : Option Value) : Option Value := match x with
  | some (.long _) => none
  | some (.double _) => none
  | some (.int v) => some (.int v)
  | some (.float v) => some (.float v)
  | some .null => some .null
  | some (.ref v) => some (.ref v)
  | some (.retAddr v) => some (.retAddr v)
  | none => none
def ev_st1 : ev_L → Nat → Option Value → ev_L
  | [], _, _ => []
  | _ :: l, 0, v => v :: l
  | x :: l, n + 1, v => (match n with | 0 => ev_clr x | _ => x) :: ev_st1 l n v
def ev_st2 (L : ev_L) (i : Nat) (v : Option Value) : ev_L := ev_st1 (ev_st1 L (i + 1) none) i v
def ev_LH (ad : Nat → Nat) (ls : Array Slot) (nL : Nat) (L : ev_L) : Prop := ls.size = nL ∧ lv_wf ls ∧ ∀ i v, ev_nth L i = some v → ls[i]? = some (.val (ev_cv ad v))
theorem ev_cv_cat (ad : Nat → Nat) (v : Value) : (ev_cv ad v).category = v.category := by cases v <;> rfl
-- the cells
def ev_wg : List ev_E → Nat → Option ev_E
  | [], _ => none
  | x :: _, 0 => some x
  | _ :: l, n + 1 => ev_wg l n
def ev_ws : List ev_E → Nat → ev_E → List ev_E
  | [], _, _ => []
  | _ :: l, 0, v => v :: l
  | x :: l, n + 1, v => x :: ev_ws l n v
def ev_fg : List Value → Nat → Option Value
  | [], _ => none
  | x :: _, 0 => some x
  | _ :: l, n + 1 => ev_fg l n
def ev_fs : List Value → Nat → Value → List Value
  | [], _, _ => []
  | _ :: l, 0, v => v :: l
  | x :: l, n + 1, v => x :: ev_fs l n v
theorem ev_wg_eq (w : List ev_E) (k : Nat) : ev_wg w k = w[k]? := by
  induction w generalizing k with
  | nil => simp [ev_wg]
  | cons x l ih => cases k <;> simp [ev_wg, ih]
theorem ev_ws_eq (w : List ev_E) (k : Nat) (E : ev_E) : ev_ws w k E = w.set k E := by
  induction w generalizing k with
  | nil => simp [ev_ws]
  | cons x l ih => cases k <;> simp [ev_ws, ih]
theorem ev_fg_eq (w : List Value) (k : Nat) : ev_fg w k = w[k]? := by
  induction w generalizing k with
  | nil => simp [ev_fg]
  | cons x l ih => cases k <;> simp [ev_fg, ih]
theorem ev_fs_eq (w : List Value) (k : Nat) (E : Value) : ev_fs w k E = w.set k E := by
  induction w generalizing k with
  | nil => simp [ev_fs]
  | cons x l ih => cases k <;> simp [ev_fs, ih]
def ev_fit (ty : FieldType) (v : Value) : Bool := match ty, v with
  | .int, .int _ => true
  | .object _, .ref _ => true
  | .array _, .ref _ => true
  | _, _ => false
theorem ev_fit_ok {ty : FieldType} {v : Value} (h : ev_fit ty v = true) (ad : Nat → Nat) : narrow ty (ev_cv ad v) = ev_cv ad v ∧ fits ty (ev_cv ad v) = true := by
  cases ty <;> cases v <;> first | exact absurd h Bool.false_ne_true | exact ⟨rfl, rfl⟩
abbrev ev_O : Type := List Prop × Nat × ev_L × List Value × List ev_E
/-- one instruction, where it has no branch and no call; what must hold stands ahead -/
def ev_step (i : ev_I) (L : ev_L) (st : List Value) (w : List ev_E) : Option ev_O := match i with
  | (ins, nx, _, x, y, v) => match ins with
    | .iconst _ => match v with | .int c => some ([], nx, L, .int c :: st, w) | _ => none
    | .bipush _ => match v with | .int c => some ([], nx, L, .int c :: st, w) | _ => none
    | .sipush _ => match v with | .int c => some ([], nx, L, .int c :: st, w) | _ => none
    | .ldc _ => match v with | .int c => some ([], nx, L, .int c :: st, w) | _ => none
    | .ldc_w _ => match v with | .int c => some ([], nx, L, .int c :: st, w) | _ => none
    | .lconst _ => match v with | .long c => some ([], nx, L, .long c :: st, w) | _ => none
    | .ldc2_w _ => match v with | .long c => some ([], nx, L, .long c :: st, w) | .double c => some ([], nx, L, .double c :: st, w) | _ => none
    | .dconst _ => match v with | .double c => some ([], nx, L, .double c :: st, w) | _ => none
    | .iload _ => match ev_nth L x with | some (.int c) => some ([], nx, L, .int c :: st, w) | _ => none
    | .iload_n _ => match ev_nth L x with | some (.int c) => some ([], nx, L, .int c :: st, w) | _ => none
    | .lload _ => match ev_nth L x with | some (.long c) => some ([], nx, L, .long c :: st, w) | _ => none
    | .lload_n _ => match ev_nth L x with | some (.long c) => some ([], nx, L, .long c :: st, w) | _ => none
    | .dload _ => match ev_nth L x with | some (.double c) => some ([], nx, L, .double c :: st, w) | _ => none
    | .dload_n _ => match ev_nth L x with | some (.double c) => some ([], nx, L, .double c :: st, w) | _ => none
    | .aload _ => match ev_nth L x with | some (.ref c) => some ([], nx, L, .ref c :: st, w) | _ => none
    | .aload_n _ => match ev_nth L x with | some (.ref c) => some ([], nx, L, .ref c :: st, w) | _ => none
    | .istore _ => match st with | .int c :: r => some ([], nx, ev_st1 L x (some (.int c)), r, w) | _ => none
    | .istore_n _ => match st with | .int c :: r => some ([], nx, ev_st1 L x (some (.int c)), r, w) | _ => none
    | .lstore _ => match st with | .long c :: r => some ([], nx, ev_st2 L x (some (.long c)), r, w) | _ => none
    | .lstore_n _ => match st with | .long c :: r => some ([], nx, ev_st2 L x (some (.long c)), r, w) | _ => none
    | .dstore _ => match st with | .double c :: r => some ([], nx, ev_st2 L x (some (.double c)), r, w) | _ => none
    | .dstore_n _ => match st with | .double c :: r => some ([], nx, ev_st2 L x (some (.double c)), r, w) | _ => none
    | .astore _ => match st with | .ref c :: r => some ([], nx, ev_st1 L x (some (.ref c)), r, w) | _ => none
    | .astore_n _ => match st with | .ref c :: r => some ([], nx, ev_st1 L x (some (.ref c)), r, w) | _ => none
    | .iinc _ _ => match ev_nth L x, v with | some (.int a), .int c => some ([], nx, ev_st1 L x (some (.int (a + c))), st, w) | _, _ => none
    | .iadd => match st with | .int b :: .int a :: r => some ([], nx, L, .int (a + b) :: r, w) | _ => none
    | .isub => match st with | .int b :: .int a :: r => some ([], nx, L, .int (a - b) :: r, w) | _ => none
    | .imul => match st with | .int b :: .int a :: r => some ([], nx, L, .int (a * b) :: r, w) | _ => none
    | .iand => match st with | .int b :: .int a :: r => some ([], nx, L, .int (a &&& b) :: r, w) | _ => none
    | .ior => match st with | .int b :: .int a :: r => some ([], nx, L, .int (a ||| b) :: r, w) | _ => none
    | .ixor => match st with | .int b :: .int a :: r => some ([], nx, L, .int (a ^^^ b) :: r, w) | _ => none
    | .ishl => match st with | .int b :: .int a :: r => some ([], nx, L, .int (a <<< (b &&& 31)) :: r, w) | _ => none
    | .ishr => match st with | .int b :: .int a :: r => some ([], nx, L, .int (a >>> (b &&& 31)) :: r, w) | _ => none
    | .iushr => match st with | .int b :: .int a :: r => some ([], nx, L, .int (a.toUInt32 >>> (b.toUInt32 &&& Int32.toUInt32 31)).toInt32 :: r, w) | _ => none
    | .idiv => match st with | .int b :: .int a :: r => some ([¬ b = 0], nx, L, .int (a / b) :: r, w) | _ => none
    | .irem => match st with | .int b :: .int a :: r => some ([¬ b = 0], nx, L, .int (a - a / b * b) :: r, w) | _ => none
    | .ladd => match st with | .long b :: .long a :: r => some ([], nx, L, .long (a + b) :: r, w) | _ => none
    | .lsub => match st with | .long b :: .long a :: r => some ([], nx, L, .long (a - b) :: r, w) | _ => none
    | .lmul => match st with | .long b :: .long a :: r => some ([], nx, L, .long (a * b) :: r, w) | _ => none
    | .ldiv => match st with | .long b :: .long a :: r => some ([¬ b = 0], nx, L, .long (a / b) :: r, w) | _ => none
    | .lrem => match st with | .long b :: .long a :: r => some ([¬ b = 0], nx, L, .long (a - a / b * b) :: r, w) | _ => none
    | .lshl => match st with | .int b :: .long a :: r => some ([], nx, L, .long (a <<< (b.toInt64 &&& 63)) :: r, w) | _ => none
    | .lcmp => match st with | .long b :: .long a :: r => some ([], nx, L, .int (lg_cmp a b) :: r, w) | _ => none
    | .i2l => match st with | .int a :: r => some ([], nx, L, .long a.toInt64 :: r, w) | _ => none
    | .i2d => match st with | .int a :: r => some ([], nx, L, .double (FP.i2d a) :: r, w) | _ => none
    | .d2l => match st with | .double a :: r => some ([], nx, L, .long (FP.d2l a) :: r, w) | _ => none
    | .dcmp op => match st with | .double b :: .double a :: r => some ([], nx, L, .int (Op.cmpValue (FP.dcmp a b) op) :: r, w) | _ => none
    | .dmul => match st with | .double b :: .double a :: r => some ([vf_n64 (FP.dmul a b)], nx, L, .double (FP.dmul a b) :: r, w) | _ => none
    | .ddiv => match st with | .double b :: .double a :: r => some ([vf_n64 (FP.ddiv a b)], nx, L, .double (FP.ddiv a b) :: r, w) | _ => none
    | .dsub => match st with | .double b :: .double a :: r => some ([vf_n64 (FP.dsub a b)], nx, L, .double (FP.dsub a b) :: r, w) | _ => none
    | .dup => match st with | .int a :: r => some ([], nx, L, .int a :: .int a :: r, w) | .ref a :: r => some ([], nx, L, .ref a :: .ref a :: r, w) | _ => none
    | .dup2 => match st with | .int b :: .ref a :: r => some ([], nx, L, .int b :: .ref a :: .int b :: .ref a :: r, w) | _ => none
    | .dup_x2 => match st with | .int a :: .int b :: .ref d :: r => some ([], nx, L, .int a :: .int b :: .ref d :: .int a :: r, w) | _ => none
    | .arraylength => match st with
      | .ref a :: r => match ev_wg w a with
        | some (.inl (0, n, _)) => some ([], nx, L, .int (Int32.ofNat n) :: r, w)
        | _ => none
      | _ => none
    | .pop => match st with | .int _ :: r => some ([], nx, L, r, w) | .ref _ :: r => some ([], nx, L, r, w) | _ => none
    | .goto _ => some ([], x, L, st, w)
    | .getfield _ => match st with
      | .ref a :: r => match ev_wg w a with
        | some (.inr (ci, fs)) => match Nat.beq ci x with
          | true => match ev_fg fs y with
            | some u => some ([], nx, L, u :: r, w)
            | none => none
          | false => none
        | _ => none
      | _ => none
    | .putfield _ => match st with
      | u :: .ref a :: r => match ev_wg w a with
        | some (.inr (ci, fs)) => match Nat.beq ci x with
          | true => match ev_fg fs y, ev_fit (ev_ty x y) u with
            | some _, true => some ([], nx, L, r, ev_ws w a (.inr (ci, ev_fs fs y u)))
            | _, _ => none
          | false => none
        | _ => none
      | _ => none
    | .iaload => match st with
      | .int j :: .ref a :: r => match ev_wg w a with
        | some (.inl (0, n, .inl f)) => some ([vp_in j n], nx, L, .int (f j.toNatClampNeg) :: r, w)
        | _ => none
      | _ => none
    | .iastore => match st with
      | .int u :: .int j :: .ref a :: r => match ev_wg w a with
        | some (.inl (0, n, .inl f)) => some ([vp_in j n], nx, L, r, ev_ws w a (.inl (0, n, .inl (upd f j.toNatClampNeg u))))
        | _ => none
      | _ => none
    | .tableswitch d lo hi offs => match st with
      | .int a :: r => match decide (a.toInt < lo), decide (hi < a.toInt) with
        | false, false => match offs[(a.toInt - lo).toNat]? with
          | some o => match decide ((y : Int) + o = ((y : Int) + o).toNat) with
            | true => some ([], ((y : Int) + o).toNat, L, r, w)
            | false => none
          | none => none
        | _, _ => none
      | _ => none
    | _ => none
def ev_look : ev_T → Nat → Option ev_I
  | [], _ => none
  | q :: l, pc => match Nat.beq q.1 pc with
    | true => some q.2
    | false => ev_look l pc
def ev_mem : List Nat → Nat → Bool
  | [], _ => false
  | q :: l, pc => match Nat.beq q pc with
    | true => true
    | false => ev_mem l pc
def ev_go (tab : ev_T) (cuts : List Nat) : Nat → List Prop → Nat → ev_L → List Value → List ev_E → ev_O
  | 0, cs, pc, L, st, w => (cs, pc, L, st, w)
  | n + 1, cs, pc, L, st, w => match ev_look tab pc with
    | none => (cs, pc, L, st, w)
    | some i => match ev_step i L st w with
      | none => (cs, pc, L, st, w)
      | some (c, pc', L', st', w') => match ev_mem cuts pc' with
        | true => (cs ++ c, pc', L', st', w')
        | false => ev_go tab cuts n (cs ++ c) pc' L' st' w'
def ev_all : List Prop → Prop
  | [] => True
  | [p] => p
  | p :: q => p ∧ ev_all q
