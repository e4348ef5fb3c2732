/-! ===== one instruction of the abstract run, carried to the machine ===== -/
/-- a method: its class, its name, its code, how many locals, what it returns, its table, its room (frames, locals' words, cells, slots) -/
abbrev ev_M : Type := String × String × ByteArray × Nat × Option FieldType × ev_T × Nat × Nat × Nat × Nat
def ev_own (μ : ev_M) : String := μ.1
def ev_mn (μ : ev_M) : String := μ.2.1
def ev_cc (μ : ev_M) : ByteArray := μ.2.2.1
def ev_nL (μ : ev_M) : Nat := μ.2.2.2.1
def ev_rt (μ : ev_M) : Option FieldType := μ.2.2.2.2.1
def ev_tab (μ : ev_M) : ev_T := μ.2.2.2.2.2.1
def ev_fr (μ : ev_M) : Nat := μ.2.2.2.2.2.2.1
def ev_lo (μ : ev_M) : Nat := μ.2.2.2.2.2.2.2.1
def ev_mc (μ : ev_M) : Nat := μ.2.2.2.2.2.2.2.2.1
def ev_ms (μ : ev_M) : Nat := μ.2.2.2.2.2.2.2.2.2
def ev_len (ins : Instr) (x : Nat) : Nat := match ins with
  | .iload _ => 2
  | .lload _ => 2
  | .dload _ => 2
  | .aload _ => 2
  | .istore _ => 2
  | .lstore _ => 2
  | .dstore _ => 2
  | .astore _ => 2
  | .bipush _ => 2
  | .ldc _ => 2
  | .newarray _ => 2
  | .sipush _ => 3
  | .ldc_w _ => 3
  | .ldc2_w _ => 3
  | .iinc _ _ => 3
  | .goto _ => 3
  | .getfield _ => 3
  | .putfield _ => 3
  | .ifCond _ _ => 3
  | .if_icmp _ _ => 3
  | .invokevirtual _ => 3
  | .invokespecial _ => 3
  | .invokestatic _ => 3
  | .new _ => 3
  | .anewarray _ => 3
  | .tableswitch _ _ _ _ => x
  | .lookupswitch _ _ => x
  | _ => 1
def ev_lk (own nm : String) (nL pc : Nat) (ins : Instr) (k x y : Nat) (v : Value) : Bool := match ins with
  | .iconst n => decide (v = .int (Int32.ofInt n))
  | .bipush n => decide (v = .int (Int8.ofInt n).toInt32)
  | .sipush n => decide (v = .int (Int16.ofInt n).toInt32)
  | .iinc i n => decide (v = .int (Int32.ofInt n)) && decide (i = x) && decide (x < nL)
  | .lconst n => decide (v = .long (Int64.ofNat (n : Nat)))
  | .dconst n => decide ((n = 0 ∧ v = .double FP.dconst0) ∨ (n = 1 ∧ v = .double FP.dconst1))
  | .ldc i => match v with | .int c => ev_has k (.constant own i c) | _ => false
  | .ldc_w i => match v with | .int c => ev_has k (.constant own i c) | _ => false
  | .ldc2_w i => match v with | .long c => ev_has k (.constantLong own i c) | .double c => ev_has k (.constantDouble own i c) | _ => false
  | .iload i => decide (i = x)
  | .lload i => decide (i = x)
  | .dload i => decide (i = x)
  | .aload i => decide (i = x)
  | .iload_n i => decide ((i : Nat) = x)
  | .lload_n i => decide ((i : Nat) = x)
  | .dload_n i => decide ((i : Nat) = x)
  | .aload_n i => decide ((i : Nat) = x)
  | .istore i => decide (i = x) && decide (x < nL)
  | .astore i => decide (i = x) && decide (x < nL)
  | .istore_n i => decide ((i : Nat) = x) && decide (x < nL)
  | .astore_n i => decide ((i : Nat) = x) && decide (x < nL)
  | .lstore i => decide (i = x) && decide (x + 1 < nL)
  | .dstore i => decide (i = x) && decide (x + 1 < nL)
  | .lstore_n i => decide ((i : Nat) = x) && decide (x + 1 < nL)
  | .dstore_n i => decide ((i : Nat) = x) && decide (x + 1 < nL)
  | .goto o => decide ((pc : Int) + o = (x : Int))
  | .ifCond _ o => decide ((pc : Int) + o = (x : Int))
  | .if_icmp _ o => decide ((pc : Int) + o = (x : Int))
  | .getfield i => ev_fl own i k x y
  | .putfield i => decide (x < 5) && decide (y < ev_N x) && (if (ev_F x y).2.2.2 = true then decide (nm = "<init>") && decide ((ev_F x y).1 = own) && ev_has k (.fieldLink own i (ev_F x y).1 (ev_F x y).2.1 (ev_F x y).2.2.1) else ev_fl own i k x y)
  | .tableswitch _ _ _ _ => decide (y = pc)
  | .lookupswitch _ _ => decide (y = pc)
  | _ => true
def ev_ck (own nm : String) (cc : ByteArray) (nL : Nat) (q : Nat × ev_I) : Bool := match q with
  | (pc, ins, nx, k, x, y, v) => decide (decode cc pc = .ok (ins, ev_len ins x)) && decide (nx = pc + ev_len ins x) && ev_lk own nm nL pc ins k x y v
def ev_OK (μ : ev_M) : Prop := (ev_tab μ).all (ev_ck (ev_own μ) (ev_mn μ) (ev_cc μ) (ev_nL μ)) = true
theorem ev_look_in {tab : ev_T} {pc : Nat} {i : ev_I} (h : ev_look tab pc = some i) : (pc, i) ∈ tab := by
  induction tab with
  | nil => cases h
  | cons q l ih =>
    unfold ev_look at h
    split at h
    · next hq => cases h; have := Nat.eq_of_beq_eq_true hq; subst this; exact List.mem_cons_self
    · exact List.mem_cons_of_mem _ (ih h)
theorem ev_use {μ : ev_M} (h : ev_OK μ) {pc nx k x y : Nat} {ins : Instr} {v : Value} (hl : ev_look (ev_tab μ) pc = some (ins, nx, k, x, y, v)) : decode (ev_cc μ) pc = .ok (ins, ev_len ins x) ∧ nx = pc + ev_len ins x ∧ ev_lk (ev_own μ) (ev_mn μ) (ev_nL μ) pc ins k x y v = true := by
  have h1 := List.all_eq_true.mp h _ (ev_look_in hl)
  unfold ev_ck at h1
  rw [Bool.and_eq_true, Bool.and_eq_true] at h1
  exact ⟨of_decide_eq_true h1.1.1, of_decide_eq_true h1.1.2, h1.2⟩
/-- what stays: the machine, the body, the tables' words, the room -/
def ev_Fix (μ : ev_M) (p : Program) (R : Room) (s : State) (m : MethodId) (args : Array Value) (meth : Method) (c : Code) : Prop :=
  p.tables.exec = Jvm.exec ∧ c.code = ev_cc μ ∧ c.maxLocals = ev_nL μ ∧ meth.sig.returnType = ev_rt μ ∧ s.vm.findClass (ev_own μ) = some m.cls ∧ (∀ w ∈ ev_WA, w.before args s = true) ∧ meth.locks = false ∧ meth.name = ev_mn μ ∧ (ev_fr μ ≤ R.frames ∧ ev_lo μ ≤ R.locals ∧ ev_mc μ ≤ R.cells ∧ ev_ms μ ≤ R.slots)
def ev_I0 (μ : ev_M) (p : Program) (R : Room) (s : State) (m : MethodId) (args : Array Value) (meth : Method) (c : Code) (D : va_G) (ct : Nat → ClassId) (A : Nat → Prop) : Prop :=
  ev_OK μ ∧ ev_Fix μ p R s m args meth c ∧ va_K D vwCl (ev_tys ct) s ∧ ∀ q, s.heap.size ≤ q → A q
/-- what changes: the cells, the locals -/
def ev_I1 (μ : ev_M) (s : State) (D : va_G) (ct : Nat → ClassId) (ad0 : Nat → Nat) (A : Nat → Prop) (N0 : Nat) (ad : Nat → Nat) (H : Heap) (locs : List Loc) (ls : Array Slot) (L : ev_L) (w : List ev_E) : Prop :=
  va_P D vwCl (ev_lay ad ct w) H ∧ va_D A (ev_lay ad ct w) ∧ va_S A s.heap H locs ∧ (∀ k, k < N0 → ad k = ad0 k) ∧ ev_LH ad ls (ev_nL μ) L
theorem ev_ca_i (ad : Nat → Nat) (n : Nat) (f : Nat → Int32) : ev_ca ad (n, .inl f) = (n, .inl f) := rfl
theorem ev_ca_l (ad : Nat → Nat) (n : Nat) (f : Nat → Int64) : ev_ca ad (n, .inr (.inl f)) = (n, .inr (.inl f)) := rfl
theorem ev_map_set (ad : Nat → Nat) (fs : List Value) (k : Nat) (v : Value) : (fs.map (ev_cv ad)).set k (ev_cv ad v) = (fs.set k v).map (ev_cv ad) := by rw [List.map_set]
section EVS
variable {μ : ev_M} {p : Program} {l : Launch} {e : Env} {R : Room} {s : State} {m : MethodId} {args : Array Value} {below : List Frame} {meth : Method} {c : Code} {D : va_G} {ct : Nat → ClassId} {ad0 ad : Nat → Nat} {A : Nat → Prop} {N0 : Nat} {Q : State → Prop} {kc ks pc : Nat}
theorem ev_I1.ls {H : Heap} {locs : List Loc} {ls ls' : Array Slot} {L L' : ev_L} {w : List ev_E} (h : ev_I1 μ s D ct ad0 A N0 ad H locs ls L w) (hl : ev_LH ad ls' (ev_nL μ) L') : ev_I1 μ s D ct ad0 A N0 ad H locs ls' L' w := ⟨h.1, h.2.1, h.2.2.1, h.2.2.2.1, hl⟩
theorem ev_I1.set {H H1 : Heap} {locs locs1 : List Loc} {ls : Array Slot} {L : ev_L} {w : List ev_E} {k : Nat} {E : ev_E} {E' : va_E} (h : ev_I1 μ s D ct ad0 A N0 ad H locs ls L w) (hE : ev_ce ad ct E = E') (hP : va_P D vwCl ((ev_lay ad ct w).set k (ad k, E')) H1) (hD : va_D A ((ev_lay ad ct w).set k (ad k, E'))) (hS : va_S A s.heap H1 locs1) : ev_I1 μ s D ct ad0 A N0 ad H1 locs1 ls L (ev_ws w k E) := by
  subst hE
  rw [ev_lay_set, ← ev_ws_eq] at hP hD
  exact ⟨hP, hD, hS, h.2.2.2.1, h.2.2.2.2⟩
/-- the goal of every step -/
def ev_kk (μ : ev_M) (p : Program) (l : Launch) (e : Env) (R : Room) (s : State) (m : MethodId) (args : Array Value) (below : List Frame) (meth : Method) (c : Code) (D : va_G) (ct : Nat → ClassId) (ad0 ad : Nat → Nat) (A : Nat → Prop) (N0 : Nat) (Q : State → Prop) (kc ks pc : Nat) (L : ev_L) (st : List Value) (w : List ev_E) : Prop :=
  ∀ (H : Heap) (locs : List Loc) (ls : Array Slot), ev_I1 μ s D ct ad0 A N0 ad H locs ls L w → W p l e R s m args below meth c H locs kc ks Q (F0 m pc ls (st.map (ev_cv ad)))
set_option maxHeartbeats 4000000 in
set_option maxRecDepth 100000 in
theorem ev_step_ok (h0 : ev_I0 μ p R s m args meth c D ct A) {i : ev_I} {L L' : ev_L} {st st' : List Value} {w w' : List ev_E} {cs : List Prop} {pc' : Nat} (hlk : ev_look (ev_tab μ) pc = some i) (hs : ev_step i L st w = some (cs, pc', L', st', w')) (hc : ev_all cs)
    (kk : ev_kk μ p l e R s m args below meth c D ct ad0 ad A N0 Q kc ks pc' L' st' w') : ev_kk μ p l e R s m args below meth c D ct ad0 ad A N0 Q kc ks pc L st w := by
  obtain ⟨hok, ⟨hx, hb, hml, hr, hown, hts, hlocks, hnm, hR⟩, hK, hA⟩ := h0
  obtain ⟨ins, nx, k, x, y, v⟩ := i
  obtain ⟨hd, hnx, hv⟩ := ev_use hok hlk
  intro H locs ls I1
  have I1' := I1
  obtain ⟨hP, hD, hS, had, hL⟩ := I1
  cases ins with
  | iconst n =>
    dsimp only [ev_step] at hs
    split at hs <;> cases hs
    subst hnx
    have hv := of_decide_eq_true hv
    cases hv
    exact lv_iconst hx hb hd rfl (kk _ _ _ I1')
  | bipush n =>
    dsimp only [ev_step] at hs
    split at hs <;> cases hs
    subst hnx
    have hv := of_decide_eq_true hv
    cases hv
    exact lv_bipush hx hb hd rfl (kk _ _ _ I1')
  | sipush n =>
    dsimp only [ev_step] at hs
    split at hs <;> cases hs
    subst hnx
    have hv := of_decide_eq_true hv
    cases hv
    exact lv_sipush hx hb hd rfl (kk _ _ _ I1')
  | ldc n =>
    dsimp only [ev_step] at hs
    split at hs <;> cases hs
    subst hnx
    exact lv_ldc hx hb hown (hts _ (ev_has_in hv)) hd (kk _ _ _ I1')
  | ldc_w n =>
    dsimp only [ev_step] at hs
    split at hs <;> cases hs
    subst hnx
    exact lv_ldcw hx hb hown (hts _ (ev_has_in hv)) hd (kk _ _ _ I1')
  | ldc2_w n =>
    dsimp only [ev_step] at hs
    split at hs <;> cases hs
    · subst hnx
      exact lv_ldc2 hx hb hown (hts _ (ev_has_in hv)) hd (kk _ _ _ I1')
    · subst hnx
      exact lv_ldc2d hx hb hown (hts _ (ev_has_in hv)) hd (kk _ _ _ I1')
  | lconst n =>
    dsimp only [ev_step] at hs
    split at hs <;> cases hs
    subst hnx
    have hv := of_decide_eq_true hv
    cases hv
    exact lv_lconst hx hb hd rfl (kk _ _ _ I1')
  | dconst n =>
    dsimp only [ev_step] at hs
    split at hs <;> cases hs
    subst hnx
    have hv9 := of_decide_eq_true hv
    clear hv
    rcases hv9 with ⟨h8, h9⟩ | ⟨h8, h9⟩
    · subst h8; cases h9
      exact lv_dconst0 hx hb hd (kk _ _ _ I1')
    · subst h8; cases h9
      exact lv_dconst1 hx hb hd (kk _ _ _ I1')
  | iload n =>
    dsimp only [ev_step] at hs
    split at hs <;> cases hs
    next hn =>
    have hv := of_decide_eq_true hv
    subst hnx; subst hv
    exact lv_iload hx hb hd (hL.2.2 _ _ hn) (kk _ _ _ I1')
  | lload n =>
    dsimp only [ev_step] at hs
    split at hs <;> cases hs
    next hn =>
    have hv := of_decide_eq_true hv
    subst hnx; subst hv
    exact lv_lload hx hb hd (hL.2.2 _ _ hn) (kk _ _ _ I1')
  | iload_n n =>
    dsimp only [ev_step] at hs
    split at hs <;> cases hs
    next hn =>
    have hv := of_decide_eq_true hv
    subst hnx
    exact lv_iload_n hx hb hd hv (hL.2.2 _ _ hn) (kk _ _ _ I1')
  | lload_n n =>
    dsimp only [ev_step] at hs
    split at hs <;> cases hs
    next hn =>
    have hv := of_decide_eq_true hv
    subst hnx
    exact lv_lload_n hx hb hd hv (hL.2.2 _ _ hn) (kk _ _ _ I1')
  | dload n =>
    dsimp only [ev_step] at hs
    split at hs <;> cases hs
    next hn =>
    have hv := of_decide_eq_true hv
    subst hnx; subst hv
    exact lv_dload hx hb hd (hL.2.2 _ _ hn) (kk _ _ _ I1')
  | dload_n n =>
    dsimp only [ev_step] at hs
    split at hs <;> cases hs
    next hn =>
    have hv := of_decide_eq_true hv
    subst hnx
    exact lv_dload_n hx hb hd hv (hL.2.2 _ _ hn) (kk _ _ _ I1')
  | aload n =>
    dsimp only [ev_step] at hs
    split at hs <;> cases hs
    next hn =>
    have hv := of_decide_eq_true hv
    subst hnx; subst hv
    exact lv_aload hx hb hd (hL.2.2 _ _ hn) (kk _ _ _ I1')
  | aload_n n =>
    dsimp only [ev_step] at hs
    split at hs <;> cases hs
    next hn =>
    have hv := of_decide_eq_true hv
    subst hnx
    exact lv_aload_n hx hb hd hv (hL.2.2 _ _ hn) (kk _ _ _ I1')
  | istore n =>
    dsimp only [ev_step] at hs
    split at hs <;> cases hs
    obtain ⟨hv, hv2⟩ := Bool.and_eq_true_iff.mp hv
    have hv := of_decide_eq_true hv
    have hv2 := of_decide_eq_true hv2
    subst hnx; subst hv
    exact lv_istore hx hb hd hL.has hv2 rfl (fun ls2 h2 => kk _ _ _ (I1'.ls (ev_LH.st1 h2)))
  | istore_n n =>
    dsimp only [ev_step] at hs
    split at hs <;> cases hs
    obtain ⟨hv, hv2⟩ := Bool.and_eq_true_iff.mp hv
    have hv := of_decide_eq_true hv
    have hv2 := of_decide_eq_true hv2
    subst hnx
    exact lv_istore_n hx hb hd hv hL.has hv2 rfl (fun ls2 h2 => kk _ _ _ (I1'.ls (ev_LH.st1 h2)))
  | lstore n =>
    dsimp only [ev_step] at hs
    split at hs <;> cases hs
    obtain ⟨hv, hv2⟩ := Bool.and_eq_true_iff.mp hv
    have hv := of_decide_eq_true hv
    have hv2 := of_decide_eq_true hv2
    subst hnx; subst hv
    exact lv_lstore hx hb hd hL.has hv2 rfl (fun ls2 h2 => kk _ _ _ (I1'.ls (ev_LH.st2 h2)))
  | lstore_n n =>
    dsimp only [ev_step] at hs
    split at hs <;> cases hs
    obtain ⟨hv, hv2⟩ := Bool.and_eq_true_iff.mp hv
    have hv := of_decide_eq_true hv
    have hv2 := of_decide_eq_true hv2
    subst hnx
    exact lv_lstore_n hx hb hd hv hL.has hv2 rfl (fun ls2 h2 => kk _ _ _ (I1'.ls (ev_LH.st2 h2)))
  | dstore n =>
    dsimp only [ev_step] at hs
    split at hs <;> cases hs
    obtain ⟨hv, hv2⟩ := Bool.and_eq_true_iff.mp hv
    have hv := of_decide_eq_true hv
    have hv2 := of_decide_eq_true hv2
    subst hnx; subst hv
    exact lv_dstore hx hb hd hL.has hv2 rfl (fun ls2 h2 => kk _ _ _ (I1'.ls (ev_LH.st2 h2)))
  | dstore_n n =>
    dsimp only [ev_step] at hs
    split at hs <;> cases hs
    obtain ⟨hv, hv2⟩ := Bool.and_eq_true_iff.mp hv
    have hv := of_decide_eq_true hv
    have hv2 := of_decide_eq_true hv2
    subst hnx
    exact lv_dstore_n hx hb hd hv hL.has hv2 rfl (fun ls2 h2 => kk _ _ _ (I1'.ls (ev_LH.st2 h2)))
  | astore n =>
    dsimp only [ev_step] at hs
    split at hs <;> cases hs
    obtain ⟨hv, hv2⟩ := Bool.and_eq_true_iff.mp hv
    have hv := of_decide_eq_true hv
    have hv2 := of_decide_eq_true hv2
    subst hnx; subst hv
    exact lv_astore hx hb hd hL.has hv2 rfl (fun ls2 h2 => kk _ _ _ (I1'.ls (ev_LH.st1 h2)))
  | astore_n n =>
    dsimp only [ev_step] at hs
    split at hs <;> cases hs
    obtain ⟨hv, hv2⟩ := Bool.and_eq_true_iff.mp hv
    have hv := of_decide_eq_true hv
    have hv2 := of_decide_eq_true hv2
    subst hnx
    exact lv_astore_n hx hb hd hv hL.has hv2 rfl (fun ls2 h2 => kk _ _ _ (I1'.ls (ev_LH.st1 h2)))
  | iinc i n =>
    dsimp only [ev_step] at hs
    split at hs <;> cases hs
    next hn =>
    have hw1 : (_ && _) = true := hv
    have hw2 := Bool.and_eq_true_iff.mp hw1
    have hw3 := Bool.and_eq_true_iff.mp hw2.1
    have g1 := of_decide_eq_true hw3.1
    have g2 := of_decide_eq_true hw2.2
    have g3 := of_decide_eq_true hw3.2
    have g4 := Value.int.inj g1
    clear hv hw1 hw2 hw3 g1
    subst hnx; subst g3; subst g4
    obtain ⟨q, hq⟩ := hL.k hn
    exact lv_iinc hx hb hd hL.has hq rfl g2 rfl (fun ls2 h2 => kk _ _ _ (I1'.ls (ev_LH.st1 (v := .int _) h2)))
  | iadd =>
    dsimp only [ev_step] at hs
    split at hs <;> cases hs
    subst hnx
    exact lv_iadd hx hb hd (kk _ _ _ I1')
  | isub =>
    dsimp only [ev_step] at hs
    split at hs <;> cases hs
    subst hnx
    exact lv_isub hx hb hd (kk _ _ _ I1')
  | imul =>
    dsimp only [ev_step] at hs
    split at hs <;> cases hs
    subst hnx
    exact lv_imul hx hb hd (kk _ _ _ I1')
  | iand =>
    dsimp only [ev_step] at hs
    split at hs <;> cases hs
    subst hnx
    exact lv_iand hx hb hd (kk _ _ _ I1')
  | ior =>
    dsimp only [ev_step] at hs
    split at hs <;> cases hs
    subst hnx
    exact lv_ior hx hb hd (kk _ _ _ I1')
  | ixor =>
    dsimp only [ev_step] at hs
    split at hs <;> cases hs
    subst hnx
    exact lv_ixor hx hb hd (kk _ _ _ I1')
  | ishl =>
    dsimp only [ev_step] at hs
    split at hs <;> cases hs
    subst hnx
    exact lv_ishl hx hb hd (kk _ _ _ I1')
  | ishr =>
    dsimp only [ev_step] at hs
    split at hs <;> cases hs
    subst hnx
    exact lv_ishr hx hb hd (kk _ _ _ I1')
  | ladd =>
    dsimp only [ev_step] at hs
    split at hs <;> cases hs
    subst hnx
    exact lv_ladd hx hb hd (kk _ _ _ I1')
  | lsub =>
    dsimp only [ev_step] at hs
    split at hs <;> cases hs
    subst hnx
    exact lv_lsub hx hb hd (kk _ _ _ I1')
  | lmul =>
    dsimp only [ev_step] at hs
    split at hs <;> cases hs
    subst hnx
    exact lv_lmul hx hb hd (kk _ _ _ I1')
  | iushr =>
    dsimp only [ev_step] at hs
    split at hs <;> cases hs
    subst hnx
    exact lv_iushr hx hb hd rfl (kk _ _ _ I1')
  | lshl =>
    dsimp only [ev_step] at hs
    split at hs <;> cases hs
    subst hnx
    exact lv_lshl hx hb hd rfl (kk _ _ _ I1')
  | i2l =>
    dsimp only [ev_step] at hs
    split at hs <;> cases hs
    subst hnx
    exact lv_i2l hx hb hd rfl (kk _ _ _ I1')
  | i2d =>
    dsimp only [ev_step] at hs
    split at hs <;> cases hs
    subst hnx
    exact lv_i2d hx hb hd (kk _ _ _ I1')
  | d2l =>
    dsimp only [ev_step] at hs
    split at hs <;> cases hs
    subst hnx
    exact lv_d2l hx hb hd (kk _ _ _ I1')
  | idiv =>
    dsimp only [ev_step] at hs
    split at hs <;> cases hs
    subst hnx
    exact lv_idiv hx hb hd hc (kk _ _ _ I1')
  | irem =>
    dsimp only [ev_step] at hs
    split at hs <;> cases hs
    subst hnx
    exact lv_irem hx hb hd hc (kk _ _ _ I1')
  | ldiv =>
    dsimp only [ev_step] at hs
    split at hs <;> cases hs
    subst hnx
    exact lv_ldiv hx hb hd hc (kk _ _ _ I1')
  | lrem =>
    dsimp only [ev_step] at hs
    split at hs <;> cases hs
    subst hnx
    exact lv_lrem hx hb hd hc (kk _ _ _ I1')
  | dmul =>
    dsimp only [ev_step] at hs
    split at hs <;> cases hs
    subst hnx
    exact lv_dmul hx hb hd hc (kk _ _ _ I1')
  | ddiv =>
    dsimp only [ev_step] at hs
    split at hs <;> cases hs
    subst hnx
    exact lv_ddiv hx hb hd hc (kk _ _ _ I1')
  | dsub =>
    dsimp only [ev_step] at hs
    split at hs <;> cases hs
    subst hnx
    exact lv_dsub hx hb hd hc (kk _ _ _ I1')
  | lcmp =>
    dsimp only [ev_step] at hs
    split at hs <;> cases hs
    subst hnx
    exact W.lcmp hx hb hd (kk _ _ _ I1')
  | dcmp op =>
    dsimp only [ev_step] at hs
    split at hs <;> cases hs
    subst hnx
    exact lv_dcmp hx hb hd (kk _ _ _ I1')
  | dup =>
    dsimp only [ev_step] at hs
    split at hs <;> cases hs
    · subst hnx
      exact lv_dup hx hb hd rfl (kk _ _ _ I1')
    · subst hnx
      exact lv_dup hx hb hd rfl (kk _ _ _ I1')
  | dup2 =>
    dsimp only [ev_step] at hs
    split at hs <;> cases hs
    subst hnx
    exact lv_dup2_11 hx hb hd rfl rfl (kk _ _ _ I1')
  | dup_x2 =>
    dsimp only [ev_step] at hs
    split at hs <;> cases hs
    subst hnx
    exact lv_dup_x2 hx hb hd rfl rfl rfl (kk _ _ _ I1')
  | arraylength =>
    dsimp only [ev_step] at hs
    split at hs
    · split at hs
      · next hw =>
        cases hs
        subst hnx
        rw [ev_wg_eq] at hw
        exact va_alen hx hb hK hP _ 0 (ev_lay_get (ad := ad) (ct := ct) hw) rfl rfl hd (kk _ _ _ I1')
      · cases hs
    · cases hs
  | pop =>
    dsimp only [ev_step] at hs
    split at hs <;> cases hs
    · subst hnx
      exact lv_pop (va := .int _) hx hb hd rfl (kk _ _ _ I1')
    · subst hnx
      exact lv_pop (va := .ref _) hx hb hd rfl (kk _ _ _ I1')
  | goto o =>
    dsimp only [ev_step] at hs
    cases hs
    exact lv_goto hx hb hd (of_decide_eq_true hv) (kk _ _ _ I1')
  | getfield n =>
    dsimp only [ev_step] at hs
    split at hs
    · split at hs
      · next a r _ ci fs hw =>
        split at hs
        · next hci =>
          split at hs
          · next u hu =>
            cases hs
            subst hnx
            have hci := Nat.eq_of_beq_eq_true hci
            subst hci
            rw [ev_wg_eq] at hw
            rw [ev_fg_eq] at hu
            obtain ⟨q1, q2, q3⟩ := ev_fl_use hv
            have hlay := ev_lay_get (ad := ad) (ct := ct) hw
            have hval : (fs.map (ev_cv ad))[y]? = some (ev_cv ad u) := by rw [List.getElem?_map, hu]; rfl
            rcases q3 with q3 | ⟨host, q3⟩
            · exact va_get hx hb hts (ev_wsin q1) hown hK hP a hlay (ev_cl q1) y q2 (hts _ q3) (fun _ h9 => h9) hval hd (kk _ _ _ I1')
            · exact va_getN hx hb hts (ev_wsin q1) hown hK hP a hlay (ev_cl q1) y q2 (hts _ q3) (fun _ h9 => h9) hval hd (kk _ _ _ I1')
          · cases hs
        · cases hs
      · cases hs
    · cases hs
  | putfield n =>
    dsimp only [ev_step] at hs
    split at hs
    · split at hs
      · next u a r _ ci fs hw =>
        split at hs
        · next hci =>
          split at hs
          · next u0 hu hfit =>
            cases hs
            subst hnx
            have hci := Nat.eq_of_beq_eq_true hci
            subst hci
            rw [ev_wg_eq] at hw
            rw [ev_fg_eq] at hu
            have hlay := ev_lay_get (ad := ad) (ct := ct) hw
            have hlen : y < (fs.map (ev_cv ad)).length := by rw [List.length_map]; exact (List.getElem?_eq_some_iff.mp hu).1
            obtain ⟨f1, f2⟩ := ev_fit_ok hfit ad
            obtain ⟨hv, hv3⟩ := Bool.and_eq_true_iff.mp hv
            obtain ⟨hv1, hv2⟩ := Bool.and_eq_true_iff.mp hv
            have q1 := of_decide_eq_true hv1
            have q2 := of_decide_eq_true hv2
            have kk2 : ∀ (H1 : Heap) (locs1 : List Loc), va_P D vwCl ((ev_lay ad ct w).set a (ad a, .inr (ci, (fs.map (ev_cv ad)).set y (ev_cv ad u)))) H1 → va_D A ((ev_lay ad ct w).set a (ad a, .inr (ci, (fs.map (ev_cv ad)).set y (ev_cv ad u)))) → va_S A s.heap H1 locs1 → W p l e R s m args below meth c H1 locs1 kc ks Q (F0 m (pc + 3) ls (st'.map (ev_cv ad))) := by
              intro H1 locs1 g1 g2 g3
              exact kk _ _ _ (I1'.set (E := .inr (ci, ev_fs fs y u)) (by rw [ev_fs_eq, ev_map_set]; rfl) g1 g2 g3)
            by_cases hfin : (ev_F ci y).2.2.2 = true
            · rw [if_pos hfin] at hv3
              obtain ⟨hv4, hv5⟩ := Bool.and_eq_true_iff.mp hv3
              obtain ⟨hv6, hv7⟩ := Bool.and_eq_true_iff.mp hv4
              exact va_putF hx hb hts (ev_wsin q1) (ev_ty ci) (ev_tyok q1) (ev_nm q1) hown hK hP hD hS a hlay (ev_cl q1) y q2 (hts _ (ev_has_in hv5)) (fun _ h9 => h9) hfin (hnm.trans (of_decide_eq_true hv6)) (of_decide_eq_true hv7) (ev_tyok q1 y q2) f1 f2 hlen hd kk2
            · rw [if_neg hfin] at hv3
              have hfin : (ev_F ci y).2.2.2 = false := by simpa using hfin
              obtain ⟨-, -, q3⟩ := ev_fl_use hv3
              rcases q3 with q3 | ⟨host, q3⟩
              · exact va_put hx hb hts (ev_wsin q1) (ev_ty ci) (ev_tyok q1) (ev_nm q1) hown hK hP hD hS a hlay (ev_cl q1) y q2 (hts _ q3) (fun _ h9 => h9) hfin (ev_tyok q1 y q2) f1 f2 hlen hd kk2
              · exact va_putN hx hb hts (ev_wsin q1) (ev_ty ci) (ev_tyok q1) (ev_nm q1) hown hK hP hD hS a hlay (ev_cl q1) y q2 (hts _ q3) (fun _ h9 => h9) hfin (ev_tyok q1 y q2) f1 f2 hlen hd kk2
          · cases hs
        · cases hs
      · cases hs
    · cases hs
  | iaload =>
    dsimp only [ev_step] at hs
    split at hs
    · split at hs
      · next hw =>
        cases hs
        subst hnx
        rw [ev_wg_eq] at hw
        exact va_iald hx hb hK hP _ 0 (ev_lay_get (ad := ad) (ct := ct) hw) rfl hc hd (kk _ _ _ I1')
      · cases hs
    · cases hs
  | iastore =>
    dsimp only [ev_step] at hs
    split at hs
    · split at hs
      · next hw =>
        cases hs
        subst hnx
        rw [ev_wg_eq] at hw
        exact va_iast hx hb hK hP hD hS _ 0 (ev_lay_get (ad := ad) (ct := ct) hw) rfl hc hd (fun H1 locs1 g1 g2 g3 => kk _ _ _ (I1'.set (E := .inl (0, _, .inl _)) rfl g1 g2 g3))
      · cases hs
    · cases hs
  | tableswitch d lo hi offs =>
    dsimp only [ev_step] at hs
    split at hs
    · split at hs
      · next e1 e2 =>
        split at hs
        · next o ho =>
          split at hs
          · next ht =>
            cases hs
            have hv := of_decide_eq_true hv
            subst hv
            exact lv_tableIn hx hb hd (of_decide_eq_false e1) (of_decide_eq_false e2) ho (of_decide_eq_true ht) (kk _ _ _ I1')
          · cases hs
        · cases hs
      · cases hs
    · cases hs
  | _ => cases hs
end EVS
