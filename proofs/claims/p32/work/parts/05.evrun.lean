/-! ===== the abstract run as a judgement: from here the body comes to one of the exits X ===== -/
abbrev ev_X : Type := Nat → ev_L → List Value → List ev_E → Nat → Nat → Prop
def ev_eqn (N0 : Option Nat) (ad ad0 : Nat → Nat) : Prop := match N0 with
  | none => ad = ad0
  | some n => ∀ k, k < n → ad k = ad0 k
/-- what changes: the cells, the locals -/
def ev_I2 (μ : ev_M) (s : State) (D : va_G) (ct : Nat → ClassId) (ad0 : Nat → Nat) (A : Nat → Prop) (N0 : Option Nat) (ad : Nat → Nat) (H : Heap) (locs : List Loc) (ls : Array Slot) (L : ev_L) (w : List ev_E) : Prop :=
  va_P D vwCl (ev_lay ad ct w) H ∧ va_D A (ev_lay ad ct w) ∧ va_S A s.heap H locs ∧ ev_eqn N0 ad ad0 ∧ ev_LH ad ls (ev_nL μ) L
def ev_k2 (μ : ev_M) (p : Program) (l : Launch) (e : Env) (R : Room) (s : State) (m : MethodId) (args : Array Value) (below : List Frame) (meth : Method) (c : Code) (D : va_G) (ct : Nat → ClassId) (ad0 : Nat → Nat) (A : Nat → Prop) (N0 : Option Nat) (Q : State → Prop) (pc : Nat) (L : ev_L) (st : List Value) (w : List ev_E) (kc ks : Nat) : Prop :=
  ∀ (ad : Nat → Nat) (H : Heap) (locs : List Loc) (ls : Array Slot), ev_I2 μ s D ct ad0 A N0 ad H locs ls L w → W p l e R s m args below meth c H locs kc ks Q (F0 m pc ls (st.map (ev_cv ad)))
def ev_V (μ : ev_M) (N0 : Option Nat) (X : ev_X) (pc : Nat) (L : ev_L) (st : List Value) (w : List ev_E) (kc ks : Nat) : Prop :=
  ∀ (p : Program) (l : Launch) (e : Env) (R : Room) (s : State) (m : MethodId) (args : Array Value) (below : List Frame) (meth : Method) (c : Code) (D : va_G) (ct : Nat → ClassId) (ad0 : Nat → Nat) (A : Nat → Prop) (Q : State → Prop),
    ev_I0 μ p R s m args meth c D ct A →
    (∀ pc' L' st' w' kc' ks', X pc' L' st' w' kc' ks' → ev_k2 μ p l e R s m args below meth c D ct ad0 A N0 Q pc' L' st' w' kc' ks') →
    ev_k2 μ p l e R s m args below meth c D ct ad0 A N0 Q pc L st w kc ks
theorem ev_exit {μ : ev_M} {N0 : Option Nat} {X : ev_X} {pc : Nat} {L : ev_L} {st : List Value} {w : List ev_E} {kc ks : Nat} (h : X pc L st w kc ks) : ev_V μ N0 X pc L st w kc ks := fun _ _ _ _ _ _ _ _ _ _ _ _ _ _ _ _ hx => hx _ _ _ _ _ _ h
theorem ev_bind {μ : ev_M} {N0 : Option Nat} {X Y : ev_X} {pc : Nat} {L : ev_L} {st : List Value} {w : List ev_E} {kc ks : Nat} (h : ev_V μ N0 X pc L st w kc ks) (hX : ∀ pc' L' st' w' kc' ks', X pc' L' st' w' kc' ks' → ev_V μ N0 Y pc' L' st' w' kc' ks') : ev_V μ N0 Y pc L st w kc ks :=
  fun p l e R s m args below meth c D ct ad0 A Q h0 hy => h p l e R s m args below meth c D ct ad0 A Q h0 fun pc' L' st' w' kc' ks' hx => hX pc' L' st' w' kc' ks' hx p l e R s m args below meth c D ct ad0 A Q h0 hy
theorem ev_step1 {μ : ev_M} {N0 : Option Nat} {X : ev_X} {pc : Nat} {L : ev_L} {st : List Value} {w : List ev_E} {kc ks : Nat} {i : ev_I} {cs : List Prop} {pc' : Nat} {L' : ev_L} {st' : List Value} {w' : List ev_E} (hlk : ev_look (ev_tab μ) pc = some i) (hs : ev_step i L st w = some (cs, pc', L', st', w')) (hc : ev_all cs)
    (k : ev_V μ N0 X pc' L' st' w' kc ks) : ev_V μ N0 X pc L st w kc ks := by
  intro p l e R s m args below meth c D ct ad0 A Q h0 hx ad H locs ls I
  refine ev_step_ok (N0 := 0) (ad0 := ad0) h0 hlk hs hc ?_ H locs ls ⟨I.1, I.2.1, I.2.2.1, fun k hk => absurd hk (Nat.not_lt_zero k), I.2.2.2.2⟩
  intro H' locs' ls' I1
  exact k p l e R s m args below meth c D ct ad0 A Q h0 hx ad H' locs' ls' ⟨I1.1, I1.2.1, I1.2.2.1, I.2.2.2.1, I1.2.2.2.2⟩
theorem ev_all_iff (l : List Prop) : ev_all l ↔ ∀ q ∈ l, q := by
  induction l with
  | nil => exact ⟨fun _ q hq => absurd hq List.not_mem_nil, fun _ => trivial⟩
  | cons a l ih =>
    cases l with
    | nil => exact ⟨fun h => List.forall_mem_cons.mpr ⟨h, List.forall_mem_nil _⟩, fun h => (List.forall_mem_cons.mp h).1⟩
    | cons b l => exact ⟨fun h => List.forall_mem_cons.mpr ⟨h.1, ih.mp h.2⟩, fun h => ⟨(List.forall_mem_cons.mp h).1, ih.mpr (List.forall_mem_cons.mp h).2⟩⟩
theorem ev_go_ok {μ : ev_M} {N0 : Option Nat} {X : ev_X} {cuts : List Nat} {kc ks : Nat} {pc' : Nat} {L' : ev_L} {st' : List Value} {w' : List ev_E} (k : ev_V μ N0 X pc' L' st' w' kc ks) (n : Nat) : ∀ (cs0 cs : List Prop) (pc : Nat) (L : ev_L) (st : List Value) (w : List ev_E), ev_go (ev_tab μ) cuts n cs0 pc L st w = (cs, pc', L', st', w') → (∀ q ∈ cs, q) → ev_V μ N0 X pc L st w kc ks ∧ ∀ q ∈ cs0, q := by
  induction n with
  | zero =>
    intro cs0 cs pc L st w h hc
    cases h
    exact ⟨k, hc⟩
  | succ n ih =>
    intro cs0 cs pc L st w h hc
    unfold ev_go at h
    split at h
    · cases h; exact ⟨k, hc⟩
    · next i hlk =>
      split at h
      · cases h; exact ⟨k, hc⟩
      · next c1 pc1 L1 st1 w1 hs =>
        split at h
        · cases h
          refine ⟨ev_step1 hlk hs ((ev_all_iff _).mpr fun q hq => hc q (List.mem_append_right _ hq)) k, fun q hq => hc q (List.mem_append_left _ hq)⟩
        · obtain ⟨h1, h2⟩ := ih _ _ _ _ _ _ h hc
          exact ⟨ev_step1 hlk hs ((ev_all_iff _).mpr fun q hq => h2 q (List.mem_append_right _ hq)) h1, fun q hq => h2 q (List.mem_append_left _ hq)⟩
/-- a straight stretch: by rfl -/
theorem ev_run {μ : ev_M} {N0 : Option Nat} {X : ev_X} (cuts : List Nat) (n : Nat) {pc : Nat} {L : ev_L} {st : List Value} {w : List ev_E} {kc ks : Nat} {cs : List Prop} {pc' : Nat} {L' : ev_L} {st' : List Value} {w' : List ev_E} (h : ev_fO (ev_go (ev_tab μ) cuts n [] pc L st w) = (cs, pc', L', st', w')) (hc : ev_all cs)
    (k : ev_V μ N0 X pc' L' st' w' kc ks) : ev_V μ N0 X pc L st w kc ks := by
  rw [ev_fO_eq] at h
  exact (ev_go_ok k n [] cs pc L st w h ((ev_all_iff _).mp hc)).1
-- branches
def ev_test (ins : Instr) (st : List Value) : Option (Prop × Prop × List Value) := match ins with
  | .ifCond .eq _ => match st with | .int a :: r => some (a = 0, ¬ a = 0, r) | _ => none
  | .ifCond .ne _ => match st with | .int a :: r => some (¬ a = 0, a = 0, r) | _ => none
  | .ifCond .lt _ => match st with | .int a :: r => some (a < 0, ¬ a < 0, r) | _ => none
  | .ifCond .ge _ => match st with | .int a :: r => some (0 ≤ a, ¬ 0 ≤ a, r) | _ => none
  | .ifCond .gt _ => match st with | .int a :: r => some (0 < a, ¬ 0 < a, r) | _ => none
  | .ifCond .le _ => match st with | .int a :: r => some (a ≤ 0, ¬ a ≤ 0, r) | _ => none
  | .if_icmp .eq _ => match st with | .int b :: .int a :: r => some (a = b, ¬ a = b, r) | _ => none
  | .if_icmp .ne _ => match st with | .int b :: .int a :: r => some (¬ a = b, a = b, r) | _ => none
  | .if_icmp .lt _ => match st with | .int b :: .int a :: r => some (a < b, ¬ a < b, r) | _ => none
  | .if_icmp .ge _ => match st with | .int b :: .int a :: r => some (b ≤ a, ¬ b ≤ a, r) | _ => none
  | .if_icmp .gt _ => match st with | .int b :: .int a :: r => some (b < a, ¬ b < a, r) | _ => none
  | .if_icmp .le _ => match st with | .int b :: .int a :: r => some (a ≤ b, ¬ a ≤ b, r) | _ => none
  | _ => none
set_option maxHeartbeats 1000000 in
theorem ev_br {μ : ev_M} {N0 : Option Nat} {X : ev_X} {pc : Nat} {L : ev_L} {st : List Value} {w : List ev_E} {kc ks : Nat} {ins : Instr} {nx k x y : Nat} {v : Value} {P N : Prop} {r : List Value} (hlk : ev_look (ev_tab μ) pc = some (ins, nx, k, x, y, v)) (ht : ev_test ins st = some (P, N, r))
    (kt : P → ev_V μ N0 X x L r w kc ks) (kf : N → ev_V μ N0 X nx L r w kc ks) : ev_V μ N0 X pc L st w kc ks := by
  intro p l e R s m args below meth c D ct ad0 A Q h0 hx ad H locs ls I
  have h0' := h0
  obtain ⟨hok, ⟨hx1, hb, -⟩, -⟩ := h0
  obtain ⟨hd, hnx, hv⟩ := ev_use hok hlk
  have kt' := fun hP => kt hP p l e R s m args below meth c D ct ad0 A Q h0' hx ad H locs ls I
  have kf' := fun hP => kf hP p l e R s m args below meth c D ct ad0 A Q h0' hx ad H locs ls I
  unfold ev_test at ht
  split at ht <;> first | (cases ht; done) | skip
  all_goals (split at ht <;> cases ht)
  all_goals (have hv := of_decide_eq_true hv; subst hnx)
  · exact lv_if_eq hx1 hb hd hv kt' kf'
  · exact lv_if_ne hx1 hb hd hv kt' kf'
  · exact lv_if_lt hx1 hb hd hv kt' kf'
  · exact lv_if_ge hx1 hb hd hv kt' kf'
  · exact lv_if_gt hx1 hb hd hv kt' kf'
  · exact lv_if_le hx1 hb hd hv kt' kf'
  · exact lv_icmp_eq hx1 hb hd hv kt' kf'
  · exact lv_icmp_ne hx1 hb hd hv kt' kf'
  · exact lv_icmp_lt hx1 hb hd hv kt' kf'
  · exact lv_icmp_ge hx1 hb hd hv kt' kf'
  · exact lv_icmp_gt hx1 hb hd hv kt' kf'
  · exact lv_icmp_le hx1 hb hd hv kt' kf'
/-- a switch beside its table -/
theorem ev_tso {μ : ev_M} {N0 : Option Nat} {X : ev_X} {pc : Nat} {L : ev_L} {w : List ev_E} {kc ks : Nat} {d lo hi : Int} {offs : Array Int} {nx k x y : Nat} {v : Value} {a : Int32} {r : List Value} (tgt : Nat) (hlk : ev_look (ev_tab μ) pc = some (.tableswitch d lo hi offs, nx, k, x, y, v)) (ha : a.toInt < lo ∨ hi < a.toInt) (ht : (pc : Int) + d = (tgt : Int))
    (kt : ev_V μ N0 X tgt L r w kc ks) : ev_V μ N0 X pc L (.int a :: r) w kc ks := by
  intro p l e R s m args below meth c D ct ad0 A Q h0 hx ad H locs ls I
  have h0' := h0
  obtain ⟨hok, ⟨hx1, hb, -⟩, -⟩ := h0
  obtain ⟨hd, hnx, hv⟩ := ev_use hok hlk
  exact lv_tableOut hx1 hb hd ha ht (kt p l e R s m args below meth c D ct ad0 A Q h0' hx ad H locs ls I)
theorem ev_lsw {μ : ev_M} {N0 : Option Nat} {X : ev_X} {pc : Nat} {L : ev_L} {w : List ev_E} {kc ks : Nat} {d : Int} {ps : Array (Int × Int)} {nx k x y : Nat} {v : Value} {a : Int32} {r : List Value} {off : Int} (tgt : Nat) (hlk : ev_look (ev_tab μ) pc = some (.lookupswitch d ps, nx, k, x, y, v)) (hp : (ps.toList.zip (ps.toList.drop 1)).all (fun (a, next) => a.1 < next.1) = true) (ho : Op.lookupswitch.offset ps.toList d a.toInt = off) (ht : (pc : Int) + off = (tgt : Int))
    (kt : ev_V μ N0 X tgt L r w kc ks) : ev_V μ N0 X pc L (.int a :: r) w kc ks := by
  intro p l e R s m args below meth c D ct ad0 A Q h0 hx ad H locs ls I
  have h0' := h0
  obtain ⟨hok, ⟨hx1, hb, -⟩, -⟩ := h0
  obtain ⟨hd, hnx, hv⟩ := ev_use hok hlk
  exact lv_lookup hx1 hb hd hp ho ht (kt p l e R s m args below meth c D ct ad0 A Q h0' hx ad H locs ls I)
-- a method's contract, and its start
def ev_Qc (D : va_G) (ct : Nat → ClassId) (ad0 : Nat → Nat) (N0 : Option Nat) (A : Nat → Prop) (post : Option Value → List ev_E → Prop) : Array Value → State → Outcome → State → Prop := fun _ st oc t =>
  (∃ (r : Option Value) (w' : List ev_E) (ad' : Nat → Nat), oc = .returned (r.map (ev_cv ad')) ∧ post r w' ∧ ev_eqn N0 ad' ad0 ∧ va_P D vwCl (ev_lay ad' ct w') t.heap ∧ va_K D vwCl (ev_tys ct) t ∧ va_D A (ev_lay ad' ct w')) ∧ va_F A st t
def ev_Pc (D : va_G) (ct : Nat → ClassId) (ad : Nat → Nat) (sz : Nat) (as : List Value) (w : List ev_E) : Array Value → State → Prop := va_Pc (as.map (ev_cv ad)) (fun U => U.heap.size = sz ∧ va_P D vwCl (ev_lay ad ct w) U.heap ∧ va_K D vwCl (ev_tys ct) U ∧ va_D (fun _ => True) (ev_lay ad ct w))
def ev_rm (μ : ev_M) : Room := { frames := ev_fr μ, cells := ev_mc μ, slots := ev_ms μ, locals := ev_lo μ }
def ev_wsm (y : MethodName) (μ : ev_M) : List Jvm.Cond := .code y (ev_cc μ) (ev_nL μ) (ev_rt μ) :: ev_WA
def ev_A (y : MethodName) (μ : ev_M) (N0 : Option Nat) (as : List Value) (w : List ev_E) (post : Option Value → List ev_E → Prop) : Prop :=
  ∀ (l : Launch) (D : va_G) (ct ad : Nat → Nat) (sz : Nat), Met l y (ev_wsm y μ) (ev_rm μ) (ev_Pc D ct ad sz as w) (ev_Qc D ct ad N0 (va_A (ev_lay ad ct w) sz) post) (ev_mc μ) (ev_ms μ) (va_A (ev_lay ad ct w) sz)
def ev_rk (rt : Option FieldType) (ins : Instr) (st : List Value) (r : Option Value) : Prop := match ins, st with
  | .ireturn, [.int v] => r = some (.int v) ∧ (rt = some .int ∨ (rt = some .boolean ∧ narrow .boolean (.int v) = .int v))
  | .lreturn, [.long v] => r = some (.long v) ∧ rt = some .long
  | .dreturn, [.double v] => r = some (.double v) ∧ rt = some .double
  | .return_, [] => r = none ∧ rt = none
  | _, _ => False
def ev_XR (μ : ev_M) (post : Option Value → List ev_E → Prop) : ev_X := fun pc _ st w kc ks => ∃ (i : ev_I) (r : Option Value), ev_look (ev_tab μ) pc = some i ∧ ev_rk (ev_rt μ) i.1 st r ∧ post r w ∧ kc ≤ ev_mc μ ∧ ks ≤ ev_ms μ
def ev_pad : Nat → ev_L
  | 0 => []
  | n + 1 => none :: ev_pad n
def ev_ent : List Value → Nat → ev_L
  | [], n => ev_pad n
  | v :: l, n => match v with
    | .long x => some (.long x) :: none :: ev_ent l (n - 2)
    | .double x => some (.double x) :: none :: ev_ent l (n - 2)
    | .int x => some (.int x) :: ev_ent l (n - 1)
    | .ref x => some (.ref x) :: ev_ent l (n - 1)
    | .null => some .null :: ev_ent l (n - 1)
    | .float x => some (.float x) :: ev_ent l (n - 1)
    | .retAddr x => some (.retAddr x) :: ev_ent l (n - 1)
theorem ev_ent_nil (n i : Nat) (v : Value) : ¬ ev_nth (ev_ent [] n) i = some v := by
  unfold ev_ent
  induction n generalizing i with
  | zero => simp [ev_pad, ev_nth]
  | succ n ih => cases i with
    | zero => simp [ev_pad, ev_nth]
    | succ i => simpa [ev_pad, ev_nth] using ih i
theorem ev_ent_ok (ad : Nat → Nat) (as : List Value) : ∀ (n j i : Nat) (v : Value), ev_nth (ev_ent as n) i = some v → (j + i, ev_cv ad v) ∈ lv_args j (as.map (ev_cv ad)) := by
  induction as with
  | nil => intro n j i v h; exact absurd h (ev_ent_nil n i v)
  | cons a l ih =>
    intro n j i v h
    rw [List.map_cons, lv_args]
    cases a with
    | long x =>
      cases i with
      | zero => cases h; exact List.mem_cons_self
      | succ i => cases i with
        | zero => cases h
        | succ i =>
          have := ih (n - 2) (j + 2) i v h
          rw [show j + (i + 1 + 1) = j + 2 + i by omega]
          exact List.mem_cons_of_mem _ this
    | double x =>
      cases i with
      | zero => cases h; exact List.mem_cons_self
      | succ i => cases i with
        | zero => cases h
        | succ i =>
          have := ih (n - 2) (j + 2) i v h
          rw [show j + (i + 1 + 1) = j + 2 + i by omega]
          exact List.mem_cons_of_mem _ this
    | int x =>
      cases i with
      | zero => cases h; exact List.mem_cons_self
      | succ i =>
        have := ih (n - 1) (j + 1) i v h
        rw [show j + (i + 1) = j + 1 + i by omega]
        exact List.mem_cons_of_mem _ this
    | ref x =>
      cases i with
      | zero => cases h; exact List.mem_cons_self
      | succ i =>
        have := ih (n - 1) (j + 1) i v h
        rw [show j + (i + 1) = j + 1 + i by omega]
        exact List.mem_cons_of_mem _ this
    | null =>
      cases i with
      | zero => cases h; exact List.mem_cons_self
      | succ i =>
        have := ih (n - 1) (j + 1) i v h
        rw [show j + (i + 1) = j + 1 + i by omega]
        exact List.mem_cons_of_mem _ this
    | float x =>
      cases i with
      | zero => cases h; exact List.mem_cons_self
      | succ i =>
        have := ih (n - 1) (j + 1) i v h
        rw [show j + (i + 1) = j + 1 + i by omega]
        exact List.mem_cons_of_mem _ this
    | retAddr x =>
      cases i with
      | zero => cases h; exact List.mem_cons_self
      | succ i =>
        have := ih (n - 1) (j + 1) i v h
        rw [show j + (i + 1) = j + 1 + i by omega]
        exact List.mem_cons_of_mem _ this
set_option maxHeartbeats 1000000 in
theorem ev_start {y : MethodName} {μ : ev_M} {N0 : Option Nat} {as : List Value} {w : List ev_E} {post : Option Value → List ev_E → Prop} (hok : ev_OK μ) (hy : plainName y.cls = true) (hc : y.cls = ev_own μ) (hn : y.name = ev_mn μ) (hsl : (lg_sl as).length ≤ ev_nL μ) (k : ev_V μ N0 (ev_XR μ post) 0 (ev_ent as (ev_nL μ)) [] w 0 0) : ev_A y μ N0 as w post := by
  intro l D ct ad sz
  refine Met.ofW (cc := ev_cc μ) (maxL := ev_nL μ) (ret := ev_rt μ) hy rfl ?_
  intro p e s m args below meth c s₁ B hml hv
  obtain ⟨rfl, hsz, hP, hK, hD0⟩ := hv
  have hts := atoms_spec (ws := ev_wsm y μ) B.pre
  have hD := hD0.self (sz := s.heap.size)
  subst hsz
  have hsl2 : (lg_sl (as.map (ev_cv ad))).length ≤ ev_nL μ := by
    have : (lg_sl (as.map (ev_cv ad))).length = (lg_sl as).length := by
      clear k hsl hP hD hD0 B hts
      induction as with
      | nil => rfl
      | cons a l ih =>
        unfold lg_sl at ih ⊢
        rw [List.map_cons, List.flatMap_cons, List.flatMap_cons, List.length_append, List.length_append, ih, ev_cv_cat]
        by_cases h : a.category = 2 <;> simp [h]
    omega
  have hl := lv_entry (as.map (ev_cv ad)) (n := ev_nL μ) hsl2
  rw [lg_entry_eq]
  refine k p l e _ s m _ below meth c D ct ad _ _ ⟨hok, ⟨B.exec, B.bytes, hml, B.returns, hc ▸ findClass_of_methodNamed B.named, fun w hw => hts w (List.mem_cons_of_mem _ hw), B.notSynchronized, (name_of_methodNamed B.named B.method).1.trans hn, Nat.le_refl _, Nat.le_refl _, Nat.le_refl _, Nat.le_refl _⟩, hK, fun q hq => Or.inr hq⟩ ?_ ad s.heap [] _ ⟨hP, hD, va_S.rf, (by cases N0 with
    | none => rfl
    | some n => exact fun _ _ => rfl), ev_LH.of hl (fun i v h => by simpa using ev_ent_ok ad as (ev_nL μ) 0 i v h)⟩
  intro pc' L' st' w' kc' ks' hX ad' H locs ls I
  obtain ⟨i, r, hlk, hrk, hpost, hkc, hks⟩ := hX
  obtain ⟨ins, nx, kk, x, yy, v⟩ := i
  obtain ⟨hd, -, -⟩ := ev_use hok hlk
  obtain ⟨hP2, hD2, hS2, hE2, -⟩ := I
  refine W.widen hkc hks ?_
  have hr := B.returns
  have hlocks := B.notSynchronized
  unfold ev_rk at hrk
  dsimp only at hrk
  split at hrk
  · obtain ⟨rfl, hrt⟩ := hrk
    rcases hrt with hrt | ⟨hrt, hnar⟩
    · exact W.iret B.exec B.bytes (hr.trans hrt) (fun t ht hW => ⟨⟨_, w', ad', rfl, hpost, hE2, by rw [ht]; exact hP2, va_K.moved hW.alike hK, hD2⟩, hS2.F ht⟩) hS2.2.2 hd
    · exact W.zret B.exec B.bytes (hr.trans hrt) hnar (fun t ht hW => ⟨⟨_, w', ad', rfl, hpost, hE2, by rw [ht]; exact hP2, va_K.moved hW.alike hK, hD2⟩, hS2.F ht⟩) hS2.2.2 hd
  · obtain ⟨rfl, hrt⟩ := hrk
    exact W.lret B.exec B.bytes (hr.trans hrt) (fun t ht hW => ⟨⟨_, w', ad', rfl, hpost, hE2, by rw [ht]; exact hP2, va_K.moved hW.alike hK, hD2⟩, hS2.F ht⟩) hS2.2.2 hd
  · obtain ⟨rfl, hrt⟩ := hrk
    exact W.dret B.exec B.bytes (hr.trans hrt) (fun t ht hW => ⟨⟨_, w', ad', rfl, hpost, hE2, by rw [ht]; exact hP2, va_K.moved hW.alike hK, hD2⟩, hS2.F ht⟩) hS2.2.2 hd
  · obtain ⟨rfl, hrt⟩ := hrk
    exact W.vret B.exec B.bytes (hr.trans hrt) (fun t ht hW => ⟨⟨_, w', ad', rfl, hpost, hE2, by rw [ht]; exact hP2, va_K.moved hW.alike hK, hD2⟩, hS2.F ht⟩) hS2.2.2 hd
  · exact hrk.elim
