/-! what a throw needs of the tables -/
def th_cls : Nat → String
  | 0 => "java/lang/IllegalArgumentException"
  | 1 => "java/lang/IllegalStateException"
  | _ => "java/lang/IndexOutOfBoundsException"
def th_ik : Nat → Nat
  | 0 => 33
  | 1 => 44
  | _ => 63
def th_ic : Nat → Nat
  | 0 => 37
  | 1 => 48
  | _ => 67
def th_names : List String := ["java/lang/RuntimeException", "java/lang/Exception"]
def th_ws (k : Nat) : List Cond := Cond.classLink RX4 (th_ik k) (th_cls k) :: Cond.initialized (th_cls k) :: vx_atS RX4 (th_ic k) (th_cls k) th_names
set_option maxRecDepth 100000 in
theorem th_in : ((List.range 3).all fun k => (th_ws k).all fun w => decide (w ∈ lw_tbl) && vx_ot w) = true := by decide +kernel
def th_strs : List (Nat × String) := [(35, "a rank is 0 to 9"), (46, "there are 24 things"), (65, "no such hand or thing"), (71, "the thing has ended"), (83, "no such thing, slot or other"), (88, "the thing or the other one has ended"), (93, "no such thing"), (95, "a report is of -1 or 1"), (107, "the thing has ended or is a suspect"), (117, "no such setting"), (122, "the value is out of range"), (128, "1 to 100 ticks pass"), (133, "the time would be above 5000"), (145, "a code is 33 to 126"), (150, "the buffer has 60 characters"), (162, "the buffer is not a complete program"), (176, "no state is saved"), (182, "a property is 0 to 12"), (187, "no such thing or slot"), (198, "no such hand"), (209, "not so many reports are under way"), (211, "a part is 0 to 4"), (219, "there were not so many ends"), (224, "a number is 0 to 13"), (229, "1 to 100 ticks, and 0 to 3"), (241, "0 to 2"), (252, "0 or 1")]
set_option maxRecDepth 100000 in
theorem th_str_in : (th_strs.all fun q => decide (Cond.stringRef RX4 q.1 q.2 ∈ lw_tbl)) = true := by decide +kernel
def th_okw (w : Jvm.Cond) : Bool := goodWord w || match w with
  | .castable _ _ => true
  | .declares _ => true
  | _ => false
set_option maxRecDepth 100000 in
theorem th_ok : ((List.range 3).all fun k => (th_ws k).all fun w => th_okw w) = true := by decide +kernel
theorem th_warm {w : Jvm.Cond} (h : th_okw w = true) {args a' : Array Value} {s U : State} (hW : s.WarmedH U.vm) (hb : w.before args s = true) : w.before a' U = true := by
  unfold th_okw at h
  rw [Bool.or_eq_true] at h
  rcases h with h | h
  · exact word_at hW (good_of_word h) hb
  · split at h
    · exact va_Nw.use rfl (va_Nw.warmC hW (va_Nw.of rfl hb))
    · exact va_Nw.use rfl (va_Nw.warmD hW (va_Nw.of rfl hb))
    · cases h
/-- one throw: its place, its class, its text -/
def th_site (μ : ev_M) (pc cl i : Nat) (tx : String) : Prop :=
  cl < 3 ∧ (i, tx) ∈ th_strs ∧ decode (ev_cc μ) pc = .ok (.new (th_ik cl), 3) ∧ decode (ev_cc μ) (pc + 3) = .ok (.dup, 1) ∧ decode (ev_cc μ) (pc + 4) = .ok (.ldc i, 2) ∧ decode (ev_cc μ) (pc + 6) = .ok (.invokespecial (th_ic cl), 3) ∧ decode (ev_cc μ) (pc + 9) = .ok (.athrow, 1)
def th_all : List Jvm.Cond := th_ws 0 ++ (th_ws 1 ++ th_ws 2)
def ev_wsT (y : MethodName) (μ : ev_M) : List Jvm.Cond := .code y (ev_cc μ) (ev_nL μ) (ev_rt μ) :: (ev_WA ++ th_all)
def ev_rmT (μ : ev_M) : Room := { frames := max (ev_fr μ) 6, cells := 1, slots := 6, locals := max (ev_lo μ) 90 }
/-- what the heap and the machine hold for a throw -/
def th_F (A : Nat → Prop) (U : State) : Prop := (∀ q, q ∈ th_strs → ∃ sa, vk_R RX4 q.1 q.2 sa U) ∧ vx_Zq Bundle.tN "UNASSIGNED_STACK" Bundle.steD A U U.heap ∧ vx_Zq Bundle.tN "SUPPRESSED_SENTINEL" Bundle.listD A U U.heap
def ev_PcT (D : va_G) (ct : Nat → ClassId) (ad : Nat → Nat) (sz : Nat) (as : List Value) (w : List ev_E) (A : Nat → Prop) : Array Value → State → Prop := va_Pc (as.map (ev_cv ad)) (fun U => U.heap.size = sz ∧ va_P D vwCl (ev_lay ad ct w) U.heap ∧ va_K D vwCl (ev_tys ct) U ∧ va_D (fun _ => True) (ev_lay ad ct w) ∧ th_F A U)
def ev_XC (D : va_G) (ct : Nat → ClassId) (ad : Nat → Nat) (w : List ev_E) (A : Nat → Prop) (E : String) : String → State → State → Prop := fun E' st t => E' = E ∧ va_P D vwCl (ev_lay ad ct w) t.heap ∧ va_K D vwCl (ev_tys ct) t ∧ va_D A (ev_lay ad ct w) ∧ va_F A st t
theorem th_mem {k : Nat} (hk : k < 3) {w : Jvm.Cond} (hw : w ∈ th_ws k) : w ∈ th_all := by
  unfold th_all
  match k, hk with
  | 0, _ => exact List.mem_append_left _ hw
  | 1, _ => exact List.mem_append_right _ (List.mem_append_left _ hw)
  | 2, _ => exact List.mem_append_right _ (List.mem_append_right _ hw)
theorem th_ot {k : Nat} (hk : k < 3) {w : Jvm.Cond} (hw : w ∈ th_ws k) : vx_ot w = true := by
  have := List.all_eq_true.mp (List.all_eq_true.mp th_in k (List.mem_range.mpr hk)) w hw
  exact ((Bool.and_eq_true _ _).mp this).2
theorem th_fit {k : Nat} (hk : k < 3) : Bundle.fit (th_cls k) = true := by
  match k, hk with
  | 0, _ => decide +kernel
  | 1, _ => decide +kernel
  | 2, _ => decide +kernel
theorem th_fits : ∀ n ∈ th_names, Bundle.fit n = true := by decide +kernel
set_option maxHeartbeats 1000000 in
theorem ev_startT {y : MethodName} {μ : ev_M} {as : List Value} {w : List ev_E} {xt : Nat → Option Nat} {k cl : Nat} (hok : ev_OK μ) (hy : plainName y.cls = true) (hc : y.cls = ev_own μ) (hn : y.name = ev_mn μ) (hsl : (lg_sl as).length ≤ ev_nL μ) (hown4 : ev_own μ = RX4) (h00 : ev_mc μ = 0 ∧ ev_ms μ = 0)
    (hxt : ∀ pc, xt pc = some k → ∃ i tx, th_site μ pc cl i tx) (kk : ev_V μ none (ev_XT xt k w) 0 (ev_ent as (ev_nL μ)) [] w 0 0) (l : Launch) (hl : l.stackTraces = false) (D : va_G) (ct ad : Nat → Nat) (sz : Nat) :
    vx_Met l y (ev_wsT y μ) (ev_rmT μ) (ev_PcT D ct ad sz as w (va_A (ev_lay ad ct w) sz)) (fun _ _ _ _ => False) (ev_XC D ct ad w (va_A (ev_lay ad ct w) sz) (th_cls cl)) 1 6 (va_A (ev_lay ad ct w) sz) := by
  refine vx_ofW (cc := ev_cc μ) (maxL := ev_nL μ) (ret := ev_rt μ) hy rfl ?_
  intro p e s m args below meth c s₁ B hml htab hv
  obtain ⟨rfl, hsz, hP, hK, hD0, hTF⟩ := hv
  have hts := atoms_spec (ws := ev_wsT y μ) B.pre
  have hD := hD0.self (sz := s.heap.size)
  subst hsz
  have hsl2 : (lg_sl (as.map (ev_cv ad))).length ≤ ev_nL μ := by
    have : (lg_sl (as.map (ev_cv ad))).length = (lg_sl as).length := by
      clear kk hsl hP hD hD0 B hts hTF
      induction as with
      | nil => rfl
      | cons a l ih =>
        unfold lg_sl at ih ⊢
        rw [List.map_cons, List.flatMap_cons, List.flatMap_cons, List.length_append, List.length_append, ih, ev_cv_cat]
        by_cases h : a.category = 2 <;> simp [h]
    omega
  have hl2 := lv_entry (as.map (ev_cv ad)) (n := ev_nL μ) hsl2
  have hcls : s.vm.findClass (ev_own μ) = some m.cls := hc ▸ findClass_of_methodNamed B.named
  rw [lg_entry_eq]
  refine kk p l e _ s m _ below meth c D ct ad _ _ ⟨hok, ⟨B.exec, B.bytes, hml, B.returns, hcls, fun w hw => hts w (List.mem_cons_of_mem _ (List.mem_append_left _ hw)), B.notSynchronized, (name_of_methodNamed B.named B.method).1.trans hn, Nat.le_max_left _ _, Nat.le_max_left _ _, by rw [h00.1]; exact Nat.zero_le _, by rw [h00.2]; exact Nat.zero_le _⟩, hK, fun q hq => Or.inr hq⟩ ?_ ad s.heap [] _ ⟨hP, hD, va_S.rf, rfl, ev_LH.of hl2 (fun i v h => by simpa using ev_ent_ok ad as (ev_nL μ) 0 i v h)⟩
  intro pc' L' st' w' kc' ks' hX ad' H locs ls I
  obtain ⟨hx, rfl, rfl, rfl, rfl⟩ := hX
  obtain ⟨hP2, hD2, hS2, hE2, hL2⟩ := I
  have hE3 : ad' = ad := hE2
  subst hE3
  obtain ⟨i, tx, hcl, hi, d0, d3, d4, d6, d9⟩ := hxt pc' hx
  obtain ⟨sa, hsa⟩ := hTF.1 _ hi
  have hw : ∀ w ∈ th_ws cl, w.before (as.map (ev_cv ad')).toArray s = true := fun w hw => hts w (List.mem_cons_of_mem _ (List.mem_append_right _ (th_mem hcl hw)))
  refine vx_throwS (own := RX4) (cls := th_cls cl) (text := tx) (names := th_names) (ik := th_ik cl) (is := i) (ic := th_ic cl) (sa := sa) (A := va_A (ev_lay ad' ct w') s.heap.size) B.exec B.bytes hl (hown4 ▸ hcls) (th_fit hcl) th_fits (hw _ List.mem_cons_self) (hw _ (List.mem_cons_of_mem _ List.mem_cons_self)) hsa (fun w h => hw w (List.mem_cons_of_mem _ (List.mem_cons_of_mem _ h))) (fun w h => th_ot hcl h) hTF.2.1 hTF.2.2 hS2 (hL2.1.trans hml.symm) d0 d3 d4 d6 d9 (fun x h => (htab x h).elim) ?_ ?_ (Nat.le_refl _) (Nat.le_refl _) B.notSynchronized ?_ (fun z hz => hS2.2.2 z hz) (Nat.le_refl _) (Nat.le_refl _)
  · show 2 + 3 < max (ev_fr μ) 6
    omega
  · show 0 + (13 * (2 + 1) + 43) ≤ max (ev_lo μ) 90
    omega
  · intro t hal hsz2 hq
    refine ⟨rfl, hP2.kept fun k q h => hq _ (vx_lt hP2 h), va_K.moved hal hK, hD2, Nat.le_trans hS2.1 hsz2, fun q h1 h2 => ?_⟩
    rw [hq q (Nat.lt_of_lt_of_le h1 hS2.1)]
    exact hS2.2.1 q h1 h2
