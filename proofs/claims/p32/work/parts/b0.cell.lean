/-! cell: the script's int, or one of a row of one's own -/
def tb_L_cell : ev_T := [(0, .iload_n 1, 1, 0, 1, 0, .null),
  (1, .aload_n 0, 2, 0, 0, 0, .null),
  (2, .arraylength, 3, 0, 0, 0, .null),
  (3, .if_icmp .ge 9, 6, 0, 12, 0, .null),
  (6, .aload_n 0, 7, 0, 0, 0, .null),
  (7, .iload_n 1, 8, 0, 1, 0, .null),
  (8, .iaload, 9, 0, 0, 0, .null),
  (9, .goto 12, 12, 0, 21, 0, .null),
  (12, .ldc 7, 14, 468, 0, 0, .int 1779033703),
  (14, .iload_n 1, 15, 0, 1, 0, .null),
  (15, .iconst 1, 16, 0, 0, 0, .int 1),
  (16, .iadd, 17, 0, 0, 0, .null),
  (17, .imul, 18, 0, 0, 0, .null),
  (18, .ldc 8, 20, 469, 0, 0, .int 996650629),
  (20, .iadd, 21, 0, 0, 0, .null),
  (21, .ireturn, 22, 0, 0, 0, .null)]
def mm_L_cell : ev_M := (RL, "cell", cL_cell, 2, (some .int), tb_L_cell, 0, 0, 0, 0)
set_option maxRecDepth 100000 in
theorem ok_L_cell : ev_OK mm_L_cell := by unfold ev_OK; decide +kernel
theorem cs_L_cell : ev_CS yL_cell mm_L_cell 2 := ⟨ev_has_in (k := 467) (by decide +kernel), ev_has_in (k := 22) (by decide +kernel), ev_has_in (k := 466) (by decide +kernel), ⟨by decide +kernel, by decide +kernel, by decide +kernel⟩⟩
def cw_sc (Ln : Nat) (xs : Nat → Int32) (k : Nat) : Int32 := if k < Ln then xs k else 1779033703 * (nI k + 1) + 996650629
def cw_Pc (D : va_G) (ct ad : Nat → Nat) (sz Ln : Nat) (xs : Nat → Int32) (k : Nat) : Array Value → State → Prop := fun av U => ev_Pc D ct ad sz [.ref 999, .int (nI k)] [] av U ∧ va_X (ad 999) Ln xs U U.heap ∧ ad 999 < U.heap.size
theorem cw_blind {D : va_G} {ct ad : Nat → Nat} {sz Ln : Nat} {xs : Nat → Int32} {k : Nat} : FrameBlind (cw_Pc D ct ad sz Ln xs k) := fun a U g mk q => ⟨ev_blind a U g mk q.1, va_X.moved (u := U) (U := U.calling g mk a) (Vm.Alike.refl U.vm) q.2.1, q.2.2⟩
set_option maxHeartbeats 1000000 in
set_option maxRecDepth 20000 in
theorem a_cell {Ln : Nat} (hLn : Ln ≤ 2048) (xs : Nat → Int32) {k : Nat} (hk : k ≤ 100) (l : Launch) (D : va_G) (ct ad : Nat → Nat) (sz : Nat) :
    Met l yL_cell (ev_wsm yL_cell mm_L_cell) (ev_rm mm_L_cell) (cw_Pc D ct ad sz Ln xs k) (ev_Qc D ct ad none (va_A (ev_lay ad ct []) sz) (fun r w => r = some (.int (cw_sc Ln xs k)) ∧ w = [])) 0 0 (va_A (ev_lay ad ct []) sz) := by
  refine Met.ofW (cc := ev_cc mm_L_cell) (maxL := ev_nL mm_L_cell) (ret := ev_rt mm_L_cell) (by decide +kernel) rfl ?_
  intro p e s m args below meth c s₁ B hml hv
  obtain ⟨⟨rfl, hsz, hP, hK, hD0⟩, hX, hb9⟩ := hv
  have hts := atoms_spec (ws := ev_wsm yL_cell mm_L_cell) B.pre
  have hD := hD0.self (sz := s.heap.size)
  subst hsz
  have hl := lv_entry ([Value.ref 999, .int (nI k)].map (ev_cv ad)) (n := ev_nL mm_L_cell) (by rw [ev_sl]; exact Nat.le_of_ble_eq_true rfl)
  rw [lg_entry_eq]
  have hnA : ¬ va_A (ev_lay ad ct []) s.heap.size (ad 999) := fun z => by
    rcases z with ⟨j, q, hq⟩ | z
    · cases hq
    · omega
  have I0 : ev_I0 mm_L_cell p (headSpec (ev_wsm yL_cell mm_L_cell) (ev_rm mm_L_cell)).room s m ([Value.ref 999, .int (nI k)].map (ev_cv ad)).toArray meth c D ct (va_A (ev_lay ad ct []) s.heap.size) := ⟨ok_L_cell, ⟨B.exec, B.bytes, hml, B.returns, findClass_of_methodNamed B.named, fun w hw => hts w (List.mem_cons_of_mem _ hw), B.notSynchronized, (name_of_methodNamed B.named B.method).1, Nat.le_refl _, Nat.le_refl _, Nat.le_refl _, Nat.le_refl _⟩, hK, fun q hq => Or.inr hq⟩
  have last : ∀ {L st z}, st = [Value.int z] → z = cw_sc Ln xs k → ev_k2 mm_L_cell p l e (headSpec (ev_wsm yL_cell mm_L_cell) (ev_rm mm_L_cell)).room s m ([Value.ref 999, .int (nI k)].map (ev_cv ad)).toArray below meth c D ct ad (va_A (ev_lay ad ct []) s.heap.size) none (MQ below (ev_Qc D ct ad none (va_A (ev_lay ad ct []) s.heap.size) (fun r w => r = some (.int (cw_sc Ln xs k)) ∧ w = [])) ([Value.ref 999, .int (nI k)].map (ev_cv ad)).toArray s 0 0 (va_A (ev_lay ad ct []) s.heap.size)) 21 L st [] 0 0 := by
    intro L st z hst hz ad' H locs ls I
    subst hst
    obtain ⟨hP2, hD2, hS2, hE2, -⟩ := I
    have hlk : ev_look (ev_tab mm_L_cell) 21 = some (.ireturn, 22, 0, 0, 0, .null) := rfl
    obtain ⟨hd, -, -⟩ := ev_use ok_L_cell hlk
    have hr := B.returns
    have hlocks := B.notSynchronized
    exact W.iret B.exec B.bytes hr (fun t ht hW => ⟨⟨some (.int z), [], ad', rfl, ⟨by rw [hz], rfl⟩, hE2, by rw [ht]; exact hP2, va_K.moved hW.alike hK, hD2⟩, hS2.F ht⟩) (fun z hz => hS2.2.2 z hz) hd
  generalize hQ : (MQ below (ev_Qc D ct ad none (va_A (ev_lay ad ct []) s.heap.size) (fun r w => r = some (.int (cw_sc Ln xs k)) ∧ w = [])) ([Value.ref 999, .int (nI k)].map (ev_cv ad)).toArray s 0 0 (va_A (ev_lay ad ct []) s.heap.size)) = Q at last ⊢
  have run : ∀ (cuts : List Nat) (n : Nat) {pc : Nat} {L : ev_L} {st : List Value} {cs : List Prop} {pc' : Nat} {L' : ev_L} {st' : List Value}, ev_fO (ev_go tb_L_cell cuts n [] pc L st []) = (cs, pc', L', st', []) → ev_all cs → ev_k2 mm_L_cell p l e (headSpec (ev_wsm yL_cell mm_L_cell) (ev_rm mm_L_cell)).room s m ([Value.ref 999, .int (nI k)].map (ev_cv ad)).toArray below meth c D ct ad (va_A (ev_lay ad ct []) s.heap.size) none Q pc' L' st' [] 0 0 → ev_k2 mm_L_cell p l e (headSpec (ev_wsm yL_cell mm_L_cell) (ev_rm mm_L_cell)).room s m ([Value.ref 999, .int (nI k)].map (ev_cv ad)).toArray below meth c D ct ad (va_A (ev_lay ad ct []) s.heap.size) none Q pc L st [] 0 0 := by
    intro cuts n pc L st cs pc' L' st' h hc kk
    refine ev_run (μ := mm_L_cell) (N0 := none) (X := fun a1 a2 a3 a4 a5 a6 => a1 = pc' ∧ a2 = L' ∧ a3 = st' ∧ a4 = [] ∧ a5 = 0 ∧ a6 = 0) cuts n h hc (ev_exit ⟨rfl, rfl, rfl, rfl, rfl, rfl⟩) p l e _ s m _ below meth c D ct ad _ Q I0 fun _ _ _ _ _ _ hX => ?_
    obtain ⟨rfl, rfl, rfl, rfl, rfl, rfl⟩ := hX
    exact kk
  refine (?_ : ev_k2 mm_L_cell p l e (headSpec (ev_wsm yL_cell mm_L_cell) (ev_rm mm_L_cell)).room s m ([Value.ref 999, .int (nI k)].map (ev_cv ad)).toArray below meth c D ct ad (va_A (ev_lay ad ct []) s.heap.size) none Q 0 (ev_ent [.ref 999, .int (nI k)] 2) [] [] 0 0) ad s.heap [] _ ⟨hP, hD, va_S.rf, rfl, ev_LH.of hl (fun i v h => by simpa using ev_ent_ok ad [.ref 999, .int (nI k)] (ev_nL mm_L_cell) 0 i v h)⟩
  refine run [2] 2 (pc' := 2) (L' := [some (.ref 999), some (.int (nI k))]) (st' := [.ref 999, .int (nI k)]) (cs := []) (by with_unfolding_all rfl) trivial ?_
  intro ad' H locs ls I
  have he : ad' = ad := I.2.2.2.1
  have hlk : ev_look (ev_tab mm_L_cell) 2 = some (.arraylength, 3, 0, 0, 0, .null) := rfl
  obtain ⟨hd, -, -⟩ := ev_use ok_L_cell hlk
  have eqs : [Value.ref 999, .int (nI k)].map (ev_cv ad') = .ref (ad 999) :: [Value.int (nI k)].map (ev_cv ad') := by rw [he]; rfl
  rw [eqs]
  refine va_slen B.exec B.bytes hX hb9 hnA I.2.2.1 hd ?_
  refine (?_ : ev_k2 mm_L_cell p l e (headSpec (ev_wsm yL_cell mm_L_cell) (ev_rm mm_L_cell)).room s m ([Value.ref 999, .int (nI k)].map (ev_cv ad)).toArray below meth c D ct ad (va_A (ev_lay ad ct []) s.heap.size) none Q 3 [some (.ref 999), some (.int (nI k))] [.int (nI Ln), .int (nI k)] [] 0 0) ad' H locs ls I
  refine ev_br (μ := mm_L_cell) (N0 := none) (ins := .if_icmp .ge 9) (nx := 6) (k := 0) (x := 12) (y := 0) (v := .null) (P := nI k ≥ nI Ln) (N := ¬ nI k ≥ nI Ln) (r := []) (X := fun a1 a2 a3 a4 a5 a6 => ((nI k ≥ nI Ln ∧ a1 = 12) ∨ (¬ nI k ≥ nI Ln ∧ a1 = 6)) ∧ a2 = [some (.ref 999), some (.int (nI k))] ∧ a3 = [] ∧ a4 = [] ∧ a5 = 0 ∧ a6 = 0) rfl rfl (fun h => ev_exit ⟨Or.inl ⟨h, rfl⟩, rfl, rfl, rfl, rfl, rfl⟩) (fun h => ev_exit ⟨Or.inr ⟨h, rfl⟩, rfl, rfl, rfl, rfl, rfl⟩) p l e _ s m _ below meth c D ct ad _ Q I0 fun _ _ _ _ _ _ hX2 => ?_
  obtain ⟨⟨h, rfl⟩ | ⟨h, rfl⟩, rfl, rfl, rfl, rfl, rfl⟩ := hX2
  · have hk2 : ¬ k < Ln := fun z => Int32.not_le.mpr ((ni_lt (by omega) (by omega)).mpr z) h
    refine run [] 7 (pc' := 21) (L' := [some (.ref 999), some (.int (nI k))]) (st' := [.int (1779033703 * (nI k + 1) + 996650629)]) (cs := []) (by with_unfolding_all rfl) trivial ?_
    exact last rfl (by unfold cw_sc; rw [if_neg hk2])
  · have hk2 : k < Ln := by
      refine Nat.not_le.mp fun z => h ((ni_le (by omega) (by omega)).mpr z)
    refine run [8] 2 (pc' := 8) (L' := [some (.ref 999), some (.int (nI k))]) (st' := [.int (nI k), .ref 999]) (cs := []) (by with_unfolding_all rfl) trivial ?_
    intro ad2 H2 locs2 ls2 I2
    have he2 : ad2 = ad := I2.2.2.2.1
    have hlk2 : ev_look (ev_tab mm_L_cell) 8 = some (.iaload, 9, 0, 0, 0, .null) := rfl
    obtain ⟨hd2, -, -⟩ := ev_use ok_L_cell hlk2
    have eqs2 : [Value.int (nI k), .ref 999].map (ev_cv ad2) = .int (nI k) :: .ref (ad 999) :: ([] : List Value).map (ev_cv ad2) := by rw [he2]; rfl
    rw [eqs2]
    refine va_sld B.exec B.bytes hX hb9 hnA I2.2.2.1 (ni_in (by omega) (by omega)) hd2 ?_
    refine (?_ : ev_k2 mm_L_cell p l e (headSpec (ev_wsm yL_cell mm_L_cell) (ev_rm mm_L_cell)).room s m ([Value.ref 999, .int (nI k)].map (ev_cv ad)).toArray below meth c D ct ad (va_A (ev_lay ad ct []) s.heap.size) none Q 9 [some (.ref 999), some (.int (nI k))] [.int (xs (nI k).toNatClampNeg)] [] 0 0) ad2 H2 locs2 ls2 I2
    refine run [] 1 (pc' := 21) (L' := [some (.ref 999), some (.int (nI k))]) (st' := [.int (xs (nI k).toNatClampNeg)]) (cs := []) (by with_unfolding_all rfl) trivial ?_
    exact last rfl (by unfold cw_sc; rw [if_pos hk2, ni_nat (by omega)])
