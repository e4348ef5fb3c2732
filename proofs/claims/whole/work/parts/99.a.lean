/-! ===== the law's loop ===== -/
theorem and31 (a : Int32) : a &&& 31 = nI (a.toBitVec.toNat % 32) := by
  apply Int32.toBitVec_inj.mp
  rw [Int32.toBitVec_and]
  apply BitVec.eq_of_toNat_eq
  rw [BitVec.toNat_and]
  show a.toBitVec.toNat &&& 31 = (a.toBitVec.toNat % 32) % 2 ^ 32
  rw [show (31 : Nat) = 2 ^ 5 - 1 from rfl, Nat.and_two_pow_sub_one_eq_mod]
  omega
theorem le_lim {n k : Nat} (hk : k ≤ 2048) (hn : n ≤ 2048) (h : ¬ nI n - 4 < nI k) : k + 4 ≤ n := by
  rcases Nat.lt_or_ge n 4 with h4 | h4
  · refine absurd ?_ h
    have h0 : nI n - 4 < 0 := by
      match n, h4 with
      | 0, _ => decide
      | 1, _ => decide
      | 2, _ => decide
      | 3, _ => decide
    exact Int32.lt_of_lt_of_le h0 (nI_pos' (by omega))
  · have e : nI n - 4 = nI (n - 4) := by
      have h1 : nI n = nI (n - 4) + 4 := by
        show nI n = nI (n - 4) + nI 4
        rw [nI_add, Nat.sub_add_cancel h4]
      rw [h1, Int32.add_sub_cancel]
    rw [e, nI_ltI (by omega) (by omega)] at h
    omega
theorem vp_in_2 {a j Ln : Nat} {J : Int32} (hJ : J = nI j) (h : a + j < Ln) (hL : Ln ≤ 2048) : vp_in (nI a + J) Ln := by
  subst hJ
  rw [nI_add]
  exact vp_in_nI h (by omega)
section LAWS
variable {p : Program} {l : Launch} {e : Env} {s : State} {m : MethodId} {b : Nat} {below : List Frame} {meth : Method} {c : Code} {D : va_G} {ct ad0 : Nat → Nat} {Ln : Nat} {xs : Nat → Int32}
set_option maxRecDepth 20000 in
theorem law_head (C : LC p l s m b meth c D ct ad0 Ln xs) (hret : meth.sig.returnType = ret) (hL : Ln ≤ 2048) {cc : Nat} (hc : cc ≤ 512) {S : S_X6} {w : S_X5} {f : Nat → Int64} {kc ks : Nat} (h1 : kc ≤ 601024) (h2 : ks ≤ 7293034)
    (kk : 4 * cc + 4 ≤ Ln → LV p l e s m b below meth c D ct ad0 32 (L0 (nI (4 * cc))) [] (WLW S f w) kc ks) : LV p l e s m b below meth c D ct ad0 23 (L0 (nI (4 * cc))) [] (WLW S f w) kc ks := by
  refine LV_run oL_head C (cs := []) (pc' := 26) (L' := L0 (nI (4 * cc))) (st' := [.ref 999, .int (nI (4 * cc))]) (w' := WLW S f w) [] 2 (by with_unfolding_all rfl) trivial ?_
  refine LV_slen oL_head C rfl ?_
  refine LV_run oL_head C (cs := []) (pc' := 29) (L' := L0 (nI (4 * cc))) (st' := [.int (nI Ln - 4), .int (nI (4 * cc))]) (w' := WLW S f w) [] 2 (by with_unfolding_all rfl) trivial ?_
  refine LV_br oL_head C rfl rfl (fun _ => ?_) (fun h => kk (le_lim (by omega) hL h))
  refine LV_run oL_head C (cs := []) (pc' := 1654) (L' := L0 (nI (4 * cc))) (st' := [.int 1]) (w' := WLW S f w) [] 1 (by with_unfolding_all rfl) trivial ?_
  exact LV_end oL_head C hret rfl h1 h2
theorem law_sw (C : LC p l s m b meth c D ct ad0 Ln xs) {j : Nat} (hj : 29 ≤ j ∧ j < 32) {L : ev_L} {w : List ev_E} {kc ks : Nat} (kk : LV p l e s m b below meth c D ct ad0 1647 L [] w kc ks) : LV p l e s m b below meth c D ct ad0 39 L [.int (nI j)] w kc ks :=
  LV_of oL_head C (X := fun a1 a2 a3 a4 a5 a6 => a1 = 1647 ∧ a2 = L ∧ a3 = [] ∧ a4 = w ∧ a5 = kc ∧ a6 = ks) (ev_tso (μ := mL meth.name tL_head) 1647 rfl (Or.inr (by rw [nI_toInt (by omega)]; omega)) (by decide) (ev_exit ⟨rfl, rfl, rfl, rfl, rfl, rfl⟩)) fun _ _ _ _ _ _ hX => by
    obtain ⟨rfl, rfl, rfl, rfl, rfl, rfl⟩ := hX
    exact kk
set_option maxRecDepth 20000 in
theorem law_s0 (C : LC p l s m b meth c D ct ad0 Ln xs) {i : Int32} {S : S_X6} {f : Nat → Int64} {w : S_X5} {kc ks : Nat} (kk : LV p l e s m b below meth c D ct ad0 168 (L0 i) [] (WLW S f w) kc ks) : LV p l e s m b below meth c D ct ad0 39 (L0 i) [.int (nI 0)] (WLW S f w) kc ks :=
  LV_run oL_head C (cs := []) (pc' := 168) (L' := L0 i) (st' := []) (w' := WLW S f w) [] 1 (by with_unfolding_all rfl) trivial kk
set_option maxRecDepth 20000 in
theorem law_s1 (C : LC p l s m b meth c D ct ad0 Ln xs) {i : Int32} {S : S_X6} {f : Nat → Int64} {w : S_X5} {kc ks : Nat} (kk : LV p l e s m b below meth c D ct ad0 224 (L0 i) [] (WLW S f w) kc ks) : LV p l e s m b below meth c D ct ad0 39 (L0 i) [.int (nI 1)] (WLW S f w) kc ks :=
  LV_run oL_head C (cs := []) (pc' := 224) (L' := L0 i) (st' := []) (w' := WLW S f w) [] 1 (by with_unfolding_all rfl) trivial kk
set_option maxRecDepth 20000 in
theorem law_s2 (C : LC p l s m b meth c D ct ad0 Ln xs) {i : Int32} {S : S_X6} {f : Nat → Int64} {w : S_X5} {kc ks : Nat} (kk : LV p l e s m b below meth c D ct ad0 292 (L0 i) [] (WLW S f w) kc ks) : LV p l e s m b below meth c D ct ad0 39 (L0 i) [.int (nI 2)] (WLW S f w) kc ks :=
  LV_run oL_head C (cs := []) (pc' := 292) (L' := L0 i) (st' := []) (w' := WLW S f w) [] 1 (by with_unfolding_all rfl) trivial kk
set_option maxRecDepth 20000 in
theorem law_s3 (C : LC p l s m b meth c D ct ad0 Ln xs) {i : Int32} {S : S_X6} {f : Nat → Int64} {w : S_X5} {kc ks : Nat} (kk : LV p l e s m b below meth c D ct ad0 372 (L0 i) [] (WLW S f w) kc ks) : LV p l e s m b below meth c D ct ad0 39 (L0 i) [.int (nI 3)] (WLW S f w) kc ks :=
  LV_run oL_head C (cs := []) (pc' := 372) (L' := L0 i) (st' := []) (w' := WLW S f w) [] 1 (by with_unfolding_all rfl) trivial kk
set_option maxRecDepth 20000 in
theorem law_s4 (C : LC p l s m b meth c D ct ad0 Ln xs) {i : Int32} {S : S_X6} {f : Nat → Int64} {w : S_X5} {kc ks : Nat} (kk : LV p l e s m b below meth c D ct ad0 440 (L0 i) [] (WLW S f w) kc ks) : LV p l e s m b below meth c D ct ad0 39 (L0 i) [.int (nI 4)] (WLW S f w) kc ks :=
  LV_run oL_head C (cs := []) (pc' := 440) (L' := L0 i) (st' := []) (w' := WLW S f w) [] 1 (by with_unfolding_all rfl) trivial kk
set_option maxRecDepth 20000 in
theorem law_s5 (C : LC p l s m b meth c D ct ad0 Ln xs) {i : Int32} {S : S_X6} {f : Nat → Int64} {w : S_X5} {kc ks : Nat} (kk : LV p l e s m b below meth c D ct ad0 496 (L0 i) [] (WLW S f w) kc ks) : LV p l e s m b below meth c D ct ad0 39 (L0 i) [.int (nI 5)] (WLW S f w) kc ks :=
  LV_run oL_head C (cs := []) (pc' := 496) (L' := L0 i) (st' := []) (w' := WLW S f w) [] 1 (by with_unfolding_all rfl) trivial kk
set_option maxRecDepth 20000 in
theorem law_s6 (C : LC p l s m b meth c D ct ad0 Ln xs) {i : Int32} {S : S_X6} {f : Nat → Int64} {w : S_X5} {kc ks : Nat} (kk : LV p l e s m b below meth c D ct ad0 564 (L0 i) [] (WLW S f w) kc ks) : LV p l e s m b below meth c D ct ad0 39 (L0 i) [.int (nI 6)] (WLW S f w) kc ks :=
  LV_run oL_head C (cs := []) (pc' := 564) (L' := L0 i) (st' := []) (w' := WLW S f w) [] 1 (by with_unfolding_all rfl) trivial kk
set_option maxRecDepth 20000 in
theorem law_s7 (C : LC p l s m b meth c D ct ad0 Ln xs) {i : Int32} {S : S_X6} {f : Nat → Int64} {w : S_X5} {kc ks : Nat} (kk : LV p l e s m b below meth c D ct ad0 620 (L0 i) [] (WLW S f w) kc ks) : LV p l e s m b below meth c D ct ad0 39 (L0 i) [.int (nI 7)] (WLW S f w) kc ks :=
  LV_run oL_head C (cs := []) (pc' := 620) (L' := L0 i) (st' := []) (w' := WLW S f w) [] 1 (by with_unfolding_all rfl) trivial kk
set_option maxRecDepth 20000 in
theorem law_s8 (C : LC p l s m b meth c D ct ad0 Ln xs) {i : Int32} {S : S_X6} {f : Nat → Int64} {w : S_X5} {kc ks : Nat} (kk : LV p l e s m b below meth c D ct ad0 633 (L0 i) [] (WLW S f w) kc ks) : LV p l e s m b below meth c D ct ad0 39 (L0 i) [.int (nI 8)] (WLW S f w) kc ks :=
  LV_run oL_head C (cs := []) (pc' := 633) (L' := L0 i) (st' := []) (w' := WLW S f w) [] 1 (by with_unfolding_all rfl) trivial kk
set_option maxRecDepth 20000 in
theorem law_s9 (C : LC p l s m b meth c D ct ad0 Ln xs) {i : Int32} {S : S_X6} {f : Nat → Int64} {w : S_X5} {kc ks : Nat} (kk : LV p l e s m b below meth c D ct ad0 646 (L0 i) [] (WLW S f w) kc ks) : LV p l e s m b below meth c D ct ad0 39 (L0 i) [.int (nI 9)] (WLW S f w) kc ks :=
  LV_run oL_head C (cs := []) (pc' := 646) (L' := L0 i) (st' := []) (w' := WLW S f w) [] 1 (by with_unfolding_all rfl) trivial kk
set_option maxRecDepth 20000 in
theorem law_s10 (C : LC p l s m b meth c D ct ad0 Ln xs) {i : Int32} {S : S_X6} {f : Nat → Int64} {w : S_X5} {kc ks : Nat} (kk : LV p l e s m b below meth c D ct ad0 702 (L0 i) [] (WLW S f w) kc ks) : LV p l e s m b below meth c D ct ad0 39 (L0 i) [.int (nI 10)] (WLW S f w) kc ks :=
  LV_run oL_head C (cs := []) (pc' := 702) (L' := L0 i) (st' := []) (w' := WLW S f w) [] 1 (by with_unfolding_all rfl) trivial kk
set_option maxRecDepth 20000 in
theorem law_s11 (C : LC p l s m b meth c D ct ad0 Ln xs) {i : Int32} {S : S_X6} {f : Nat → Int64} {w : S_X5} {kc ks : Nat} (kk : LV p l e s m b below meth c D ct ad0 715 (L0 i) [] (WLW S f w) kc ks) : LV p l e s m b below meth c D ct ad0 39 (L0 i) [.int (nI 11)] (WLW S f w) kc ks :=
  LV_run oL_head C (cs := []) (pc' := 715) (L' := L0 i) (st' := []) (w' := WLW S f w) [] 1 (by with_unfolding_all rfl) trivial kk
set_option maxRecDepth 20000 in
theorem law_s12 (C : LC p l s m b meth c D ct ad0 Ln xs) {i : Int32} {S : S_X6} {f : Nat → Int64} {w : S_X5} {kc ks : Nat} (kk : LV p l e s m b below meth c D ct ad0 728 (L0 i) [] (WLW S f w) kc ks) : LV p l e s m b below meth c D ct ad0 39 (L0 i) [.int (nI 12)] (WLW S f w) kc ks :=
  LV_run oL_head C (cs := []) (pc' := 728) (L' := L0 i) (st' := []) (w' := WLW S f w) [] 1 (by with_unfolding_all rfl) trivial kk
set_option maxRecDepth 20000 in
theorem law_s13 (C : LC p l s m b meth c D ct ad0 Ln xs) {i : Int32} {S : S_X6} {f : Nat → Int64} {w : S_X5} {kc ks : Nat} (kk : LV p l e s m b below meth c D ct ad0 772 (L0 i) [] (WLW S f w) kc ks) : LV p l e s m b below meth c D ct ad0 39 (L0 i) [.int (nI 13)] (WLW S f w) kc ks :=
  LV_run oL_head C (cs := []) (pc' := 772) (L' := L0 i) (st' := []) (w' := WLW S f w) [] 1 (by with_unfolding_all rfl) trivial kk
set_option maxRecDepth 20000 in
theorem law_s14 (C : LC p l s m b meth c D ct ad0 Ln xs) {i : Int32} {S : S_X6} {f : Nat → Int64} {w : S_X5} {kc ks : Nat} (kk : LV p l e s m b below meth c D ct ad0 816 (L0 i) [] (WLW S f w) kc ks) : LV p l e s m b below meth c D ct ad0 39 (L0 i) [.int (nI 14)] (WLW S f w) kc ks :=
  LV_run oL_head C (cs := []) (pc' := 816) (L' := L0 i) (st' := []) (w' := WLW S f w) [] 1 (by with_unfolding_all rfl) trivial kk
set_option maxRecDepth 20000 in
theorem law_s15 (C : LC p l s m b meth c D ct ad0 Ln xs) {i : Int32} {S : S_X6} {f : Nat → Int64} {w : S_X5} {kc ks : Nat} (kk : LV p l e s m b below meth c D ct ad0 884 (L0 i) [] (WLW S f w) kc ks) : LV p l e s m b below meth c D ct ad0 39 (L0 i) [.int (nI 15)] (WLW S f w) kc ks :=
  LV_run oL_head C (cs := []) (pc' := 884) (L' := L0 i) (st' := []) (w' := WLW S f w) [] 1 (by with_unfolding_all rfl) trivial kk
set_option maxRecDepth 20000 in
theorem law_s16 (C : LC p l s m b meth c D ct ad0 Ln xs) {i : Int32} {S : S_X6} {f : Nat → Int64} {w : S_X5} {kc ks : Nat} (kk : LV p l e s m b below meth c D ct ad0 952 (L0 i) [] (WLW S f w) kc ks) : LV p l e s m b below meth c D ct ad0 39 (L0 i) [.int (nI 16)] (WLW S f w) kc ks :=
  LV_run oL_head C (cs := []) (pc' := 952) (L' := L0 i) (st' := []) (w' := WLW S f w) [] 1 (by with_unfolding_all rfl) trivial kk
set_option maxRecDepth 20000 in
theorem law_s17 (C : LC p l s m b meth c D ct ad0 Ln xs) {i : Int32} {S : S_X6} {f : Nat → Int64} {w : S_X5} {kc ks : Nat} (kk : LV p l e s m b below meth c D ct ad0 1008 (L0 i) [] (WLW S f w) kc ks) : LV p l e s m b below meth c D ct ad0 39 (L0 i) [.int (nI 17)] (WLW S f w) kc ks :=
  LV_run oL_head C (cs := []) (pc' := 1008) (L' := L0 i) (st' := []) (w' := WLW S f w) [] 1 (by with_unfolding_all rfl) trivial kk
set_option maxRecDepth 20000 in
theorem law_s18 (C : LC p l s m b meth c D ct ad0 Ln xs) {i : Int32} {S : S_X6} {f : Nat → Int64} {w : S_X5} {kc ks : Nat} (kk : LV p l e s m b below meth c D ct ad0 1076 (L0 i) [] (WLW S f w) kc ks) : LV p l e s m b below meth c D ct ad0 39 (L0 i) [.int (nI 18)] (WLW S f w) kc ks :=
  LV_run oL_head C (cs := []) (pc' := 1076) (L' := L0 i) (st' := []) (w' := WLW S f w) [] 1 (by with_unfolding_all rfl) trivial kk
set_option maxRecDepth 20000 in
theorem law_s19 (C : LC p l s m b meth c D ct ad0 Ln xs) {i : Int32} {S : S_X6} {f : Nat → Int64} {w : S_X5} {kc ks : Nat} (kk : LV p l e s m b below meth c D ct ad0 1132 (L0 i) [] (WLW S f w) kc ks) : LV p l e s m b below meth c D ct ad0 39 (L0 i) [.int (nI 19)] (WLW S f w) kc ks :=
  LV_run oL_head C (cs := []) (pc' := 1132) (L' := L0 i) (st' := []) (w' := WLW S f w) [] 1 (by with_unfolding_all rfl) trivial kk
set_option maxRecDepth 20000 in
theorem law_s20 (C : LC p l s m b meth c D ct ad0 Ln xs) {i : Int32} {S : S_X6} {f : Nat → Int64} {w : S_X5} {kc ks : Nat} (kk : LV p l e s m b below meth c D ct ad0 1188 (L0 i) [] (WLW S f w) kc ks) : LV p l e s m b below meth c D ct ad0 39 (L0 i) [.int (nI 20)] (WLW S f w) kc ks :=
  LV_run oL_head C (cs := []) (pc' := 1188) (L' := L0 i) (st' := []) (w' := WLW S f w) [] 1 (by with_unfolding_all rfl) trivial kk
set_option maxRecDepth 20000 in
theorem law_s21 (C : LC p l s m b meth c D ct ad0 Ln xs) {i : Int32} {S : S_X6} {f : Nat → Int64} {w : S_X5} {kc ks : Nat} (kk : LV p l e s m b below meth c D ct ad0 1244 (L0 i) [] (WLW S f w) kc ks) : LV p l e s m b below meth c D ct ad0 39 (L0 i) [.int (nI 21)] (WLW S f w) kc ks :=
  LV_run oL_head C (cs := []) (pc' := 1244) (L' := L0 i) (st' := []) (w' := WLW S f w) [] 1 (by with_unfolding_all rfl) trivial kk
set_option maxRecDepth 20000 in
theorem law_s22 (C : LC p l s m b meth c D ct ad0 Ln xs) {i : Int32} {S : S_X6} {f : Nat → Int64} {w : S_X5} {kc ks : Nat} (kk : LV p l e s m b below meth c D ct ad0 1312 (L0 i) [] (WLW S f w) kc ks) : LV p l e s m b below meth c D ct ad0 39 (L0 i) [.int (nI 22)] (WLW S f w) kc ks :=
  LV_run oL_head C (cs := []) (pc' := 1312) (L' := L0 i) (st' := []) (w' := WLW S f w) [] 1 (by with_unfolding_all rfl) trivial kk
set_option maxRecDepth 20000 in
theorem law_s23 (C : LC p l s m b meth c D ct ad0 Ln xs) {i : Int32} {S : S_X6} {f : Nat → Int64} {w : S_X5} {kc ks : Nat} (kk : LV p l e s m b below meth c D ct ad0 1368 (L0 i) [] (WLW S f w) kc ks) : LV p l e s m b below meth c D ct ad0 39 (L0 i) [.int (nI 23)] (WLW S f w) kc ks :=
  LV_run oL_head C (cs := []) (pc' := 1368) (L' := L0 i) (st' := []) (w' := WLW S f w) [] 1 (by with_unfolding_all rfl) trivial kk
set_option maxRecDepth 20000 in
theorem law_s24 (C : LC p l s m b meth c D ct ad0 Ln xs) {i : Int32} {S : S_X6} {f : Nat → Int64} {w : S_X5} {kc ks : Nat} (kk : LV p l e s m b below meth c D ct ad0 1424 (L0 i) [] (WLW S f w) kc ks) : LV p l e s m b below meth c D ct ad0 39 (L0 i) [.int (nI 24)] (WLW S f w) kc ks :=
  LV_run oL_head C (cs := []) (pc' := 1424) (L' := L0 i) (st' := []) (w' := WLW S f w) [] 1 (by with_unfolding_all rfl) trivial kk
set_option maxRecDepth 20000 in
theorem law_s25 (C : LC p l s m b meth c D ct ad0 Ln xs) {i : Int32} {S : S_X6} {f : Nat → Int64} {w : S_X5} {kc ks : Nat} (kk : LV p l e s m b below meth c D ct ad0 1480 (L0 i) [] (WLW S f w) kc ks) : LV p l e s m b below meth c D ct ad0 39 (L0 i) [.int (nI 25)] (WLW S f w) kc ks :=
  LV_run oL_head C (cs := []) (pc' := 1480) (L' := L0 i) (st' := []) (w' := WLW S f w) [] 1 (by with_unfolding_all rfl) trivial kk
set_option maxRecDepth 20000 in
theorem law_s26 (C : LC p l s m b meth c D ct ad0 Ln xs) {i : Int32} {S : S_X6} {f : Nat → Int64} {w : S_X5} {kc ks : Nat} (kk : LV p l e s m b below meth c D ct ad0 1536 (L0 i) [] (WLW S f w) kc ks) : LV p l e s m b below meth c D ct ad0 39 (L0 i) [.int (nI 26)] (WLW S f w) kc ks :=
  LV_run oL_head C (cs := []) (pc' := 1536) (L' := L0 i) (st' := []) (w' := WLW S f w) [] 1 (by with_unfolding_all rfl) trivial kk
set_option maxRecDepth 20000 in
theorem law_s27 (C : LC p l s m b meth c D ct ad0 Ln xs) {i : Int32} {S : S_X6} {f : Nat → Int64} {w : S_X5} {kc ks : Nat} (kk : LV p l e s m b below meth c D ct ad0 1592 (L0 i) [] (WLW S f w) kc ks) : LV p l e s m b below meth c D ct ad0 39 (L0 i) [.int (nI 27)] (WLW S f w) kc ks :=
  LV_run oL_head C (cs := []) (pc' := 1592) (L' := L0 i) (st' := []) (w' := WLW S f w) [] 1 (by with_unfolding_all rfl) trivial kk
set_option maxRecDepth 20000 in
theorem law_s28 (C : LC p l s m b meth c D ct ad0 Ln xs) {i : Int32} {S : S_X6} {f : Nat → Int64} {w : S_X5} {kc ks : Nat} (kk : LV p l e s m b below meth c D ct ad0 1633 (L0 i) [] (WLW S f w) kc ks) : LV p l e s m b below meth c D ct ad0 39 (L0 i) [.int (nI 28)] (WLW S f w) kc ks :=
  LV_run oL_head C (cs := []) (pc' := 1633) (L' := L0 i) (st' := []) (w' := WLW S f w) [] 1 (by with_unfolding_all rfl) trivial kk
set_option maxRecDepth 20000 in
theorem law_loop {F : Nat} (hF : 6400 < F) (C : LC p l s m b meth c D ct ad0 Ln xs) (hret : meth.sig.returnType = ret) (hL : Ln ≤ 2048) : ∀ (n cc : Nat) (S : S_X6) (w : S_X5) (f : Nat → Int64) (kc ks : Nat), cc + n = 512 → REL cc S w → kc + n ≤ 601024 → ks + 6 * n ≤ 7293034 → LV p l e s m b below meth c D ct ad0 23 (L0 (nI (4 * cc))) [] (WLW S f w) kc ks := by
  intro n
  induction n with
  | zero =>
    intro cc S w f kc ks hn q hk hs
    exact law_head C hret hL (by omega) (by omega) (by omega) fun h => absurd h (by omega)
  | succ n ih =>
    intro cc S w f kc ks hn q hk hs
    refine law_head C hret hL (by omega) (by omega) (by omega) fun hlim => ?_
    refine LV_run oL_head C (cs := []) (pc' := 35) (L' := L0 (nI (4 * cc))) (st' := [.int (nI (4 * cc)), .ref 999]) (w' := WLW S f w) [] 2 (by with_unfolding_all rfl) trivial ?_
    refine LV_sld oL_head C rfl (vp_in_nI (by omega) (by omega)) ?_
    refine LV_run oL_head C (cs := []) (pc' := 39) (L' := L0 (nI (4 * cc))) (st' := [.int (xs (nI (4 * cc)).toNatClampNeg &&& 31)]) (w' := WLW S f w) [] 2 (by with_unfolding_all rfl) trivial ?_
    rw [and31]
    have hj : (xs (nI (4 * cc)).toNatClampNeg).toBitVec.toNat % 32 < 32 := Nat.mod_lt _ (by decide)
    generalize (xs (nI (4 * cc)).toNatClampNeg).toBitVec.toNat % 32 = j at hj ⊢
    have h1 : vp_in (nI (4 * cc) + 1) Ln := vp_in_2 (j := 1) rfl (by omega) hL
    have h2 : vp_in (nI (4 * cc) + 2) Ln := vp_in_2 (j := 2) rfl (by omega) hL
    have h3 : vp_in (nI (4 * cc) + 3) Ln := vp_in_2 (j := 3) rfl (by omega) hL
    have hmc : kc + 1 ≤ 601024 ∧ ks + 6 ≤ 7293034 := ⟨by omega, by omega⟩
    have hc : cc < 512 := by omega
    have next : ∀ (S' : S_X6) (w' : S_X5) (f' : Nat → Int64), REL (cc + 1) S' w' → LV p l e s m b below meth c D ct ad0 1647 (L0 (nI (4 * cc))) [] (WLW S' f' w') (kc + 1) (ks + 6) := by
      intro S' w' f' hr
      refine LV_run oL_head C (cs := []) (pc' := 23) (L' := L0 (nI (4 * cc) + 4)) (st' := []) (w' := WLW S' f' w') [] 2 (by with_unfolding_all rfl) trivial ?_
      have e4 : nI (4 * cc) + 4 = nI (4 * (cc + 1)) := nI_add (4 * cc) 4
      rw [e4]
      exact ih (cc + 1) S' w' f' (kc + 1) (ks + 6) (by omega) hr (by omega) (by omega)
    match j, hj with
    | 0, _ => exact law_s0 C (c_L0 hF C hc q f h1 h2 h3 hmc next)
    | 1, _ => exact law_s1 C (c_L1 hF C hc q f h1 h2 h3 hmc next)
    | 2, _ => exact law_s2 C (c_L2 hF C hc q f h1 h2 h3 hmc next)
    | 3, _ => exact law_s3 C (c_L3 hF C hc q f h1 h2 h3 hmc next)
    | 4, _ => exact law_s4 C (c_L4 hF C hc q f h1 h2 h3 hmc next)
    | 5, _ => exact law_s5 C (c_L5 hF C hc q f h1 h2 h3 hmc next)
    | 6, _ => exact law_s6 C (c_L6 hF C hc q f h1 h2 h3 hmc next)
    | 7, _ => exact law_s7 C (c_L7 hF C hc q f h1 h2 h3 hmc next)
    | 8, _ => exact law_s8 C (c_L8 hF C hc q f h1 h2 h3 hmc next)
    | 9, _ => exact law_s9 C (c_L9 hF C hc q f h1 h2 h3 hmc next)
    | 10, _ => exact law_s10 C (c_L10 hF C hc q f h1 h2 h3 hmc next)
    | 11, _ => exact law_s11 C (c_L11 hF C hc q f h1 h2 h3 hmc next)
    | 12, _ => exact law_s12 C (c_L12 hF C hc q f h1 h2 h3 hmc next)
    | 13, _ => exact law_s13 C (c_L13 hF C hc q f h1 h2 h3 hmc next)
    | 14, _ => exact law_s14 C (c_L14 hF C hc q f h1 h2 h3 hmc next)
    | 15, _ => exact law_s15 C (c_L15 hF C hc q f h1 h2 h3 hmc next)
    | 16, _ => exact law_s16 C (c_L16 hF C hc q f h1 h2 h3 hmc next)
    | 17, _ => exact law_s17 C (c_L17 hF C hc q f h1 h2 h3 hmc next)
    | 18, _ => exact law_s18 C (c_L18 hF C hc q f h1 h2 h3 hmc next)
    | 19, _ => exact law_s19 C (c_L19 hF C hc q f h1 h2 h3 hmc next)
    | 20, _ => exact law_s20 C (c_L20 hF C hc q f h1 h2 h3 hmc next)
    | 21, _ => exact law_s21 C (c_L21 hF C hc q f h1 h2 h3 hmc next)
    | 22, _ => exact law_s22 C (c_L22 hF C hc q f h1 h2 h3 hmc next)
    | 23, _ => exact law_s23 C (c_L23 hF C hc q f h1 h2 h3 hmc next)
    | 24, _ => exact law_s24 C (c_L24 hF C hc q f h1 h2 h3 hmc next)
    | 25, _ => exact law_s25 C (c_L25 hF C hc q f h1 h2 h3 hmc next)
    | 26, _ => exact law_s26 C (c_L26 hF C hc q f h1 h2 h3 hmc next)
    | 27, _ => exact law_s27 C (c_L27 hF C hc q f h1 h2 h3 hmc next)
    | 28, _ => exact law_s28 C (c_L28 hF C hc q f h1 h2 h3 hmc next)
    | j + 29, hj => exact law_sw C ⟨by omega, hj⟩ (LV_up (Nat.le_add_right kc 1) (Nat.le_add_right ks 6) (next S w f (q.more hc)))
end LAWS
