/-! ===== the law's cases ===== -/
section LAWS
variable {p : Program} {l : Launch} {e : Env} {s : State} {m : MethodId} {b : Nat} {below : List Frame} {meth : Method} {c : Code} {D : va_G} {ct ad0 : Nat → Nat} {Ln : Nat} {xs : Nat → Int32}
set_option maxRecDepth 20000 in
theorem c_L0 {F : Nat} (hF : 6400 < F) (C : LC p l s m b meth c D ct ad0 Ln xs) {cc : Nat} (hc : cc < 512) {S : S_X6} {w : S_X5} (q : REL cc S w) (f : Nat → Int64) {i : Int32} (h1 : vp_in (i + 1) Ln) (h2 : vp_in (i + 2) Ln) (h3 : vp_in (i + 3) Ln) {kc ks : Nat} (hmc : kc + 1 ≤ 601024 ∧ ks + 6 ≤ 7293034) (kk : ∀ S' w' f', REL (cc + 1) S' w' → LV p l e s m b below meth c D ct ad0 1647 (L0 i) [] (WLW S' f' w') (kc + 1) (ks + 6)) : LV p l e s m b below meth c D ct ad0 168 (L0 i) [] (WLW S f w) kc ks := by
  obtain ⟨k, z, S', w', f', hb, hk, k3, hr, hf0, hM⟩ := st_add hF hc q f (xs (i + 1).toNatClampNeg)
  refine LV_run oL_0 C (cs := []) (pc' := 174) (L' := [some (.ref 999), some (.ref 0), some (.ref 141), some (.ref 140), some (.int i), none, none, none, none]) (st' := [.int (i + 1), .ref 999, .ref 0]) (w' := WLW S f w) [] 5 (by with_unfolding_all rfl) trivial ?_
  refine LV_sld oL_0 C rfl h1 ?_
  refine LV_run oL_0 C (cs := []) (pc' := 176) (L' := [some (.ref 999), some (.ref 0), some (.ref 141), some (.ref 140), some (.int i), none, none, none, none]) (st' := [.ref 140, .int (xs (i + 1).toNatClampNeg), .ref 0]) (w' := WLW S f w) [] 1 (by with_unfolding_all rfl) trivial ?_
  refine LV_wrap oL_0 C hM cw_L_add w_lw_92 rfl rfl rfl rfl ⟨rfl, rfl⟩ hmc ?_
  refine LV_run oL_0 C (cs := []) (pc' := 187) (L' := [some (.ref 999), some (.ref 0), some (.ref 141), some (.ref 140), some (.int i), some (.int (nI k)), none, none, none]) (st' := [.int (i + 1), .ref 999, .ref 141]) (w' := WLW S' f' w) [] 6 (by with_unfolding_all rfl) trivial ?_
  refine LV_sld oL_0 C rfl h1 ?_
  refine LV_model oL_0 C (z := .int z) (w' := w') (rest := []) (t_X5_add F w (xs (i + 1).toNatClampNeg) (z, w') hb) cv_X5_add ml_L_law_97 rfl rfl rfl rfl ⟨rfl, rfl⟩ ⟨rfl, rfl⟩ hmc rfl ?_
  refine LV_run oL_0 C (cs := []) (pc' := 194) (L' := [some (.ref 999), some (.ref 0), some (.ref 141), some (.ref 140), some (.int i), some (.int (nI k)), some (.int z), none, none]) (st' := [.ref 141]) (w' := WLW S' f' w') [] 2 (by with_unfolding_all rfl) trivial ?_
  refine LV_model oL_0 C (z := .int (nI k)) (w' := w') (rest := []) (t_X5_thrown F w' (nI k) (by rw [← hk]; rfl)) cv_X5_thrown ml_L_law_98 rfl rfl rfl rfl ⟨rfl, rfl⟩ ⟨rfl, rfl⟩ hmc rfl ?_
  refine LV_run oL_0 C (cs := []) (pc' := 199) (L' := [some (.ref 999), some (.ref 0), some (.ref 141), some (.ref 140), some (.int i), some (.int (nI k)), some (.int z), none, none]) (st' := [.int (nI k), .int (nI k)]) (w' := WLW S' f' w') [] 1 (by with_unfolding_all rfl) trivial ?_
  refine LV_br oL_0 C rfl rfl (fun _ => ?_) (fun h => absurd rfl h)
  refine LV_run oL_0 C (cs := []) (pc' := 206) (L' := [some (.ref 999), some (.ref 0), some (.ref 141), some (.ref 140), some (.int i), some (.int (nI k)), some (.int z), none, none]) (st' := [.int (nI k)]) (w' := WLW S' f' w') [] 1 (by with_unfolding_all rfl) trivial ?_
  refine LV_br oL_0 C rfl rfl (fun _ => ?_) (fun h => ?_)
  · refine LV_run oL_0 C (cs := []) (pc' := 1647) (L' := [some (.ref 999), some (.ref 0), some (.ref 141), some (.ref 140), some (.int i), some (.int (nI k)), some (.int z), none, none]) (st' := []) (w' := WLW S' f' w') [] 1 (by with_unfolding_all rfl) trivial ?_
    exact LV_weak L0_w (kk S' w' f' hr)
  have hk0 : k = 0 := (nI_eq (by omega) (by omega)).mp (h.trans nI_0.symm)
  refine LV_run oL_0 C (cs := []) (pc' := 211) (L' := [some (.ref 999), some (.ref 0), some (.ref 141), some (.ref 140), some (.int i), some (.int (nI k)), some (.int z), none, none]) (st' := [.int 0, .ref 140]) (w' := WLW S' f' w') [] 2 (by with_unfolding_all rfl) trivial ?_
  refine LV_lald oL_0 C rfl ?_
  refine LV_run oL_0 C (cs := []) (pc' := 216) (L' := [some (.ref 999), some (.ref 0), some (.ref 141), some (.ref 140), some (.int i), some (.int (nI k)), some (.int z), none, none]) (st' := [.int (lg_cmp ((f' 0)) (z.toInt64))]) (w' := WLW S' f' w') [] 3 (by with_unfolding_all rfl) trivial ?_
  refine LV_br oL_0 C rfl rfl (fun _ => ?_) (fun h => absurd (by rw [hf0 hk0]; exact lg_cmp_self _) h)
  refine LV_run oL_0 C (cs := []) (pc' := 1647) (L' := [some (.ref 999), some (.ref 0), some (.ref 141), some (.ref 140), some (.int i), some (.int (nI k)), some (.int z), none, none]) (st' := []) (w' := WLW S' f' w') [] 1 (by with_unfolding_all rfl) trivial ?_
  exact LV_weak L0_w (kk S' w' f' hr)
set_option maxRecDepth 20000 in
theorem c_L1 {F : Nat} (hF : 6400 < F) (C : LC p l s m b meth c D ct ad0 Ln xs) {cc : Nat} (hc : cc < 512) {S : S_X6} {w : S_X5} (q : REL cc S w) (f : Nat → Int64) {i : Int32} (h1 : vp_in (i + 1) Ln) (h2 : vp_in (i + 2) Ln) (h3 : vp_in (i + 3) Ln) {kc ks : Nat} (hmc : kc + 1 ≤ 601024 ∧ ks + 6 ≤ 7293034) (kk : ∀ S' w' f', REL (cc + 1) S' w' → LV p l e s m b below meth c D ct ad0 1647 (L0 i) [] (WLW S' f' w') (kc + 1) (ks + 6)) : LV p l e s m b below meth c D ct ad0 224 (L0 i) [] (WLW S f w) kc ks := by
  obtain ⟨k, z, S', w', f', hb, hk, k3, hr, hf0, hM⟩ := st_take hF hc q f (xs (i + 1).toNatClampNeg) (xs (i + 2).toNatClampNeg)
  refine LV_run oL_1 C (cs := []) (pc' := 230) (L' := [some (.ref 999), some (.ref 0), some (.ref 141), some (.ref 140), some (.int i), none, none, none, none]) (st' := [.int (i + 1), .ref 999, .ref 0]) (w' := WLW S f w) [] 5 (by with_unfolding_all rfl) trivial ?_
  refine LV_sld oL_1 C rfl h1 ?_
  refine LV_run oL_1 C (cs := []) (pc' := 236) (L' := [some (.ref 999), some (.ref 0), some (.ref 141), some (.ref 140), some (.int i), none, none, none, none]) (st' := [.int (i + 2), .ref 999, .int (xs (i + 1).toNatClampNeg), .ref 0]) (w' := WLW S f w) [] 4 (by with_unfolding_all rfl) trivial ?_
  refine LV_sld oL_1 C rfl h2 ?_
  refine LV_run oL_1 C (cs := []) (pc' := 238) (L' := [some (.ref 999), some (.ref 0), some (.ref 141), some (.ref 140), some (.int i), none, none, none, none]) (st' := [.ref 140, .int (xs (i + 2).toNatClampNeg), .int (xs (i + 1).toNatClampNeg), .ref 0]) (w' := WLW S f w) [] 1 (by with_unfolding_all rfl) trivial ?_
  refine LV_wrap oL_1 C hM cw_L_take w_lw_101 rfl rfl rfl rfl ⟨rfl, rfl⟩ hmc ?_
  refine LV_run oL_1 C (cs := []) (pc' := 249) (L' := [some (.ref 999), some (.ref 0), some (.ref 141), some (.ref 140), some (.int i), some (.int (nI k)), none, none, none]) (st' := [.int (i + 1), .ref 999, .ref 141]) (w' := WLW S' f' w) [] 6 (by with_unfolding_all rfl) trivial ?_
  refine LV_sld oL_1 C rfl h1 ?_
  refine LV_run oL_1 C (cs := []) (pc' := 255) (L' := [some (.ref 999), some (.ref 0), some (.ref 141), some (.ref 140), some (.int i), some (.int (nI k)), none, none, none]) (st' := [.int (i + 2), .ref 999, .int (xs (i + 1).toNatClampNeg), .ref 141]) (w' := WLW S' f' w) [] 4 (by with_unfolding_all rfl) trivial ?_
  refine LV_sld oL_1 C rfl h2 ?_
  refine LV_model oL_1 C (z := .int z) (w' := w') (rest := []) (t_X5_take F w (xs (i + 1).toNatClampNeg) (xs (i + 2).toNatClampNeg) (z, w') hb) cv_X5_take ml_L_law_104 rfl rfl rfl rfl ⟨rfl, rfl⟩ ⟨rfl, rfl⟩ hmc rfl ?_
  refine LV_run oL_1 C (cs := []) (pc' := 262) (L' := [some (.ref 999), some (.ref 0), some (.ref 141), some (.ref 140), some (.int i), some (.int (nI k)), some (.int z), none, none]) (st' := [.ref 141]) (w' := WLW S' f' w') [] 2 (by with_unfolding_all rfl) trivial ?_
  refine LV_model oL_1 C (z := .int (nI k)) (w' := w') (rest := []) (t_X5_thrown F w' (nI k) (by rw [← hk]; rfl)) cv_X5_thrown ml_L_law_98 rfl rfl rfl rfl ⟨rfl, rfl⟩ ⟨rfl, rfl⟩ hmc rfl ?_
  refine LV_run oL_1 C (cs := []) (pc' := 267) (L' := [some (.ref 999), some (.ref 0), some (.ref 141), some (.ref 140), some (.int i), some (.int (nI k)), some (.int z), none, none]) (st' := [.int (nI k), .int (nI k)]) (w' := WLW S' f' w') [] 1 (by with_unfolding_all rfl) trivial ?_
  refine LV_br oL_1 C rfl rfl (fun _ => ?_) (fun h => absurd rfl h)
  refine LV_run oL_1 C (cs := []) (pc' := 274) (L' := [some (.ref 999), some (.ref 0), some (.ref 141), some (.ref 140), some (.int i), some (.int (nI k)), some (.int z), none, none]) (st' := [.int (nI k)]) (w' := WLW S' f' w') [] 1 (by with_unfolding_all rfl) trivial ?_
  refine LV_br oL_1 C rfl rfl (fun _ => ?_) (fun h => ?_)
  · refine LV_run oL_1 C (cs := []) (pc' := 1647) (L' := [some (.ref 999), some (.ref 0), some (.ref 141), some (.ref 140), some (.int i), some (.int (nI k)), some (.int z), none, none]) (st' := []) (w' := WLW S' f' w') [] 1 (by with_unfolding_all rfl) trivial ?_
    exact LV_weak L0_w (kk S' w' f' hr)
  have hk0 : k = 0 := (nI_eq (by omega) (by omega)).mp (h.trans nI_0.symm)
  refine LV_run oL_1 C (cs := []) (pc' := 279) (L' := [some (.ref 999), some (.ref 0), some (.ref 141), some (.ref 140), some (.int i), some (.int (nI k)), some (.int z), none, none]) (st' := [.int 0, .ref 140]) (w' := WLW S' f' w') [] 2 (by with_unfolding_all rfl) trivial ?_
  refine LV_lald oL_1 C rfl ?_
  refine LV_run oL_1 C (cs := []) (pc' := 284) (L' := [some (.ref 999), some (.ref 0), some (.ref 141), some (.ref 140), some (.int i), some (.int (nI k)), some (.int z), none, none]) (st' := [.int (lg_cmp ((f' 0)) (z.toInt64))]) (w' := WLW S' f' w') [] 3 (by with_unfolding_all rfl) trivial ?_
  refine LV_br oL_1 C rfl rfl (fun _ => ?_) (fun h => absurd (by rw [hf0 hk0]; exact lg_cmp_self _) h)
  refine LV_run oL_1 C (cs := []) (pc' := 1647) (L' := [some (.ref 999), some (.ref 0), some (.ref 141), some (.ref 140), some (.int i), some (.int (nI k)), some (.int z), none, none]) (st' := []) (w' := WLW S' f' w') [] 1 (by with_unfolding_all rfl) trivial ?_
  exact LV_weak L0_w (kk S' w' f' hr)
set_option maxRecDepth 20000 in
theorem c_L2 {F : Nat} (hF : 6400 < F) (C : LC p l s m b meth c D ct ad0 Ln xs) {cc : Nat} (hc : cc < 512) {S : S_X6} {w : S_X5} (q : REL cc S w) (f : Nat → Int64) {i : Int32} (h1 : vp_in (i + 1) Ln) (h2 : vp_in (i + 2) Ln) (h3 : vp_in (i + 3) Ln) {kc ks : Nat} (hmc : kc + 1 ≤ 601024 ∧ ks + 6 ≤ 7293034) (kk : ∀ S' w' f', REL (cc + 1) S' w' → LV p l e s m b below meth c D ct ad0 1647 (L0 i) [] (WLW S' f' w') (kc + 1) (ks + 6)) : LV p l e s m b below meth c D ct ad0 292 (L0 i) [] (WLW S f w) kc ks := by
  obtain ⟨k, z, S', w', f', hb, hk, k3, hr, hf0, hM⟩ := st_put hF hc q f (xs (i + 1).toNatClampNeg) (xs (i + 2).toNatClampNeg) (xs (i + 3).toNatClampNeg)
  refine LV_run oL_2 C (cs := []) (pc' := 298) (L' := [some (.ref 999), some (.ref 0), some (.ref 141), some (.ref 140), some (.int i), none, none, none, none]) (st' := [.int (i + 1), .ref 999, .ref 0]) (w' := WLW S f w) [] 5 (by with_unfolding_all rfl) trivial ?_
  refine LV_sld oL_2 C rfl h1 ?_
  refine LV_run oL_2 C (cs := []) (pc' := 304) (L' := [some (.ref 999), some (.ref 0), some (.ref 141), some (.ref 140), some (.int i), none, none, none, none]) (st' := [.int (i + 2), .ref 999, .int (xs (i + 1).toNatClampNeg), .ref 0]) (w' := WLW S f w) [] 4 (by with_unfolding_all rfl) trivial ?_
  refine LV_sld oL_2 C rfl h2 ?_
  refine LV_run oL_2 C (cs := []) (pc' := 310) (L' := [some (.ref 999), some (.ref 0), some (.ref 141), some (.ref 140), some (.int i), none, none, none, none]) (st' := [.int (i + 3), .ref 999, .int (xs (i + 2).toNatClampNeg), .int (xs (i + 1).toNatClampNeg), .ref 0]) (w' := WLW S f w) [] 4 (by with_unfolding_all rfl) trivial ?_
  refine LV_sld oL_2 C rfl h3 ?_
  refine LV_run oL_2 C (cs := []) (pc' := 312) (L' := [some (.ref 999), some (.ref 0), some (.ref 141), some (.ref 140), some (.int i), none, none, none, none]) (st' := [.ref 140, .int (xs (i + 3).toNatClampNeg), .int (xs (i + 2).toNatClampNeg), .int (xs (i + 1).toNatClampNeg), .ref 0]) (w' := WLW S f w) [] 1 (by with_unfolding_all rfl) trivial ?_
  refine LV_wrap oL_2 C hM cw_L_put w_lw_105 rfl rfl rfl rfl ⟨rfl, rfl⟩ hmc ?_
  refine LV_run oL_2 C (cs := []) (pc' := 323) (L' := [some (.ref 999), some (.ref 0), some (.ref 141), some (.ref 140), some (.int i), some (.int (nI k)), none, none, none]) (st' := [.int (i + 1), .ref 999, .ref 141]) (w' := WLW S' f' w) [] 6 (by with_unfolding_all rfl) trivial ?_
  refine LV_sld oL_2 C rfl h1 ?_
  refine LV_run oL_2 C (cs := []) (pc' := 329) (L' := [some (.ref 999), some (.ref 0), some (.ref 141), some (.ref 140), some (.int i), some (.int (nI k)), none, none, none]) (st' := [.int (i + 2), .ref 999, .int (xs (i + 1).toNatClampNeg), .ref 141]) (w' := WLW S' f' w) [] 4 (by with_unfolding_all rfl) trivial ?_
  refine LV_sld oL_2 C rfl h2 ?_
  refine LV_run oL_2 C (cs := []) (pc' := 335) (L' := [some (.ref 999), some (.ref 0), some (.ref 141), some (.ref 140), some (.int i), some (.int (nI k)), none, none, none]) (st' := [.int (i + 3), .ref 999, .int (xs (i + 2).toNatClampNeg), .int (xs (i + 1).toNatClampNeg), .ref 141]) (w' := WLW S' f' w) [] 4 (by with_unfolding_all rfl) trivial ?_
  refine LV_sld oL_2 C rfl h3 ?_
  refine LV_model oL_2 C (z := .int z) (w' := w') (rest := []) (t_X5_put F w (xs (i + 1).toNatClampNeg) (xs (i + 2).toNatClampNeg) (xs (i + 3).toNatClampNeg) (z, w') hb) cv_X5_put ml_L_law_108 rfl rfl rfl rfl ⟨rfl, rfl⟩ ⟨rfl, rfl⟩ hmc rfl ?_
  refine LV_run oL_2 C (cs := []) (pc' := 342) (L' := [some (.ref 999), some (.ref 0), some (.ref 141), some (.ref 140), some (.int i), some (.int (nI k)), some (.int z), none, none]) (st' := [.ref 141]) (w' := WLW S' f' w') [] 2 (by with_unfolding_all rfl) trivial ?_
  refine LV_model oL_2 C (z := .int (nI k)) (w' := w') (rest := []) (t_X5_thrown F w' (nI k) (by rw [← hk]; rfl)) cv_X5_thrown ml_L_law_98 rfl rfl rfl rfl ⟨rfl, rfl⟩ ⟨rfl, rfl⟩ hmc rfl ?_
  refine LV_run oL_2 C (cs := []) (pc' := 347) (L' := [some (.ref 999), some (.ref 0), some (.ref 141), some (.ref 140), some (.int i), some (.int (nI k)), some (.int z), none, none]) (st' := [.int (nI k), .int (nI k)]) (w' := WLW S' f' w') [] 1 (by with_unfolding_all rfl) trivial ?_
  refine LV_br oL_2 C rfl rfl (fun _ => ?_) (fun h => absurd rfl h)
  refine LV_run oL_2 C (cs := []) (pc' := 354) (L' := [some (.ref 999), some (.ref 0), some (.ref 141), some (.ref 140), some (.int i), some (.int (nI k)), some (.int z), none, none]) (st' := [.int (nI k)]) (w' := WLW S' f' w') [] 1 (by with_unfolding_all rfl) trivial ?_
  refine LV_br oL_2 C rfl rfl (fun _ => ?_) (fun h => ?_)
  · refine LV_run oL_2 C (cs := []) (pc' := 1647) (L' := [some (.ref 999), some (.ref 0), some (.ref 141), some (.ref 140), some (.int i), some (.int (nI k)), some (.int z), none, none]) (st' := []) (w' := WLW S' f' w') [] 1 (by with_unfolding_all rfl) trivial ?_
    exact LV_weak L0_w (kk S' w' f' hr)
  have hk0 : k = 0 := (nI_eq (by omega) (by omega)).mp (h.trans nI_0.symm)
  refine LV_run oL_2 C (cs := []) (pc' := 359) (L' := [some (.ref 999), some (.ref 0), some (.ref 141), some (.ref 140), some (.int i), some (.int (nI k)), some (.int z), none, none]) (st' := [.int 0, .ref 140]) (w' := WLW S' f' w') [] 2 (by with_unfolding_all rfl) trivial ?_
  refine LV_lald oL_2 C rfl ?_
  refine LV_run oL_2 C (cs := []) (pc' := 364) (L' := [some (.ref 999), some (.ref 0), some (.ref 141), some (.ref 140), some (.int i), some (.int (nI k)), some (.int z), none, none]) (st' := [.int (lg_cmp ((f' 0)) (z.toInt64))]) (w' := WLW S' f' w') [] 3 (by with_unfolding_all rfl) trivial ?_
  refine LV_br oL_2 C rfl rfl (fun _ => ?_) (fun h => absurd (by rw [hf0 hk0]; exact lg_cmp_self _) h)
  refine LV_run oL_2 C (cs := []) (pc' := 1647) (L' := [some (.ref 999), some (.ref 0), some (.ref 141), some (.ref 140), some (.int i), some (.int (nI k)), some (.int z), none, none]) (st' := []) (w' := WLW S' f' w') [] 1 (by with_unfolding_all rfl) trivial ?_
  exact LV_weak L0_w (kk S' w' f' hr)
set_option maxRecDepth 20000 in
theorem c_L3 {F : Nat} (hF : 6400 < F) (C : LC p l s m b meth c D ct ad0 Ln xs) {cc : Nat} (hc : cc < 512) {S : S_X6} {w : S_X5} (q : REL cc S w) (f : Nat → Int64) {i : Int32} (h1 : vp_in (i + 1) Ln) (h2 : vp_in (i + 2) Ln) (h3 : vp_in (i + 3) Ln) {kc ks : Nat} (hmc : kc + 1 ≤ 601024 ∧ ks + 6 ≤ 7293034) (kk : ∀ S' w' f', REL (cc + 1) S' w' → LV p l e s m b below meth c D ct ad0 1647 (L0 i) [] (WLW S' f' w') (kc + 1) (ks + 6)) : LV p l e s m b below meth c D ct ad0 372 (L0 i) [] (WLW S f w) kc ks := by
  obtain ⟨k, z, S', w', f', hb, hk, k3, hr, hf0, hM⟩ := st_slander hF hc q f (xs (i + 1).toNatClampNeg) (xs (i + 2).toNatClampNeg)
  refine LV_run oL_3 C (cs := []) (pc' := 378) (L' := [some (.ref 999), some (.ref 0), some (.ref 141), some (.ref 140), some (.int i), none, none, none, none]) (st' := [.int (i + 1), .ref 999, .ref 0]) (w' := WLW S f w) [] 5 (by with_unfolding_all rfl) trivial ?_
  refine LV_sld oL_3 C rfl h1 ?_
  refine LV_run oL_3 C (cs := []) (pc' := 384) (L' := [some (.ref 999), some (.ref 0), some (.ref 141), some (.ref 140), some (.int i), none, none, none, none]) (st' := [.int (i + 2), .ref 999, .int (xs (i + 1).toNatClampNeg), .ref 0]) (w' := WLW S f w) [] 4 (by with_unfolding_all rfl) trivial ?_
  refine LV_sld oL_3 C rfl h2 ?_
  refine LV_run oL_3 C (cs := []) (pc' := 386) (L' := [some (.ref 999), some (.ref 0), some (.ref 141), some (.ref 140), some (.int i), none, none, none, none]) (st' := [.ref 140, .int (xs (i + 2).toNatClampNeg), .int (xs (i + 1).toNatClampNeg), .ref 0]) (w' := WLW S f w) [] 1 (by with_unfolding_all rfl) trivial ?_
  refine LV_wrap oL_3 C hM cw_L_slander w_lw_109 rfl rfl rfl rfl ⟨rfl, rfl⟩ hmc ?_
  refine LV_run oL_3 C (cs := []) (pc' := 397) (L' := [some (.ref 999), some (.ref 0), some (.ref 141), some (.ref 140), some (.int i), some (.int (nI k)), none, none, none]) (st' := [.int (i + 1), .ref 999, .ref 141]) (w' := WLW S' f' w) [] 6 (by with_unfolding_all rfl) trivial ?_
  refine LV_sld oL_3 C rfl h1 ?_
  refine LV_run oL_3 C (cs := []) (pc' := 403) (L' := [some (.ref 999), some (.ref 0), some (.ref 141), some (.ref 140), some (.int i), some (.int (nI k)), none, none, none]) (st' := [.int (i + 2), .ref 999, .int (xs (i + 1).toNatClampNeg), .ref 141]) (w' := WLW S' f' w) [] 4 (by with_unfolding_all rfl) trivial ?_
  refine LV_sld oL_3 C rfl h2 ?_
  refine LV_model oL_3 C (z := .int z) (w' := w') (rest := []) (t_X5_slander F w (xs (i + 1).toNatClampNeg) (xs (i + 2).toNatClampNeg) (z, w') hb) cv_X5_slander ml_L_law_111 rfl rfl rfl rfl ⟨rfl, rfl⟩ ⟨rfl, rfl⟩ hmc rfl ?_
  refine LV_run oL_3 C (cs := []) (pc' := 410) (L' := [some (.ref 999), some (.ref 0), some (.ref 141), some (.ref 140), some (.int i), some (.int (nI k)), some (.int z), none, none]) (st' := [.ref 141]) (w' := WLW S' f' w') [] 2 (by with_unfolding_all rfl) trivial ?_
  refine LV_model oL_3 C (z := .int (nI k)) (w' := w') (rest := []) (t_X5_thrown F w' (nI k) (by rw [← hk]; rfl)) cv_X5_thrown ml_L_law_98 rfl rfl rfl rfl ⟨rfl, rfl⟩ ⟨rfl, rfl⟩ hmc rfl ?_
  refine LV_run oL_3 C (cs := []) (pc' := 415) (L' := [some (.ref 999), some (.ref 0), some (.ref 141), some (.ref 140), some (.int i), some (.int (nI k)), some (.int z), none, none]) (st' := [.int (nI k), .int (nI k)]) (w' := WLW S' f' w') [] 1 (by with_unfolding_all rfl) trivial ?_
  refine LV_br oL_3 C rfl rfl (fun _ => ?_) (fun h => absurd rfl h)
  refine LV_run oL_3 C (cs := []) (pc' := 422) (L' := [some (.ref 999), some (.ref 0), some (.ref 141), some (.ref 140), some (.int i), some (.int (nI k)), some (.int z), none, none]) (st' := [.int (nI k)]) (w' := WLW S' f' w') [] 1 (by with_unfolding_all rfl) trivial ?_
  refine LV_br oL_3 C rfl rfl (fun _ => ?_) (fun h => ?_)
  · refine LV_run oL_3 C (cs := []) (pc' := 1647) (L' := [some (.ref 999), some (.ref 0), some (.ref 141), some (.ref 140), some (.int i), some (.int (nI k)), some (.int z), none, none]) (st' := []) (w' := WLW S' f' w') [] 1 (by with_unfolding_all rfl) trivial ?_
    exact LV_weak L0_w (kk S' w' f' hr)
  have hk0 : k = 0 := (nI_eq (by omega) (by omega)).mp (h.trans nI_0.symm)
  refine LV_run oL_3 C (cs := []) (pc' := 427) (L' := [some (.ref 999), some (.ref 0), some (.ref 141), some (.ref 140), some (.int i), some (.int (nI k)), some (.int z), none, none]) (st' := [.int 0, .ref 140]) (w' := WLW S' f' w') [] 2 (by with_unfolding_all rfl) trivial ?_
  refine LV_lald oL_3 C rfl ?_
  refine LV_run oL_3 C (cs := []) (pc' := 432) (L' := [some (.ref 999), some (.ref 0), some (.ref 141), some (.ref 140), some (.int i), some (.int (nI k)), some (.int z), none, none]) (st' := [.int (lg_cmp ((f' 0)) (z.toInt64))]) (w' := WLW S' f' w') [] 3 (by with_unfolding_all rfl) trivial ?_
  refine LV_br oL_3 C rfl rfl (fun _ => ?_) (fun h => absurd (by rw [hf0 hk0]; exact lg_cmp_self _) h)
  refine LV_run oL_3 C (cs := []) (pc' := 1647) (L' := [some (.ref 999), some (.ref 0), some (.ref 141), some (.ref 140), some (.int i), some (.int (nI k)), some (.int z), none, none]) (st' := []) (w' := WLW S' f' w') [] 1 (by with_unfolding_all rfl) trivial ?_
  exact LV_weak L0_w (kk S' w' f' hr)
set_option maxRecDepth 20000 in
theorem c_L4 {F : Nat} (hF : 6400 < F) (C : LC p l s m b meth c D ct ad0 Ln xs) {cc : Nat} (hc : cc < 512) {S : S_X6} {w : S_X5} (q : REL cc S w) (f : Nat → Int64) {i : Int32} (h1 : vp_in (i + 1) Ln) (h2 : vp_in (i + 2) Ln) (h3 : vp_in (i + 3) Ln) {kc ks : Nat} (hmc : kc + 1 ≤ 601024 ∧ ks + 6 ≤ 7293034) (kk : ∀ S' w' f', REL (cc + 1) S' w' → LV p l e s m b below meth c D ct ad0 1647 (L0 i) [] (WLW S' f' w') (kc + 1) (ks + 6)) : LV p l e s m b below meth c D ct ad0 440 (L0 i) [] (WLW S f w) kc ks := by
  obtain ⟨k, z, S', w', f', hb, hk, k3, hr, hf0, hM⟩ := st_suspect hF hc q f (xs (i + 1).toNatClampNeg)
  refine LV_run oL_4 C (cs := []) (pc' := 446) (L' := [some (.ref 999), some (.ref 0), some (.ref 141), some (.ref 140), some (.int i), none, none, none, none]) (st' := [.int (i + 1), .ref 999, .ref 0]) (w' := WLW S f w) [] 5 (by with_unfolding_all rfl) trivial ?_
  refine LV_sld oL_4 C rfl h1 ?_
  refine LV_run oL_4 C (cs := []) (pc' := 448) (L' := [some (.ref 999), some (.ref 0), some (.ref 141), some (.ref 140), some (.int i), none, none, none, none]) (st' := [.ref 140, .int (xs (i + 1).toNatClampNeg), .ref 0]) (w' := WLW S f w) [] 1 (by with_unfolding_all rfl) trivial ?_
  refine LV_wrap oL_4 C hM cw_L_suspect w_lw_112 rfl rfl rfl rfl ⟨rfl, rfl⟩ hmc ?_
  refine LV_run oL_4 C (cs := []) (pc' := 459) (L' := [some (.ref 999), some (.ref 0), some (.ref 141), some (.ref 140), some (.int i), some (.int (nI k)), none, none, none]) (st' := [.int (i + 1), .ref 999, .ref 141]) (w' := WLW S' f' w) [] 6 (by with_unfolding_all rfl) trivial ?_
  refine LV_sld oL_4 C rfl h1 ?_
  refine LV_model oL_4 C (z := .int z) (w' := w') (rest := []) (t_X5_suspect F w (xs (i + 1).toNatClampNeg) (z, w') hb) cv_X5_suspect ml_L_law_114 rfl rfl rfl rfl ⟨rfl, rfl⟩ ⟨rfl, rfl⟩ hmc rfl ?_
  refine LV_run oL_4 C (cs := []) (pc' := 466) (L' := [some (.ref 999), some (.ref 0), some (.ref 141), some (.ref 140), some (.int i), some (.int (nI k)), some (.int z), none, none]) (st' := [.ref 141]) (w' := WLW S' f' w') [] 2 (by with_unfolding_all rfl) trivial ?_
  refine LV_model oL_4 C (z := .int (nI k)) (w' := w') (rest := []) (t_X5_thrown F w' (nI k) (by rw [← hk]; rfl)) cv_X5_thrown ml_L_law_98 rfl rfl rfl rfl ⟨rfl, rfl⟩ ⟨rfl, rfl⟩ hmc rfl ?_
  refine LV_run oL_4 C (cs := []) (pc' := 471) (L' := [some (.ref 999), some (.ref 0), some (.ref 141), some (.ref 140), some (.int i), some (.int (nI k)), some (.int z), none, none]) (st' := [.int (nI k), .int (nI k)]) (w' := WLW S' f' w') [] 1 (by with_unfolding_all rfl) trivial ?_
  refine LV_br oL_4 C rfl rfl (fun _ => ?_) (fun h => absurd rfl h)
  refine LV_run oL_4 C (cs := []) (pc' := 478) (L' := [some (.ref 999), some (.ref 0), some (.ref 141), some (.ref 140), some (.int i), some (.int (nI k)), some (.int z), none, none]) (st' := [.int (nI k)]) (w' := WLW S' f' w') [] 1 (by with_unfolding_all rfl) trivial ?_
  refine LV_br oL_4 C rfl rfl (fun _ => ?_) (fun h => ?_)
  · refine LV_run oL_4 C (cs := []) (pc' := 1647) (L' := [some (.ref 999), some (.ref 0), some (.ref 141), some (.ref 140), some (.int i), some (.int (nI k)), some (.int z), none, none]) (st' := []) (w' := WLW S' f' w') [] 1 (by with_unfolding_all rfl) trivial ?_
    exact LV_weak L0_w (kk S' w' f' hr)
  have hk0 : k = 0 := (nI_eq (by omega) (by omega)).mp (h.trans nI_0.symm)
  refine LV_run oL_4 C (cs := []) (pc' := 483) (L' := [some (.ref 999), some (.ref 0), some (.ref 141), some (.ref 140), some (.int i), some (.int (nI k)), some (.int z), none, none]) (st' := [.int 0, .ref 140]) (w' := WLW S' f' w') [] 2 (by with_unfolding_all rfl) trivial ?_
  refine LV_lald oL_4 C rfl ?_
  refine LV_run oL_4 C (cs := []) (pc' := 488) (L' := [some (.ref 999), some (.ref 0), some (.ref 141), some (.ref 140), some (.int i), some (.int (nI k)), some (.int z), none, none]) (st' := [.int (lg_cmp ((f' 0)) (z.toInt64))]) (w' := WLW S' f' w') [] 3 (by with_unfolding_all rfl) trivial ?_
  refine LV_br oL_4 C rfl rfl (fun _ => ?_) (fun h => absurd (by rw [hf0 hk0]; exact lg_cmp_self _) h)
  refine LV_run oL_4 C (cs := []) (pc' := 1647) (L' := [some (.ref 999), some (.ref 0), some (.ref 141), some (.ref 140), some (.int i), some (.int (nI k)), some (.int z), none, none]) (st' := []) (w' := WLW S' f' w') [] 1 (by with_unfolding_all rfl) trivial ?_
  exact LV_weak L0_w (kk S' w' f' hr)
set_option maxRecDepth 20000 in
theorem c_L5 {F : Nat} (hF : 6400 < F) (C : LC p l s m b meth c D ct ad0 Ln xs) {cc : Nat} (hc : cc < 512) {S : S_X6} {w : S_X5} (q : REL cc S w) (f : Nat → Int64) {i : Int32} (h1 : vp_in (i + 1) Ln) (h2 : vp_in (i + 2) Ln) (h3 : vp_in (i + 3) Ln) {kc ks : Nat} (hmc : kc + 1 ≤ 601024 ∧ ks + 6 ≤ 7293034) (kk : ∀ S' w' f', REL (cc + 1) S' w' → LV p l e s m b below meth c D ct ad0 1647 (L0 i) [] (WLW S' f' w') (kc + 1) (ks + 6)) : LV p l e s m b below meth c D ct ad0 496 (L0 i) [] (WLW S f w) kc ks := by
  obtain ⟨k, z, S', w', f', hb, hk, k3, hr, hf0, hM⟩ := st_set hF hc q f (xs (i + 1).toNatClampNeg) (xs (i + 2).toNatClampNeg)
  refine LV_run oL_5 C (cs := []) (pc' := 502) (L' := [some (.ref 999), some (.ref 0), some (.ref 141), some (.ref 140), some (.int i), none, none, none, none]) (st' := [.int (i + 1), .ref 999, .ref 0]) (w' := WLW S f w) [] 5 (by with_unfolding_all rfl) trivial ?_
  refine LV_sld oL_5 C rfl h1 ?_
  refine LV_run oL_5 C (cs := []) (pc' := 508) (L' := [some (.ref 999), some (.ref 0), some (.ref 141), some (.ref 140), some (.int i), none, none, none, none]) (st' := [.int (i + 2), .ref 999, .int (xs (i + 1).toNatClampNeg), .ref 0]) (w' := WLW S f w) [] 4 (by with_unfolding_all rfl) trivial ?_
  refine LV_sld oL_5 C rfl h2 ?_
  refine LV_run oL_5 C (cs := []) (pc' := 510) (L' := [some (.ref 999), some (.ref 0), some (.ref 141), some (.ref 140), some (.int i), none, none, none, none]) (st' := [.ref 140, .int (xs (i + 2).toNatClampNeg), .int (xs (i + 1).toNatClampNeg), .ref 0]) (w' := WLW S f w) [] 1 (by with_unfolding_all rfl) trivial ?_
  refine LV_wrap oL_5 C hM cw_L_set w_lw_115 rfl rfl rfl rfl ⟨rfl, rfl⟩ hmc ?_
  refine LV_run oL_5 C (cs := []) (pc' := 521) (L' := [some (.ref 999), some (.ref 0), some (.ref 141), some (.ref 140), some (.int i), some (.int (nI k)), none, none, none]) (st' := [.int (i + 1), .ref 999, .ref 141]) (w' := WLW S' f' w) [] 6 (by with_unfolding_all rfl) trivial ?_
  refine LV_sld oL_5 C rfl h1 ?_
  refine LV_run oL_5 C (cs := []) (pc' := 527) (L' := [some (.ref 999), some (.ref 0), some (.ref 141), some (.ref 140), some (.int i), some (.int (nI k)), none, none, none]) (st' := [.int (i + 2), .ref 999, .int (xs (i + 1).toNatClampNeg), .ref 141]) (w' := WLW S' f' w) [] 4 (by with_unfolding_all rfl) trivial ?_
  refine LV_sld oL_5 C rfl h2 ?_
  refine LV_model oL_5 C (z := .int z) (w' := w') (rest := []) (t_X5_set F w (xs (i + 1).toNatClampNeg) (xs (i + 2).toNatClampNeg) (z, w') hb) cv_X5_set ml_L_law_117 rfl rfl rfl rfl ⟨rfl, rfl⟩ ⟨rfl, rfl⟩ hmc rfl ?_
  refine LV_run oL_5 C (cs := []) (pc' := 534) (L' := [some (.ref 999), some (.ref 0), some (.ref 141), some (.ref 140), some (.int i), some (.int (nI k)), some (.int z), none, none]) (st' := [.ref 141]) (w' := WLW S' f' w') [] 2 (by with_unfolding_all rfl) trivial ?_
  refine LV_model oL_5 C (z := .int (nI k)) (w' := w') (rest := []) (t_X5_thrown F w' (nI k) (by rw [← hk]; rfl)) cv_X5_thrown ml_L_law_98 rfl rfl rfl rfl ⟨rfl, rfl⟩ ⟨rfl, rfl⟩ hmc rfl ?_
  refine LV_run oL_5 C (cs := []) (pc' := 539) (L' := [some (.ref 999), some (.ref 0), some (.ref 141), some (.ref 140), some (.int i), some (.int (nI k)), some (.int z), none, none]) (st' := [.int (nI k), .int (nI k)]) (w' := WLW S' f' w') [] 1 (by with_unfolding_all rfl) trivial ?_
  refine LV_br oL_5 C rfl rfl (fun _ => ?_) (fun h => absurd rfl h)
  refine LV_run oL_5 C (cs := []) (pc' := 546) (L' := [some (.ref 999), some (.ref 0), some (.ref 141), some (.ref 140), some (.int i), some (.int (nI k)), some (.int z), none, none]) (st' := [.int (nI k)]) (w' := WLW S' f' w') [] 1 (by with_unfolding_all rfl) trivial ?_
  refine LV_br oL_5 C rfl rfl (fun _ => ?_) (fun h => ?_)
  · refine LV_run oL_5 C (cs := []) (pc' := 1647) (L' := [some (.ref 999), some (.ref 0), some (.ref 141), some (.ref 140), some (.int i), some (.int (nI k)), some (.int z), none, none]) (st' := []) (w' := WLW S' f' w') [] 1 (by with_unfolding_all rfl) trivial ?_
    exact LV_weak L0_w (kk S' w' f' hr)
  have hk0 : k = 0 := (nI_eq (by omega) (by omega)).mp (h.trans nI_0.symm)
  refine LV_run oL_5 C (cs := []) (pc' := 551) (L' := [some (.ref 999), some (.ref 0), some (.ref 141), some (.ref 140), some (.int i), some (.int (nI k)), some (.int z), none, none]) (st' := [.int 0, .ref 140]) (w' := WLW S' f' w') [] 2 (by with_unfolding_all rfl) trivial ?_
  refine LV_lald oL_5 C rfl ?_
  refine LV_run oL_5 C (cs := []) (pc' := 556) (L' := [some (.ref 999), some (.ref 0), some (.ref 141), some (.ref 140), some (.int i), some (.int (nI k)), some (.int z), none, none]) (st' := [.int (lg_cmp ((f' 0)) (z.toInt64))]) (w' := WLW S' f' w') [] 3 (by with_unfolding_all rfl) trivial ?_
  refine LV_br oL_5 C rfl rfl (fun _ => ?_) (fun h => absurd (by rw [hf0 hk0]; exact lg_cmp_self _) h)
  refine LV_run oL_5 C (cs := []) (pc' := 1647) (L' := [some (.ref 999), some (.ref 0), some (.ref 141), some (.ref 140), some (.int i), some (.int (nI k)), some (.int z), none, none]) (st' := []) (w' := WLW S' f' w') [] 1 (by with_unfolding_all rfl) trivial ?_
  exact LV_weak L0_w (kk S' w' f' hr)
set_option maxRecDepth 20000 in
theorem c_L6 {F : Nat} (hF : 6400 < F) (C : LC p l s m b meth c D ct ad0 Ln xs) {cc : Nat} (hc : cc < 512) {S : S_X6} {w : S_X5} (q : REL cc S w) (f : Nat → Int64) {i : Int32} (h1 : vp_in (i + 1) Ln) (h2 : vp_in (i + 2) Ln) (h3 : vp_in (i + 3) Ln) {kc ks : Nat} (hmc : kc + 1 ≤ 601024 ∧ ks + 6 ≤ 7293034) (kk : ∀ S' w' f', REL (cc + 1) S' w' → LV p l e s m b below meth c D ct ad0 1647 (L0 i) [] (WLW S' f' w') (kc + 1) (ks + 6)) : LV p l e s m b below meth c D ct ad0 564 (L0 i) [] (WLW S f w) kc ks := by
  obtain ⟨k, z, S', w', f', hb, hk, k3, hr, hf0, hM⟩ := st_pass hF hc q f (xs (i + 1).toNatClampNeg)
  refine LV_run oL_6 C (cs := []) (pc' := 570) (L' := [some (.ref 999), some (.ref 0), some (.ref 141), some (.ref 140), some (.int i), none, none, none, none]) (st' := [.int (i + 1), .ref 999, .ref 0]) (w' := WLW S f w) [] 5 (by with_unfolding_all rfl) trivial ?_
  refine LV_sld oL_6 C rfl h1 ?_
  refine LV_run oL_6 C (cs := []) (pc' := 572) (L' := [some (.ref 999), some (.ref 0), some (.ref 141), some (.ref 140), some (.int i), none, none, none, none]) (st' := [.ref 140, .int (xs (i + 1).toNatClampNeg), .ref 0]) (w' := WLW S f w) [] 1 (by with_unfolding_all rfl) trivial ?_
  refine LV_wrap oL_6 C hM cw_L_pass w_lw_118 rfl rfl rfl rfl ⟨rfl, rfl⟩ hmc ?_
  refine LV_run oL_6 C (cs := []) (pc' := 583) (L' := [some (.ref 999), some (.ref 0), some (.ref 141), some (.ref 140), some (.int i), some (.int (nI k)), none, none, none]) (st' := [.int (i + 1), .ref 999, .ref 141]) (w' := WLW S' f' w) [] 6 (by with_unfolding_all rfl) trivial ?_
  refine LV_sld oL_6 C rfl h1 ?_
  refine LV_model oL_6 C (z := .int z) (w' := w') (rest := []) (t_X5_pass F w (xs (i + 1).toNatClampNeg) (z, w') hb) cv_X5_pass ml_L_law_120 rfl rfl rfl rfl ⟨rfl, rfl⟩ ⟨rfl, rfl⟩ hmc rfl ?_
  refine LV_run oL_6 C (cs := []) (pc' := 590) (L' := [some (.ref 999), some (.ref 0), some (.ref 141), some (.ref 140), some (.int i), some (.int (nI k)), some (.int z), none, none]) (st' := [.ref 141]) (w' := WLW S' f' w') [] 2 (by with_unfolding_all rfl) trivial ?_
  refine LV_model oL_6 C (z := .int (nI k)) (w' := w') (rest := []) (t_X5_thrown F w' (nI k) (by rw [← hk]; rfl)) cv_X5_thrown ml_L_law_98 rfl rfl rfl rfl ⟨rfl, rfl⟩ ⟨rfl, rfl⟩ hmc rfl ?_
  refine LV_run oL_6 C (cs := []) (pc' := 595) (L' := [some (.ref 999), some (.ref 0), some (.ref 141), some (.ref 140), some (.int i), some (.int (nI k)), some (.int z), none, none]) (st' := [.int (nI k), .int (nI k)]) (w' := WLW S' f' w') [] 1 (by with_unfolding_all rfl) trivial ?_
  refine LV_br oL_6 C rfl rfl (fun _ => ?_) (fun h => absurd rfl h)
  refine LV_run oL_6 C (cs := []) (pc' := 602) (L' := [some (.ref 999), some (.ref 0), some (.ref 141), some (.ref 140), some (.int i), some (.int (nI k)), some (.int z), none, none]) (st' := [.int (nI k)]) (w' := WLW S' f' w') [] 1 (by with_unfolding_all rfl) trivial ?_
  refine LV_br oL_6 C rfl rfl (fun _ => ?_) (fun h => ?_)
  · refine LV_run oL_6 C (cs := []) (pc' := 1647) (L' := [some (.ref 999), some (.ref 0), some (.ref 141), some (.ref 140), some (.int i), some (.int (nI k)), some (.int z), none, none]) (st' := []) (w' := WLW S' f' w') [] 1 (by with_unfolding_all rfl) trivial ?_
    exact LV_weak L0_w (kk S' w' f' hr)
  have hk0 : k = 0 := (nI_eq (by omega) (by omega)).mp (h.trans nI_0.symm)
  refine LV_run oL_6 C (cs := []) (pc' := 607) (L' := [some (.ref 999), some (.ref 0), some (.ref 141), some (.ref 140), some (.int i), some (.int (nI k)), some (.int z), none, none]) (st' := [.int 0, .ref 140]) (w' := WLW S' f' w') [] 2 (by with_unfolding_all rfl) trivial ?_
  refine LV_lald oL_6 C rfl ?_
  refine LV_run oL_6 C (cs := []) (pc' := 612) (L' := [some (.ref 999), some (.ref 0), some (.ref 141), some (.ref 140), some (.int i), some (.int (nI k)), some (.int z), none, none]) (st' := [.int (lg_cmp ((f' 0)) (z.toInt64))]) (w' := WLW S' f' w') [] 3 (by with_unfolding_all rfl) trivial ?_
  refine LV_br oL_6 C rfl rfl (fun _ => ?_) (fun h => absurd (by rw [hf0 hk0]; exact lg_cmp_self _) h)
  refine LV_run oL_6 C (cs := []) (pc' := 1647) (L' := [some (.ref 999), some (.ref 0), some (.ref 141), some (.ref 140), some (.int i), some (.int (nI k)), some (.int z), none, none]) (st' := []) (w' := WLW S' f' w') [] 1 (by with_unfolding_all rfl) trivial ?_
  exact LV_weak L0_w (kk S' w' f' hr)
set_option maxRecDepth 20000 in
theorem c_L7 {F : Nat} (hF : 6400 < F) (C : LC p l s m b meth c D ct ad0 Ln xs) {cc : Nat} (hc : cc < 512) {S : S_X6} {w : S_X5} (q : REL cc S w) (f : Nat → Int64) {i : Int32} (h1 : vp_in (i + 1) Ln) (h2 : vp_in (i + 2) Ln) (h3 : vp_in (i + 3) Ln) {kc ks : Nat} (hmc : kc + 1 ≤ 601024 ∧ ks + 6 ≤ 7293034) (kk : ∀ S' w' f', REL (cc + 1) S' w' → LV p l e s m b below meth c D ct ad0 1647 (L0 i) [] (WLW S' f' w') (kc + 1) (ks + 6)) : LV p l e s m b below meth c D ct ad0 620 (L0 i) [] (WLW S f w) kc ks := by
  obtain ⟨z, w', hb, hor⟩ := p_trial hF hc q
  obtain ⟨hk, S', ha, hr⟩ := hor.resolve_right (fun ⟨_, _, _, _, h, _⟩ => by cases h)
  refine LV_run oL_7 C (cs := []) (pc' := 621) (L' := [some (.ref 999), some (.ref 0), some (.ref 141), some (.ref 140), some (.int i), none, none, none, none]) (st' := [.ref 0]) (w' := WLW S f w) [] 1 (by with_unfolding_all rfl) trivial ?_
  refine LV_x6 oL_7 C (z := .int z) (S' := S') (t_X4_trial_6 F S (z, S') ha) cv_X4_trial ml_L_law_121 rfl rfl ⟨rfl, rfl⟩ ⟨rfl, rfl⟩ ⟨Nat.le_of_succ_le hmc.1, Nat.le_trans (Nat.le_add_right ks 6) hmc.2⟩ ?_
  refine LV_run oL_7 C (cs := []) (pc' := 625) (L' := [some (.ref 999), some (.ref 0), some (.ref 141), some (.ref 140), some (.int i), none, none, none, none]) (st' := [.ref 141, .int z]) (w' := WLW S' f w) [] 1 (by with_unfolding_all rfl) trivial ?_
  refine LV_model oL_7 C (z := .int z) (w' := w') (rest := [.int z]) (t_X5_trial F w (z, w') hb) cv_X5_trial ml_L_law_124 rfl rfl rfl rfl ⟨rfl, rfl⟩ ⟨rfl, rfl⟩ ⟨Nat.le_of_succ_le hmc.1, Nat.le_trans (Nat.le_add_right ks 6) hmc.2⟩ rfl ?_
  refine LV_br oL_7 C rfl rfl (fun _ => ?_) (fun h => absurd rfl h)
  exact LV_weak L0_w (LV_up (Nat.le_add_right kc 1) (Nat.le_add_right ks 6) (kk S' w' f hr))
set_option maxRecDepth 20000 in
theorem c_L8 {F : Nat} (hF : 6400 < F) (C : LC p l s m b meth c D ct ad0 Ln xs) {cc : Nat} (hc : cc < 512) {S : S_X6} {w : S_X5} (q : REL cc S w) (f : Nat → Int64) {i : Int32} (h1 : vp_in (i + 1) Ln) (h2 : vp_in (i + 2) Ln) (h3 : vp_in (i + 3) Ln) {kc ks : Nat} (hmc : kc + 1 ≤ 601024 ∧ ks + 6 ≤ 7293034) (kk : ∀ S' w' f', REL (cc + 1) S' w' → LV p l e s m b below meth c D ct ad0 1647 (L0 i) [] (WLW S' f' w') (kc + 1) (ks + 6)) : LV p l e s m b below meth c D ct ad0 633 (L0 i) [] (WLW S f w) kc ks := by
  obtain ⟨z, w', hb, hor⟩ := p_audit hF hc q
  obtain ⟨hk, S', ha, hr⟩ := hor.resolve_right (fun ⟨_, _, _, _, h, _⟩ => by cases h)
  refine LV_run oL_8 C (cs := []) (pc' := 634) (L' := [some (.ref 999), some (.ref 0), some (.ref 141), some (.ref 140), some (.int i), none, none, none, none]) (st' := [.ref 0]) (w' := WLW S f w) [] 1 (by with_unfolding_all rfl) trivial ?_
  refine LV_x6 oL_8 C (z := .int z) (S' := S') (t_X4_audit_6 F S (z, S') ha) cv_X4_audit ml_L_law_125 rfl rfl ⟨rfl, rfl⟩ ⟨rfl, rfl⟩ ⟨Nat.le_of_succ_le hmc.1, Nat.le_trans (Nat.le_add_right ks 6) hmc.2⟩ ?_
  refine LV_run oL_8 C (cs := []) (pc' := 638) (L' := [some (.ref 999), some (.ref 0), some (.ref 141), some (.ref 140), some (.int i), none, none, none, none]) (st' := [.ref 141, .int z]) (w' := WLW S' f w) [] 1 (by with_unfolding_all rfl) trivial ?_
  refine LV_model oL_8 C (z := .int z) (w' := w') (rest := [.int z]) (t_X5_audit F w (z, w') hb) cv_X5_audit ml_L_law_128 rfl rfl rfl rfl ⟨rfl, rfl⟩ ⟨rfl, rfl⟩ ⟨Nat.le_of_succ_le hmc.1, Nat.le_trans (Nat.le_add_right ks 6) hmc.2⟩ rfl ?_
  refine LV_br oL_8 C rfl rfl (fun _ => ?_) (fun h => absurd rfl h)
  exact LV_weak L0_w (LV_up (Nat.le_add_right kc 1) (Nat.le_add_right ks 6) (kk S' w' f hr))
set_option maxRecDepth 20000 in
theorem c_L9 {F : Nat} (hF : 6400 < F) (C : LC p l s m b meth c D ct ad0 Ln xs) {cc : Nat} (hc : cc < 512) {S : S_X6} {w : S_X5} (q : REL cc S w) (f : Nat → Int64) {i : Int32} (h1 : vp_in (i + 1) Ln) (h2 : vp_in (i + 2) Ln) (h3 : vp_in (i + 3) Ln) {kc ks : Nat} (hmc : kc + 1 ≤ 601024 ∧ ks + 6 ≤ 7293034) (kk : ∀ S' w' f', REL (cc + 1) S' w' → LV p l e s m b below meth c D ct ad0 1647 (L0 i) [] (WLW S' f' w') (kc + 1) (ks + 6)) : LV p l e s m b below meth c D ct ad0 646 (L0 i) [] (WLW S f w) kc ks := by
  obtain ⟨k, z, S', w', f', hb, hk, k3, hr, hf0, hM⟩ := st_append hF hc q f (xs (i + 1).toNatClampNeg)
  refine LV_run oL_9 C (cs := []) (pc' := 652) (L' := [some (.ref 999), some (.ref 0), some (.ref 141), some (.ref 140), some (.int i), none, none, none, none]) (st' := [.int (i + 1), .ref 999, .ref 0]) (w' := WLW S f w) [] 5 (by with_unfolding_all rfl) trivial ?_
  refine LV_sld oL_9 C rfl h1 ?_
  refine LV_run oL_9 C (cs := []) (pc' := 654) (L' := [some (.ref 999), some (.ref 0), some (.ref 141), some (.ref 140), some (.int i), none, none, none, none]) (st' := [.ref 140, .int (xs (i + 1).toNatClampNeg), .ref 0]) (w' := WLW S f w) [] 1 (by with_unfolding_all rfl) trivial ?_
  refine LV_wrap oL_9 C hM cw_L_append w_lw_129 rfl rfl rfl rfl ⟨rfl, rfl⟩ hmc ?_
  refine LV_run oL_9 C (cs := []) (pc' := 665) (L' := [some (.ref 999), some (.ref 0), some (.ref 141), some (.ref 140), some (.int i), some (.int (nI k)), none, none, none]) (st' := [.int (i + 1), .ref 999, .ref 141]) (w' := WLW S' f' w) [] 6 (by with_unfolding_all rfl) trivial ?_
  refine LV_sld oL_9 C rfl h1 ?_
  refine LV_model oL_9 C (z := .int z) (w' := w') (rest := []) (t_X5_append F w (xs (i + 1).toNatClampNeg) (z, w') hb) cv_X5_append ml_L_law_131 rfl rfl rfl rfl ⟨rfl, rfl⟩ ⟨rfl, rfl⟩ hmc rfl ?_
  refine LV_run oL_9 C (cs := []) (pc' := 672) (L' := [some (.ref 999), some (.ref 0), some (.ref 141), some (.ref 140), some (.int i), some (.int (nI k)), some (.int z), none, none]) (st' := [.ref 141]) (w' := WLW S' f' w') [] 2 (by with_unfolding_all rfl) trivial ?_
  refine LV_model oL_9 C (z := .int (nI k)) (w' := w') (rest := []) (t_X5_thrown F w' (nI k) (by rw [← hk]; rfl)) cv_X5_thrown ml_L_law_98 rfl rfl rfl rfl ⟨rfl, rfl⟩ ⟨rfl, rfl⟩ hmc rfl ?_
  refine LV_run oL_9 C (cs := []) (pc' := 677) (L' := [some (.ref 999), some (.ref 0), some (.ref 141), some (.ref 140), some (.int i), some (.int (nI k)), some (.int z), none, none]) (st' := [.int (nI k), .int (nI k)]) (w' := WLW S' f' w') [] 1 (by with_unfolding_all rfl) trivial ?_
  refine LV_br oL_9 C rfl rfl (fun _ => ?_) (fun h => absurd rfl h)
  refine LV_run oL_9 C (cs := []) (pc' := 684) (L' := [some (.ref 999), some (.ref 0), some (.ref 141), some (.ref 140), some (.int i), some (.int (nI k)), some (.int z), none, none]) (st' := [.int (nI k)]) (w' := WLW S' f' w') [] 1 (by with_unfolding_all rfl) trivial ?_
  refine LV_br oL_9 C rfl rfl (fun _ => ?_) (fun h => ?_)
  · refine LV_run oL_9 C (cs := []) (pc' := 1647) (L' := [some (.ref 999), some (.ref 0), some (.ref 141), some (.ref 140), some (.int i), some (.int (nI k)), some (.int z), none, none]) (st' := []) (w' := WLW S' f' w') [] 1 (by with_unfolding_all rfl) trivial ?_
    exact LV_weak L0_w (kk S' w' f' hr)
  have hk0 : k = 0 := (nI_eq (by omega) (by omega)).mp (h.trans nI_0.symm)
  refine LV_run oL_9 C (cs := []) (pc' := 689) (L' := [some (.ref 999), some (.ref 0), some (.ref 141), some (.ref 140), some (.int i), some (.int (nI k)), some (.int z), none, none]) (st' := [.int 0, .ref 140]) (w' := WLW S' f' w') [] 2 (by with_unfolding_all rfl) trivial ?_
  refine LV_lald oL_9 C rfl ?_
  refine LV_run oL_9 C (cs := []) (pc' := 694) (L' := [some (.ref 999), some (.ref 0), some (.ref 141), some (.ref 140), some (.int i), some (.int (nI k)), some (.int z), none, none]) (st' := [.int (lg_cmp ((f' 0)) (z.toInt64))]) (w' := WLW S' f' w') [] 3 (by with_unfolding_all rfl) trivial ?_
  refine LV_br oL_9 C rfl rfl (fun _ => ?_) (fun h => absurd (by rw [hf0 hk0]; exact lg_cmp_self _) h)
  refine LV_run oL_9 C (cs := []) (pc' := 1647) (L' := [some (.ref 999), some (.ref 0), some (.ref 141), some (.ref 140), some (.int i), some (.int (nI k)), some (.int z), none, none]) (st' := []) (w' := WLW S' f' w') [] 1 (by with_unfolding_all rfl) trivial ?_
  exact LV_weak L0_w (kk S' w' f' hr)
set_option maxRecDepth 20000 in
theorem c_L10 {F : Nat} (hF : 6400 < F) (C : LC p l s m b meth c D ct ad0 Ln xs) {cc : Nat} (hc : cc < 512) {S : S_X6} {w : S_X5} (q : REL cc S w) (f : Nat → Int64) {i : Int32} (h1 : vp_in (i + 1) Ln) (h2 : vp_in (i + 2) Ln) (h3 : vp_in (i + 3) Ln) {kc ks : Nat} (hmc : kc + 1 ≤ 601024 ∧ ks + 6 ≤ 7293034) (kk : ∀ S' w' f', REL (cc + 1) S' w' → LV p l e s m b below meth c D ct ad0 1647 (L0 i) [] (WLW S' f' w') (kc + 1) (ks + 6)) : LV p l e s m b below meth c D ct ad0 702 (L0 i) [] (WLW S f w) kc ks := by
  obtain ⟨z, w', hb, hor⟩ := p_clear (F := F) hc q
  obtain ⟨hk, S', ha, hr⟩ := hor.resolve_right (fun ⟨_, _, _, _, h, _⟩ => by cases h)
  refine LV_run oL_10 C (cs := []) (pc' := 703) (L' := [some (.ref 999), some (.ref 0), some (.ref 141), some (.ref 140), some (.int i), none, none, none, none]) (st' := [.ref 0]) (w' := WLW S f w) [] 1 (by with_unfolding_all rfl) trivial ?_
  obtain ⟨u, ha4, rfl⟩ := on4_inv ha
  refine LV_x4 oL_10 C (z := .int z) (u := u) (t_X4_clearBuffer F S.1 (z, u) ha4) cv_X4_clearBuffer ml_L_law_132 rfl rfl ⟨rfl, rfl⟩ ⟨rfl, rfl⟩ ⟨Nat.le_of_succ_le hmc.1, Nat.le_trans (Nat.le_add_right ks 6) hmc.2⟩ ?_
  refine LV_run oL_10 C (cs := []) (pc' := 707) (L' := [some (.ref 999), some (.ref 0), some (.ref 141), some (.ref 140), some (.int i), none, none, none, none]) (st' := [.ref 141, .int z]) (w' := WLW (m_X6_g u S) f w) [] 1 (by with_unfolding_all rfl) trivial ?_
  refine LV_model oL_10 C (z := .int z) (w' := w') (rest := [.int z]) (t_X5_clearBuffer F w (z, w') hb) cv_X5_clearBuffer ml_L_law_135 rfl rfl rfl rfl ⟨rfl, rfl⟩ ⟨rfl, rfl⟩ ⟨Nat.le_of_succ_le hmc.1, Nat.le_trans (Nat.le_add_right ks 6) hmc.2⟩ rfl ?_
  refine LV_br oL_10 C rfl rfl (fun _ => ?_) (fun h => absurd rfl h)
  exact LV_weak L0_w (LV_up (Nat.le_add_right kc 1) (Nat.le_add_right ks 6) (kk (m_X6_g u S) w' f hr))
set_option maxRecDepth 20000 in
theorem c_L11 {F : Nat} (hF : 6400 < F) (C : LC p l s m b meth c D ct ad0 Ln xs) {cc : Nat} (hc : cc < 512) {S : S_X6} {w : S_X5} (q : REL cc S w) (f : Nat → Int64) {i : Int32} (h1 : vp_in (i + 1) Ln) (h2 : vp_in (i + 2) Ln) (h3 : vp_in (i + 3) Ln) {kc ks : Nat} (hmc : kc + 1 ≤ 601024 ∧ ks + 6 ≤ 7293034) (kk : ∀ S' w' f', REL (cc + 1) S' w' → LV p l e s m b below meth c D ct ad0 1647 (L0 i) [] (WLW S' f' w') (kc + 1) (ks + 6)) : LV p l e s m b below meth c D ct ad0 715 (L0 i) [] (WLW S f w) kc ks := by
  obtain ⟨z, w', hb, hor⟩ := p_first hF hc q
  obtain ⟨hk, S', ha, hr⟩ := hor.resolve_right (fun ⟨_, _, _, _, h, _⟩ => by cases h)
  refine LV_run oL_11 C (cs := []) (pc' := 716) (L' := [some (.ref 999), some (.ref 0), some (.ref 141), some (.ref 140), some (.int i), none, none, none, none]) (st' := [.ref 0]) (w' := WLW S f w) [] 1 (by with_unfolding_all rfl) trivial ?_
  obtain ⟨ha4, rfl⟩ := on0_inv ha
  refine LV_x4 oL_11 C (z := .int z) (u := S'.1) (t_X4_firstError F S'.1 z ha4) cv_X4_firstError ml_L_law_136 rfl rfl ⟨rfl, rfl⟩ ⟨rfl, rfl⟩ ⟨Nat.le_of_succ_le hmc.1, Nat.le_trans (Nat.le_add_right ks 6) hmc.2⟩ ?_
  refine LV_run oL_11 C (cs := []) (pc' := 720) (L' := [some (.ref 999), some (.ref 0), some (.ref 141), some (.ref 140), some (.int i), none, none, none, none]) (st' := [.ref 141, .int z]) (w' := WLW S' f w) [] 1 (by with_unfolding_all rfl) trivial ?_
  refine LV_model oL_11 C (z := .int z) (w' := w') (rest := [.int z]) (t_X5_firstError F w (z, w') hb) cv_X5_firstError ml_L_law_139 rfl rfl rfl rfl ⟨rfl, rfl⟩ ⟨rfl, rfl⟩ ⟨Nat.le_of_succ_le hmc.1, Nat.le_trans (Nat.le_add_right ks 6) hmc.2⟩ rfl ?_
  refine LV_br oL_11 C rfl rfl (fun _ => ?_) (fun h => absurd rfl h)
  exact LV_weak L0_w (LV_up (Nat.le_add_right kc 1) (Nat.le_add_right ks 6) (kk S' w' f hr))
set_option maxRecDepth 20000 in
theorem c_L12 {F : Nat} (hF : 6400 < F) (C : LC p l s m b meth c D ct ad0 Ln xs) {cc : Nat} (hc : cc < 512) {S : S_X6} {w : S_X5} (q : REL cc S w) (f : Nat → Int64) {i : Int32} (h1 : vp_in (i + 1) Ln) (h2 : vp_in (i + 2) Ln) (h3 : vp_in (i + 3) Ln) {kc ks : Nat} (hmc : kc + 1 ≤ 601024 ∧ ks + 6 ≤ 7293034) (kk : ∀ S' w' f', REL (cc + 1) S' w' → LV p l e s m b below meth c D ct ad0 1647 (L0 i) [] (WLW S' f' w') (kc + 1) (ks + 6)) : LV p l e s m b below meth c D ct ad0 728 (L0 i) [] (WLW S f w) kc ks := by
  obtain ⟨k, z, S', w', f', hb, hk, k3, hr, hf0, hM⟩ := st_run hF hc q f 
  refine LV_run oL_12 C (cs := []) (pc' := 730) (L' := [some (.ref 999), some (.ref 0), some (.ref 141), some (.ref 140), some (.int i), none, none, none, none]) (st' := [.ref 140, .ref 0]) (w' := WLW S f w) [] 2 (by with_unfolding_all rfl) trivial ?_
  refine LV_wrap oL_12 C hM cw_L_run w_lw_140 rfl rfl rfl rfl ⟨rfl, rfl⟩ hmc ?_
  refine LV_run oL_12 C (cs := []) (pc' := 736) (L' := [some (.ref 999), some (.ref 0), some (.ref 141), some (.ref 140), some (.int i), some (.int (nI k)), none, none, none]) (st' := [.ref 141]) (w' := WLW S' f' w) [] 2 (by with_unfolding_all rfl) trivial ?_
  refine LV_model oL_12 C (z := .int z) (w' := w') (rest := []) (t_X5_run F w (z, w') hb) cv_X5_run ml_L_law_143 rfl rfl rfl rfl ⟨rfl, rfl⟩ ⟨rfl, rfl⟩ hmc rfl ?_
  refine LV_run oL_12 C (cs := []) (pc' := 742) (L' := [some (.ref 999), some (.ref 0), some (.ref 141), some (.ref 140), some (.int i), some (.int (nI k)), some (.int z), none, none]) (st' := [.ref 141]) (w' := WLW S' f' w') [] 2 (by with_unfolding_all rfl) trivial ?_
  refine LV_model oL_12 C (z := .int (nI k)) (w' := w') (rest := []) (t_X5_thrown F w' (nI k) (by rw [← hk]; rfl)) cv_X5_thrown ml_L_law_98 rfl rfl rfl rfl ⟨rfl, rfl⟩ ⟨rfl, rfl⟩ hmc rfl ?_
  refine LV_run oL_12 C (cs := []) (pc' := 747) (L' := [some (.ref 999), some (.ref 0), some (.ref 141), some (.ref 140), some (.int i), some (.int (nI k)), some (.int z), none, none]) (st' := [.int (nI k), .int (nI k)]) (w' := WLW S' f' w') [] 1 (by with_unfolding_all rfl) trivial ?_
  refine LV_br oL_12 C rfl rfl (fun _ => ?_) (fun h => absurd rfl h)
  refine LV_run oL_12 C (cs := []) (pc' := 754) (L' := [some (.ref 999), some (.ref 0), some (.ref 141), some (.ref 140), some (.int i), some (.int (nI k)), some (.int z), none, none]) (st' := [.int (nI k)]) (w' := WLW S' f' w') [] 1 (by with_unfolding_all rfl) trivial ?_
  refine LV_br oL_12 C rfl rfl (fun _ => ?_) (fun h => ?_)
  · refine LV_run oL_12 C (cs := []) (pc' := 1647) (L' := [some (.ref 999), some (.ref 0), some (.ref 141), some (.ref 140), some (.int i), some (.int (nI k)), some (.int z), none, none]) (st' := []) (w' := WLW S' f' w') [] 1 (by with_unfolding_all rfl) trivial ?_
    exact LV_weak L0_w (kk S' w' f' hr)
  have hk0 : k = 0 := (nI_eq (by omega) (by omega)).mp (h.trans nI_0.symm)
  refine LV_run oL_12 C (cs := []) (pc' := 759) (L' := [some (.ref 999), some (.ref 0), some (.ref 141), some (.ref 140), some (.int i), some (.int (nI k)), some (.int z), none, none]) (st' := [.int 0, .ref 140]) (w' := WLW S' f' w') [] 2 (by with_unfolding_all rfl) trivial ?_
  refine LV_lald oL_12 C rfl ?_
  refine LV_run oL_12 C (cs := []) (pc' := 764) (L' := [some (.ref 999), some (.ref 0), some (.ref 141), some (.ref 140), some (.int i), some (.int (nI k)), some (.int z), none, none]) (st' := [.int (lg_cmp ((f' 0)) (z.toInt64))]) (w' := WLW S' f' w') [] 3 (by with_unfolding_all rfl) trivial ?_
  refine LV_br oL_12 C rfl rfl (fun _ => ?_) (fun h => absurd (by rw [hf0 hk0]; exact lg_cmp_self _) h)
  refine LV_run oL_12 C (cs := []) (pc' := 1647) (L' := [some (.ref 999), some (.ref 0), some (.ref 141), some (.ref 140), some (.int i), some (.int (nI k)), some (.int z), none, none]) (st' := []) (w' := WLW S' f' w') [] 1 (by with_unfolding_all rfl) trivial ?_
  exact LV_weak L0_w (kk S' w' f' hr)
set_option maxRecDepth 20000 in
theorem c_L13 {F : Nat} (hF : 6400 < F) (C : LC p l s m b meth c D ct ad0 Ln xs) {cc : Nat} (hc : cc < 512) {S : S_X6} {w : S_X5} (q : REL cc S w) (f : Nat → Int64) {i : Int32} (h1 : vp_in (i + 1) Ln) (h2 : vp_in (i + 2) Ln) (h3 : vp_in (i + 3) Ln) {kc ks : Nat} (hmc : kc + 1 ≤ 601024 ∧ ks + 6 ≤ 7293034) (kk : ∀ S' w' f', REL (cc + 1) S' w' → LV p l e s m b below meth c D ct ad0 1647 (L0 i) [] (WLW S' f' w') (kc + 1) (ks + 6)) : LV p l e s m b below meth c D ct ad0 772 (L0 i) [] (WLW S f w) kc ks := by
  obtain ⟨k, z, S', w', f', hb, hk, k3, hr, hf0, hM⟩ := st_undo hF hc q f 
  refine LV_run oL_13 C (cs := []) (pc' := 774) (L' := [some (.ref 999), some (.ref 0), some (.ref 141), some (.ref 140), some (.int i), none, none, none, none]) (st' := [.ref 140, .ref 0]) (w' := WLW S f w) [] 2 (by with_unfolding_all rfl) trivial ?_
  refine LV_wrap oL_13 C hM cw_L_undo w_lw_144 rfl rfl rfl rfl ⟨rfl, rfl⟩ hmc ?_
  refine LV_run oL_13 C (cs := []) (pc' := 780) (L' := [some (.ref 999), some (.ref 0), some (.ref 141), some (.ref 140), some (.int i), some (.int (nI k)), none, none, none]) (st' := [.ref 141]) (w' := WLW S' f' w) [] 2 (by with_unfolding_all rfl) trivial ?_
  refine LV_model oL_13 C (z := .int z) (w' := w') (rest := []) (t_X5_undo F w (z, w') hb) cv_X5_undo ml_L_law_146 rfl rfl rfl rfl ⟨rfl, rfl⟩ ⟨rfl, rfl⟩ hmc rfl ?_
  refine LV_run oL_13 C (cs := []) (pc' := 786) (L' := [some (.ref 999), some (.ref 0), some (.ref 141), some (.ref 140), some (.int i), some (.int (nI k)), some (.int z), none, none]) (st' := [.ref 141]) (w' := WLW S' f' w') [] 2 (by with_unfolding_all rfl) trivial ?_
  refine LV_model oL_13 C (z := .int (nI k)) (w' := w') (rest := []) (t_X5_thrown F w' (nI k) (by rw [← hk]; rfl)) cv_X5_thrown ml_L_law_98 rfl rfl rfl rfl ⟨rfl, rfl⟩ ⟨rfl, rfl⟩ hmc rfl ?_
  refine LV_run oL_13 C (cs := []) (pc' := 791) (L' := [some (.ref 999), some (.ref 0), some (.ref 141), some (.ref 140), some (.int i), some (.int (nI k)), some (.int z), none, none]) (st' := [.int (nI k), .int (nI k)]) (w' := WLW S' f' w') [] 1 (by with_unfolding_all rfl) trivial ?_
  refine LV_br oL_13 C rfl rfl (fun _ => ?_) (fun h => absurd rfl h)
  refine LV_run oL_13 C (cs := []) (pc' := 798) (L' := [some (.ref 999), some (.ref 0), some (.ref 141), some (.ref 140), some (.int i), some (.int (nI k)), some (.int z), none, none]) (st' := [.int (nI k)]) (w' := WLW S' f' w') [] 1 (by with_unfolding_all rfl) trivial ?_
  refine LV_br oL_13 C rfl rfl (fun _ => ?_) (fun h => ?_)
  · refine LV_run oL_13 C (cs := []) (pc' := 1647) (L' := [some (.ref 999), some (.ref 0), some (.ref 141), some (.ref 140), some (.int i), some (.int (nI k)), some (.int z), none, none]) (st' := []) (w' := WLW S' f' w') [] 1 (by with_unfolding_all rfl) trivial ?_
    exact LV_weak L0_w (kk S' w' f' hr)
  have hk0 : k = 0 := (nI_eq (by omega) (by omega)).mp (h.trans nI_0.symm)
  refine LV_run oL_13 C (cs := []) (pc' := 803) (L' := [some (.ref 999), some (.ref 0), some (.ref 141), some (.ref 140), some (.int i), some (.int (nI k)), some (.int z), none, none]) (st' := [.int 0, .ref 140]) (w' := WLW S' f' w') [] 2 (by with_unfolding_all rfl) trivial ?_
  refine LV_lald oL_13 C rfl ?_
  refine LV_run oL_13 C (cs := []) (pc' := 808) (L' := [some (.ref 999), some (.ref 0), some (.ref 141), some (.ref 140), some (.int i), some (.int (nI k)), some (.int z), none, none]) (st' := [.int (lg_cmp ((f' 0)) (z.toInt64))]) (w' := WLW S' f' w') [] 3 (by with_unfolding_all rfl) trivial ?_
  refine LV_br oL_13 C rfl rfl (fun _ => ?_) (fun h => absurd (by rw [hf0 hk0]; exact lg_cmp_self _) h)
  refine LV_run oL_13 C (cs := []) (pc' := 1647) (L' := [some (.ref 999), some (.ref 0), some (.ref 141), some (.ref 140), some (.int i), some (.int (nI k)), some (.int z), none, none]) (st' := []) (w' := WLW S' f' w') [] 1 (by with_unfolding_all rfl) trivial ?_
  exact LV_weak L0_w (kk S' w' f' hr)
set_option maxRecDepth 20000 in
theorem c_L14 {F : Nat} (hF : 6400 < F) (C : LC p l s m b meth c D ct ad0 Ln xs) {cc : Nat} (hc : cc < 512) {S : S_X6} {w : S_X5} (q : REL cc S w) (f : Nat → Int64) {i : Int32} (h1 : vp_in (i + 1) Ln) (h2 : vp_in (i + 2) Ln) (h3 : vp_in (i + 3) Ln) {kc ks : Nat} (hmc : kc + 1 ≤ 601024 ∧ ks + 6 ≤ 7293034) (kk : ∀ S' w' f', REL (cc + 1) S' w' → LV p l e s m b below meth c D ct ad0 1647 (L0 i) [] (WLW S' f' w') (kc + 1) (ks + 6)) : LV p l e s m b below meth c D ct ad0 816 (L0 i) [] (WLW S f w) kc ks := by
  obtain ⟨k, z, S', w', f', hb, hk, k3, hr, hf0, hM⟩ := st_thing hF hc q f (xs (i + 1).toNatClampNeg) (xs (i + 2).toNatClampNeg)
  refine LV_run oL_14 C (cs := []) (pc' := 822) (L' := [some (.ref 999), some (.ref 0), some (.ref 141), some (.ref 140), some (.int i), none, none, none, none]) (st' := [.int (i + 1), .ref 999, .ref 0]) (w' := WLW S f w) [] 5 (by with_unfolding_all rfl) trivial ?_
  refine LV_sld oL_14 C rfl h1 ?_
  refine LV_run oL_14 C (cs := []) (pc' := 828) (L' := [some (.ref 999), some (.ref 0), some (.ref 141), some (.ref 140), some (.int i), none, none, none, none]) (st' := [.int (i + 2), .ref 999, .int (xs (i + 1).toNatClampNeg), .ref 0]) (w' := WLW S f w) [] 4 (by with_unfolding_all rfl) trivial ?_
  refine LV_sld oL_14 C rfl h2 ?_
  refine LV_run oL_14 C (cs := []) (pc' := 830) (L' := [some (.ref 999), some (.ref 0), some (.ref 141), some (.ref 140), some (.int i), none, none, none, none]) (st' := [.ref 140, .int (xs (i + 2).toNatClampNeg), .int (xs (i + 1).toNatClampNeg), .ref 0]) (w' := WLW S f w) [] 1 (by with_unfolding_all rfl) trivial ?_
  refine LV_wrap oL_14 C hM cw_L_thing w_lw_147 rfl rfl rfl rfl ⟨rfl, rfl⟩ hmc ?_
  refine LV_run oL_14 C (cs := []) (pc' := 841) (L' := [some (.ref 999), some (.ref 0), some (.ref 141), some (.ref 140), some (.int i), some (.int (nI k)), none, none, none]) (st' := [.int (i + 1), .ref 999, .ref 141]) (w' := WLW S' f' w) [] 6 (by with_unfolding_all rfl) trivial ?_
  refine LV_sld oL_14 C rfl h1 ?_
  refine LV_run oL_14 C (cs := []) (pc' := 847) (L' := [some (.ref 999), some (.ref 0), some (.ref 141), some (.ref 140), some (.int i), some (.int (nI k)), none, none, none]) (st' := [.int (i + 2), .ref 999, .int (xs (i + 1).toNatClampNeg), .ref 141]) (w' := WLW S' f' w) [] 4 (by with_unfolding_all rfl) trivial ?_
  refine LV_sld oL_14 C rfl h2 ?_
  refine LV_model oL_14 C (z := .int z) (w' := w') (rest := []) (t_X5_thing F w (xs (i + 1).toNatClampNeg) (xs (i + 2).toNatClampNeg) (z, w') hb) cv_X5_thing ml_L_law_149 rfl rfl rfl rfl ⟨rfl, rfl⟩ ⟨rfl, rfl⟩ hmc rfl ?_
  refine LV_run oL_14 C (cs := []) (pc' := 854) (L' := [some (.ref 999), some (.ref 0), some (.ref 141), some (.ref 140), some (.int i), some (.int (nI k)), some (.int z), none, none]) (st' := [.ref 141]) (w' := WLW S' f' w') [] 2 (by with_unfolding_all rfl) trivial ?_
  refine LV_model oL_14 C (z := .int (nI k)) (w' := w') (rest := []) (t_X5_thrown F w' (nI k) (by rw [← hk]; rfl)) cv_X5_thrown ml_L_law_98 rfl rfl rfl rfl ⟨rfl, rfl⟩ ⟨rfl, rfl⟩ hmc rfl ?_
  refine LV_run oL_14 C (cs := []) (pc' := 859) (L' := [some (.ref 999), some (.ref 0), some (.ref 141), some (.ref 140), some (.int i), some (.int (nI k)), some (.int z), none, none]) (st' := [.int (nI k), .int (nI k)]) (w' := WLW S' f' w') [] 1 (by with_unfolding_all rfl) trivial ?_
  refine LV_br oL_14 C rfl rfl (fun _ => ?_) (fun h => absurd rfl h)
  refine LV_run oL_14 C (cs := []) (pc' := 866) (L' := [some (.ref 999), some (.ref 0), some (.ref 141), some (.ref 140), some (.int i), some (.int (nI k)), some (.int z), none, none]) (st' := [.int (nI k)]) (w' := WLW S' f' w') [] 1 (by with_unfolding_all rfl) trivial ?_
  refine LV_br oL_14 C rfl rfl (fun _ => ?_) (fun h => ?_)
  · refine LV_run oL_14 C (cs := []) (pc' := 1647) (L' := [some (.ref 999), some (.ref 0), some (.ref 141), some (.ref 140), some (.int i), some (.int (nI k)), some (.int z), none, none]) (st' := []) (w' := WLW S' f' w') [] 1 (by with_unfolding_all rfl) trivial ?_
    exact LV_weak L0_w (kk S' w' f' hr)
  have hk0 : k = 0 := (nI_eq (by omega) (by omega)).mp (h.trans nI_0.symm)
  refine LV_run oL_14 C (cs := []) (pc' := 871) (L' := [some (.ref 999), some (.ref 0), some (.ref 141), some (.ref 140), some (.int i), some (.int (nI k)), some (.int z), none, none]) (st' := [.int 0, .ref 140]) (w' := WLW S' f' w') [] 2 (by with_unfolding_all rfl) trivial ?_
  refine LV_lald oL_14 C rfl ?_
  refine LV_run oL_14 C (cs := []) (pc' := 876) (L' := [some (.ref 999), some (.ref 0), some (.ref 141), some (.ref 140), some (.int i), some (.int (nI k)), some (.int z), none, none]) (st' := [.int (lg_cmp ((f' 0)) (z.toInt64))]) (w' := WLW S' f' w') [] 3 (by with_unfolding_all rfl) trivial ?_
  refine LV_br oL_14 C rfl rfl (fun _ => ?_) (fun h => absurd (by rw [hf0 hk0]; exact lg_cmp_self _) h)
  refine LV_run oL_14 C (cs := []) (pc' := 1647) (L' := [some (.ref 999), some (.ref 0), some (.ref 141), some (.ref 140), some (.int i), some (.int (nI k)), some (.int z), none, none]) (st' := []) (w' := WLW S' f' w') [] 1 (by with_unfolding_all rfl) trivial ?_
  exact LV_weak L0_w (kk S' w' f' hr)
set_option maxRecDepth 20000 in
theorem c_L15 {F : Nat} (hF : 6400 < F) (C : LC p l s m b meth c D ct ad0 Ln xs) {cc : Nat} (hc : cc < 512) {S : S_X6} {w : S_X5} (q : REL cc S w) (f : Nat → Int64) {i : Int32} (h1 : vp_in (i + 1) Ln) (h2 : vp_in (i + 2) Ln) (h3 : vp_in (i + 3) Ln) {kc ks : Nat} (hmc : kc + 1 ≤ 601024 ∧ ks + 6 ≤ 7293034) (kk : ∀ S' w' f', REL (cc + 1) S' w' → LV p l e s m b below meth c D ct ad0 1647 (L0 i) [] (WLW S' f' w') (kc + 1) (ks + 6)) : LV p l e s m b below meth c D ct ad0 884 (L0 i) [] (WLW S f w) kc ks := by
  obtain ⟨k, z, S', w', f', hb, hk, k3, hr, hf0, hM⟩ := st_slot hF hc q f (xs (i + 1).toNatClampNeg) (xs (i + 2).toNatClampNeg)
  refine LV_run oL_15 C (cs := []) (pc' := 890) (L' := [some (.ref 999), some (.ref 0), some (.ref 141), some (.ref 140), some (.int i), none, none, none, none]) (st' := [.int (i + 1), .ref 999, .ref 0]) (w' := WLW S f w) [] 5 (by with_unfolding_all rfl) trivial ?_
  refine LV_sld oL_15 C rfl h1 ?_
  refine LV_run oL_15 C (cs := []) (pc' := 896) (L' := [some (.ref 999), some (.ref 0), some (.ref 141), some (.ref 140), some (.int i), none, none, none, none]) (st' := [.int (i + 2), .ref 999, .int (xs (i + 1).toNatClampNeg), .ref 0]) (w' := WLW S f w) [] 4 (by with_unfolding_all rfl) trivial ?_
  refine LV_sld oL_15 C rfl h2 ?_
  refine LV_run oL_15 C (cs := []) (pc' := 898) (L' := [some (.ref 999), some (.ref 0), some (.ref 141), some (.ref 140), some (.int i), none, none, none, none]) (st' := [.ref 140, .int (xs (i + 2).toNatClampNeg), .int (xs (i + 1).toNatClampNeg), .ref 0]) (w' := WLW S f w) [] 1 (by with_unfolding_all rfl) trivial ?_
  refine LV_wrap oL_15 C hM cw_L_slot w_lw_150 rfl rfl rfl rfl ⟨rfl, rfl⟩ hmc ?_
  refine LV_run oL_15 C (cs := []) (pc' := 909) (L' := [some (.ref 999), some (.ref 0), some (.ref 141), some (.ref 140), some (.int i), some (.int (nI k)), none, none, none]) (st' := [.int (i + 1), .ref 999, .ref 141]) (w' := WLW S' f' w) [] 6 (by with_unfolding_all rfl) trivial ?_
  refine LV_sld oL_15 C rfl h1 ?_
  refine LV_run oL_15 C (cs := []) (pc' := 915) (L' := [some (.ref 999), some (.ref 0), some (.ref 141), some (.ref 140), some (.int i), some (.int (nI k)), none, none, none]) (st' := [.int (i + 2), .ref 999, .int (xs (i + 1).toNatClampNeg), .ref 141]) (w' := WLW S' f' w) [] 4 (by with_unfolding_all rfl) trivial ?_
  refine LV_sld oL_15 C rfl h2 ?_
  refine LV_model oL_15 C (z := .int z) (w' := w') (rest := []) (t_X5_slot F w (xs (i + 1).toNatClampNeg) (xs (i + 2).toNatClampNeg) (z, w') hb) cv_X5_slot ml_L_law_152 rfl rfl rfl rfl ⟨rfl, rfl⟩ ⟨rfl, rfl⟩ hmc rfl ?_
  refine LV_run oL_15 C (cs := []) (pc' := 922) (L' := [some (.ref 999), some (.ref 0), some (.ref 141), some (.ref 140), some (.int i), some (.int (nI k)), some (.int z), none, none]) (st' := [.ref 141]) (w' := WLW S' f' w') [] 2 (by with_unfolding_all rfl) trivial ?_
  refine LV_model oL_15 C (z := .int (nI k)) (w' := w') (rest := []) (t_X5_thrown F w' (nI k) (by rw [← hk]; rfl)) cv_X5_thrown ml_L_law_98 rfl rfl rfl rfl ⟨rfl, rfl⟩ ⟨rfl, rfl⟩ hmc rfl ?_
  refine LV_run oL_15 C (cs := []) (pc' := 927) (L' := [some (.ref 999), some (.ref 0), some (.ref 141), some (.ref 140), some (.int i), some (.int (nI k)), some (.int z), none, none]) (st' := [.int (nI k), .int (nI k)]) (w' := WLW S' f' w') [] 1 (by with_unfolding_all rfl) trivial ?_
  refine LV_br oL_15 C rfl rfl (fun _ => ?_) (fun h => absurd rfl h)
  refine LV_run oL_15 C (cs := []) (pc' := 934) (L' := [some (.ref 999), some (.ref 0), some (.ref 141), some (.ref 140), some (.int i), some (.int (nI k)), some (.int z), none, none]) (st' := [.int (nI k)]) (w' := WLW S' f' w') [] 1 (by with_unfolding_all rfl) trivial ?_
  refine LV_br oL_15 C rfl rfl (fun _ => ?_) (fun h => ?_)
  · refine LV_run oL_15 C (cs := []) (pc' := 1647) (L' := [some (.ref 999), some (.ref 0), some (.ref 141), some (.ref 140), some (.int i), some (.int (nI k)), some (.int z), none, none]) (st' := []) (w' := WLW S' f' w') [] 1 (by with_unfolding_all rfl) trivial ?_
    exact LV_weak L0_w (kk S' w' f' hr)
  have hk0 : k = 0 := (nI_eq (by omega) (by omega)).mp (h.trans nI_0.symm)
  refine LV_run oL_15 C (cs := []) (pc' := 939) (L' := [some (.ref 999), some (.ref 0), some (.ref 141), some (.ref 140), some (.int i), some (.int (nI k)), some (.int z), none, none]) (st' := [.int 0, .ref 140]) (w' := WLW S' f' w') [] 2 (by with_unfolding_all rfl) trivial ?_
  refine LV_lald oL_15 C rfl ?_
  refine LV_run oL_15 C (cs := []) (pc' := 944) (L' := [some (.ref 999), some (.ref 0), some (.ref 141), some (.ref 140), some (.int i), some (.int (nI k)), some (.int z), none, none]) (st' := [.int (lg_cmp ((f' 0)) (z.toInt64))]) (w' := WLW S' f' w') [] 3 (by with_unfolding_all rfl) trivial ?_
  refine LV_br oL_15 C rfl rfl (fun _ => ?_) (fun h => absurd (by rw [hf0 hk0]; exact lg_cmp_self _) h)
  refine LV_run oL_15 C (cs := []) (pc' := 1647) (L' := [some (.ref 999), some (.ref 0), some (.ref 141), some (.ref 140), some (.int i), some (.int (nI k)), some (.int z), none, none]) (st' := []) (w' := WLW S' f' w') [] 1 (by with_unfolding_all rfl) trivial ?_
  exact LV_weak L0_w (kk S' w' f' hr)
set_option maxRecDepth 20000 in
theorem c_L16 {F : Nat} (hF : 6400 < F) (C : LC p l s m b meth c D ct ad0 Ln xs) {cc : Nat} (hc : cc < 512) {S : S_X6} {w : S_X5} (q : REL cc S w) (f : Nat → Int64) {i : Int32} (h1 : vp_in (i + 1) Ln) (h2 : vp_in (i + 2) Ln) (h3 : vp_in (i + 3) Ln) {kc ks : Nat} (hmc : kc + 1 ≤ 601024 ∧ ks + 6 ≤ 7293034) (kk : ∀ S' w' f', REL (cc + 1) S' w' → LV p l e s m b below meth c D ct ad0 1647 (L0 i) [] (WLW S' f' w') (kc + 1) (ks + 6)) : LV p l e s m b below meth c D ct ad0 952 (L0 i) [] (WLW S f w) kc ks := by
  obtain ⟨k, z, S', w', f', hb, hk, k3, hr, hf0, hM⟩ := st_hand hF hc q f (xs (i + 1).toNatClampNeg)
  refine LV_run oL_16 C (cs := []) (pc' := 958) (L' := [some (.ref 999), some (.ref 0), some (.ref 141), some (.ref 140), some (.int i), none, none, none, none]) (st' := [.int (i + 1), .ref 999, .ref 0]) (w' := WLW S f w) [] 5 (by with_unfolding_all rfl) trivial ?_
  refine LV_sld oL_16 C rfl h1 ?_
  refine LV_run oL_16 C (cs := []) (pc' := 960) (L' := [some (.ref 999), some (.ref 0), some (.ref 141), some (.ref 140), some (.int i), none, none, none, none]) (st' := [.ref 140, .int (xs (i + 1).toNatClampNeg), .ref 0]) (w' := WLW S f w) [] 1 (by with_unfolding_all rfl) trivial ?_
  refine LV_wrap oL_16 C hM cw_L_hand w_lw_153 rfl rfl rfl rfl ⟨rfl, rfl⟩ hmc ?_
  refine LV_run oL_16 C (cs := []) (pc' := 971) (L' := [some (.ref 999), some (.ref 0), some (.ref 141), some (.ref 140), some (.int i), some (.int (nI k)), none, none, none]) (st' := [.int (i + 1), .ref 999, .ref 141]) (w' := WLW S' f' w) [] 6 (by with_unfolding_all rfl) trivial ?_
  refine LV_sld oL_16 C rfl h1 ?_
  refine LV_model oL_16 C (z := .int z) (w' := w') (rest := []) (t_X5_hand F w (xs (i + 1).toNatClampNeg) (z, w') hb) cv_X5_hand ml_L_law_155 rfl rfl rfl rfl ⟨rfl, rfl⟩ ⟨rfl, rfl⟩ hmc rfl ?_
  refine LV_run oL_16 C (cs := []) (pc' := 978) (L' := [some (.ref 999), some (.ref 0), some (.ref 141), some (.ref 140), some (.int i), some (.int (nI k)), some (.int z), none, none]) (st' := [.ref 141]) (w' := WLW S' f' w') [] 2 (by with_unfolding_all rfl) trivial ?_
  refine LV_model oL_16 C (z := .int (nI k)) (w' := w') (rest := []) (t_X5_thrown F w' (nI k) (by rw [← hk]; rfl)) cv_X5_thrown ml_L_law_98 rfl rfl rfl rfl ⟨rfl, rfl⟩ ⟨rfl, rfl⟩ hmc rfl ?_
  refine LV_run oL_16 C (cs := []) (pc' := 983) (L' := [some (.ref 999), some (.ref 0), some (.ref 141), some (.ref 140), some (.int i), some (.int (nI k)), some (.int z), none, none]) (st' := [.int (nI k), .int (nI k)]) (w' := WLW S' f' w') [] 1 (by with_unfolding_all rfl) trivial ?_
  refine LV_br oL_16 C rfl rfl (fun _ => ?_) (fun h => absurd rfl h)
  refine LV_run oL_16 C (cs := []) (pc' := 990) (L' := [some (.ref 999), some (.ref 0), some (.ref 141), some (.ref 140), some (.int i), some (.int (nI k)), some (.int z), none, none]) (st' := [.int (nI k)]) (w' := WLW S' f' w') [] 1 (by with_unfolding_all rfl) trivial ?_
  refine LV_br oL_16 C rfl rfl (fun _ => ?_) (fun h => ?_)
  · refine LV_run oL_16 C (cs := []) (pc' := 1647) (L' := [some (.ref 999), some (.ref 0), some (.ref 141), some (.ref 140), some (.int i), some (.int (nI k)), some (.int z), none, none]) (st' := []) (w' := WLW S' f' w') [] 1 (by with_unfolding_all rfl) trivial ?_
    exact LV_weak L0_w (kk S' w' f' hr)
  have hk0 : k = 0 := (nI_eq (by omega) (by omega)).mp (h.trans nI_0.symm)
  refine LV_run oL_16 C (cs := []) (pc' := 995) (L' := [some (.ref 999), some (.ref 0), some (.ref 141), some (.ref 140), some (.int i), some (.int (nI k)), some (.int z), none, none]) (st' := [.int 0, .ref 140]) (w' := WLW S' f' w') [] 2 (by with_unfolding_all rfl) trivial ?_
  refine LV_lald oL_16 C rfl ?_
  refine LV_run oL_16 C (cs := []) (pc' := 1000) (L' := [some (.ref 999), some (.ref 0), some (.ref 141), some (.ref 140), some (.int i), some (.int (nI k)), some (.int z), none, none]) (st' := [.int (lg_cmp ((f' 0)) (z.toInt64))]) (w' := WLW S' f' w') [] 3 (by with_unfolding_all rfl) trivial ?_
  refine LV_br oL_16 C rfl rfl (fun _ => ?_) (fun h => absurd (by rw [hf0 hk0]; exact lg_cmp_self _) h)
  refine LV_run oL_16 C (cs := []) (pc' := 1647) (L' := [some (.ref 999), some (.ref 0), some (.ref 141), some (.ref 140), some (.int i), some (.int (nI k)), some (.int z), none, none]) (st' := []) (w' := WLW S' f' w') [] 1 (by with_unfolding_all rfl) trivial ?_
  exact LV_weak L0_w (kk S' w' f' hr)
set_option maxRecDepth 20000 in
theorem c_L17 {F : Nat} (hF : 6400 < F) (C : LC p l s m b meth c D ct ad0 Ln xs) {cc : Nat} (hc : cc < 512) {S : S_X6} {w : S_X5} (q : REL cc S w) (f : Nat → Int64) {i : Int32} (h1 : vp_in (i + 1) Ln) (h2 : vp_in (i + 2) Ln) (h3 : vp_in (i + 3) Ln) {kc ks : Nat} (hmc : kc + 1 ≤ 601024 ∧ ks + 6 ≤ 7293034) (kk : ∀ S' w' f', REL (cc + 1) S' w' → LV p l e s m b below meth c D ct ad0 1647 (L0 i) [] (WLW S' f' w') (kc + 1) (ks + 6)) : LV p l e s m b below meth c D ct ad0 1008 (L0 i) [] (WLW S f w) kc ks := by
  obtain ⟨k, z, S', w', f', hb, hk, k3, hr, hf0, hM⟩ := st_report hF hc q f (xs (i + 1).toNatClampNeg) (xs (i + 2).toNatClampNeg)
  refine LV_run oL_17 C (cs := []) (pc' := 1014) (L' := [some (.ref 999), some (.ref 0), some (.ref 141), some (.ref 140), some (.int i), none, none, none, none]) (st' := [.int (i + 1), .ref 999, .ref 0]) (w' := WLW S f w) [] 5 (by with_unfolding_all rfl) trivial ?_
  refine LV_sld oL_17 C rfl h1 ?_
  refine LV_run oL_17 C (cs := []) (pc' := 1020) (L' := [some (.ref 999), some (.ref 0), some (.ref 141), some (.ref 140), some (.int i), none, none, none, none]) (st' := [.int (i + 2), .ref 999, .int (xs (i + 1).toNatClampNeg), .ref 0]) (w' := WLW S f w) [] 4 (by with_unfolding_all rfl) trivial ?_
  refine LV_sld oL_17 C rfl h2 ?_
  refine LV_run oL_17 C (cs := []) (pc' := 1022) (L' := [some (.ref 999), some (.ref 0), some (.ref 141), some (.ref 140), some (.int i), none, none, none, none]) (st' := [.ref 140, .int (xs (i + 2).toNatClampNeg), .int (xs (i + 1).toNatClampNeg), .ref 0]) (w' := WLW S f w) [] 1 (by with_unfolding_all rfl) trivial ?_
  refine LV_wrap oL_17 C hM cw_L_report w_lw_156 rfl rfl rfl rfl ⟨rfl, rfl⟩ hmc ?_
  refine LV_run oL_17 C (cs := []) (pc' := 1033) (L' := [some (.ref 999), some (.ref 0), some (.ref 141), some (.ref 140), some (.int i), some (.int (nI k)), none, none, none]) (st' := [.int (i + 1), .ref 999, .ref 141]) (w' := WLW S' f' w) [] 6 (by with_unfolding_all rfl) trivial ?_
  refine LV_sld oL_17 C rfl h1 ?_
  refine LV_run oL_17 C (cs := []) (pc' := 1039) (L' := [some (.ref 999), some (.ref 0), some (.ref 141), some (.ref 140), some (.int i), some (.int (nI k)), none, none, none]) (st' := [.int (i + 2), .ref 999, .int (xs (i + 1).toNatClampNeg), .ref 141]) (w' := WLW S' f' w) [] 4 (by with_unfolding_all rfl) trivial ?_
  refine LV_sld oL_17 C rfl h2 ?_
  refine LV_model oL_17 C (z := .int z) (w' := w') (rest := []) (t_X5_report F w (xs (i + 1).toNatClampNeg) (xs (i + 2).toNatClampNeg) (z, w') hb) cv_X5_report ml_L_law_158 rfl rfl rfl rfl ⟨rfl, rfl⟩ ⟨rfl, rfl⟩ hmc rfl ?_
  refine LV_run oL_17 C (cs := []) (pc' := 1046) (L' := [some (.ref 999), some (.ref 0), some (.ref 141), some (.ref 140), some (.int i), some (.int (nI k)), some (.int z), none, none]) (st' := [.ref 141]) (w' := WLW S' f' w') [] 2 (by with_unfolding_all rfl) trivial ?_
  refine LV_model oL_17 C (z := .int (nI k)) (w' := w') (rest := []) (t_X5_thrown F w' (nI k) (by rw [← hk]; rfl)) cv_X5_thrown ml_L_law_98 rfl rfl rfl rfl ⟨rfl, rfl⟩ ⟨rfl, rfl⟩ hmc rfl ?_
  refine LV_run oL_17 C (cs := []) (pc' := 1051) (L' := [some (.ref 999), some (.ref 0), some (.ref 141), some (.ref 140), some (.int i), some (.int (nI k)), some (.int z), none, none]) (st' := [.int (nI k), .int (nI k)]) (w' := WLW S' f' w') [] 1 (by with_unfolding_all rfl) trivial ?_
  refine LV_br oL_17 C rfl rfl (fun _ => ?_) (fun h => absurd rfl h)
  refine LV_run oL_17 C (cs := []) (pc' := 1058) (L' := [some (.ref 999), some (.ref 0), some (.ref 141), some (.ref 140), some (.int i), some (.int (nI k)), some (.int z), none, none]) (st' := [.int (nI k)]) (w' := WLW S' f' w') [] 1 (by with_unfolding_all rfl) trivial ?_
  refine LV_br oL_17 C rfl rfl (fun _ => ?_) (fun h => ?_)
  · refine LV_run oL_17 C (cs := []) (pc' := 1647) (L' := [some (.ref 999), some (.ref 0), some (.ref 141), some (.ref 140), some (.int i), some (.int (nI k)), some (.int z), none, none]) (st' := []) (w' := WLW S' f' w') [] 1 (by with_unfolding_all rfl) trivial ?_
    exact LV_weak L0_w (kk S' w' f' hr)
  have hk0 : k = 0 := (nI_eq (by omega) (by omega)).mp (h.trans nI_0.symm)
  refine LV_run oL_17 C (cs := []) (pc' := 1063) (L' := [some (.ref 999), some (.ref 0), some (.ref 141), some (.ref 140), some (.int i), some (.int (nI k)), some (.int z), none, none]) (st' := [.int 0, .ref 140]) (w' := WLW S' f' w') [] 2 (by with_unfolding_all rfl) trivial ?_
  refine LV_lald oL_17 C rfl ?_
  refine LV_run oL_17 C (cs := []) (pc' := 1068) (L' := [some (.ref 999), some (.ref 0), some (.ref 141), some (.ref 140), some (.int i), some (.int (nI k)), some (.int z), none, none]) (st' := [.int (lg_cmp ((f' 0)) (z.toInt64))]) (w' := WLW S' f' w') [] 3 (by with_unfolding_all rfl) trivial ?_
  refine LV_br oL_17 C rfl rfl (fun _ => ?_) (fun h => absurd (by rw [hf0 hk0]; exact lg_cmp_self _) h)
  refine LV_run oL_17 C (cs := []) (pc' := 1647) (L' := [some (.ref 999), some (.ref 0), some (.ref 141), some (.ref 140), some (.int i), some (.int (nI k)), some (.int z), none, none]) (st' := []) (w' := WLW S' f' w') [] 1 (by with_unfolding_all rfl) trivial ?_
  exact LV_weak L0_w (kk S' w' f' hr)
set_option maxRecDepth 20000 in
theorem c_L18 {F : Nat} (hF : 6400 < F) (C : LC p l s m b meth c D ct ad0 Ln xs) {cc : Nat} (hc : cc < 512) {S : S_X6} {w : S_X5} (q : REL cc S w) (f : Nat → Int64) {i : Int32} (h1 : vp_in (i + 1) Ln) (h2 : vp_in (i + 2) Ln) (h3 : vp_in (i + 3) Ln) {kc ks : Nat} (hmc : kc + 1 ≤ 601024 ∧ ks + 6 ≤ 7293034) (kk : ∀ S' w' f', REL (cc + 1) S' w' → LV p l e s m b below meth c D ct ad0 1647 (L0 i) [] (WLW S' f' w') (kc + 1) (ks + 6)) : LV p l e s m b below meth c D ct ad0 1076 (L0 i) [] (WLW S f w) kc ks := by
  obtain ⟨k, z, S', w', f', hb, hk, k3, hr, hf0, hM⟩ := st_ended hF hc q f (xs (i + 1).toNatClampNeg)
  refine LV_run oL_18 C (cs := []) (pc' := 1082) (L' := [some (.ref 999), some (.ref 0), some (.ref 141), some (.ref 140), some (.int i), none, none, none, none]) (st' := [.int (i + 1), .ref 999, .ref 0]) (w' := WLW S f w) [] 5 (by with_unfolding_all rfl) trivial ?_
  refine LV_sld oL_18 C rfl h1 ?_
  refine LV_run oL_18 C (cs := []) (pc' := 1084) (L' := [some (.ref 999), some (.ref 0), some (.ref 141), some (.ref 140), some (.int i), none, none, none, none]) (st' := [.ref 140, .int (xs (i + 1).toNatClampNeg), .ref 0]) (w' := WLW S f w) [] 1 (by with_unfolding_all rfl) trivial ?_
  refine LV_wrap oL_18 C hM cw_L_ended w_lw_159 rfl rfl rfl rfl ⟨rfl, rfl⟩ hmc ?_
  refine LV_run oL_18 C (cs := []) (pc' := 1095) (L' := [some (.ref 999), some (.ref 0), some (.ref 141), some (.ref 140), some (.int i), some (.int (nI k)), none, none, none]) (st' := [.int (i + 1), .ref 999, .ref 141]) (w' := WLW S' f' w) [] 6 (by with_unfolding_all rfl) trivial ?_
  refine LV_sld oL_18 C rfl h1 ?_
  refine LV_model oL_18 C (z := .int z) (w' := w') (rest := []) (t_X5_ended F w (xs (i + 1).toNatClampNeg) (z, w') hb) cv_X5_ended ml_L_law_161 rfl rfl rfl rfl ⟨rfl, rfl⟩ ⟨rfl, rfl⟩ hmc rfl ?_
  refine LV_run oL_18 C (cs := []) (pc' := 1102) (L' := [some (.ref 999), some (.ref 0), some (.ref 141), some (.ref 140), some (.int i), some (.int (nI k)), some (.int z), none, none]) (st' := [.ref 141]) (w' := WLW S' f' w') [] 2 (by with_unfolding_all rfl) trivial ?_
  refine LV_model oL_18 C (z := .int (nI k)) (w' := w') (rest := []) (t_X5_thrown F w' (nI k) (by rw [← hk]; rfl)) cv_X5_thrown ml_L_law_98 rfl rfl rfl rfl ⟨rfl, rfl⟩ ⟨rfl, rfl⟩ hmc rfl ?_
  refine LV_run oL_18 C (cs := []) (pc' := 1107) (L' := [some (.ref 999), some (.ref 0), some (.ref 141), some (.ref 140), some (.int i), some (.int (nI k)), some (.int z), none, none]) (st' := [.int (nI k), .int (nI k)]) (w' := WLW S' f' w') [] 1 (by with_unfolding_all rfl) trivial ?_
  refine LV_br oL_18 C rfl rfl (fun _ => ?_) (fun h => absurd rfl h)
  refine LV_run oL_18 C (cs := []) (pc' := 1114) (L' := [some (.ref 999), some (.ref 0), some (.ref 141), some (.ref 140), some (.int i), some (.int (nI k)), some (.int z), none, none]) (st' := [.int (nI k)]) (w' := WLW S' f' w') [] 1 (by with_unfolding_all rfl) trivial ?_
  refine LV_br oL_18 C rfl rfl (fun _ => ?_) (fun h => ?_)
  · refine LV_run oL_18 C (cs := []) (pc' := 1647) (L' := [some (.ref 999), some (.ref 0), some (.ref 141), some (.ref 140), some (.int i), some (.int (nI k)), some (.int z), none, none]) (st' := []) (w' := WLW S' f' w') [] 1 (by with_unfolding_all rfl) trivial ?_
    exact LV_weak L0_w (kk S' w' f' hr)
  have hk0 : k = 0 := (nI_eq (by omega) (by omega)).mp (h.trans nI_0.symm)
  refine LV_run oL_18 C (cs := []) (pc' := 1119) (L' := [some (.ref 999), some (.ref 0), some (.ref 141), some (.ref 140), some (.int i), some (.int (nI k)), some (.int z), none, none]) (st' := [.int 0, .ref 140]) (w' := WLW S' f' w') [] 2 (by with_unfolding_all rfl) trivial ?_
  refine LV_lald oL_18 C rfl ?_
  refine LV_run oL_18 C (cs := []) (pc' := 1124) (L' := [some (.ref 999), some (.ref 0), some (.ref 141), some (.ref 140), some (.int i), some (.int (nI k)), some (.int z), none, none]) (st' := [.int (lg_cmp ((f' 0)) (z.toInt64))]) (w' := WLW S' f' w') [] 3 (by with_unfolding_all rfl) trivial ?_
  refine LV_br oL_18 C rfl rfl (fun _ => ?_) (fun h => absurd (by rw [hf0 hk0]; exact lg_cmp_self _) h)
  refine LV_run oL_18 C (cs := []) (pc' := 1647) (L' := [some (.ref 999), some (.ref 0), some (.ref 141), some (.ref 140), some (.int i), some (.int (nI k)), some (.int z), none, none]) (st' := []) (w' := WLW S' f' w') [] 1 (by with_unfolding_all rfl) trivial ?_
  exact LV_weak L0_w (kk S' w' f' hr)
set_option maxRecDepth 20000 in
theorem c_L19 {F : Nat} (hF : 6400 < F) (C : LC p l s m b meth c D ct ad0 Ln xs) {cc : Nat} (hc : cc < 512) {S : S_X6} {w : S_X5} (q : REL cc S w) (f : Nat → Int64) {i : Int32} (h1 : vp_in (i + 1) Ln) (h2 : vp_in (i + 2) Ln) (h3 : vp_in (i + 3) Ln) {kc ks : Nat} (hmc : kc + 1 ≤ 601024 ∧ ks + 6 ≤ 7293034) (kk : ∀ S' w' f', REL (cc + 1) S' w' → LV p l e s m b below meth c D ct ad0 1647 (L0 i) [] (WLW S' f' w') (kc + 1) (ks + 6)) : LV p l e s m b below meth c D ct ad0 1132 (L0 i) [] (WLW S f w) kc ks := by
  obtain ⟨k, z, S', w', f', hb, hk, k3, hr, hf0, hM⟩ := st_count hF hc q f (xs (i + 1).toNatClampNeg)
  refine LV_run oL_19 C (cs := []) (pc' := 1138) (L' := [some (.ref 999), some (.ref 0), some (.ref 141), some (.ref 140), some (.int i), none, none, none, none]) (st' := [.int (i + 1), .ref 999, .ref 0]) (w' := WLW S f w) [] 5 (by with_unfolding_all rfl) trivial ?_
  refine LV_sld oL_19 C rfl h1 ?_
  refine LV_run oL_19 C (cs := []) (pc' := 1140) (L' := [some (.ref 999), some (.ref 0), some (.ref 141), some (.ref 140), some (.int i), none, none, none, none]) (st' := [.ref 140, .int (xs (i + 1).toNatClampNeg), .ref 0]) (w' := WLW S f w) [] 1 (by with_unfolding_all rfl) trivial ?_
  refine LV_wrap oL_19 C hM cw_L_count w_lw_162 rfl rfl rfl rfl ⟨rfl, rfl⟩ hmc ?_
  refine LV_run oL_19 C (cs := []) (pc' := 1151) (L' := [some (.ref 999), some (.ref 0), some (.ref 141), some (.ref 140), some (.int i), some (.int (nI k)), none, none, none]) (st' := [.int (i + 1), .ref 999, .ref 141]) (w' := WLW S' f' w) [] 6 (by with_unfolding_all rfl) trivial ?_
  refine LV_sld oL_19 C rfl h1 ?_
  refine LV_model oL_19 C (z := .int z) (w' := w') (rest := []) (t_X5_count F w (xs (i + 1).toNatClampNeg) (z, w') hb) cv_X5_count ml_L_law_164 rfl rfl rfl rfl ⟨rfl, rfl⟩ ⟨rfl, rfl⟩ hmc rfl ?_
  refine LV_run oL_19 C (cs := []) (pc' := 1158) (L' := [some (.ref 999), some (.ref 0), some (.ref 141), some (.ref 140), some (.int i), some (.int (nI k)), some (.int z), none, none]) (st' := [.ref 141]) (w' := WLW S' f' w') [] 2 (by with_unfolding_all rfl) trivial ?_
  refine LV_model oL_19 C (z := .int (nI k)) (w' := w') (rest := []) (t_X5_thrown F w' (nI k) (by rw [← hk]; rfl)) cv_X5_thrown ml_L_law_98 rfl rfl rfl rfl ⟨rfl, rfl⟩ ⟨rfl, rfl⟩ hmc rfl ?_
  refine LV_run oL_19 C (cs := []) (pc' := 1163) (L' := [some (.ref 999), some (.ref 0), some (.ref 141), some (.ref 140), some (.int i), some (.int (nI k)), some (.int z), none, none]) (st' := [.int (nI k), .int (nI k)]) (w' := WLW S' f' w') [] 1 (by with_unfolding_all rfl) trivial ?_
  refine LV_br oL_19 C rfl rfl (fun _ => ?_) (fun h => absurd rfl h)
  refine LV_run oL_19 C (cs := []) (pc' := 1170) (L' := [some (.ref 999), some (.ref 0), some (.ref 141), some (.ref 140), some (.int i), some (.int (nI k)), some (.int z), none, none]) (st' := [.int (nI k)]) (w' := WLW S' f' w') [] 1 (by with_unfolding_all rfl) trivial ?_
  refine LV_br oL_19 C rfl rfl (fun _ => ?_) (fun h => ?_)
  · refine LV_run oL_19 C (cs := []) (pc' := 1647) (L' := [some (.ref 999), some (.ref 0), some (.ref 141), some (.ref 140), some (.int i), some (.int (nI k)), some (.int z), none, none]) (st' := []) (w' := WLW S' f' w') [] 1 (by with_unfolding_all rfl) trivial ?_
    exact LV_weak L0_w (kk S' w' f' hr)
  have hk0 : k = 0 := (nI_eq (by omega) (by omega)).mp (h.trans nI_0.symm)
  refine LV_run oL_19 C (cs := []) (pc' := 1175) (L' := [some (.ref 999), some (.ref 0), some (.ref 141), some (.ref 140), some (.int i), some (.int (nI k)), some (.int z), none, none]) (st' := [.int 0, .ref 140]) (w' := WLW S' f' w') [] 2 (by with_unfolding_all rfl) trivial ?_
  refine LV_lald oL_19 C rfl ?_
  refine LV_run oL_19 C (cs := []) (pc' := 1180) (L' := [some (.ref 999), some (.ref 0), some (.ref 141), some (.ref 140), some (.int i), some (.int (nI k)), some (.int z), none, none]) (st' := [.int (lg_cmp ((f' 0)) (z.toInt64))]) (w' := WLW S' f' w') [] 3 (by with_unfolding_all rfl) trivial ?_
  refine LV_br oL_19 C rfl rfl (fun _ => ?_) (fun h => absurd (by rw [hf0 hk0]; exact lg_cmp_self _) h)
  refine LV_run oL_19 C (cs := []) (pc' := 1647) (L' := [some (.ref 999), some (.ref 0), some (.ref 141), some (.ref 140), some (.int i), some (.int (nI k)), some (.int z), none, none]) (st' := []) (w' := WLW S' f' w') [] 1 (by with_unfolding_all rfl) trivial ?_
  exact LV_weak L0_w (kk S' w' f' hr)
set_option maxRecDepth 20000 in
theorem c_L20 {F : Nat} (hF : 6400 < F) (C : LC p l s m b meth c D ct ad0 Ln xs) {cc : Nat} (hc : cc < 512) {S : S_X6} {w : S_X5} (q : REL cc S w) (f : Nat → Int64) {i : Int32} (h1 : vp_in (i + 1) Ln) (h2 : vp_in (i + 2) Ln) (h3 : vp_in (i + 3) Ln) {kc ks : Nat} (hmc : kc + 1 ≤ 601024 ∧ ks + 6 ≤ 7293034) (kk : ∀ S' w' f', REL (cc + 1) S' w' → LV p l e s m b below meth c D ct ad0 1647 (L0 i) [] (WLW S' f' w') (kc + 1) (ks + 6)) : LV p l e s m b below meth c D ct ad0 1188 (L0 i) [] (WLW S f w) kc ks := by
  obtain ⟨k, z, S', w', f', hb, hk, k3, hr, hf0, hM⟩ := st_setting hF hc q f (xs (i + 1).toNatClampNeg)
  refine LV_run oL_20 C (cs := []) (pc' := 1194) (L' := [some (.ref 999), some (.ref 0), some (.ref 141), some (.ref 140), some (.int i), none, none, none, none]) (st' := [.int (i + 1), .ref 999, .ref 0]) (w' := WLW S f w) [] 5 (by with_unfolding_all rfl) trivial ?_
  refine LV_sld oL_20 C rfl h1 ?_
  refine LV_run oL_20 C (cs := []) (pc' := 1196) (L' := [some (.ref 999), some (.ref 0), some (.ref 141), some (.ref 140), some (.int i), none, none, none, none]) (st' := [.ref 140, .int (xs (i + 1).toNatClampNeg), .ref 0]) (w' := WLW S f w) [] 1 (by with_unfolding_all rfl) trivial ?_
  refine LV_wrap oL_20 C hM cw_L_setting w_lw_165 rfl rfl rfl rfl ⟨rfl, rfl⟩ hmc ?_
  refine LV_run oL_20 C (cs := []) (pc' := 1207) (L' := [some (.ref 999), some (.ref 0), some (.ref 141), some (.ref 140), some (.int i), some (.int (nI k)), none, none, none]) (st' := [.int (i + 1), .ref 999, .ref 141]) (w' := WLW S' f' w) [] 6 (by with_unfolding_all rfl) trivial ?_
  refine LV_sld oL_20 C rfl h1 ?_
  refine LV_model oL_20 C (z := .int z) (w' := w') (rest := []) (t_X5_setting F w (xs (i + 1).toNatClampNeg) (z, w') hb) cv_X5_setting ml_L_law_167 rfl rfl rfl rfl ⟨rfl, rfl⟩ ⟨rfl, rfl⟩ hmc rfl ?_
  refine LV_run oL_20 C (cs := []) (pc' := 1214) (L' := [some (.ref 999), some (.ref 0), some (.ref 141), some (.ref 140), some (.int i), some (.int (nI k)), some (.int z), none, none]) (st' := [.ref 141]) (w' := WLW S' f' w') [] 2 (by with_unfolding_all rfl) trivial ?_
  refine LV_model oL_20 C (z := .int (nI k)) (w' := w') (rest := []) (t_X5_thrown F w' (nI k) (by rw [← hk]; rfl)) cv_X5_thrown ml_L_law_98 rfl rfl rfl rfl ⟨rfl, rfl⟩ ⟨rfl, rfl⟩ hmc rfl ?_
  refine LV_run oL_20 C (cs := []) (pc' := 1219) (L' := [some (.ref 999), some (.ref 0), some (.ref 141), some (.ref 140), some (.int i), some (.int (nI k)), some (.int z), none, none]) (st' := [.int (nI k), .int (nI k)]) (w' := WLW S' f' w') [] 1 (by with_unfolding_all rfl) trivial ?_
  refine LV_br oL_20 C rfl rfl (fun _ => ?_) (fun h => absurd rfl h)
  refine LV_run oL_20 C (cs := []) (pc' := 1226) (L' := [some (.ref 999), some (.ref 0), some (.ref 141), some (.ref 140), some (.int i), some (.int (nI k)), some (.int z), none, none]) (st' := [.int (nI k)]) (w' := WLW S' f' w') [] 1 (by with_unfolding_all rfl) trivial ?_
  refine LV_br oL_20 C rfl rfl (fun _ => ?_) (fun h => ?_)
  · refine LV_run oL_20 C (cs := []) (pc' := 1647) (L' := [some (.ref 999), some (.ref 0), some (.ref 141), some (.ref 140), some (.int i), some (.int (nI k)), some (.int z), none, none]) (st' := []) (w' := WLW S' f' w') [] 1 (by with_unfolding_all rfl) trivial ?_
    exact LV_weak L0_w (kk S' w' f' hr)
  have hk0 : k = 0 := (nI_eq (by omega) (by omega)).mp (h.trans nI_0.symm)
  refine LV_run oL_20 C (cs := []) (pc' := 1231) (L' := [some (.ref 999), some (.ref 0), some (.ref 141), some (.ref 140), some (.int i), some (.int (nI k)), some (.int z), none, none]) (st' := [.int 0, .ref 140]) (w' := WLW S' f' w') [] 2 (by with_unfolding_all rfl) trivial ?_
  refine LV_lald oL_20 C rfl ?_
  refine LV_run oL_20 C (cs := []) (pc' := 1236) (L' := [some (.ref 999), some (.ref 0), some (.ref 141), some (.ref 140), some (.int i), some (.int (nI k)), some (.int z), none, none]) (st' := [.int (lg_cmp ((f' 0)) (z.toInt64))]) (w' := WLW S' f' w') [] 3 (by with_unfolding_all rfl) trivial ?_
  refine LV_br oL_20 C rfl rfl (fun _ => ?_) (fun h => absurd (by rw [hf0 hk0]; exact lg_cmp_self _) h)
  refine LV_run oL_20 C (cs := []) (pc' := 1647) (L' := [some (.ref 999), some (.ref 0), some (.ref 141), some (.ref 140), some (.int i), some (.int (nI k)), some (.int z), none, none]) (st' := []) (w' := WLW S' f' w') [] 1 (by with_unfolding_all rfl) trivial ?_
  exact LV_weak L0_w (kk S' w' f' hr)
set_option maxRecDepth 20000 in
theorem c_L21 {F : Nat} (hF : 6400 < F) (C : LC p l s m b meth c D ct ad0 Ln xs) {cc : Nat} (hc : cc < 512) {S : S_X6} {w : S_X5} (q : REL cc S w) (f : Nat → Int64) {i : Int32} (h1 : vp_in (i + 1) Ln) (h2 : vp_in (i + 2) Ln) (h3 : vp_in (i + 3) Ln) {kc ks : Nat} (hmc : kc + 1 ≤ 601024 ∧ ks + 6 ≤ 7293034) (kk : ∀ S' w' f', REL (cc + 1) S' w' → LV p l e s m b below meth c D ct ad0 1647 (L0 i) [] (WLW S' f' w') (kc + 1) (ks + 6)) : LV p l e s m b below meth c D ct ad0 1244 (L0 i) [] (WLW S f w) kc ks := by
  obtain ⟨k, z, S', w', f', hb, hk, k3, hr, hf0, hM⟩ := st_ifPassed hF hc q f (xs (i + 1).toNatClampNeg) (xs (i + 2).toNatClampNeg)
  refine LV_run oL_21 C (cs := []) (pc' := 1250) (L' := [some (.ref 999), some (.ref 0), some (.ref 141), some (.ref 140), some (.int i), none, none, none, none]) (st' := [.int (i + 1), .ref 999, .ref 0]) (w' := WLW S f w) [] 5 (by with_unfolding_all rfl) trivial ?_
  refine LV_sld oL_21 C rfl h1 ?_
  refine LV_run oL_21 C (cs := []) (pc' := 1256) (L' := [some (.ref 999), some (.ref 0), some (.ref 141), some (.ref 140), some (.int i), none, none, none, none]) (st' := [.int (i + 2), .ref 999, .int (xs (i + 1).toNatClampNeg), .ref 0]) (w' := WLW S f w) [] 4 (by with_unfolding_all rfl) trivial ?_
  refine LV_sld oL_21 C rfl h2 ?_
  refine LV_run oL_21 C (cs := []) (pc' := 1258) (L' := [some (.ref 999), some (.ref 0), some (.ref 141), some (.ref 140), some (.int i), none, none, none, none]) (st' := [.ref 140, .int (xs (i + 2).toNatClampNeg), .int (xs (i + 1).toNatClampNeg), .ref 0]) (w' := WLW S f w) [] 1 (by with_unfolding_all rfl) trivial ?_
  refine LV_wrap oL_21 C hM cw_L_ifPassed w_lw_168 rfl rfl rfl rfl ⟨rfl, rfl⟩ hmc ?_
  refine LV_run oL_21 C (cs := []) (pc' := 1269) (L' := [some (.ref 999), some (.ref 0), some (.ref 141), some (.ref 140), some (.int i), some (.int (nI k)), none, none, none]) (st' := [.int (i + 1), .ref 999, .ref 141]) (w' := WLW S' f' w) [] 6 (by with_unfolding_all rfl) trivial ?_
  refine LV_sld oL_21 C rfl h1 ?_
  refine LV_run oL_21 C (cs := []) (pc' := 1275) (L' := [some (.ref 999), some (.ref 0), some (.ref 141), some (.ref 140), some (.int i), some (.int (nI k)), none, none, none]) (st' := [.int (i + 2), .ref 999, .int (xs (i + 1).toNatClampNeg), .ref 141]) (w' := WLW S' f' w) [] 4 (by with_unfolding_all rfl) trivial ?_
  refine LV_sld oL_21 C rfl h2 ?_
  refine LV_model oL_21 C (z := .int z) (w' := w') (rest := []) (t_X5_ifPassed F w (xs (i + 1).toNatClampNeg) (xs (i + 2).toNatClampNeg) (z, w') hb) cv_X5_ifPassed ml_L_law_170 rfl rfl rfl rfl ⟨rfl, rfl⟩ ⟨rfl, rfl⟩ hmc rfl ?_
  refine LV_run oL_21 C (cs := []) (pc' := 1282) (L' := [some (.ref 999), some (.ref 0), some (.ref 141), some (.ref 140), some (.int i), some (.int (nI k)), some (.int z), none, none]) (st' := [.ref 141]) (w' := WLW S' f' w') [] 2 (by with_unfolding_all rfl) trivial ?_
  refine LV_model oL_21 C (z := .int (nI k)) (w' := w') (rest := []) (t_X5_thrown F w' (nI k) (by rw [← hk]; rfl)) cv_X5_thrown ml_L_law_98 rfl rfl rfl rfl ⟨rfl, rfl⟩ ⟨rfl, rfl⟩ hmc rfl ?_
  refine LV_run oL_21 C (cs := []) (pc' := 1287) (L' := [some (.ref 999), some (.ref 0), some (.ref 141), some (.ref 140), some (.int i), some (.int (nI k)), some (.int z), none, none]) (st' := [.int (nI k), .int (nI k)]) (w' := WLW S' f' w') [] 1 (by with_unfolding_all rfl) trivial ?_
  refine LV_br oL_21 C rfl rfl (fun _ => ?_) (fun h => absurd rfl h)
  refine LV_run oL_21 C (cs := []) (pc' := 1294) (L' := [some (.ref 999), some (.ref 0), some (.ref 141), some (.ref 140), some (.int i), some (.int (nI k)), some (.int z), none, none]) (st' := [.int (nI k)]) (w' := WLW S' f' w') [] 1 (by with_unfolding_all rfl) trivial ?_
  refine LV_br oL_21 C rfl rfl (fun _ => ?_) (fun h => ?_)
  · refine LV_run oL_21 C (cs := []) (pc' := 1647) (L' := [some (.ref 999), some (.ref 0), some (.ref 141), some (.ref 140), some (.int i), some (.int (nI k)), some (.int z), none, none]) (st' := []) (w' := WLW S' f' w') [] 1 (by with_unfolding_all rfl) trivial ?_
    exact LV_weak L0_w (kk S' w' f' hr)
  have hk0 : k = 0 := (nI_eq (by omega) (by omega)).mp (h.trans nI_0.symm)
  refine LV_run oL_21 C (cs := []) (pc' := 1299) (L' := [some (.ref 999), some (.ref 0), some (.ref 141), some (.ref 140), some (.int i), some (.int (nI k)), some (.int z), none, none]) (st' := [.int 0, .ref 140]) (w' := WLW S' f' w') [] 2 (by with_unfolding_all rfl) trivial ?_
  refine LV_lald oL_21 C rfl ?_
  refine LV_run oL_21 C (cs := []) (pc' := 1304) (L' := [some (.ref 999), some (.ref 0), some (.ref 141), some (.ref 140), some (.int i), some (.int (nI k)), some (.int z), none, none]) (st' := [.int (lg_cmp ((f' 0)) (z.toInt64))]) (w' := WLW S' f' w') [] 3 (by with_unfolding_all rfl) trivial ?_
  refine LV_br oL_21 C rfl rfl (fun _ => ?_) (fun h => absurd (by rw [hf0 hk0]; exact lg_cmp_self _) h)
  refine LV_run oL_21 C (cs := []) (pc' := 1647) (L' := [some (.ref 999), some (.ref 0), some (.ref 141), some (.ref 140), some (.int i), some (.int (nI k)), some (.int z), none, none]) (st' := []) (w' := WLW S' f' w') [] 1 (by with_unfolding_all rfl) trivial ?_
  exact LV_weak L0_w (kk S' w' f' hr)
set_option maxRecDepth 20000 in
theorem c_L22 {F : Nat} (hF : 6400 < F) (C : LC p l s m b meth c D ct ad0 Ln xs) {cc : Nat} (hc : cc < 512) {S : S_X6} {w : S_X5} (q : REL cc S w) (f : Nat → Int64) {i : Int32} (h1 : vp_in (i + 1) Ln) (h2 : vp_in (i + 2) Ln) (h3 : vp_in (i + 3) Ln) {kc ks : Nat} (hmc : kc + 1 ≤ 601024 ∧ ks + 6 ≤ 7293034) (kk : ∀ S' w' f', REL (cc + 1) S' w' → LV p l e s m b below meth c D ct ad0 1647 (L0 i) [] (WLW S' f' w') (kc + 1) (ks + 6)) : LV p l e s m b below meth c D ct ad0 1312 (L0 i) [] (WLW S f w) kc ks := by
  obtain ⟨k, z, S', w', f', hb, hk, k3, hr, hf0, hM⟩ := st_endsIn hF hc q f (xs (i + 1).toNatClampNeg)
  refine LV_run oL_22 C (cs := []) (pc' := 1318) (L' := [some (.ref 999), some (.ref 0), some (.ref 141), some (.ref 140), some (.int i), none, none, none, none]) (st' := [.int (i + 1), .ref 999, .ref 0]) (w' := WLW S f w) [] 5 (by with_unfolding_all rfl) trivial ?_
  refine LV_sld oL_22 C rfl h1 ?_
  refine LV_run oL_22 C (cs := []) (pc' := 1320) (L' := [some (.ref 999), some (.ref 0), some (.ref 141), some (.ref 140), some (.int i), none, none, none, none]) (st' := [.ref 140, .int (xs (i + 1).toNatClampNeg), .ref 0]) (w' := WLW S f w) [] 1 (by with_unfolding_all rfl) trivial ?_
  refine LV_wrap oL_22 C hM cw_L_endsIn w_lw_171 rfl rfl rfl rfl ⟨rfl, rfl⟩ hmc ?_
  refine LV_run oL_22 C (cs := []) (pc' := 1331) (L' := [some (.ref 999), some (.ref 0), some (.ref 141), some (.ref 140), some (.int i), some (.int (nI k)), none, none, none]) (st' := [.int (i + 1), .ref 999, .ref 141]) (w' := WLW S' f' w) [] 6 (by with_unfolding_all rfl) trivial ?_
  refine LV_sld oL_22 C rfl h1 ?_
  refine LV_model oL_22 C (z := .int z) (w' := w') (rest := []) (t_X5_endsIn F w (xs (i + 1).toNatClampNeg) (z, w') hb) cv_X5_endsIn ml_L_law_173 rfl rfl rfl rfl ⟨rfl, rfl⟩ ⟨rfl, rfl⟩ hmc rfl ?_
  refine LV_run oL_22 C (cs := []) (pc' := 1338) (L' := [some (.ref 999), some (.ref 0), some (.ref 141), some (.ref 140), some (.int i), some (.int (nI k)), some (.int z), none, none]) (st' := [.ref 141]) (w' := WLW S' f' w') [] 2 (by with_unfolding_all rfl) trivial ?_
  refine LV_model oL_22 C (z := .int (nI k)) (w' := w') (rest := []) (t_X5_thrown F w' (nI k) (by rw [← hk]; rfl)) cv_X5_thrown ml_L_law_98 rfl rfl rfl rfl ⟨rfl, rfl⟩ ⟨rfl, rfl⟩ hmc rfl ?_
  refine LV_run oL_22 C (cs := []) (pc' := 1343) (L' := [some (.ref 999), some (.ref 0), some (.ref 141), some (.ref 140), some (.int i), some (.int (nI k)), some (.int z), none, none]) (st' := [.int (nI k), .int (nI k)]) (w' := WLW S' f' w') [] 1 (by with_unfolding_all rfl) trivial ?_
  refine LV_br oL_22 C rfl rfl (fun _ => ?_) (fun h => absurd rfl h)
  refine LV_run oL_22 C (cs := []) (pc' := 1350) (L' := [some (.ref 999), some (.ref 0), some (.ref 141), some (.ref 140), some (.int i), some (.int (nI k)), some (.int z), none, none]) (st' := [.int (nI k)]) (w' := WLW S' f' w') [] 1 (by with_unfolding_all rfl) trivial ?_
  refine LV_br oL_22 C rfl rfl (fun _ => ?_) (fun h => ?_)
  · refine LV_run oL_22 C (cs := []) (pc' := 1647) (L' := [some (.ref 999), some (.ref 0), some (.ref 141), some (.ref 140), some (.int i), some (.int (nI k)), some (.int z), none, none]) (st' := []) (w' := WLW S' f' w') [] 1 (by with_unfolding_all rfl) trivial ?_
    exact LV_weak L0_w (kk S' w' f' hr)
  have hk0 : k = 0 := (nI_eq (by omega) (by omega)).mp (h.trans nI_0.symm)
  refine LV_run oL_22 C (cs := []) (pc' := 1355) (L' := [some (.ref 999), some (.ref 0), some (.ref 141), some (.ref 140), some (.int i), some (.int (nI k)), some (.int z), none, none]) (st' := [.int 0, .ref 140]) (w' := WLW S' f' w') [] 2 (by with_unfolding_all rfl) trivial ?_
  refine LV_lald oL_22 C rfl ?_
  refine LV_run oL_22 C (cs := []) (pc' := 1360) (L' := [some (.ref 999), some (.ref 0), some (.ref 141), some (.ref 140), some (.int i), some (.int (nI k)), some (.int z), none, none]) (st' := [.int (lg_cmp ((f' 0)) (z.toInt64))]) (w' := WLW S' f' w') [] 3 (by with_unfolding_all rfl) trivial ?_
  refine LV_br oL_22 C rfl rfl (fun _ => ?_) (fun h => absurd (by rw [hf0 hk0]; exact lg_cmp_self _) h)
  refine LV_run oL_22 C (cs := []) (pc' := 1647) (L' := [some (.ref 999), some (.ref 0), some (.ref 141), some (.ref 140), some (.int i), some (.int (nI k)), some (.int z), none, none]) (st' := []) (w' := WLW S' f' w') [] 1 (by with_unfolding_all rfl) trivial ?_
  exact LV_weak L0_w (kk S' w' f' hr)
set_option maxRecDepth 20000 in
theorem c_L23 {F : Nat} (hF : 6400 < F) (C : LC p l s m b meth c D ct ad0 Ln xs) {cc : Nat} (hc : cc < 512) {S : S_X6} {w : S_X5} (q : REL cc S w) (f : Nat → Int64) {i : Int32} (h1 : vp_in (i + 1) Ln) (h2 : vp_in (i + 2) Ln) (h3 : vp_in (i + 3) Ln) {kc ks : Nat} (hmc : kc + 1 ≤ 601024 ∧ ks + 6 ≤ 7293034) (kk : ∀ S' w' f', REL (cc + 1) S' w' → LV p l e s m b below meth c D ct ad0 1647 (L0 i) [] (WLW S' f' w') (kc + 1) (ks + 6)) : LV p l e s m b below meth c D ct ad0 1368 (L0 i) [] (WLW S f w) kc ks := by
  obtain ⟨k, z, S', w', f', hb, hk, k3, hr, hf0, hM⟩ := st_ifTried hF hc q f (xs (i + 1).toNatClampNeg)
  refine LV_run oL_23 C (cs := []) (pc' := 1374) (L' := [some (.ref 999), some (.ref 0), some (.ref 141), some (.ref 140), some (.int i), none, none, none, none]) (st' := [.int (i + 1), .ref 999, .ref 0]) (w' := WLW S f w) [] 5 (by with_unfolding_all rfl) trivial ?_
  refine LV_sld oL_23 C rfl h1 ?_
  refine LV_run oL_23 C (cs := []) (pc' := 1376) (L' := [some (.ref 999), some (.ref 0), some (.ref 141), some (.ref 140), some (.int i), none, none, none, none]) (st' := [.ref 140, .int (xs (i + 1).toNatClampNeg), .ref 0]) (w' := WLW S f w) [] 1 (by with_unfolding_all rfl) trivial ?_
  refine LV_wrap oL_23 C hM cw_L_ifTried w_lw_174 rfl rfl rfl rfl ⟨rfl, rfl⟩ hmc ?_
  refine LV_run oL_23 C (cs := []) (pc' := 1387) (L' := [some (.ref 999), some (.ref 0), some (.ref 141), some (.ref 140), some (.int i), some (.int (nI k)), none, none, none]) (st' := [.int (i + 1), .ref 999, .ref 141]) (w' := WLW S' f' w) [] 6 (by with_unfolding_all rfl) trivial ?_
  refine LV_sld oL_23 C rfl h1 ?_
  refine LV_model oL_23 C (z := .int z) (w' := w') (rest := []) (t_X5_ifTried F w (xs (i + 1).toNatClampNeg) (z, w') hb) cv_X5_ifTried ml_L_law_176 rfl rfl rfl rfl ⟨rfl, rfl⟩ ⟨rfl, rfl⟩ hmc rfl ?_
  refine LV_run oL_23 C (cs := []) (pc' := 1394) (L' := [some (.ref 999), some (.ref 0), some (.ref 141), some (.ref 140), some (.int i), some (.int (nI k)), some (.int z), none, none]) (st' := [.ref 141]) (w' := WLW S' f' w') [] 2 (by with_unfolding_all rfl) trivial ?_
  refine LV_model oL_23 C (z := .int (nI k)) (w' := w') (rest := []) (t_X5_thrown F w' (nI k) (by rw [← hk]; rfl)) cv_X5_thrown ml_L_law_98 rfl rfl rfl rfl ⟨rfl, rfl⟩ ⟨rfl, rfl⟩ hmc rfl ?_
  refine LV_run oL_23 C (cs := []) (pc' := 1399) (L' := [some (.ref 999), some (.ref 0), some (.ref 141), some (.ref 140), some (.int i), some (.int (nI k)), some (.int z), none, none]) (st' := [.int (nI k), .int (nI k)]) (w' := WLW S' f' w') [] 1 (by with_unfolding_all rfl) trivial ?_
  refine LV_br oL_23 C rfl rfl (fun _ => ?_) (fun h => absurd rfl h)
  refine LV_run oL_23 C (cs := []) (pc' := 1406) (L' := [some (.ref 999), some (.ref 0), some (.ref 141), some (.ref 140), some (.int i), some (.int (nI k)), some (.int z), none, none]) (st' := [.int (nI k)]) (w' := WLW S' f' w') [] 1 (by with_unfolding_all rfl) trivial ?_
  refine LV_br oL_23 C rfl rfl (fun _ => ?_) (fun h => ?_)
  · refine LV_run oL_23 C (cs := []) (pc' := 1647) (L' := [some (.ref 999), some (.ref 0), some (.ref 141), some (.ref 140), some (.int i), some (.int (nI k)), some (.int z), none, none]) (st' := []) (w' := WLW S' f' w') [] 1 (by with_unfolding_all rfl) trivial ?_
    exact LV_weak L0_w (kk S' w' f' hr)
  have hk0 : k = 0 := (nI_eq (by omega) (by omega)).mp (h.trans nI_0.symm)
  refine LV_run oL_23 C (cs := []) (pc' := 1411) (L' := [some (.ref 999), some (.ref 0), some (.ref 141), some (.ref 140), some (.int i), some (.int (nI k)), some (.int z), none, none]) (st' := [.int 0, .ref 140]) (w' := WLW S' f' w') [] 2 (by with_unfolding_all rfl) trivial ?_
  refine LV_lald oL_23 C rfl ?_
  refine LV_run oL_23 C (cs := []) (pc' := 1416) (L' := [some (.ref 999), some (.ref 0), some (.ref 141), some (.ref 140), some (.int i), some (.int (nI k)), some (.int z), none, none]) (st' := [.int (lg_cmp ((f' 0)) (z.toInt64))]) (w' := WLW S' f' w') [] 3 (by with_unfolding_all rfl) trivial ?_
  refine LV_br oL_23 C rfl rfl (fun _ => ?_) (fun h => absurd (by rw [hf0 hk0]; exact lg_cmp_self _) h)
  refine LV_run oL_23 C (cs := []) (pc' := 1647) (L' := [some (.ref 999), some (.ref 0), some (.ref 141), some (.ref 140), some (.int i), some (.int (nI k)), some (.int z), none, none]) (st' := []) (w' := WLW S' f' w') [] 1 (by with_unfolding_all rfl) trivial ?_
  exact LV_weak L0_w (kk S' w' f' hr)
set_option maxRecDepth 20000 in
theorem c_L24 {F : Nat} (hF : 6400 < F) (C : LC p l s m b meth c D ct ad0 Ln xs) {cc : Nat} (hc : cc < 512) {S : S_X6} {w : S_X5} (q : REL cc S w) (f : Nat → Int64) {i : Int32} (h1 : vp_in (i + 1) Ln) (h2 : vp_in (i + 2) Ln) (h3 : vp_in (i + 3) Ln) {kc ks : Nat} (hmc : kc + 1 ≤ 601024 ∧ ks + 6 ≤ 7293034) (kk : ∀ S' w' f', REL (cc + 1) S' w' → LV p l e s m b below meth c D ct ad0 1647 (L0 i) [] (WLW S' f' w') (kc + 1) (ks + 6)) : LV p l e s m b below meth c D ct ad0 1424 (L0 i) [] (WLW S f w) kc ks := by
  obtain ⟨k, z, S', w', f', hb, hk, k3, hr, hf0, hM⟩ := st_ring hF hc q f (xs (i + 1).toNatClampNeg)
  refine LV_run oL_24 C (cs := []) (pc' := 1430) (L' := [some (.ref 999), some (.ref 0), some (.ref 141), some (.ref 140), some (.int i), none, none, none, none]) (st' := [.int (i + 1), .ref 999, .ref 0]) (w' := WLW S f w) [] 5 (by with_unfolding_all rfl) trivial ?_
  refine LV_sld oL_24 C rfl h1 ?_
  refine LV_run oL_24 C (cs := []) (pc' := 1432) (L' := [some (.ref 999), some (.ref 0), some (.ref 141), some (.ref 140), some (.int i), none, none, none, none]) (st' := [.ref 140, .int (xs (i + 1).toNatClampNeg), .ref 0]) (w' := WLW S f w) [] 1 (by with_unfolding_all rfl) trivial ?_
  refine LV_wrap oL_24 C hM cw_L_ring w_lw_177 rfl rfl rfl rfl ⟨rfl, rfl⟩ hmc ?_
  refine LV_run oL_24 C (cs := []) (pc' := 1443) (L' := [some (.ref 999), some (.ref 0), some (.ref 141), some (.ref 140), some (.int i), some (.int (nI k)), none, none, none]) (st' := [.int (i + 1), .ref 999, .ref 141]) (w' := WLW S' f' w) [] 6 (by with_unfolding_all rfl) trivial ?_
  refine LV_sld oL_24 C rfl h1 ?_
  refine LV_model oL_24 C (z := .int z) (w' := w') (rest := []) (t_X5_ring F w (xs (i + 1).toNatClampNeg) (z, w') hb) cv_X5_ring ml_L_law_179 rfl rfl rfl rfl ⟨rfl, rfl⟩ ⟨rfl, rfl⟩ hmc rfl ?_
  refine LV_run oL_24 C (cs := []) (pc' := 1450) (L' := [some (.ref 999), some (.ref 0), some (.ref 141), some (.ref 140), some (.int i), some (.int (nI k)), some (.int z), none, none]) (st' := [.ref 141]) (w' := WLW S' f' w') [] 2 (by with_unfolding_all rfl) trivial ?_
  refine LV_model oL_24 C (z := .int (nI k)) (w' := w') (rest := []) (t_X5_thrown F w' (nI k) (by rw [← hk]; rfl)) cv_X5_thrown ml_L_law_98 rfl rfl rfl rfl ⟨rfl, rfl⟩ ⟨rfl, rfl⟩ hmc rfl ?_
  refine LV_run oL_24 C (cs := []) (pc' := 1455) (L' := [some (.ref 999), some (.ref 0), some (.ref 141), some (.ref 140), some (.int i), some (.int (nI k)), some (.int z), none, none]) (st' := [.int (nI k), .int (nI k)]) (w' := WLW S' f' w') [] 1 (by with_unfolding_all rfl) trivial ?_
  refine LV_br oL_24 C rfl rfl (fun _ => ?_) (fun h => absurd rfl h)
  refine LV_run oL_24 C (cs := []) (pc' := 1462) (L' := [some (.ref 999), some (.ref 0), some (.ref 141), some (.ref 140), some (.int i), some (.int (nI k)), some (.int z), none, none]) (st' := [.int (nI k)]) (w' := WLW S' f' w') [] 1 (by with_unfolding_all rfl) trivial ?_
  refine LV_br oL_24 C rfl rfl (fun _ => ?_) (fun h => ?_)
  · refine LV_run oL_24 C (cs := []) (pc' := 1647) (L' := [some (.ref 999), some (.ref 0), some (.ref 141), some (.ref 140), some (.int i), some (.int (nI k)), some (.int z), none, none]) (st' := []) (w' := WLW S' f' w') [] 1 (by with_unfolding_all rfl) trivial ?_
    exact LV_weak L0_w (kk S' w' f' hr)
  have hk0 : k = 0 := (nI_eq (by omega) (by omega)).mp (h.trans nI_0.symm)
  refine LV_run oL_24 C (cs := []) (pc' := 1467) (L' := [some (.ref 999), some (.ref 0), some (.ref 141), some (.ref 140), some (.int i), some (.int (nI k)), some (.int z), none, none]) (st' := [.int 0, .ref 140]) (w' := WLW S' f' w') [] 2 (by with_unfolding_all rfl) trivial ?_
  refine LV_lald oL_24 C rfl ?_
  refine LV_run oL_24 C (cs := []) (pc' := 1472) (L' := [some (.ref 999), some (.ref 0), some (.ref 141), some (.ref 140), some (.int i), some (.int (nI k)), some (.int z), none, none]) (st' := [.int (lg_cmp ((f' 0)) (z.toInt64))]) (w' := WLW S' f' w') [] 3 (by with_unfolding_all rfl) trivial ?_
  refine LV_br oL_24 C rfl rfl (fun _ => ?_) (fun h => absurd (by rw [hf0 hk0]; exact lg_cmp_self _) h)
  refine LV_run oL_24 C (cs := []) (pc' := 1647) (L' := [some (.ref 999), some (.ref 0), some (.ref 141), some (.ref 140), some (.int i), some (.int (nI k)), some (.int z), none, none]) (st' := []) (w' := WLW S' f' w') [] 1 (by with_unfolding_all rfl) trivial ?_
  exact LV_weak L0_w (kk S' w' f' hr)
set_option maxRecDepth 20000 in
theorem c_L25 {F : Nat} (hF : 6400 < F) (C : LC p l s m b meth c D ct ad0 Ln xs) {cc : Nat} (hc : cc < 512) {S : S_X6} {w : S_X5} (q : REL cc S w) (f : Nat → Int64) {i : Int32} (h1 : vp_in (i + 1) Ln) (h2 : vp_in (i + 2) Ln) (h3 : vp_in (i + 3) Ln) {kc ks : Nat} (hmc : kc + 1 ≤ 601024 ∧ ks + 6 ≤ 7293034) (kk : ∀ S' w' f', REL (cc + 1) S' w' → LV p l e s m b below meth c D ct ad0 1647 (L0 i) [] (WLW S' f' w') (kc + 1) (ks + 6)) : LV p l e s m b below meth c D ct ad0 1480 (L0 i) [] (WLW S f w) kc ks := by
  obtain ⟨k, z, S', w', f', hb, hk, k3, hr, hf0, hM⟩ := st_bestCut hF hc q f (xs (i + 1).toNatClampNeg)
  refine LV_run oL_25 C (cs := []) (pc' := 1486) (L' := [some (.ref 999), some (.ref 0), some (.ref 141), some (.ref 140), some (.int i), none, none, none, none]) (st' := [.int (i + 1), .ref 999, .ref 0]) (w' := WLW S f w) [] 5 (by with_unfolding_all rfl) trivial ?_
  refine LV_sld oL_25 C rfl h1 ?_
  refine LV_run oL_25 C (cs := []) (pc' := 1488) (L' := [some (.ref 999), some (.ref 0), some (.ref 141), some (.ref 140), some (.int i), none, none, none, none]) (st' := [.ref 140, .int (xs (i + 1).toNatClampNeg), .ref 0]) (w' := WLW S f w) [] 1 (by with_unfolding_all rfl) trivial ?_
  refine LV_wrap oL_25 C hM cw_L_bestCut w_lw_180 rfl rfl rfl rfl ⟨rfl, rfl⟩ hmc ?_
  refine LV_run oL_25 C (cs := []) (pc' := 1499) (L' := [some (.ref 999), some (.ref 0), some (.ref 141), some (.ref 140), some (.int i), some (.int (nI k)), none, none, none]) (st' := [.int (i + 1), .ref 999, .ref 141]) (w' := WLW S' f' w) [] 6 (by with_unfolding_all rfl) trivial ?_
  refine LV_sld oL_25 C rfl h1 ?_
  refine LV_model oL_25 C (z := .int z) (w' := w') (rest := []) (t_X5_bestCut F w (xs (i + 1).toNatClampNeg) (z, w') hb) cv_X5_bestCut ml_L_law_182 rfl rfl rfl rfl ⟨rfl, rfl⟩ ⟨rfl, rfl⟩ hmc rfl ?_
  refine LV_run oL_25 C (cs := []) (pc' := 1506) (L' := [some (.ref 999), some (.ref 0), some (.ref 141), some (.ref 140), some (.int i), some (.int (nI k)), some (.int z), none, none]) (st' := [.ref 141]) (w' := WLW S' f' w') [] 2 (by with_unfolding_all rfl) trivial ?_
  refine LV_model oL_25 C (z := .int (nI k)) (w' := w') (rest := []) (t_X5_thrown F w' (nI k) (by rw [← hk]; rfl)) cv_X5_thrown ml_L_law_98 rfl rfl rfl rfl ⟨rfl, rfl⟩ ⟨rfl, rfl⟩ hmc rfl ?_
  refine LV_run oL_25 C (cs := []) (pc' := 1511) (L' := [some (.ref 999), some (.ref 0), some (.ref 141), some (.ref 140), some (.int i), some (.int (nI k)), some (.int z), none, none]) (st' := [.int (nI k), .int (nI k)]) (w' := WLW S' f' w') [] 1 (by with_unfolding_all rfl) trivial ?_
  refine LV_br oL_25 C rfl rfl (fun _ => ?_) (fun h => absurd rfl h)
  refine LV_run oL_25 C (cs := []) (pc' := 1518) (L' := [some (.ref 999), some (.ref 0), some (.ref 141), some (.ref 140), some (.int i), some (.int (nI k)), some (.int z), none, none]) (st' := [.int (nI k)]) (w' := WLW S' f' w') [] 1 (by with_unfolding_all rfl) trivial ?_
  refine LV_br oL_25 C rfl rfl (fun _ => ?_) (fun h => ?_)
  · refine LV_run oL_25 C (cs := []) (pc' := 1647) (L' := [some (.ref 999), some (.ref 0), some (.ref 141), some (.ref 140), some (.int i), some (.int (nI k)), some (.int z), none, none]) (st' := []) (w' := WLW S' f' w') [] 1 (by with_unfolding_all rfl) trivial ?_
    exact LV_weak L0_w (kk S' w' f' hr)
  have hk0 : k = 0 := (nI_eq (by omega) (by omega)).mp (h.trans nI_0.symm)
  refine LV_run oL_25 C (cs := []) (pc' := 1523) (L' := [some (.ref 999), some (.ref 0), some (.ref 141), some (.ref 140), some (.int i), some (.int (nI k)), some (.int z), none, none]) (st' := [.int 0, .ref 140]) (w' := WLW S' f' w') [] 2 (by with_unfolding_all rfl) trivial ?_
  refine LV_lald oL_25 C rfl ?_
  refine LV_run oL_25 C (cs := []) (pc' := 1528) (L' := [some (.ref 999), some (.ref 0), some (.ref 141), some (.ref 140), some (.int i), some (.int (nI k)), some (.int z), none, none]) (st' := [.int (lg_cmp ((f' 0)) (z.toInt64))]) (w' := WLW S' f' w') [] 3 (by with_unfolding_all rfl) trivial ?_
  refine LV_br oL_25 C rfl rfl (fun _ => ?_) (fun h => absurd (by rw [hf0 hk0]; exact lg_cmp_self _) h)
  refine LV_run oL_25 C (cs := []) (pc' := 1647) (L' := [some (.ref 999), some (.ref 0), some (.ref 141), some (.ref 140), some (.int i), some (.int (nI k)), some (.int z), none, none]) (st' := []) (w' := WLW S' f' w') [] 1 (by with_unfolding_all rfl) trivial ?_
  exact LV_weak L0_w (kk S' w' f' hr)
set_option maxRecDepth 20000 in
theorem c_L26 {F : Nat} (hF : 6400 < F) (C : LC p l s m b meth c D ct ad0 Ln xs) {cc : Nat} (hc : cc < 512) {S : S_X6} {w : S_X5} (q : REL cc S w) (f : Nat → Int64) {i : Int32} (h1 : vp_in (i + 1) Ln) (h2 : vp_in (i + 2) Ln) (h3 : vp_in (i + 3) Ln) {kc ks : Nat} (hmc : kc + 1 ≤ 601024 ∧ ks + 6 ≤ 7293034) (kk : ∀ S' w' f', REL (cc + 1) S' w' → LV p l e s m b below meth c D ct ad0 1647 (L0 i) [] (WLW S' f' w') (kc + 1) (ks + 6)) : LV p l e s m b below meth c D ct ad0 1536 (L0 i) [] (WLW S f w) kc ks := by
  obtain ⟨k, z, S', w', f', hb, hk, k3, hr, hf0, hM⟩ := st_bears hF hc q f (xs (i + 1).toNatClampNeg)
  refine LV_run oL_26 C (cs := []) (pc' := 1542) (L' := [some (.ref 999), some (.ref 0), some (.ref 141), some (.ref 140), some (.int i), none, none, none, none]) (st' := [.int (i + 1), .ref 999, .ref 0]) (w' := WLW S f w) [] 5 (by with_unfolding_all rfl) trivial ?_
  refine LV_sld oL_26 C rfl h1 ?_
  refine LV_run oL_26 C (cs := []) (pc' := 1544) (L' := [some (.ref 999), some (.ref 0), some (.ref 141), some (.ref 140), some (.int i), none, none, none, none]) (st' := [.ref 140, .int (xs (i + 1).toNatClampNeg), .ref 0]) (w' := WLW S f w) [] 1 (by with_unfolding_all rfl) trivial ?_
  refine LV_wrap oL_26 C hM cw_L_bears w_lw_183 rfl rfl rfl rfl ⟨rfl, rfl⟩ hmc ?_
  refine LV_run oL_26 C (cs := []) (pc' := 1555) (L' := [some (.ref 999), some (.ref 0), some (.ref 141), some (.ref 140), some (.int i), some (.int (nI k)), none, none, none]) (st' := [.int (i + 1), .ref 999, .ref 141]) (w' := WLW S' f' w) [] 6 (by with_unfolding_all rfl) trivial ?_
  refine LV_sld oL_26 C rfl h1 ?_
  refine LV_model oL_26 C (z := .int z) (w' := w') (rest := []) (t_X5_bears F w (xs (i + 1).toNatClampNeg) (z, w') hb) cv_X5_bears ml_L_law_185 rfl rfl rfl rfl ⟨rfl, rfl⟩ ⟨rfl, rfl⟩ hmc rfl ?_
  refine LV_run oL_26 C (cs := []) (pc' := 1562) (L' := [some (.ref 999), some (.ref 0), some (.ref 141), some (.ref 140), some (.int i), some (.int (nI k)), some (.int z), none, none]) (st' := [.ref 141]) (w' := WLW S' f' w') [] 2 (by with_unfolding_all rfl) trivial ?_
  refine LV_model oL_26 C (z := .int (nI k)) (w' := w') (rest := []) (t_X5_thrown F w' (nI k) (by rw [← hk]; rfl)) cv_X5_thrown ml_L_law_98 rfl rfl rfl rfl ⟨rfl, rfl⟩ ⟨rfl, rfl⟩ hmc rfl ?_
  refine LV_run oL_26 C (cs := []) (pc' := 1567) (L' := [some (.ref 999), some (.ref 0), some (.ref 141), some (.ref 140), some (.int i), some (.int (nI k)), some (.int z), none, none]) (st' := [.int (nI k), .int (nI k)]) (w' := WLW S' f' w') [] 1 (by with_unfolding_all rfl) trivial ?_
  refine LV_br oL_26 C rfl rfl (fun _ => ?_) (fun h => absurd rfl h)
  refine LV_run oL_26 C (cs := []) (pc' := 1574) (L' := [some (.ref 999), some (.ref 0), some (.ref 141), some (.ref 140), some (.int i), some (.int (nI k)), some (.int z), none, none]) (st' := [.int (nI k)]) (w' := WLW S' f' w') [] 1 (by with_unfolding_all rfl) trivial ?_
  refine LV_br oL_26 C rfl rfl (fun _ => ?_) (fun h => ?_)
  · refine LV_run oL_26 C (cs := []) (pc' := 1647) (L' := [some (.ref 999), some (.ref 0), some (.ref 141), some (.ref 140), some (.int i), some (.int (nI k)), some (.int z), none, none]) (st' := []) (w' := WLW S' f' w') [] 1 (by with_unfolding_all rfl) trivial ?_
    exact LV_weak L0_w (kk S' w' f' hr)
  have hk0 : k = 0 := (nI_eq (by omega) (by omega)).mp (h.trans nI_0.symm)
  refine LV_run oL_26 C (cs := []) (pc' := 1579) (L' := [some (.ref 999), some (.ref 0), some (.ref 141), some (.ref 140), some (.int i), some (.int (nI k)), some (.int z), none, none]) (st' := [.int 0, .ref 140]) (w' := WLW S' f' w') [] 2 (by with_unfolding_all rfl) trivial ?_
  refine LV_lald oL_26 C rfl ?_
  refine LV_run oL_26 C (cs := []) (pc' := 1584) (L' := [some (.ref 999), some (.ref 0), some (.ref 141), some (.ref 140), some (.int i), some (.int (nI k)), some (.int z), none, none]) (st' := [.int (lg_cmp ((f' 0)) (z.toInt64))]) (w' := WLW S' f' w') [] 3 (by with_unfolding_all rfl) trivial ?_
  refine LV_br oL_26 C rfl rfl (fun _ => ?_) (fun h => absurd (by rw [hf0 hk0]; exact lg_cmp_self _) h)
  refine LV_run oL_26 C (cs := []) (pc' := 1647) (L' := [some (.ref 999), some (.ref 0), some (.ref 141), some (.ref 140), some (.int i), some (.int (nI k)), some (.int z), none, none]) (st' := []) (w' := WLW S' f' w') [] 1 (by with_unfolding_all rfl) trivial ?_
  exact LV_weak L0_w (kk S' w' f' hr)
set_option maxRecDepth 20000 in
theorem c_L27 {F : Nat} (hF : 6400 < F) (C : LC p l s m b meth c D ct ad0 Ln xs) {cc : Nat} (hc : cc < 512) {S : S_X6} {w : S_X5} (q : REL cc S w) (f : Nat → Int64) {i : Int32} (h1 : vp_in (i + 1) Ln) (h2 : vp_in (i + 2) Ln) (h3 : vp_in (i + 3) Ln) {kc ks : Nat} (hmc : kc + 1 ≤ 601024 ∧ ks + 6 ≤ 7293034) (kk : ∀ S' w' f', REL (cc + 1) S' w' → LV p l e s m b below meth c D ct ad0 1647 (L0 i) [] (WLW S' f' w') (kc + 1) (ks + 6)) : LV p l e s m b below meth c D ct ad0 1592 (L0 i) [] (WLW S f w) kc ks := by
  obtain ⟨z, w', ha, hb, hr⟩ := p_share hF hc q
  refine LV_run oL_27 C (cs := []) (pc' := 1593) (L' := [some (.ref 999), some (.ref 0), some (.ref 141), some (.ref 140), some (.int i), none, none, none, none]) (st' := [.ref 0]) (w' := WLW S f w) [] 1 (by with_unfolding_all rfl) trivial ?_
  refine LV_x4 oL_27 C (z := .double z) (u := S.1) (t_X4_reachedShare F S.1 z ha) cv_X4_reachedShare ml_L_law_186 rfl rfl ⟨rfl, rfl⟩ ⟨rfl, rfl⟩ ⟨Nat.le_of_succ_le hmc.1, Nat.le_trans (Nat.le_add_right ks 6) hmc.2⟩ ?_
  refine LV_run oL_27 C (cs := []) (pc' := 1599) (L' := [some (.ref 999), some (.ref 0), some (.ref 141), some (.ref 140), some (.int i), some (.double z), none, none, none]) (st' := [.ref 141]) (w' := WLW S f w) [] 2 (by with_unfolding_all rfl) trivial ?_
  refine LV_model oL_27 C (z := .double z) (w' := w') (rest := []) (t_X5_reachedShare F w (z, w') hb) cv_X5_reachedShare ml_L_law_190 rfl rfl rfl rfl ⟨rfl, rfl⟩ ⟨rfl, rfl⟩ ⟨Nat.le_of_succ_le hmc.1, Nat.le_trans (Nat.le_add_right ks 6) hmc.2⟩ rfl ?_
  refine LV_run oL_27 C (cs := []) (pc' := 1609) (L' := [some (.ref 999), some (.ref 0), some (.ref 141), some (.ref 140), some (.int i), some (.double z), none, some (.double z), none]) (st' := [.int (Op.cmpValue (FP.dcmp z z) .l)]) (w' := WLW S f w') [] 4 (by with_unfolding_all rfl) trivial ?_
  have hend : LV p l e s m b below meth c D ct ad0 1630 [some (.ref 999), some (.ref 0), some (.ref 141), some (.ref 140), some (.int i), some (.double z), none, some (.double z), none] [] (WLW S f w') kc ks := by
    refine LV_run oL_27 C (cs := []) (pc' := 1647) (L' := [some (.ref 999), some (.ref 0), some (.ref 141), some (.ref 140), some (.int i), some (.double z), none, some (.double z), none]) (st' := []) (w' := WLW S f w') [] 1 (by with_unfolding_all rfl) trivial ?_
    exact LV_weak L0_w (LV_up (Nat.le_add_right kc 1) (Nat.le_add_right ks 6) (kk S w' f hr))
  refine LV_br oL_27 C rfl rfl (fun _ => hend) (fun h => ?_)
  refine LV_run oL_27 C (cs := []) (pc' := 1617) (L' := [some (.ref 999), some (.ref 0), some (.ref 141), some (.ref 140), some (.int i), some (.double z), none, some (.double z), none]) (st' := [.int (Op.cmpValue (FP.dcmp z z) .l)]) (w' := WLW S f w') [] 3 (by with_unfolding_all rfl) trivial ?_
  refine LV_br oL_27 C rfl rfl (fun h9 => absurd h9 h) (fun _ => ?_)
  refine LV_run oL_27 C (cs := []) (pc' := 1625) (L' := [some (.ref 999), some (.ref 0), some (.ref 141), some (.ref 140), some (.int i), some (.double z), none, some (.double z), none]) (st' := [.int (Op.cmpValue (FP.dcmp z z) .l)]) (w' := WLW S f w') [] 3 (by with_unfolding_all rfl) trivial ?_
  exact LV_br oL_27 C rfl rfl (fun _ => hend) (fun h9 => absurd h9 h)
set_option maxRecDepth 20000 in
theorem c_L28 {F : Nat} (hF : 6400 < F) (C : LC p l s m b meth c D ct ad0 Ln xs) {cc : Nat} (hc : cc < 512) {S : S_X6} {w : S_X5} (q : REL cc S w) (f : Nat → Int64) {i : Int32} (h1 : vp_in (i + 1) Ln) (h2 : vp_in (i + 2) Ln) (h3 : vp_in (i + 3) Ln) {kc ks : Nat} (hmc : kc + 1 ≤ 601024 ∧ ks + 6 ≤ 7293034) (kk : ∀ S' w' f', REL (cc + 1) S' w' → LV p l e s m b below meth c D ct ad0 1647 (L0 i) [] (WLW S' f' w') (kc + 1) (ks + 6)) : LV p l e s m b below meth c D ct ad0 1633 (L0 i) [] (WLW S f w) kc ks := by
  obtain ⟨z, U, w', ha, hb, hr⟩ := p_digest hF hc q
  refine LV_run oL_28 C (cs := []) (pc' := 1634) (L' := [some (.ref 999), some (.ref 0), some (.ref 141), some (.ref 140), some (.int i), none, none, none, none]) (st' := [.ref 0]) (w' := WLW S f w) [] 1 (by with_unfolding_all rfl) trivial ?_
  refine LV_x4 oL_28 C (z := .long z) (u := U) (t_X4_digest F S.1 (z, U) ha) cv_X4_digest ml_L_law_191 rfl rfl ⟨rfl, rfl⟩ ⟨rfl, rfl⟩ ⟨Nat.le_of_succ_le hmc.1, Nat.le_trans (Nat.le_add_right ks 6) hmc.2⟩ ?_
  refine LV_run oL_28 C (cs := []) (pc' := 1638) (L' := [some (.ref 999), some (.ref 0), some (.ref 141), some (.ref 140), some (.int i), none, none, none, none]) (st' := [.ref 141, .long z]) (w' := WLW (m_X6_g U S) f w) [] 1 (by with_unfolding_all rfl) trivial ?_
  refine LV_model oL_28 C (z := .long z) (w' := w') (rest := [.long z]) (t_X5_digest F w (z, w') hb) cv_X5_digest ml_L_law_195 rfl rfl rfl rfl ⟨rfl, rfl⟩ ⟨rfl, rfl⟩ ⟨Nat.le_of_succ_le hmc.1, Nat.le_trans (Nat.le_add_right ks 6) hmc.2⟩ rfl ?_
  refine LV_run oL_28 C (cs := []) (pc' := 1642) (L' := [some (.ref 999), some (.ref 0), some (.ref 141), some (.ref 140), some (.int i), none, none, none, none]) (st' := [.int (lg_cmp (z) (z))]) (w' := WLW (m_X6_g U S) f w') [] 1 (by with_unfolding_all rfl) trivial ?_
  refine LV_br oL_28 C rfl rfl (fun _ => ?_) (fun h => absurd (lg_cmp_self _) h)
  exact LV_weak L0_w (LV_up (Nat.le_add_right kc 1) (Nat.le_add_right ks 6) (kk (m_X6_g U S) w' f hr))
end LAWS
