/-! ===== the law's body: a change, its call ===== -/
section LAWS
variable {p : Program} {l : Launch} {e : Env} {s : State} {m : MethodId} {b : Nat} {below : List Frame} {meth : Method} {c : Code} {D : va_G} {ct ad0 : Nat → Nat} {Ln : Nat} {xs : Nat → Int32}

set_option maxRecDepth 20000 in
theorem c_1h {F : Nat} (hF : 6400 < F) (C0 : LC p l s m b meth c D ct ad0 Ln xs) {T e1 h1 m1 : Nat} {v : Nat → Int32} {S : S_X6} {E C : S_XE} {k kd t : Nat} {x y : Int32} (q : KE (2 * k) T e1 h1 m1 (a_X4_now S.1) v E) (r : RZ S) (hk : k < 16) (hT : T ≤ 6 * k) {kc ks : Nat} (hmc : kc + 1 ≤ 600130 ∧ ks + 6 ≤ 7301080) (ht : t < 6) {d : Nat} (hd : d < 4) (hy : y = -1 ∨ ∃ a, a < 6 ∧ y = nI a ∧ mb (a_X3_living (a_X4_now S.1)) a = true) (kk : ∀ S E, KT (k + 1) S E → LV p l e s m b below meth c D ct ad0 719 (LB (some (.int (nI k))) (some (.int x)) none (some (.int (nI t))) none none none none) [] (WW S E C) (kc + 1) (ks + 6)) : LV p l e s m b below meth c D ct ad0 423 (LB (some (.int (nI k))) (some (.int x)) (some (.int (nI kd))) (some (.int (nI t))) (some (.int y)) (some (.int (nI (24 + d)))) (some (.int 1)) none) [] (WW S E C) kc ks := by
  obtain ⟨S2, E2, w1, w2, w3⟩ := z_take hF q r (by omega) hd hy
  obtain ⟨z17, hz⟩ : ∃ z, E.2.2.1 (24 + d) = z := ⟨_, rfl⟩
  have hmc0 : kc ≤ 600130 ∧ ks ≤ 7301080 := by omega
  have h479 : LV p l e s m b below meth c D ct ad0 479 (LB (some (.int (nI k))) (some (.int x)) (some (.int (nI kd))) (some (.int (nI t))) (some (.int y)) (some (.int (nI (24 + d)))) (some (.int 1)) (some (.int z17))) [] (WW S E2 C) kc ks := by
    refine LV_run oL_cb C0 (cs := []) (pc' := 483) (L' := LB (some (.int (nI k))) (some (.int x)) (some (.int (nI kd))) (some (.int (nI t))) (some (.int y)) (some (.int (nI (24 + d)))) (some (.int 1)) (some (.int z17))) (st' := [.int 24, .int (nI (24 + d))]) (w' := WW S E2 C) [] 2 (by with_unfolding_all rfl) trivial ?_
    refine LV_br oL_cb C0 rfl rfl (fun h => absurd ((ni_lt (a := 24 + d) (b := 24) (by omega) (by omega)).mp h) (by omega)) (fun h => ?_)
    refine LV_run oL_cb C0 (cs := []) (pc' := 494) (L' := LB (some (.int (nI k))) (some (.int x)) (some (.int (nI kd))) (some (.int (nI t))) (some (.int y)) (some (.int (nI (24 + d)))) (some (.int 1)) (some (.int z17))) (st' := [.int y, .int ((nI (24 + d)) - 24), .ref 0]) (w' := WW S E2 C) [] 5 (by with_unfolding_all rfl) trivial ?_
    refine LV_nx (st' := [.int y, .int (nI d), .ref 0]) rfl (by rw [show nI (24 + d) - 24 = nI d by rw [show (24 : Int32) = nI 24 from rfl, ni_sub (by omega), Nat.add_sub_cancel_left]]) rfl rfl rfl ?_
    refine LV_wrap oL_cb C0 (S' := S2) (z := .int z17) (rest := []) (as1 := [.ref 0, .int (nI d), .int y]) (rL_take F S S2 (nI d) y z17 (hz ▸ w1)) cw_L_take w_lw_123 rfl rfl rfl rfl ⟨rfl, rfl⟩ hmc ?_
    refine LV_run oL_cb C0 (cs := []) (pc' := 512) (L' := LB (some (.int (nI k))) (some (.int x)) (some (.int (nI kd))) (some (.int (nI t))) (some (.int y)) (some (.int (nI (24 + d)))) (some (.int 1)) (some (.int z17))) (st' := [.int z17]) (w' := WW S2 E2 C) [512] 1 (by with_unfolding_all rfl) trivial ?_
    exact c_fin1 C0 (kk S2 E2 ⟨T, by omega, w3⟩)
  refine LV_run oL_ca C0 (cs := [vp_in (nI (24 + d)) 28]) (pc' := 430) (L' := LB (some (.int (nI k))) (some (.int x)) (some (.int (nI kd))) (some (.int (nI t))) (some (.int y)) (some (.int (nI (24 + d)))) (some (.int 1)) (some (.int (E.2.2.1 ((nI (24 + d)) : Int32).toNatClampNeg)))) (st' := []) (w' := WW S E C) [430] 4 (by with_unfolding_all rfl) (ni_in (by omega) (by omega)) ?_
  rw [ni_nat (show 24 + d < 2147483648 by omega), hz]
  refine LV_run oL_cb C0 (cs := []) (pc' := 432) (L' := LB (some (.int (nI k))) (some (.int x)) (some (.int (nI kd))) (some (.int (nI t))) (some (.int y)) (some (.int (nI (24 + d)))) (some (.int 1)) (some (.int z17))) (st' := [.int 1]) (w' := WW S E C) [] 1 (by with_unfolding_all rfl) trivial ?_
  refine LV_br oL_cb C0 rfl rfl (fun h => absurd h (by decide)) (fun h => ?_)
  exact c_do C0 hmc0 (A := 24 + d) (ke := d) (by omega) (ea_A (t := t) (Or.inl ⟨d, hd, rfl, rfl⟩)) hz.symm w2 h479
set_option maxRecDepth 20000 in
theorem c_0h {F : Nat} (C0 : LC p l s m b meth c D ct ad0 Ln xs) {S : S_X6} {E C : S_XE} {k kd t : Nat} {x y : Int32} {kc ks : Nat} (hmc : kc + 1 ≤ 600130 ∧ ks + 6 ≤ 7301080) (ht : t < 6) {d : Nat} (hd : d < 4) (hx : s_X4_take_e F S.1 (nI d) y = some 2) (kk : LV p l e s m b below meth c D ct ad0 719 (LB (some (.int (nI k))) (some (.int x)) none (some (.int (nI t))) none none none none) [] (WW S E C) (kc + 1) (ks + 6)) : LV p l e s m b below meth c D ct ad0 423 (LB (some (.int (nI k))) (some (.int x)) (some (.int (nI kd))) (some (.int (nI t))) (some (.int y)) (some (.int (nI (24 + d)))) (some (.int 0)) none) [] (WW S E C) kc ks := by
  obtain ⟨z17, hz⟩ : ∃ z, E.2.2.1 (24 + d) = z := ⟨_, rfl⟩
  have hmc0 : kc ≤ 600130 ∧ ks ≤ 7301080 := by omega
  refine LV_run oL_ca C0 (cs := [vp_in (nI (24 + d)) 28]) (pc' := 430) (L' := LB (some (.int (nI k))) (some (.int x)) (some (.int (nI kd))) (some (.int (nI t))) (some (.int y)) (some (.int (nI (24 + d)))) (some (.int 0)) (some (.int (E.2.2.1 ((nI (24 + d)) : Int32).toNatClampNeg)))) (st' := []) (w' := WW S E C) [430] 4 (by with_unfolding_all rfl) (ni_in (by omega) (by omega)) ?_
  rw [ni_nat (show 24 + d < 2147483648 by omega), hz]
  refine LV_run oL_cb C0 (cs := []) (pc' := 432) (L' := LB (some (.int (nI k))) (some (.int x)) (some (.int (nI kd))) (some (.int (nI t))) (some (.int y)) (some (.int (nI (24 + d)))) (some (.int 0)) (some (.int z17))) (st' := [.int 0]) (w' := WW S E C) [] 1 (by with_unfolding_all rfl) trivial ?_
  refine LV_br oL_cb C0 rfl rfl (fun h => ?_) (fun h => absurd rfl h)
  refine LV_run oL_cb C0 (cs := []) (pc' := 483) (L' := LB (some (.int (nI k))) (some (.int x)) (some (.int (nI kd))) (some (.int (nI t))) (some (.int y)) (some (.int (nI (24 + d)))) (some (.int 0)) (some (.int z17))) (st' := [.int 24, .int (nI (24 + d))]) (w' := WW S E C) [] 2 (by with_unfolding_all rfl) trivial ?_
  refine LV_br oL_cb C0 rfl rfl (fun h => absurd ((ni_lt (a := 24 + d) (b := 24) (by omega) (by omega)).mp h) (by omega)) (fun h => ?_)
  refine LV_run oL_cb C0 (cs := []) (pc' := 494) (L' := LB (some (.int (nI k))) (some (.int x)) (some (.int (nI kd))) (some (.int (nI t))) (some (.int y)) (some (.int (nI (24 + d)))) (some (.int 0)) (some (.int z17))) (st' := [.int y, .int ((nI (24 + d)) - 24), .ref 0]) (w' := WW S E C) [] 5 (by with_unfolding_all rfl) trivial ?_
  refine LV_nx (st' := [.int y, .int (nI d), .ref 0]) rfl (by rw [show nI (24 + d) - 24 = nI d by rw [show (24 : Int32) = nI 24 from rfl, ni_sub (by omega), Nat.add_sub_cancel_left]]) rfl rfl rfl ?_
  refine LV_wrap oL_cb C0 (S' := S) (z := .int (-3)) (rest := []) (as1 := [.ref 0, .int (nI d), .int y]) (xL_take F S (nI d) y hx) cw_L_take w_lw_123 rfl rfl rfl rfl ⟨rfl, rfl⟩ hmc ?_
  refine LV_run oL_cb C0 (cs := []) (pc' := 512) (L' := LB (some (.int (nI k))) (some (.int x)) (some (.int (nI kd))) (some (.int (nI t))) (some (.int y)) (some (.int (nI (24 + d)))) (some (.int 0)) (some (.int z17))) (st' := [.int (-3)]) (w' := WW S E C) [512] 1 (by with_unfolding_all rfl) trivial ?_
  exact c_fin0 C0 kk
set_option maxRecDepth 20000 in
theorem c_1s {F : Nat} (hF : 6400 < F) (C0 : LC p l s m b meth c D ct ad0 Ln xs) {T e1 h1 m1 : Nat} {v : Nat → Int32} {S : S_X6} {E C : S_XE} {k kd t : Nat} {x y : Int32} (q : KE (2 * k) T e1 h1 m1 (a_X4_now S.1) v E) (r : RZ S) (hk : k < 16) (hT : T ≤ 6 * k) {kc ks : Nat} (hmc : kc + 1 ≤ 600130 ∧ ks + 6 ≤ 7301080) (ht : t < 6) {d : Nat} (hd : d < 4) (hy : y = -1 ∨ ∃ a, a < 6 ∧ y = nI a ∧ mb (a_X3_living (a_X4_now S.1)) a = true) (hl : mb (a_X3_living (a_X4_now S.1)) t = true) (kk : ∀ S E, KT (k + 1) S E → LV p l e s m b below meth c D ct ad0 719 (LB (some (.int (nI k))) (some (.int x)) none (some (.int (nI t))) none none none none) [] (WW S E C) (kc + 1) (ks + 6)) : LV p l e s m b below meth c D ct ad0 423 (LB (some (.int (nI k))) (some (.int x)) (some (.int (nI kd))) (some (.int (nI t))) (some (.int y)) (some (.int (nI (4 * t + d)))) (some (.int 1)) none) [] (WW S E C) kc ks := by
  obtain ⟨S2, E2, w1, w2, w3⟩ := z_put hF q r (by omega) ht hl hd hy
  obtain ⟨z17, hz⟩ : ∃ z, E.2.2.1 (4 * t + d) = z := ⟨_, rfl⟩
  have hmc0 : kc ≤ 600130 ∧ ks ≤ 7301080 := by omega
  have h479 : LV p l e s m b below meth c D ct ad0 479 (LB (some (.int (nI k))) (some (.int x)) (some (.int (nI kd))) (some (.int (nI t))) (some (.int y)) (some (.int (nI (4 * t + d)))) (some (.int 1)) (some (.int z17))) [] (WW S E2 C) kc ks := by
    refine LV_run oL_cb C0 (cs := []) (pc' := 483) (L' := LB (some (.int (nI k))) (some (.int x)) (some (.int (nI kd))) (some (.int (nI t))) (some (.int y)) (some (.int (nI (4 * t + d)))) (some (.int 1)) (some (.int z17))) (st' := [.int 24, .int (nI (4 * t + d))]) (w' := WW S E2 C) [] 2 (by with_unfolding_all rfl) trivial ?_
    refine LV_br oL_cb C0 rfl rfl (fun h => ?_) (fun h => absurd ((ni_lt (a := 4 * t + d) (b := 24) (by omega) (by omega)).mpr (by omega)) h)
    refine LV_run oL_cb C0 (cs := [¬ 4 = (0 : Int32)]) (pc' := 509) (L' := LB (some (.int (nI k))) (some (.int x)) (some (.int (nI kd))) (some (.int (nI t))) (some (.int y)) (some (.int (nI (4 * t + d)))) (some (.int 1)) (some (.int z17))) (st' := [.int y, .int ((nI (4 * t + d)) - (nI (4 * t + d)) / 4 * 4), .int (nI t), .ref 0]) (w' := WW S E2 C) [] 6 (by with_unfolding_all rfl) (by show ¬ _; decide) ?_
    refine LV_nx (st' := [.int y, .int (nI d), .int (nI t), .ref 0]) rfl (by rw [show nI (4 * t + d) - nI (4 * t + d) / 4 * 4 = nI d by rw [show (4 : Int32) = nI 4 from rfl, ni_rem (by omega) (by omega)]; congr 1; omega]) rfl rfl rfl ?_
    refine LV_wrap oL_cb C0 (S' := S2) (z := .int z17) (rest := []) (as1 := [.ref 0, .int (nI t), .int (nI d), .int y]) (rL_put F S S2 (nI t) (nI d) y z17 (hz ▸ w1)) cw_L_put w_lw_126 rfl rfl rfl rfl ⟨rfl, rfl⟩ hmc ?_
    exact c_fin1 C0 (kk S2 E2 ⟨T, by omega, w3⟩)
  refine LV_run oL_ca C0 (cs := [vp_in (nI (4 * t + d)) 28]) (pc' := 430) (L' := LB (some (.int (nI k))) (some (.int x)) (some (.int (nI kd))) (some (.int (nI t))) (some (.int y)) (some (.int (nI (4 * t + d)))) (some (.int 1)) (some (.int (E.2.2.1 ((nI (4 * t + d)) : Int32).toNatClampNeg)))) (st' := []) (w' := WW S E C) [430] 4 (by with_unfolding_all rfl) (ni_in (by omega) (by omega)) ?_
  rw [ni_nat (show 4 * t + d < 2147483648 by omega), hz]
  refine LV_run oL_cb C0 (cs := []) (pc' := 432) (L' := LB (some (.int (nI k))) (some (.int x)) (some (.int (nI kd))) (some (.int (nI t))) (some (.int y)) (some (.int (nI (4 * t + d)))) (some (.int 1)) (some (.int z17))) (st' := [.int 1]) (w' := WW S E C) [] 1 (by with_unfolding_all rfl) trivial ?_
  refine LV_br oL_cb C0 rfl rfl (fun h => absurd h (by decide)) (fun h => ?_)
  exact c_do C0 hmc0 (A := 4 * t + d) (ke := (4 + 4 * t + d)) (by omega) (ea_A (t := t) (Or.inr ⟨d, hd, rfl, rfl⟩)) hz.symm w2 h479
set_option maxRecDepth 20000 in
theorem c_0s {F : Nat} (C0 : LC p l s m b meth c D ct ad0 Ln xs) {S : S_X6} {E C : S_XE} {k kd t : Nat} {x y : Int32} {kc ks : Nat} (hmc : kc + 1 ≤ 600130 ∧ ks + 6 ≤ 7301080) (ht : t < 6) {d : Nat} (hd : d < 4) (hx : s_X4_put_e F S.1 (nI t) (nI d) y = some 2) (kk : LV p l e s m b below meth c D ct ad0 719 (LB (some (.int (nI k))) (some (.int x)) none (some (.int (nI t))) none none none none) [] (WW S E C) (kc + 1) (ks + 6)) : LV p l e s m b below meth c D ct ad0 423 (LB (some (.int (nI k))) (some (.int x)) (some (.int (nI kd))) (some (.int (nI t))) (some (.int y)) (some (.int (nI (4 * t + d)))) (some (.int 0)) none) [] (WW S E C) kc ks := by
  obtain ⟨z17, hz⟩ : ∃ z, E.2.2.1 (4 * t + d) = z := ⟨_, rfl⟩
  have hmc0 : kc ≤ 600130 ∧ ks ≤ 7301080 := by omega
  refine LV_run oL_ca C0 (cs := [vp_in (nI (4 * t + d)) 28]) (pc' := 430) (L' := LB (some (.int (nI k))) (some (.int x)) (some (.int (nI kd))) (some (.int (nI t))) (some (.int y)) (some (.int (nI (4 * t + d)))) (some (.int 0)) (some (.int (E.2.2.1 ((nI (4 * t + d)) : Int32).toNatClampNeg)))) (st' := []) (w' := WW S E C) [430] 4 (by with_unfolding_all rfl) (ni_in (by omega) (by omega)) ?_
  rw [ni_nat (show 4 * t + d < 2147483648 by omega), hz]
  refine LV_run oL_cb C0 (cs := []) (pc' := 432) (L' := LB (some (.int (nI k))) (some (.int x)) (some (.int (nI kd))) (some (.int (nI t))) (some (.int y)) (some (.int (nI (4 * t + d)))) (some (.int 0)) (some (.int z17))) (st' := [.int 0]) (w' := WW S E C) [] 1 (by with_unfolding_all rfl) trivial ?_
  refine LV_br oL_cb C0 rfl rfl (fun h => ?_) (fun h => absurd rfl h)
  refine LV_run oL_cb C0 (cs := []) (pc' := 483) (L' := LB (some (.int (nI k))) (some (.int x)) (some (.int (nI kd))) (some (.int (nI t))) (some (.int y)) (some (.int (nI (4 * t + d)))) (some (.int 0)) (some (.int z17))) (st' := [.int 24, .int (nI (4 * t + d))]) (w' := WW S E C) [] 2 (by with_unfolding_all rfl) trivial ?_
  refine LV_br oL_cb C0 rfl rfl (fun h => ?_) (fun h => absurd ((ni_lt (a := 4 * t + d) (b := 24) (by omega) (by omega)).mpr (by omega)) h)
  refine LV_run oL_cb C0 (cs := [¬ 4 = (0 : Int32)]) (pc' := 509) (L' := LB (some (.int (nI k))) (some (.int x)) (some (.int (nI kd))) (some (.int (nI t))) (some (.int y)) (some (.int (nI (4 * t + d)))) (some (.int 0)) (some (.int z17))) (st' := [.int y, .int ((nI (4 * t + d)) - (nI (4 * t + d)) / 4 * 4), .int (nI t), .ref 0]) (w' := WW S E C) [] 6 (by with_unfolding_all rfl) (by show ¬ _; decide) ?_
  refine LV_nx (st' := [.int y, .int (nI d), .int (nI t), .ref 0]) rfl (by rw [show nI (4 * t + d) - nI (4 * t + d) / 4 * 4 = nI d by rw [show (4 : Int32) = nI 4 from rfl, ni_rem (by omega) (by omega)]; congr 1; omega]) rfl rfl rfl ?_
  refine LV_wrap oL_cb C0 (S' := S) (z := .int (-3)) (rest := []) (as1 := [.ref 0, .int (nI t), .int (nI d), .int y]) (xL_put F S (nI t) (nI d) y hx) cw_L_put w_lw_126 rfl rfl rfl rfl ⟨rfl, rfl⟩ hmc ?_
  exact c_fin0 C0 kk
theorem tL_f {u : S_X3} {a : Nat} (ha : a < 24) (h : mb (a_X3_living u) a = false) : tL u (nI a) = false := by
  rw [Bool.eq_false_iff]
  intro z
  obtain ⟨k, z0, z1, z2⟩ := tL_iff.mp z
  rw [(ni_eq (by omega) (by omega)).mp z1, z2] at h
  cases h
theorem tH_f {u : S_X3} {a : Nat} (ha : a < 24) (h : mb (a_X3_living u) a = false) : tH u (nI a) = false := by
  rw [Bool.eq_false_iff]
  intro z
  rcases tH_iff.mp z with z | ⟨k, z0, z1, z2⟩
  · exact absurd z (nI_ne (by omega))
  · rw [(ni_eq (by omega) (by omega)).mp z1, z2] at h
    cases h
set_option maxRecDepth 20000 in
theorem c_chg {F : Nat} (hF : 6400 < F) (C0 : LC p l s m b meth c D ct ad0 Ln xs) {S : S_X6} {E C : S_XE} {k kd t : Nat} {x y : Int32} {kc ks : Nat} (hmc : kc + 1 ≤ 600130 ∧ ks + 6 ≤ 7301080) (hk : k < 16) (ht : t < 6) (hy : y = -1 ∨ ∃ a, a < 6 ∧ y = nI a) (q : KT k S E) (kk : ∀ S E, KT (k + 1) S E → LV p l e s m b below meth c D ct ad0 719 (LB (some (.int (nI k))) (some (.int x)) none (some (.int (nI t))) none none none none) [] (WW S E C) (kc + 1) (ks + 6)) : LV p l e s m b below meth c D ct ad0 343 (LB (some (.int (nI k))) (some (.int x)) (some (.int (nI kd))) (some (.int (nI t))) (some (.int y)) none none none) [] (WW S E C) kc ks := by
  have q0 := q
  obtain ⟨T, hT, e1, h1, m1, v, q1, q2, q3, q4⟩ := q
  have hmc0 : kc ≤ 600130 ∧ ks ≤ 7301080 := by omega
  have k2 : KT (k + 1) S E := ⟨T, by omega, KZ.more ⟨e1, h1, m1, v, q1, q2, q3, q4⟩ (by omega) (by omega)⟩
  refine c_at C0 hmc0 (fun A hA => ?_)
  have hA28 : A < 28 := by
    rcases hA with ⟨d, h1, h2⟩ | ⟨d, h1, h2⟩ <;> omega
  refine c_can C0 q1 hmc0 ht hA28 hy (fun hc => ?_) (fun hc => ?_)
  · rcases hA with ⟨d, hd, rfl⟩ | ⟨d, hd, rfl⟩
    · exact c_1h hF C0 q1 q3 hk hT hmc ht hd hc.1 kk
    · have hl : mb (a_X3_living (a_X4_now S.1)) t = true := by
        rcases hc.2 with z | z
        · omega
        · exact z
      exact c_1s hF C0 q1 q3 hk hT hmc ht hd hc.1 hl kk
  · rcases hA with ⟨d, hd, rfl⟩ | ⟨d, hd, rfl⟩
    · rcases hc with ⟨a, ha, rfl, hl⟩ | ⟨z, -⟩
      · exact c_0h (F := F) C0 hmc ht hd (z_take_e q1 hd ha hl) (kk S E k2)
      · omega
    · have hyy := hy
      refine c_0s (F := F) C0 hmc ht hd (z_put_e q1 ht hd hyy ?_) (kk S E k2)
      rcases hc with ⟨a, ha, rfl, hl⟩ | ⟨-, hl⟩
      · exact Or.inr (tH_f (by omega) hl)
      · exact Or.inl (tL_f (by omega) hl)
end LAWS
