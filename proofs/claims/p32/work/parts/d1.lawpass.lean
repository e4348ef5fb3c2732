/-! ===== the law's body: time passes; a trial; a suspect ===== -/
def KT (k : Nat) (S : S_X6) (E : S_XE) : Prop := ∃ T, T ≤ 6 * k ∧ KZ (2 * k) T S E
theorem KT.next {k : Nat} (hk : k < 16) {S : S_X6} {E : S_XE} {T : Nat} (hT : T ≤ 6 * k + 6) (q : KZ (2 * k) T S E) : KT (k + 1) S E := ⟨T, by omega, q.more (by omega) (by omega)⟩
section LAWS
variable {p : Program} {l : Launch} {e : Env} {s : State} {m : MethodId} {b : Nat} {below : List Frame} {meth : Method} {c : Code} {D : va_G} {ct ad0 : Nat → Nat} {Ln : Nat} {xs : Nat → Int32}

set_option maxRecDepth 20000 in
theorem c_ticks {F : Nat} (C0 : LC p l s m b meth c D ct ad0 Ln xs) {S : S_X6} {E2 C : S_XE} {kc ks : Nat} (hmc : kc ≤ 600130 ∧ ks ≤ 7301080) {k kd t : Nat} {x y : Int32} {cc : Nat} (hcc : cc ≤ 6) {z : Int32} (kk : LV p l e s m b below meth c D ct ad0 583 (LB (some (.int (nI k))) (some (.int x)) (some (.int (nI kd))) (some (.int (nI t))) (some (.int y)) (some (.int (nI cc))) (some (.int z)) (some (.int (nI cc)))) [] (WW S E2 C) kc ks) : ∀ d j E, j + d = cc → eT F d E = some E2 → LV p l e s m b below meth c D ct ad0 561 (LB (some (.int (nI k))) (some (.int x)) (some (.int (nI kd))) (some (.int (nI t))) (some (.int y)) (some (.int (nI cc))) (some (.int z)) (some (.int (nI j)))) [] (WW S E C) kc ks := by
  intro d
  induction d with
  | zero =>
    intro j E hj h
    obtain rfl : j = cc := by omega
    cases h
    refine LV_run oL_tk C0 (cs := []) (pc' := 565) (L' := LB (some (.int (nI k))) (some (.int x)) (some (.int (nI kd))) (some (.int (nI t))) (some (.int y)) (some (.int (nI j))) (some (.int z)) (some (.int (nI j)))) (st' := [.int (nI j), .int (nI j)]) (w' := WW S E2 C) [] 2 (by with_unfolding_all rfl) trivial ?_
    refine LV_br oL_tk C0 rfl rfl (fun h => ?_) (fun h => absurd (show nI j ≥ nI j from Int32.le_refl _) h)
    exact kk
  | succ d ih =>
    intro j E hj h
    have h : (s_L_tick F E).bind (eT F d) = some E2 := h
    obtain ⟨E1, h1, h2⟩ := lf_b h
    refine LV_run oL_tk C0 (cs := []) (pc' := 565) (L' := LB (some (.int (nI k))) (some (.int x)) (some (.int (nI kd))) (some (.int (nI t))) (some (.int y)) (some (.int (nI cc))) (some (.int z)) (some (.int (nI j)))) (st' := [.int (nI cc), .int (nI j)]) (w' := WW S E C) [] 2 (by with_unfolding_all rfl) trivial ?_
    refine LV_br oL_tk C0 rfl rfl (fun h => absurd ((ni_le (a := cc) (b := j) (by omega) (by omega)).mp h) (by omega)) (fun h => ?_)
    refine LV_run oL_tk C0 (cs := []) (pc' := 574) (L' := LB (some (.int (nI k))) (some (.int x)) (some (.int (nI kd))) (some (.int (nI t))) (some (.int y)) (some (.int (nI cc))) (some (.int z)) (some (.int (nI j)))) (st' := [.ref 143, .ref 142, .ref 141, .ref 140]) (w' := WW S E C) [] 4 (by with_unfolding_all rfl) trivial ?_
    refine LV_tick oL_tk C0 h1 rfl hmc ?_
    refine LV_run oL_tk C0 (cs := []) (pc' := 561) (L' := LB (some (.int (nI k))) (some (.int x)) (some (.int (nI kd))) (some (.int (nI t))) (some (.int y)) (some (.int (nI cc))) (some (.int z)) (some (.int ((nI j) + 1)))) (st' := []) (w' := WW S E1 C) [561] 2 (by with_unfolding_all rfl) trivial ?_
    rw [ni_1]
    exact ih (j + 1) E1 (by omega) h2
set_option maxRecDepth 20000 in
theorem c_tk {F : Nat} (hF : 6400 < F) (C0 : LC p l s m b meth c D ct ad0 Ln xs) {S : S_X6} {E C : S_XE} {kc ks : Nat} (hmc : kc ≤ 600130 ∧ ks ≤ 7301080) {k kd t : Nat} {x y : Int32} (hk : k < 16) (q : KT k S E) (kk : ∀ S E, KT (k + 1) S E → LV p l e s m b below meth c D ct ad0 719 (LB (some (.int (nI k))) (some (.int x)) none (some (.int (nI t))) none none none none) [] (WW S E C) kc ks) : LV p l e s m b below meth c D ct ad0 539 (LB (some (.int (nI k))) (some (.int x)) (some (.int (nI kd))) (some (.int (nI t))) (some (.int y)) none none none) [] (WW S E C) kc ks := by
  refine LV_run oL_tk C0 (cs := []) (pc' := 547) (L' := LB (some (.int (nI k))) (some (.int x)) (some (.int (nI kd))) (some (.int (nI t))) (some (.int y)) none none none) (st' := [.int 6, .int (x >>> (6 &&& 31)), .int 1]) (w' := WW S E C) [] 5 (by with_unfolding_all rfl) trivial ?_
  refine LV_low oL_tk C0 6 rfl rfl rfl rfl rfl hmc (fun u hu => ?_)
  refine LV_run oL_tk C0 (cs := [vp_in 3 12]) (pc' := 561) (L' := LB (some (.int (nI k))) (some (.int x)) (some (.int (nI kd))) (some (.int (nI t))) (some (.int y)) (some (.int (1 + (nI u)))) (some (.int (E.1 (3 : Int32).toNatClampNeg))) (some (.int 0))) (st' := []) (w' := WW S E C) [561] 8 (by with_unfolding_all rfl) (by show ¬ _; decide) ?_
  obtain ⟨T, hT, e, h, m2, v, q1, q2, q3, q4⟩ := q
  obtain ⟨S2, E2, e', w1, w2, w3, w4, w5⟩ := z_pass hF q1 q2 q3 (c := 1 + u) (by omega) (by omega) (by omega)
  have hu1 : (1 : Int32) + nI u = nI (1 + u) := ni_add 1 u
  have i3 : E.1 ((3 : Int32).toNatClampNeg) = nI e := w5
  rw [hu1, i3]
  refine c_ticks C0 hmc (cc := 1 + u) (by omega) ?_ (1 + u) 0 E (by omega) w2
  refine LV_run oL_tk C0 (cs := []) (pc' := 586) (L' := LB (some (.int (nI k))) (some (.int x)) (some (.int (nI kd))) (some (.int (nI t))) (some (.int y)) (some (.int (nI (1 + u)))) (some (.int (nI e))) (some (.int (nI (1 + u))))) (st' := [.int (nI (1 + u)), .ref 0]) (w' := WW S E2 C) [] 2 (by with_unfolding_all rfl) trivial ?_
  refine LV_six oL_tk C0 (S' := S2) (z := .int (nI e' - nI e)) (rest := []) (t_X4_pass_6 F S (nI (1 + u)) (nI e' - nI e, S2) w1) cv_X4_pass ml_L_law_129 rfl rfl rfl rfl ⟨rfl, rfl⟩ ⟨rfl, rfl⟩ hmc ?_
  refine LV_run oL_tk C0 (cs := [vp_in 3 12]) (pc' := 595) (L' := LB (some (.int (nI k))) (some (.int x)) (some (.int (nI kd))) (some (.int (nI t))) (some (.int y)) (some (.int (nI (1 + u)))) (some (.int (nI e))) (some (.int (nI (1 + u))))) (st' := [.int ((E2.1 (3 : Int32).toNatClampNeg) - (nI e)), (.int (nI e' - nI e))]) (w' := WW S2 E2 C) [] 5 (by with_unfolding_all rfl) (by show ¬ _; decide) ?_
  refine LV_br oL_tk C0 rfl rfl (fun h => ?_) (fun h => absurd (show nI e' - nI e = E2.1 ((3 : Int32).toNatClampNeg) - nI e from by rw [show E2.1 ((3 : Int32).toNatClampNeg) = nI e' from w4]) h)
  refine LV_run oL_tk C0 (cs := []) (pc' := 719) (L' := LB (some (.int (nI k))) (some (.int x)) (some (.int (nI kd))) (some (.int (nI t))) (some (.int y)) (some (.int (nI (1 + u)))) (some (.int (nI e))) (some (.int (nI (1 + u))))) (st' := []) (w' := WW S2 E2 C) [719] 1 (by with_unfolding_all rfl) trivial ?_
  exact LV_weak LB_w4 (kk S2 E2 (KT.next hk (by omega) w3))
set_option maxRecDepth 20000 in
theorem c_tr {F : Nat} (hF : 6400 < F) (C0 : LC p l s m b meth c D ct ad0 Ln xs) {S : S_X6} {E C : S_XE} {kc ks : Nat} (hmc : kc ≤ 600130 ∧ ks ≤ 7301080) {k kd t : Nat} {x y : Int32} (hk : k < 16) (q : KT k S E) (kk : ∀ S E, KT (k + 1) S E → LV p l e s m b below meth c D ct ad0 719 (LB (some (.int (nI k))) (some (.int x)) none (some (.int (nI t))) none none none none) [] (WW S E C) kc ks) : LV p l e s m b below meth c D ct ad0 610 (LB (some (.int (nI k))) (some (.int x)) (some (.int (nI kd))) (some (.int (nI t))) (some (.int y)) none none none) [] (WW S E C) kc ks := by
  obtain ⟨T, hT, e, h, m2, v, q1, q2, q3, q4⟩ := q
  obtain ⟨S2, E2, e', w1, w2, w3, w4, w5⟩ := z_trial hF q1 q2 q3
  have i3 : E.1 ((3 : Int32).toNatClampNeg) = nI e := w5
  refine LV_run oL_tr C0 (cs := [vp_in 3 12]) (pc' := 621) (L' := LB (some (.int (nI k))) (some (.int x)) (some (.int (nI kd))) (some (.int (nI t))) (some (.int y)) (some (.int (E.1 (3 : Int32).toNatClampNeg))) none none) (st' := [.ref 143, .ref 142, .ref 141, .ref 140]) (w' := WW S E C) [] 8 (by with_unfolding_all rfl) (by show ¬ _; decide) ?_
  rw [i3]
  refine LV_trial oL_tr C0 w2 rfl hmc ?_
  refine LV_run oL_tr C0 (cs := []) (pc' := 625) (L' := LB (some (.int (nI k))) (some (.int x)) (some (.int (nI kd))) (some (.int (nI t))) (some (.int y)) (some (.int (nI e))) none none) (st' := [.ref 0]) (w' := WW S E2 C) [] 1 (by with_unfolding_all rfl) trivial ?_
  refine LV_six oL_tr C0 (S' := S2) (z := .int (nI e' - nI e)) (rest := []) (as1 := []) (t_X4_trial_6 F S (nI e' - nI e, S2) w1) cv_X4_trial ml_L_law_132 rfl rfl rfl rfl ⟨rfl, rfl⟩ ⟨rfl, rfl⟩ hmc ?_
  refine LV_run oL_tr C0 (cs := [vp_in 3 12]) (pc' := 634) (L' := LB (some (.int (nI k))) (some (.int x)) (some (.int (nI kd))) (some (.int (nI t))) (some (.int y)) (some (.int (nI e))) none none) (st' := [.int ((E2.1 (3 : Int32).toNatClampNeg) - (nI e)), (.int (nI e' - nI e))]) (w' := WW S2 E2 C) [] 5 (by with_unfolding_all rfl) (by show ¬ _; decide) ?_
  refine LV_br oL_tr C0 rfl rfl (fun h => ?_) (fun h => absurd (show nI e' - nI e = E2.1 ((3 : Int32).toNatClampNeg) - nI e from by rw [show E2.1 ((3 : Int32).toNatClampNeg) = nI e' from w4]) h)
  refine LV_run oL_tr C0 (cs := []) (pc' := 719) (L' := LB (some (.int (nI k))) (some (.int x)) (some (.int (nI kd))) (some (.int (nI t))) (some (.int y)) (some (.int (nI e))) none none) (st' := []) (w' := WW S2 E2 C) [719] 1 (by with_unfolding_all rfl) trivial ?_
  exact LV_weak LB_w4 (kk S2 E2 (KT.next hk (by omega) w3))
end LAWS
