/-! ===== the law's body: a change ===== -/
section LAWS
variable {p : Program} {l : Launch} {e : Env} {s : State} {m : MethodId} {b : Nat} {below : List Frame} {meth : Method} {c : Code} {D : va_G} {ct ad0 : Nat → Nat} {Ln : Nat} {xs : Nat → Int32}

def SLOT (t A : Nat) : Prop := (∃ d, d < 4 ∧ A = 24 + d) ∨ ∃ sl, sl < 4 ∧ A = 4 * t + sl
set_option maxRecDepth 20000 in
theorem c_at (C0 : LC p l s m b meth c D ct ad0 Ln xs) {S : S_X6} {E C : S_XE} {kc ks : Nat} (hmc : kc ≤ 600130 ∧ ks ≤ 7301080) {k kd t : Nat} {x y : Int32} (kk : ∀ A, SLOT t A → LV p l e s m b below meth c D ct ad0 386 (LB (some (.int (nI k))) (some (.int x)) (some (.int (nI kd))) (some (.int (nI t))) (some (.int y)) (some (.int (nI A))) none none) [] (WW S E C) kc ks) : LV p l e s m b below meth c D ct ad0 343 (LB (some (.int (nI k))) (some (.int x)) (some (.int (nI kd))) (some (.int (nI t))) (some (.int y)) none none none) [] (WW S E C) kc ks := by
  have h355 : LV p l e s m b below meth c D ct ad0 355 (LB (some (.int (nI k))) (some (.int x)) (some (.int (nI kd))) (some (.int (nI t))) (some (.int y)) none none none) [] (WW S E C) kc ks := by
    refine LV_run oL_ca C0 (cs := []) (pc' := 363) (L' := LB (some (.int (nI k))) (some (.int x)) (some (.int (nI kd))) (some (.int (nI t))) (some (.int y)) none none none) (st' := [.int 4, .int (x >>> (9 &&& 31)), .int 24]) (w' := WW S E C) [] 5 (by with_unfolding_all rfl) trivial ?_
    refine LV_low oL_ca C0 4 rfl rfl rfl rfl rfl hmc (fun d hd => ?_)
    have e24 : (24 : Int32) + nI d = nI (24 + d) := ni_add 24 d
    refine LV_run oL_ca C0 (cs := []) (pc' := 384) (L' := LB (some (.int (nI k))) (some (.int x)) (some (.int (nI kd))) (some (.int (nI t))) (some (.int y)) none none none) (st' := [.int (24 + (nI d))]) (w' := WW S E C) [384] 2 (by with_unfolding_all rfl) trivial ?_
    refine LV_run oL_ca C0 (cs := []) (pc' := 386) (L' := LB (some (.int (nI k))) (some (.int x)) (some (.int (nI kd))) (some (.int (nI t))) (some (.int y)) (some (.int (24 + (nI d)))) none none) (st' := []) (w' := WW S E C) [386] 1 (by with_unfolding_all rfl) trivial ?_
    rw [e24]
    exact kk (24 + d) (Or.inl ⟨d, hd, rfl⟩)
  have h370 : LV p l e s m b below meth c D ct ad0 370 (LB (some (.int (nI k))) (some (.int x)) (some (.int (nI kd))) (some (.int (nI t))) (some (.int y)) none none none) [] (WW S E C) kc ks := by
    refine LV_run oL_ca C0 (cs := []) (pc' := 380) (L' := LB (some (.int (nI k))) (some (.int x)) (some (.int (nI kd))) (some (.int (nI t))) (some (.int y)) none none none) (st' := [.int 4, .int (x >>> (9 &&& 31)), .int (4 * (nI t))]) (w' := WW S E C) [] 7 (by with_unfolding_all rfl) trivial ?_
    refine LV_low oL_ca C0 4 rfl rfl rfl rfl rfl hmc (fun d hd => ?_)
    have e4 : (4 : Int32) * nI t + nI d = nI (4 * t + d) := by rw [show (4 : Int32) = nI 4 from rfl, ni_mul, ni_add]
    refine LV_run oL_ca C0 (cs := []) (pc' := 386) (L' := LB (some (.int (nI k))) (some (.int x)) (some (.int (nI kd))) (some (.int (nI t))) (some (.int y)) (some (.int ((4 * (nI t)) + (nI d)))) none none) (st' := []) (w' := WW S E C) [386] 2 (by with_unfolding_all rfl) trivial ?_
    rw [e4]
    exact kk (4 * t + d) (Or.inr ⟨d, hd, rfl⟩)
  refine LV_run oL_ca C0 (cs := []) (pc' := 346) (L' := LB (some (.int (nI k))) (some (.int x)) (some (.int (nI kd))) (some (.int (nI t))) (some (.int y)) none none none) (st' := [.int 2, .int (nI kd)]) (w' := WW S E C) [] 2 (by with_unfolding_all rfl) trivial ?_
  refine LV_br oL_ca C0 rfl rfl (fun h => h355) (fun h => ?_)
  refine LV_run oL_ca C0 (cs := []) (pc' := 352) (L' := LB (some (.int (nI k))) (some (.int x)) (some (.int (nI kd))) (some (.int (nI t))) (some (.int y)) none none none) (st' := [.int 2, .int (nI k)]) (w' := WW S E C) [] 2 (by with_unfolding_all rfl) trivial ?_
  refine LV_br oL_ca C0 rfl rfl (fun h => h370) (fun h => h355)
set_option maxRecDepth 20000 in
theorem c_can (C0 : LC p l s m b meth c D ct ad0 Ln xs) {B T e1 h1 m1 : Nat} {v : Nat → Int32} {S : S_X6} {E C : S_XE} (q : KE B T e1 h1 m1 (a_X4_now S.1) v E) {kc ks : Nat} (hmc : kc ≤ 600130 ∧ ks ≤ 7301080) {k kd t : Nat} {x y : Int32} {A : Nat} (ht : t < 6) (hA : A < 28) (hy : y = -1 ∨ ∃ a, a < 6 ∧ y = nI a) (k1 : ((y = -1 ∨ ∃ a, a < 6 ∧ y = nI a ∧ mb (a_X3_living (a_X4_now S.1)) a = true) ∧ (24 ≤ A ∨ mb (a_X3_living (a_X4_now S.1)) t = true)) → LV p l e s m b below meth c D ct ad0 423 (LB (some (.int (nI k))) (some (.int x)) (some (.int (nI kd))) (some (.int (nI t))) (some (.int y)) (some (.int (nI A))) (some (.int 1)) none) [] (WW S E C) kc ks) (k0 : ((∃ a, a < 6 ∧ y = nI a ∧ mb (a_X3_living (a_X4_now S.1)) a = false) ∨ (A < 24 ∧ mb (a_X3_living (a_X4_now S.1)) t = false)) → LV p l e s m b below meth c D ct ad0 423 (LB (some (.int (nI k))) (some (.int x)) (some (.int (nI kd))) (some (.int (nI t))) (some (.int y)) (some (.int (nI A))) (some (.int 0)) none) [] (WW S E C) kc ks) : LV p l e s m b below meth c D ct ad0 386 (LB (some (.int (nI k))) (some (.int x)) (some (.int (nI kd))) (some (.int (nI t))) (some (.int y)) (some (.int (nI A))) none none) [] (WW S E C) kc ks := by
  have hlv := q.eh.1
  have h420 : ((∃ a, a < 6 ∧ y = nI a ∧ mb (a_X3_living (a_X4_now S.1)) a = false) ∨ (A < 24 ∧ mb (a_X3_living (a_X4_now S.1)) t = false)) → LV p l e s m b below meth c D ct ad0 420 (LB (some (.int (nI k))) (some (.int x)) (some (.int (nI kd))) (some (.int (nI t))) (some (.int y)) (some (.int (nI A))) none none) [] (WW S E C) kc ks := fun hc => by
    refine LV_run oL_ca C0 (cs := []) (pc' := 423) (L' := LB (some (.int (nI k))) (some (.int x)) (some (.int (nI kd))) (some (.int (nI t))) (some (.int y)) (some (.int (nI A))) (some (.int 0)) none) (st' := []) (w' := WW S E C) [423] 2 (by with_unfolding_all rfl) trivial ?_
    exact k0 hc
  have h416 : ((y = -1 ∨ ∃ a, a < 6 ∧ y = nI a ∧ mb (a_X3_living (a_X4_now S.1)) a = true) ∧ (24 ≤ A ∨ mb (a_X3_living (a_X4_now S.1)) t = true)) → LV p l e s m b below meth c D ct ad0 416 (LB (some (.int (nI k))) (some (.int x)) (some (.int (nI kd))) (some (.int (nI t))) (some (.int y)) (some (.int (nI A))) none none) [] (WW S E C) kc ks := fun hc => by
    refine LV_run oL_ca C0 (cs := []) (pc' := 423) (L' := LB (some (.int (nI k))) (some (.int x)) (some (.int (nI kd))) (some (.int (nI t))) (some (.int y)) (some (.int (nI A))) (some (.int 1)) none) (st' := []) (w' := WW S E C) [423] 3 (by with_unfolding_all rfl) trivial ?_
    exact k1 hc
  have h400 : (y = -1 ∨ ∃ a, a < 6 ∧ y = nI a ∧ mb (a_X3_living (a_X4_now S.1)) a = true) → LV p l e s m b below meth c D ct ad0 400 (LB (some (.int (nI k))) (some (.int x)) (some (.int (nI kd))) (some (.int (nI t))) (some (.int y)) (some (.int (nI A))) none none) [] (WW S E C) kc ks := fun hc => by
    refine LV_run oL_ca C0 (cs := []) (pc' := 404) (L' := LB (some (.int (nI k))) (some (.int x)) (some (.int (nI kd))) (some (.int (nI t))) (some (.int y)) (some (.int (nI A))) none none) (st' := [.int 24, .int (nI A)]) (w' := WW S E C) [] 2 (by with_unfolding_all rfl) trivial ?_
    refine LV_br oL_ca C0 rfl rfl (fun h => h416 ⟨hc, Or.inl ((ni_le (a := 24) (b := A) (by omega) (by omega)).mp h)⟩) (fun h => ?_)
    have hA2 : A < 24 := Nat.not_le.mp fun z => h ((ni_le (a := 24) (b := A) (by omega) (by omega)).mpr z)
    refine LV_run oL_ca C0 (cs := []) (pc' := 410) (L' := LB (some (.int (nI k))) (some (.int x)) (some (.int (nI kd))) (some (.int (nI t))) (some (.int y)) (some (.int (nI A))) none none) (st' := [.ref 141, .int (nI t)]) (w' := WW S E C) [] 2 (by with_unfolding_all rfl) trivial ?_
    refine LV_lives oL_ca C0 ht rfl rfl hmc ?_
    rw [hlv t ht]
    cases hl : mb (a_X3_living (a_X4_now S.1)) t with
    | false =>
      refine LV_br oL_ca C0 rfl rfl (fun h => h420 (Or.inr ⟨hA2, hl⟩)) (fun h => absurd (show ev_b false = 0 from rfl) h)
    | true =>
      refine LV_br oL_ca C0 rfl rfl (fun h => absurd h (by decide)) (fun h => h416 ⟨hc, Or.inr hl⟩)
  refine LV_run oL_ca C0 (cs := []) (pc' := 388) (L' := LB (some (.int (nI k))) (some (.int x)) (some (.int (nI kd))) (some (.int (nI t))) (some (.int y)) (some (.int (nI A))) none none) (st' := [.int y]) (w' := WW S E C) [] 1 (by with_unfolding_all rfl) trivial ?_
  rcases hy with hy | ⟨a, ha, hy⟩
  · subst hy
    refine LV_br oL_ca C0 rfl rfl (fun h => h400 (Or.inl rfl)) (fun h => absurd (show (-1 : Int32) < 0 by decide) h)
  · subst hy
    refine LV_br oL_ca C0 rfl rfl (fun h => absurd h (ni_nneg (by omega))) (fun h => ?_)
    refine LV_run oL_ca C0 (cs := []) (pc' := 394) (L' := LB (some (.int (nI k))) (some (.int x)) (some (.int (nI kd))) (some (.int (nI t))) (some (.int (nI a))) (some (.int (nI A))) none none) (st' := [.ref 141, .int (nI a)]) (w' := WW S E C) [] 2 (by with_unfolding_all rfl) trivial ?_
    refine LV_lives oL_ca C0 ha rfl rfl hmc ?_
    rw [hlv a ha]
    cases hl : mb (a_X3_living (a_X4_now S.1)) a with
    | false =>
      refine LV_br oL_ca C0 rfl rfl (fun h => h420 (Or.inl ⟨a, ha, rfl, hl⟩)) (fun h => absurd (show ev_b false = 0 from rfl) h)
    | true =>
      refine LV_br oL_ca C0 rfl rfl (fun h => absurd h (by decide)) (fun h => h400 (Or.inr ⟨a, ha, rfl, hl⟩))
theorem ea_A {t A ke : Nat} (h : (∃ d, d < 4 ∧ A = 24 + d ∧ ke = d) ∨ ∃ sl, sl < 4 ∧ A = 4 * t + sl ∧ ke = 4 + 4 * t + sl) : ea ke = A := by
  unfold ea
  rcases h with ⟨d, h1, h2, h3⟩ | ⟨d, h1, h2, h3⟩
  · rw [if_pos (by omega)]; omega
  · rw [if_neg (by omega)]; omega
set_option maxRecDepth 20000 in
theorem c_do {F : Nat} (C0 : LC p l s m b meth c D ct ad0 Ln xs) {S : S_X6} {E E2 C : S_XE} {kc ks : Nat} (hmc : kc ≤ 600130 ∧ ks ≤ 7301080) {k kd t : Nat} {x y : Int32} {A ke : Nat} {z16 z17 : Int32} (hA : A < 28) (hke : ea ke = A) (hz : z17 = E.2.2.1 A) (h : eC F ke y E = some E2) (kk : LV p l e s m b below meth c D ct ad0 479 (LB (some (.int (nI k))) (some (.int x)) (some (.int (nI kd))) (some (.int (nI t))) (some (.int y)) (some (.int (nI A))) (some (.int z16)) (some (.int z17))) [] (WW S E2 C) kc ks) : LV p l e s m b below meth c D ct ad0 435 (LB (some (.int (nI k))) (some (.int x)) (some (.int (nI kd))) (some (.int (nI t))) (some (.int y)) (some (.int (nI A))) (some (.int z16)) (some (.int z17))) [] (WW S E C) kc ks := by
  unfold eC at h
  rw [hke, ← hz] at h
  obtain ⟨Ea, ha, h⟩ := lf_b h
  obtain ⟨Eb, hb, h⟩ := lf_b h
  have h470 : LV p l e s m b below meth c D ct ad0 470 (LB (some (.int (nI k))) (some (.int x)) (some (.int (nI kd))) (some (.int (nI t))) (some (.int y)) (some (.int (nI A))) (some (.int z16)) (some (.int z17))) [] (WW S Eb C) kc ks := by
    refine LV_run oL_cb C0 (cs := []) (pc' := 476) (L' := LB (some (.int (nI k))) (some (.int x)) (some (.int (nI kd))) (some (.int (nI t))) (some (.int y)) (some (.int (nI A))) (some (.int z16)) (some (.int z17))) (st' := [.ref 143, .ref 142, .ref 141, .ref 140]) (w' := WW S Eb C) [] 4 (by with_unfolding_all rfl) trivial ?_
    exact LV_hear oL_cb C0 h rfl hmc kk
  have h456 : LV p l e s m b below meth c D ct ad0 456 (LB (some (.int (nI k))) (some (.int x)) (some (.int (nI kd))) (some (.int (nI t))) (some (.int y)) (some (.int (nI A))) (some (.int z16)) (some (.int z17))) [] (WW S Ea C) kc ks := by
    refine LV_run oL_cb C0 (cs := []) (pc' := 458) (L' := LB (some (.int (nI k))) (some (.int x)) (some (.int (nI kd))) (some (.int (nI t))) (some (.int y)) (some (.int (nI A))) (some (.int z16)) (some (.int z17))) (st' := [.int z17]) (w' := WW S Ea C) [] 1 (by with_unfolding_all rfl) trivial ?_
    unfold eR at hb
    refine LV_br oL_cb C0 rfl rfl (fun h => ?_) (fun h => ?_)
    · rw [if_pos h] at hb
      cases hb
      exact h470
    · rw [if_neg h] at hb
      obtain ⟨R, hr, hb⟩ := lf_b hb
      cases hb
      refine LV_run oL_cb C0 (cs := []) (pc' := 467) (L' := LB (some (.int (nI k))) (some (.int x)) (some (.int (nI kd))) (some (.int (nI t))) (some (.int y)) (some (.int (nI A))) (some (.int z16)) (some (.int z17))) (st' := [.ref 143, .ref 140, .int (-1), .int z17]) (w' := WW S Ea C) [] 4 (by with_unfolding_all rfl) trivial ?_
      exact LV_report oL_cb C0 hr rfl hmc h470
  refine LV_run oL_cb C0 (cs := [vp_in (nI A) 28]) (pc' := 444) (L' := LB (some (.int (nI k))) (some (.int x)) (some (.int (nI kd))) (some (.int (nI t))) (some (.int y)) (some (.int (nI A))) (some (.int z16)) (some (.int z17))) (st' := [.int y]) (w' := WW S (E.1, E.2.1, (upd E.2.2.1 ((nI A) : Int32).toNatClampNeg y), E.2.2.2) C) [] 5 (by with_unfolding_all rfl) (ni_in (by omega) (by omega)) ?_
  rw [ni_nat (show A < 2147483648 by omega)]
  unfold eR at ha
  refine LV_br oL_cb C0 rfl rfl (fun h => ?_) (fun h => ?_)
  · rw [if_pos h] at ha
    cases ha
    exact h456
  · rw [if_neg h] at ha
    obtain ⟨R, hr, ha⟩ := lf_b ha
    cases ha
    refine LV_run oL_cb C0 (cs := []) (pc' := 453) (L' := LB (some (.int (nI k))) (some (.int x)) (some (.int (nI kd))) (some (.int (nI t))) (some (.int y)) (some (.int (nI A))) (some (.int z16)) (some (.int z17))) (st' := [.ref 143, .ref 140, .int 1, .int y]) (w' := WW S (E.1, E.2.1, upd E.2.2.1 A y, E.2.2.2) C) [] 4 (by with_unfolding_all rfl) trivial ?_
    exact LV_report oL_cb C0 hr rfl hmc h456
set_option maxRecDepth 20000 in
theorem c_fin1 (C0 : LC p l s m b meth c D ct ad0 Ln xs) {S : S_X6} {E C : S_XE} {kc ks : Nat} {k kd t : Nat} {x y : Int32} {A : Nat} {z17 : Int32} (kk : LV p l e s m b below meth c D ct ad0 719 (LB (some (.int (nI k))) (some (.int x)) none (some (.int (nI t))) none none none none) [] (WW S E C) kc ks) : LV p l e s m b below meth c D ct ad0 512 (LB (some (.int (nI k))) (some (.int x)) (some (.int (nI kd))) (some (.int (nI t))) (some (.int y)) (some (.int (nI A))) (some (.int 1)) (some (.int z17))) [.int z17] (WW S E C) kc ks := by
  refine LV_run oL_cb C0 (cs := []) (pc' := 514) (L' := LB (some (.int (nI k))) (some (.int x)) (some (.int (nI kd))) (some (.int (nI t))) (some (.int y)) (some (.int (nI A))) (some (.int 1)) (some (.int z17))) (st' := [.int 1, .int z17]) (w' := WW S E C) [] 1 (by with_unfolding_all rfl) trivial ?_
  refine LV_br oL_cb C0 rfl rfl (fun h => absurd h (by decide)) (fun h => ?_)
  refine LV_run oL_cb C0 (cs := []) (pc' := 524) (L' := LB (some (.int (nI k))) (some (.int x)) (some (.int (nI kd))) (some (.int (nI t))) (some (.int y)) (some (.int (nI A))) (some (.int 1)) (some (.int z17))) (st' := [.int z17, .int z17]) (w' := WW S E C) [] 2 (by with_unfolding_all rfl) trivial ?_
  refine LV_br oL_cb C0 rfl rfl (fun h => ?_) (fun h => absurd rfl h)
  refine LV_run oL_cb C0 (cs := []) (pc' := 719) (L' := LB (some (.int (nI k))) (some (.int x)) (some (.int (nI kd))) (some (.int (nI t))) (some (.int y)) (some (.int (nI A))) (some (.int 1)) (some (.int z17))) (st' := []) (w' := WW S E C) [719] 1 (by with_unfolding_all rfl) trivial ?_
  exact LV_weak LB_w4 kk
set_option maxRecDepth 20000 in
theorem c_fin0 (C0 : LC p l s m b meth c D ct ad0 Ln xs) {S : S_X6} {E C : S_XE} {kc ks : Nat} {k kd t : Nat} {x y : Int32} {A : Nat} {z17 : Int32} (kk : LV p l e s m b below meth c D ct ad0 719 (LB (some (.int (nI k))) (some (.int x)) none (some (.int (nI t))) none none none none) [] (WW S E C) kc ks) : LV p l e s m b below meth c D ct ad0 512 (LB (some (.int (nI k))) (some (.int x)) (some (.int (nI kd))) (some (.int (nI t))) (some (.int y)) (some (.int (nI A))) (some (.int 0)) (some (.int z17))) [.int (-3)] (WW S E C) kc ks := by
  refine LV_run oL_cb C0 (cs := []) (pc' := 514) (L' := LB (some (.int (nI k))) (some (.int x)) (some (.int (nI kd))) (some (.int (nI t))) (some (.int y)) (some (.int (nI A))) (some (.int 0)) (some (.int z17))) (st' := [.int 0, .int (-3)]) (w' := WW S E C) [] 1 (by with_unfolding_all rfl) trivial ?_
  refine LV_br oL_cb C0 rfl rfl (fun h => ?_) (fun h => absurd rfl h)
  refine LV_run oL_cb C0 (cs := []) (pc' := 524) (L' := LB (some (.int (nI k))) (some (.int x)) (some (.int (nI kd))) (some (.int (nI t))) (some (.int y)) (some (.int (nI A))) (some (.int 0)) (some (.int z17))) (st' := [.int (-3), .int (-3)]) (w' := WW S E C) [] 1 (by with_unfolding_all rfl) trivial ?_
  refine LV_br oL_cb C0 rfl rfl (fun h => ?_) (fun h => absurd rfl h)
  refine LV_run oL_cb C0 (cs := []) (pc' := 719) (L' := LB (some (.int (nI k))) (some (.int x)) (some (.int (nI kd))) (some (.int (nI t))) (some (.int y)) (some (.int (nI A))) (some (.int 0)) (some (.int z17))) (st' := []) (w' := WW S E C) [719] 1 (by with_unfolding_all rfl) trivial ?_
  exact LV_weak LB_w4 kk
end LAWS
