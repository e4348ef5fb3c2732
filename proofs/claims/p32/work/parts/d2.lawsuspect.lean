/-! ===== the law's body: a suspect ===== -/
section LAWS
variable {p : Program} {l : Launch} {e : Env} {s : State} {m : MethodId} {b : Nat} {below : List Frame} {meth : Method} {c : Code} {D : va_G} {ct ad0 : Nat → Nat} {Ln : Nat} {xs : Nat → Int32}

theorem KE.su {B T e h m : Nat} {S : S_X6} {v : Nat → Int32} {E : S_XE} (q : KE B T e h m (a_X4_now S.1) v E) {a : Nat} (ha : a < 6) : E.2.1 (8 * a + 3) = nI (if mb (a_X3_suspects (a_X4_now S.1)) a then 1 else 0) := by
  rw [(q.2.1.2.1 a ha).2.2.2.1, (q.1.1.2.2.1.1 a ha).2.2.2.1]
  unfold bv
  split <;> rfl
set_option maxRecDepth 20000 in
theorem c_many (C0 : LC p l s m b meth c D ct ad0 Ln xs) {B T e1 h1 m1 : Nat} {S : S_X6} {E C : S_XE} {v : Nat → Int32} (q : KE B T e1 h1 m1 (a_X4_now S.1) v E) {kc ks : Nat} (hmc : kc ≤ 600130 ∧ ks ≤ 7301080) {k kd t : Nat} {x y : Int32} (kk : LV p l e s m b below meth c D ct ad0 696 (LB (some (.int (nI k))) (some (.int x)) (some (.int (nI kd))) (some (.int (nI t))) (some (.int y)) (some (.int (nI (1 + cn (mb (a_X3_suspects (a_X4_now S.1))) 6)))) (some (.int (nI 6))) none) [] (WW S E C) kc ks) : ∀ d j, j + d = 6 → LV p l e s m b below meth c D ct ad0 669 (LB (some (.int (nI k))) (some (.int x)) (some (.int (nI kd))) (some (.int (nI t))) (some (.int y)) (some (.int (nI (1 + cn (mb (a_X3_suspects (a_X4_now S.1))) j)))) (some (.int (nI j))) none) [] (WW S E C) kc ks := by
  intro d
  induction d with
  | zero =>
    intro j hj
    obtain rfl : j = 6 := by omega
    refine LV_run oL_su C0 (cs := []) (pc' := 673) (L' := LB (some (.int (nI k))) (some (.int x)) (some (.int (nI kd))) (some (.int (nI t))) (some (.int y)) (some (.int (nI (1 + cn (mb (a_X3_suspects (a_X4_now S.1))) 6)))) (some (.int (nI 6))) none) (st' := [.int 6, .int (nI 6)]) (w' := WW S E C) [] 2 (by with_unfolding_all rfl) trivial ?_
    refine LV_br oL_su C0 rfl rfl (fun h => ?_) (fun h => absurd (show nI 6 ≥ 6 from Int32.le_refl _) h)
    exact kk
  | succ d ih =>
    intro j hj
    refine LV_run oL_su C0 (cs := []) (pc' := 673) (L' := LB (some (.int (nI k))) (some (.int x)) (some (.int (nI kd))) (some (.int (nI t))) (some (.int y)) (some (.int (nI (1 + cn (mb (a_X3_suspects (a_X4_now S.1))) j)))) (some (.int (nI j))) none) (st' := [.int 6, .int (nI j)]) (w' := WW S E C) [] 2 (by with_unfolding_all rfl) trivial ?_
    refine LV_br oL_su C0 rfl rfl (fun h => absurd ((ni_le (a := 6) (b := j) (by omega) (by omega)).mp h) (by omega)) (fun h => ?_)
    have i9 : (8 : Int32) * nI j + 3 = nI (8 * j + 3) := by rw [show (8 : Int32) = nI 8 from rfl, ni_mul, show (3 : Int32) = nI 3 from rfl, ni_add]
    refine LV_run oL_su C0 (cs := [vp_in ((8 * (nI j)) + 3) 48]) (pc' := 669) (L' := LB (some (.int (nI k))) (some (.int x)) (some (.int (nI kd))) (some (.int (nI t))) (some (.int y)) (some (.int ((nI (1 + cn (mb (a_X3_suspects (a_X4_now S.1))) j)) + (E.2.1 (((8 * (nI j)) + 3) : Int32).toNatClampNeg)))) (some (.int ((nI j) + 1))) none) (st' := []) (w' := WW S E C) [669] 12 (by with_unfolding_all rfl) (by rw [i9]; exact ni_in (by omega) (by omega)) ?_
    rw [i9, ni_nat (show 8 * j + 3 < 2147483648 by omega), q.su (by omega), ni_add, ni_1, Nat.add_assoc]
    exact ih (j + 1) (by omega)
set_option maxRecDepth 20000 in
theorem c_su {F : Nat} (hF : 6400 < F) (C0 : LC p l s m b meth c D ct ad0 Ln xs) {S : S_X6} {E C : S_XE} {kc ks : Nat} (hmc : kc ≤ 600130 ∧ ks ≤ 7301080) {k kd t : Nat} {x y : Int32} (hk : k < 16) (ht : t < 6) (q : KT k S E) (kk : ∀ S E, KT (k + 1) S E → LV p l e s m b below meth c D ct ad0 719 (LB (some (.int (nI k))) (some (.int x)) none (some (.int (nI t))) none none none none) [] (WW S E C) kc ks) : LV p l e s m b below meth c D ct ad0 642 (LB (some (.int (nI k))) (some (.int x)) (some (.int (nI kd))) (some (.int (nI t))) (some (.int y)) none none none) [] (WW S E C) kc ks := by
  have q0 := q
  obtain ⟨T, hT, e1, h1, m1, v, q1, q2, q3, q4⟩ := q
  have hlv := q1.eh.1 t ht
  have hsu := q1.su ht
  refine LV_run oL_su C0 (cs := []) (pc' := 645) (L' := LB (some (.int (nI k))) (some (.int x)) (some (.int (nI kd))) (some (.int (nI t))) (some (.int y)) none none none) (st' := [.ref 141, .int (nI t)]) (w' := WW S E C) [] 2 (by with_unfolding_all rfl) trivial ?_
  refine LV_lives oL_su C0 ht rfl rfl hmc ?_
  rw [hlv]
  cases hl : mb (a_X3_living (a_X4_now S.1)) t with
  | false =>
    refine LV_br oL_su C0 rfl rfl (fun h => ?_) (fun h => absurd (show ev_b false = 0 from rfl) h)
    exact LV_weak LB_w4 (kk S E ⟨T, by omega, KZ.more ⟨e1, h1, m1, v, q1, q2, q3, q4⟩ (by omega) (by omega)⟩)
  | true =>
    refine LV_br oL_su C0 rfl rfl (fun h => absurd h (by decide)) (fun h => ?_)
    have i9 : (8 : Int32) * nI t + 3 = nI (8 * t + 3) := by rw [show (8 : Int32) = nI 8 from rfl, ni_mul, show (3 : Int32) = nI 3 from rfl, ni_add]
    refine LV_run oL_su C0 (cs := [vp_in ((8 * (nI t)) + 3) 48]) (pc' := 660) (L' := LB (some (.int (nI k))) (some (.int x)) (some (.int (nI kd))) (some (.int (nI t))) (some (.int y)) none none none) (st' := [.int (E.2.1 (((8 * (nI t)) + 3) : Int32).toNatClampNeg)]) (w' := WW S E C) [] 7 (by with_unfolding_all rfl) (by rw [i9]; exact ni_in (by omega) (by omega)) ?_
    rw [i9, ni_nat (show 8 * t + 3 < 2147483648 by omega), hsu]
    cases hs : mb (a_X3_suspects (a_X4_now S.1)) t with
    | true =>
      refine LV_br oL_su C0 rfl rfl (fun h => ?_) (fun h => absurd h (show ¬ nI (if true = true then 1 else 0) = 0 by decide))
      exact LV_weak LB_w4 (kk S E ⟨T, by omega, KZ.more ⟨e1, h1, m1, v, q1, q2, q3, q4⟩ (by omega) (by omega)⟩)
    | false =>
      refine LV_br oL_su C0 rfl rfl (fun h => absurd (show nI (if false = true then 1 else 0) = 0 from rfl) h) (fun h => ?_)
      refine LV_run oL_su C0 (cs := []) (pc' := 669) (L' := LB (some (.int (nI k))) (some (.int x)) (some (.int (nI kd))) (some (.int (nI t))) (some (.int y)) (some (.int 1)) (some (.int 0)) none) (st' := []) (w' := WW S E C) [669] 4 (by with_unfolding_all rfl) trivial ?_
      refine c_many C0 q1 hmc ?_ 6 0 (by omega)
      refine LV_run oL_su C0 (cs := [vp_in ((8 * (nI t)) + 3) 48]) (pc' := 709) (L' := LB (some (.int (nI k))) (some (.int x)) (some (.int (nI kd))) (some (.int (nI t))) (some (.int y)) (some (.int (nI (1 + cn (mb (a_X3_suspects (a_X4_now S.1))) 6)))) (some (.int (nI 6))) none) (st' := [.int (nI t), .ref 0]) (w' := WW S (E.1, (upd E.2.1 (((8 * (nI t)) + 3) : Int32).toNatClampNeg 1), E.2.2.1, E.2.2.2) C) [] 10 (by with_unfolding_all rfl) (by rw [i9]; exact ni_in (by omega) (by omega)) ?_
      obtain ⟨S2, w1, w2⟩ := z_suspect hF q1 q2 q3 ht hl hs
      rw [i9, ni_nat (show 8 * t + 3 < 2147483648 by omega)]
      refine LV_six oL_su C0 (S' := S2) (z := .int (nI (1 + cn (mb (a_X3_suspects (a_X4_now S.1))) 6))) (rest := []) (t_X4_suspect_6 F S (nI t) (nI (1 + cn (mb (a_X3_suspects (a_X4_now S.1))) 6), S2) w1) cv_X4_suspect ml_L_law_135 rfl rfl rfl rfl ⟨rfl, rfl⟩ ⟨rfl, rfl⟩ hmc ?_
      refine LV_run oL_su C0 (cs := []) (pc' := 714) (L' := LB (some (.int (nI k))) (some (.int x)) (some (.int (nI kd))) (some (.int (nI t))) (some (.int y)) (some (.int (nI (1 + cn (mb (a_X3_suspects (a_X4_now S.1))) 6)))) (some (.int (nI 6))) none) (st' := [.int (nI (1 + cn (mb (a_X3_suspects (a_X4_now S.1))) 6)), .int (nI (1 + cn (mb (a_X3_suspects (a_X4_now S.1))) 6))]) (w' := WW S2 (E.1, upd E.2.1 (8 * t + 3) 1, E.2.2.1, E.2.2.2) C) [] 1 (by with_unfolding_all rfl) trivial ?_
      refine LV_br oL_su C0 rfl rfl (fun h => ?_) (fun h => absurd rfl h)
      exact LV_weak LB_w4 (kk S2 _ (KT.next hk (by omega) w2))
end LAWS
