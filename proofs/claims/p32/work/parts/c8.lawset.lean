/-! ===== the law's body: its settings, its slots ===== -/
section LAWS
variable {p : Program} {l : Launch} {e : Env} {s : State} {m : MethodId} {b : Nat} {below : List Frame} {meth : Method} {c : Code} {D : va_G} {ct ad0 : Nat → Nat} {Ln : Nat} {xs : Nat → Int32}

set_option maxRecDepth 20000 in
theorem c_set1 (C0 : LC p l s m b meth c D ct ad0 Ln xs) {S : S_X6} {E C : S_XE} {kc ks k : Nat} (hk : k < 5) (kk : LV p l e s m b below meth c D ct ad0 187 (LB (some (.int (nI k))) none none none none none none none) [] (WW S E C) kc ks) : LV p l e s m b below meth c D ct ad0 152 (LB (some (.int (nI k))) none none none none none none none) [.int (s0_set k)] (WW S E C) kc ks := by
  obtain rfl | rfl | rfl | rfl | rfl : k = 0 ∨ k = 1 ∨ k = 2 ∨ k = 3 ∨ k = 4 := by omega
  · skip
    refine LV_run oL_set C0 (cs := []) (pc' := 154) (L' := LB (some (.int (nI 0))) none none none none none none none) (st' := [.int (nI 0), .int (s0_set 0)]) (w' := WW S E C) [] 1 (by with_unfolding_all rfl) trivial ?_
    refine LV_br oL_set C0 rfl rfl (fun h => absurd rfl h) (fun h => ?_)
    refine LV_run oL_set C0 (cs := []) (pc' := 182) (L' := LB (some (.int (nI 0))) none none none none none none none) (st' := [.int 1, .int (s0_set 0)]) (w' := WW S E C) [] 2 (by with_unfolding_all rfl) trivial ?_
    refine LV_br oL_set C0 rfl rfl (fun h => ?_) (fun h => absurd (show s0_set 0 = 1 from rfl) h)
    exact kk
  · skip
    refine LV_run oL_set C0 (cs := []) (pc' := 154) (L' := LB (some (.int (nI 1))) none none none none none none none) (st' := [.int (nI 1), .int (s0_set 1)]) (w' := WW S E C) [] 1 (by with_unfolding_all rfl) trivial ?_
    refine LV_br oL_set C0 rfl rfl (fun h => ?_) (fun h => absurd h (show ¬ nI 1 = 0 by decide))
    refine LV_run oL_set C0 (cs := []) (pc' := 164) (L' := LB (some (.int (nI 1))) none none none none none none none) (st' := [.int 1, .int (nI 1), .int (s0_set 1)]) (w' := WW S E C) [] 2 (by with_unfolding_all rfl) trivial ?_
    refine LV_br oL_set C0 rfl rfl (fun h => absurd rfl h) (fun h => ?_)
    refine LV_run oL_set C0 (cs := []) (pc' := 182) (L' := LB (some (.int (nI 1))) none none none none none none none) (st' := [.int 3, .int (s0_set 1)]) (w' := WW S E C) [] 2 (by with_unfolding_all rfl) trivial ?_
    refine LV_br oL_set C0 rfl rfl (fun h => ?_) (fun h => absurd (show s0_set 1 = 3 from rfl) h)
    exact kk
  · skip
    refine LV_run oL_set C0 (cs := []) (pc' := 154) (L' := LB (some (.int (nI 2))) none none none none none none none) (st' := [.int (nI 2), .int (s0_set 2)]) (w' := WW S E C) [] 1 (by with_unfolding_all rfl) trivial ?_
    refine LV_br oL_set C0 rfl rfl (fun h => ?_) (fun h => absurd h (show ¬ nI 2 = 0 by decide))
    refine LV_run oL_set C0 (cs := []) (pc' := 164) (L' := LB (some (.int (nI 2))) none none none none none none none) (st' := [.int 1, .int (nI 2), .int (s0_set 2)]) (w' := WW S E C) [] 2 (by with_unfolding_all rfl) trivial ?_
    refine LV_br oL_set C0 rfl rfl (fun h => ?_) (fun h => absurd h (show ¬ nI 2 = 1 by decide))
    refine LV_run oL_set C0 (cs := []) (pc' := 174) (L' := LB (some (.int (nI 2))) none none none none none none none) (st' := [.int 2, .int (nI 2), .int (s0_set 2)]) (w' := WW S E C) [] 2 (by with_unfolding_all rfl) trivial ?_
    refine LV_br oL_set C0 rfl rfl (fun h => absurd rfl h) (fun h => ?_)
    refine LV_run oL_set C0 (cs := []) (pc' := 182) (L' := LB (some (.int (nI 2))) none none none none none none none) (st' := [.int 2, .int (s0_set 2)]) (w' := WW S E C) [] 2 (by with_unfolding_all rfl) trivial ?_
    refine LV_br oL_set C0 rfl rfl (fun h => ?_) (fun h => absurd (show s0_set 2 = 2 from rfl) h)
    exact kk
  · skip
    refine LV_run oL_set C0 (cs := []) (pc' := 154) (L' := LB (some (.int (nI 3))) none none none none none none none) (st' := [.int (nI 3), .int (s0_set 3)]) (w' := WW S E C) [] 1 (by with_unfolding_all rfl) trivial ?_
    refine LV_br oL_set C0 rfl rfl (fun h => ?_) (fun h => absurd h (show ¬ nI 3 = 0 by decide))
    refine LV_run oL_set C0 (cs := []) (pc' := 164) (L' := LB (some (.int (nI 3))) none none none none none none none) (st' := [.int 1, .int (nI 3), .int (s0_set 3)]) (w' := WW S E C) [] 2 (by with_unfolding_all rfl) trivial ?_
    refine LV_br oL_set C0 rfl rfl (fun h => ?_) (fun h => absurd h (show ¬ nI 3 = 1 by decide))
    refine LV_run oL_set C0 (cs := []) (pc' := 174) (L' := LB (some (.int (nI 3))) none none none none none none none) (st' := [.int 2, .int (nI 3), .int (s0_set 3)]) (w' := WW S E C) [] 2 (by with_unfolding_all rfl) trivial ?_
    refine LV_br oL_set C0 rfl rfl (fun h => ?_) (fun h => absurd h (show ¬ nI 3 = 2 by decide))
    refine LV_run oL_set C0 (cs := []) (pc' := 182) (L' := LB (some (.int (nI 3))) none none none none none none none) (st' := [.int 0, .int (s0_set 3)]) (w' := WW S E C) [] 1 (by with_unfolding_all rfl) trivial ?_
    refine LV_br oL_set C0 rfl rfl (fun h => ?_) (fun h => absurd (show s0_set 3 = 0 from rfl) h)
    exact kk
  · skip
    refine LV_run oL_set C0 (cs := []) (pc' := 154) (L' := LB (some (.int (nI 4))) none none none none none none none) (st' := [.int (nI 4), .int (s0_set 4)]) (w' := WW S E C) [] 1 (by with_unfolding_all rfl) trivial ?_
    refine LV_br oL_set C0 rfl rfl (fun h => ?_) (fun h => absurd h (show ¬ nI 4 = 0 by decide))
    refine LV_run oL_set C0 (cs := []) (pc' := 164) (L' := LB (some (.int (nI 4))) none none none none none none none) (st' := [.int 1, .int (nI 4), .int (s0_set 4)]) (w' := WW S E C) [] 2 (by with_unfolding_all rfl) trivial ?_
    refine LV_br oL_set C0 rfl rfl (fun h => ?_) (fun h => absurd h (show ¬ nI 4 = 1 by decide))
    refine LV_run oL_set C0 (cs := []) (pc' := 174) (L' := LB (some (.int (nI 4))) none none none none none none none) (st' := [.int 2, .int (nI 4), .int (s0_set 4)]) (w' := WW S E C) [] 2 (by with_unfolding_all rfl) trivial ?_
    refine LV_br oL_set C0 rfl rfl (fun h => ?_) (fun h => absurd h (show ¬ nI 4 = 2 by decide))
    refine LV_run oL_set C0 (cs := []) (pc' := 182) (L' := LB (some (.int (nI 4))) none none none none none none none) (st' := [.int 0, .int (s0_set 4)]) (w' := WW S E C) [] 1 (by with_unfolding_all rfl) trivial ?_
    refine LV_br oL_set C0 rfl rfl (fun h => ?_) (fun h => absurd (show s0_set 4 = 0 from rfl) h)
    exact kk
def SA (k : Nat) (S : S_X6) (E : S_XE) (v : Nat → Int32) : Prop := WX G0 0 0 0 0 0 0 (a_X4_now S.1) v ∧ RZ S ∧ (∀ j, j < 8 → v j = 0) ∧ (∀ j, j < 4 → v (13 + j) = -1) ∧ (∀ i, i < k → v (8 + i) = E.1 (7 + i)) ∧ ∀ i, k ≤ i → i < 5 → a_X3_settings (a_X4_now S.1) i = s0_set i
def SQ5 (E : S_XE) : Prop := ∀ i, i < 5 → ∃ y, E.1 (7 + i) = nI y ∧ (i < 3 → y ≤ 20) ∧ (i = 3 → y ≤ 1) ∧ (i = 4 → y ≤ 50)
theorem SA.set {F k : Nat} (hk : k < 5) {S : S_X6} {E : S_XE} {v : Nat → Int32} (a : SA k S E v) (b : SQ5 E) : ∃ S' v', s_X4_set_6 F S (nI k) (E.1 (7 + k)) = some (s0_set k, S') ∧ SA (k + 1) S' E v' := by
  obtain ⟨a1, a2, a3, a4, a5, a6⟩ := a
  obtain ⟨y, hy, b1⟩ := b k hk
  obtain ⟨S', c1, c2, c3, c4⟩ := z_set (F := F) a1 a2 hk b1
  refine ⟨S', upd v (8 + k) (nI y), ?_, c3, c2, fun j hj => by rw [upd_ne _ _ (by omega)]; exact a3 j hj, fun j hj => by rw [upd_ne _ _ (by omega)]; exact a4 j hj, fun i hi => ?_, fun i h1 h2 => ?_⟩
  · rw [hy, c1, a6 k (Nat.le_refl _) hk]
  · by_cases hik : i = k
    · rw [hik, upd_at, hy]
    · rw [upd_ne _ _ (by omega)]
      exact a5 i (by omega)
  · rw [c4, upd_ne _ _ (by omega)]
    exact a6 i (by omega) h2
set_option maxRecDepth 20000 in
theorem c_set {F : Nat} (C0 : LC p l s m b meth c D ct ad0 Ln xs) {E C : S_XE} (b1 : SQ5 E) {kc ks : Nat} (hmc : kc ≤ 600130 ∧ ks ≤ 7301080) (kk : ∀ S v, SA 5 S E v → LV p l e s m b below meth c D ct ad0 193 (LB (some (.int (nI 5))) none none none none none none none) [] (WW S E C) kc ks) : ∀ d k S v, k + d = 5 → SA k S E v → LV p l e s m b below meth c D ct ad0 133 (LB (some (.int (nI k))) none none none none none none none) [] (WW S E C) kc ks := by
  intro d
  induction d with
  | zero =>
    intro k S v hk a
    obtain rfl : k = 5 := by omega
    refine LV_run oL_set C0 (cs := []) (pc' := 136) (L' := LB (some (.int (nI 5))) none none none none none none none) (st' := [.int 5, .int (nI 5)]) (w' := WW S E C) [] 2 (by with_unfolding_all rfl) trivial ?_
    refine LV_br oL_set C0 rfl rfl (fun h => ?_) (fun h => absurd (show nI 5 ≥ 5 from Int32.le_refl _) h)
    exact kk S v a
  | succ d ih =>
    intro k S v hk a
    obtain ⟨S2, v2, c1, c2⟩ := SA.set (F := F) (by omega) a b1
    refine LV_run oL_set C0 (cs := []) (pc' := 136) (L' := LB (some (.int (nI k))) none none none none none none none) (st' := [.int 5, .int (nI k)]) (w' := WW S E C) [] 2 (by with_unfolding_all rfl) trivial ?_
    refine LV_br oL_set C0 rfl rfl (fun h => absurd ((ni_le (a := 5) (b := k) (by omega) (by omega)).mp h) (by omega)) (fun h => ?_)
    refine LV_run oL_set C0 (cs := [vp_in (7 + (nI k)) 12]) (pc' := 149) (L' := LB (some (.int (nI k))) none none none none none none none) (st' := [.int (E.1 ((7 + (nI k)) : Int32).toNatClampNeg), .int (nI k), .ref 0]) (w' := WW S E C) [] 7 (by with_unfolding_all rfl) (by rw [show (7 : Int32) = nI 7 from rfl, ni_add]; exact ni_in (by omega) (by omega)) ?_
    have e7 : E.1 ((7 + (nI k) : Int32).toNatClampNeg) = E.1 (7 + k) := by rw [show (7 : Int32) = nI 7 from rfl, ni_add, ni_nat (by omega)]
    rw [e7]
    refine LV_six oL_set C0 (S' := S2) (z := .int (s0_set k)) (rest := []) (t_X4_set_6 F S (nI k) (E.1 (7 + k)) (s0_set k, S2) c1) cv_X4_set ml_L_law_117 rfl rfl rfl rfl ⟨rfl, rfl⟩ ⟨rfl, rfl⟩ hmc ?_
    refine c_set1 C0 (by omega) ?_
    refine LV_run oL_set C0 (cs := []) (pc' := 133) (L' := LB (some (.int ((nI k) + 1))) none none none none none none none) (st' := []) (w' := WW S2 E C) [133] 2 (by with_unfolding_all rfl) trivial ?_
    rw [ni_1]
    exact ih (k + 1) S2 v2 (by omega) c2
set_option maxRecDepth 20000 in
theorem c_sl (C0 : LC p l s m b meth c D ct ad0 Ln xs) {S : S_X6} {C : S_XE} {kc ks : Nat} (hmc : kc ≤ 600130 ∧ ks ≤ 7301080) {q th re : Nat → Int32} (kk : ∀ sl, (∀ j, j < 28 → sl j = -1) → LV p l e s m b below meth c D ct ad0 215 (LB (some (.int (nI 28))) none none none none none none none) [] (WW S (q, th, sl, re) C) kc ks) : ∀ d k sl, k + d = 28 → (∀ j, j < k → sl j = -1) → LV p l e s m b below meth c D ct ad0 196 (LB (some (.int (nI k))) none none none none none none none) [] (WW S (q, th, sl, re) C) kc ks := by
  intro d
  induction d with
  | zero =>
    intro k sl hk a
    obtain rfl : k = 28 := by omega
    refine LV_run oL_sl C0 (cs := []) (pc' := 200) (L' := LB (some (.int (nI 28))) none none none none none none none) (st' := [.int 28, .int (nI 28)]) (w' := WW S (q, th, sl, re) C) [] 2 (by with_unfolding_all rfl) trivial ?_
    refine LV_br oL_sl C0 rfl rfl (fun h => ?_) (fun h => absurd (show nI 28 ≥ 28 from Int32.le_refl _) h)
    exact kk sl a
  | succ d ih =>
    intro k sl hk a
    refine LV_run oL_sl C0 (cs := []) (pc' := 200) (L' := LB (some (.int (nI k))) none none none none none none none) (st' := [.int 28, .int (nI k)]) (w' := WW S (q, th, sl, re) C) [] 2 (by with_unfolding_all rfl) trivial ?_
    refine LV_br oL_sl C0 rfl rfl (fun h => absurd ((ni_le (a := 28) (b := k) (by omega) (by omega)).mp h) (by omega)) (fun h => ?_)
    refine LV_run oL_sl C0 (cs := [vp_in (nI k) 28]) (pc' := 196) (L' := LB (some (.int ((nI k) + 1))) none none none none none none none) (st' := []) (w' := WW S (q, th, (upd sl ((nI k) : Int32).toNatClampNeg (-1)), re) C) [196] 6 (by with_unfolding_all rfl) (ni_in (by omega) (by omega)) ?_
    rw [ni_1]
    refine ih (k + 1) _ (by omega) (fun j hj => ?_)
    rw [ni_nat (by omega)]
    by_cases hjk : j = k
    · rw [hjk, upd_at]
    · rw [upd_ne _ _ hjk]
      exact a j (by omega)
end LAWS
