/-! save() and undo() on all cells -/
def s6_put (F : Nat) (u : S_X6) : Option S_X6 := if lf_ix (a_X4_savedStates u.1) 6 then (if u.2.2 (a_X4_savedStates u.1).toNatClampNeg < 6 then (s_X3_copyFrom F (u.2.1 (u.2.2 (a_X4_savedStates u.1).toNatClampNeg)) (a_X4_now u.1)).bind fun y => some (m_X4_savedStates (a_X4_savedStates u.1 + 1) u.1, va_up u.2.1 (u.2.2 (a_X4_savedStates u.1).toNatClampNeg) y, u.2.2) else none) else none
def pi_k (k : Nat) (pi : Nat → Nat) : Nat → Nat := fun p => if p + 1 < k then pi (p + 1) else pi p
def pi_r (pi : Nat → Nat) : Nat → Nat := va_up (pi_k 6 pi) 5 (pi 0)
abbrev pi_ok (pi : Nat → Nat) : Prop := pi 0 < 6 ∧ pi 1 < 6 ∧ pi 2 < 6 ∧ pi 3 < 6 ∧ pi 4 < 6 ∧ pi 5 < 6
theorem pi_ok_all {pi : Nat → Nat} (h : pi_ok pi) : ∀ p, p < 6 → pi p < 6 := by
  obtain ⟨h0, h1, h2, h3, h4, h5⟩ := h
  intro p hp
  match p, hp with
  | 0, _ => exact h0
  | 1, _ => exact h1
  | 2, _ => exact h2
  | 3, _ => exact h3
  | 4, _ => exact h4
  | 5, _ => exact h5
def s_X4_save_6 (F : Nat) (u : S_X6) : Option S_X6 := if a_X4_savedStates u.1 < 6 then s6_put F u else (if pi_ok u.2.2 then s6_put F (m_X4_savedStates 5 u.1, u.2.1, pi_r u.2.2) else none)
abbrev X_save (x : S_X6) : ev_X := ev_XR mm_X4_save (fun r w => r = none ∧ w = W_X6 x)
set_option maxHeartbeats 4000000 in
set_option maxRecDepth 20000 in
theorem t_save56a (F : Nat) (S : S_X4) (sv : Nat → S_X3) (pi : Nat → Nat) (x : S_X6) (hR : s6_put F (S, sv, pi) = some x) : ev_V mm_X4_save none (X_save x) 56 [some (.ref 0), none, none] [] (W_X6 (S, sv, pi)) 0 0 := by
  unfold s6_put at hR
  obtain ⟨h1, hR⟩ := lf_g hR
  obtain ⟨hq, hR⟩ := lf_g hR
  obtain ⟨y, hy, hR⟩ := lf_b hR
  dsimp only at h1 hq hy hR
  refine ev_run (cs := []) (pc' := 64) (L' := [some (.ref 0), none, none]) (st' := [.int (a_X4_savedStates S), .ref 49]) (w' := W_X6 (S, sv, pi)) [] 4 (by with_unfolding_all rfl) trivial ?_
  obtain ⟨q, hqe⟩ : ∃ q, q = pi (a_X4_savedStates S).toNatClampNeg := ⟨_, rfl⟩
  rw [← hqe] at hq hy hR
  refine ev_aald (b := 50 + 15 * q) rfl (W6_row S sv pi) h1 (by rw [hqe]) ?_
  refine ev_run (cs := []) (pc' := 69) (L' := [some (.ref 0), none, none]) (st' := [.ref 1, .ref (50 + 15 * q)]) (w' := W_X6 (S, sv, pi)) [] 2 (by with_unfolding_all rfl) trivial ?_
  refine ev_callV2 15 (50 + 15 * q) 1 (t_X3_copyFrom F (sv q) (a_X4_now S) _ hy) cv_X3_copyFrom ml_X4_178 rfl rfl rfl rfl (by rw [W6_len]; omega) (Nat.le_of_ble_eq_true rfl) (by omega) (six_in S sv pi hq) (Nat.le_of_ble_eq_true rfl) ⟨Nat.le_of_ble_eq_true rfl, Nat.le_of_ble_eq_true rfl⟩ ⟨Nat.le_refl _, Nat.le_refl _⟩ ?_ ?_
  · rintro r w ⟨rfl, rfl⟩; rfl
  rintro r w ⟨rfl, rfl⟩
  rw [six_out S sv pi y hq]
  refine ev_nx (pc' := 72) (st' := []) (w' := W_X6 (S, va_up sv q y, pi)) rfl rfl rfl rfl rfl ?_
  refine ev_run (cs := []) (pc' := 82) (L' := [some (.ref 0), none, none]) (st' := []) (w' := W_X6 (m_X4_savedStates (a_X4_savedStates S + 1) S, va_up sv q y, pi)) [] 6 (by with_unfolding_all rfl) trivial ?_
  cases hR
  exact ev_exit ⟨_, _, rfl, ⟨rfl, rfl⟩, ⟨rfl, rfl⟩, Nat.le_refl _, Nat.le_refl _⟩
set_option maxHeartbeats 4000000 in
set_option maxRecDepth 20000 in
theorem t_save56b (F : Nat) (S : S_X4) (sv : Nat → S_X3) (pi : Nat → Nat) (x : S_X6) (b : Nat) (hR : s6_put F (S, sv, pi) = some x) : ev_V mm_X4_save none (X_save x) 56 [some (.ref 0), some (.ref b), some (.int 6)] [] (W_X6 (S, sv, pi)) 0 0 := by
  unfold s6_put at hR
  obtain ⟨h1, hR⟩ := lf_g hR
  obtain ⟨hq, hR⟩ := lf_g hR
  obtain ⟨y, hy, hR⟩ := lf_b hR
  dsimp only at h1 hq hy hR
  refine ev_run (cs := []) (pc' := 64) (L' := [some (.ref 0), some (.ref b), some (.int 6)]) (st' := [.int (a_X4_savedStates S), .ref 49]) (w' := W_X6 (S, sv, pi)) [] 4 (by with_unfolding_all rfl) trivial ?_
  obtain ⟨q, hqe⟩ : ∃ q, q = pi (a_X4_savedStates S).toNatClampNeg := ⟨_, rfl⟩
  rw [← hqe] at hq hy hR
  refine ev_aald (b := 50 + 15 * q) rfl (W6_row S sv pi) h1 (by rw [hqe]) ?_
  refine ev_run (cs := []) (pc' := 69) (L' := [some (.ref 0), some (.ref b), some (.int 6)]) (st' := [.ref 1, .ref (50 + 15 * q)]) (w' := W_X6 (S, sv, pi)) [] 2 (by with_unfolding_all rfl) trivial ?_
  refine ev_callV2 15 (50 + 15 * q) 1 (t_X3_copyFrom F (sv q) (a_X4_now S) _ hy) cv_X3_copyFrom ml_X4_178 rfl rfl rfl rfl (by rw [W6_len]; omega) (Nat.le_of_ble_eq_true rfl) (by omega) (six_in S sv pi hq) (Nat.le_of_ble_eq_true rfl) ⟨Nat.le_of_ble_eq_true rfl, Nat.le_of_ble_eq_true rfl⟩ ⟨Nat.le_refl _, Nat.le_refl _⟩ ?_ ?_
  · rintro r w ⟨rfl, rfl⟩; rfl
  rintro r w ⟨rfl, rfl⟩
  rw [six_out S sv pi y hq]
  refine ev_nx (pc' := 72) (st' := []) (w' := W_X6 (S, va_up sv q y, pi)) rfl rfl rfl rfl rfl ?_
  refine ev_run (cs := []) (pc' := 82) (L' := [some (.ref 0), some (.ref b), some (.int 6)]) (st' := []) (w' := W_X6 (m_X4_savedStates (a_X4_savedStates S + 1) S, va_up sv q y, pi)) [] 6 (by with_unfolding_all rfl) trivial ?_
  cases hR
  exact ev_exit ⟨_, _, rfl, ⟨rfl, rfl⟩, ⟨rfl, rfl⟩, Nat.le_refl _, Nat.le_refl _⟩
theorem pi_k_s (k : Nat) (pi : Nat → Nat) : va_up (pi_k (k + 1) pi) k (pi_k (k + 1) pi (k + 1)) = pi_k (k + 1 + 1) pi := by
  funext p
  unfold va_up pi_k
  rw [if_neg (show ¬ k + 1 + 1 < k + 1 by omega)]
  by_cases h : p = k
  · rw [if_pos h, h, if_pos (by omega)]
  · rw [if_neg h]
    by_cases h2 : p + 1 < k + 1
    · rw [if_pos h2, if_pos (by omega)]
    · rw [if_neg h2, if_neg (by omega)]
set_option maxHeartbeats 4000000 in
set_option maxRecDepth 20000 in
theorem t_save18 {X : ev_X} (S : S_X4) (sv : Nat → S_X3) (pi : Nat → Nat) (hpi : ∀ p, p < 6 → pi p < 6) (b k : Nat) (i : Int32) (hk : k + 1 < 6) (hi : i.toNatClampNeg = k + 1) (h6 : ¬ 6 ≤ i) (l1 : lf_ix i 6) (l2 : lf_ix (i - 1) 6) (hi2 : (i - 1).toNatClampNeg = k)
    (kk : ev_V mm_X4_save none X 18 [some (.ref 0), some (.ref b), some (.int (i + 1))] [] (W_X6 (S, sv, pi_k (k + 1 + 1) pi)) 0 0) : ev_V mm_X4_save none X 18 [some (.ref 0), some (.ref b), some (.int i)] [] (W_X6 (S, sv, pi_k (k + 1) pi)) 0 0 := by
  have hp := pi_k_s k pi
  obtain ⟨q, hq⟩ : ∃ q, q = pi_k (k + 1) pi (k + 1) := ⟨_, rfl⟩
  have hq6 : q < 6 := by
    rw [hq]
    unfold pi_k
    split
    · exact hpi _ (by omega)
    · exact hpi _ (by omega)
  rw [← hq] at hp
  refine ev_run (cs := []) (pc' := 21) (L' := [some (.ref 0), some (.ref b), some (.int i)]) (st' := [.int 6, .int i]) (w' := W_X6 (S, sv, pi_k (k + 1) pi)) [] 2 (by with_unfolding_all rfl) trivial ?_
  refine ev_br rfl rfl (fun h => absurd h h6) (fun _ => ?_)
  refine ev_run (cs := []) (pc' := 36) (L' := [some (.ref 0), some (.ref b), some (.int i)]) (st' := [.int i, .ref 49, .int (i - 1), .ref 49]) (w' := W_X6 (S, sv, pi_k (k + 1) pi)) [] 8 (by with_unfolding_all rfl) trivial ?_
  refine ev_aald (b := 50 + 15 * q) rfl (W6_row S sv (pi_k (k + 1) pi)) l1 (by rw [hi, hq]) ?_
  obtain ⟨vs, hvs⟩ := W6_one S sv (pi_k (k + 1) pi) hq6
  refine ev_aast rfl (W6_row S sv (pi_k (k + 1) pi)) hvs l2 ?_
  rw [hi2, W6_up, hp]
  exact ev_run (cs := []) (pc' := 18) (L' := [some (.ref 0), some (.ref b), some (.int (i + 1))]) (st' := []) (w' := W_X6 (S, sv, pi_k (k + 1 + 1) pi)) [] 2 (by with_unfolding_all rfl) trivial kk
set_option maxHeartbeats 4000000 in
set_option maxRecDepth 20000 in
theorem t_X4_save_6 (F : Nat) (u : S_X6) (x : S_X6) (hR : s_X4_save_6 F u = some x) : ev_A yX4_save mm_X4_save none [.ref 0] (W_X6 u) (fun r w => r = none ∧ w = W_X6 x) := by
  obtain ⟨S, sv, pi⟩ := u
  unfold s_X4_save_6 at hR
  dsimp only at hR
  refine ev_start ok_X4_save (by decide +kernel) rfl rfl (Nat.le_of_ble_eq_true rfl) ?_
  refine ev_run (cs := []) (pc' := 6) (L' := [some (.ref 0), none, none]) (st' := [.int 6, .int (a_X4_savedStates S)]) (w' := W_X6 (S, sv, pi)) [] 3 (by with_unfolding_all rfl) trivial ?_
  refine ev_br rfl rfl (fun h => ?_) (fun h => ?_)
  · exact t_save56a F S sv pi x (lf_t h hR)
  · replace hR := lf_f h hR
    obtain ⟨hpi0, hR⟩ := lf_g hR
    have hpi := pi_ok_all hpi0
    refine ev_run (cs := []) (pc' := 14) (L' := [some (.ref 0), none, none]) (st' := [.int 0, .ref 49]) (w' := W_X6 (S, sv, pi)) [] 3 (by with_unfolding_all rfl) trivial ?_
    refine ev_aald (b := 50 + 15 * pi 0) rfl (W6_row S sv pi) (by decide) rfl ?_
    refine ev_run (cs := []) (pc' := 18) (L' := [some (.ref 0), some (.ref (50 + 15 * pi 0)), some (.int 1)]) (st' := []) (w' := W_X6 (S, sv, pi_k (0 + 1) pi)) [] 3 (by with_unfolding_all rfl) trivial ?_
    refine t_save18 S sv pi hpi _ 0 1 (by decide) (by decide) (by decide) (by decide) (by decide) (by decide) ?_
    refine t_save18 S sv pi hpi _ 1 2 (by decide) (by decide) (by decide) (by decide) (by decide) (by decide) ?_
    refine t_save18 S sv pi hpi _ 2 3 (by decide) (by decide) (by decide) (by decide) (by decide) (by decide) ?_
    refine t_save18 S sv pi hpi _ 3 4 (by decide) (by decide) (by decide) (by decide) (by decide) (by decide) ?_
    refine t_save18 S sv pi hpi _ 4 5 (by decide) (by decide) (by decide) (by decide) (by decide) (by decide) ?_
    refine ev_run (cs := []) (pc' := 21) (L' := [some (.ref 0), some (.ref (50 + 15 * pi 0)), some (.int 6)]) (st' := [.int 6, .int 6]) (w' := W_X6 (S, sv, pi_k 6 pi)) [] 2 (by with_unfolding_all rfl) trivial ?_
    refine ev_br rfl rfl (fun _ => ?_) (fun h => absurd (by decide) h)
    refine ev_run (cs := []) (pc' := 50) (L' := [some (.ref 0), some (.ref (50 + 15 * pi 0)), some (.int 6)]) (st' := [.ref (50 + 15 * pi 0), .int 5, .ref 49]) (w' := W_X6 (S, sv, pi_k 6 pi)) [] 4 (by with_unfolding_all rfl) trivial ?_
    obtain ⟨vs, hvs⟩ := W6_one S sv (pi_k 6 pi) (hpi 0 (by decide))
    refine ev_aast rfl (W6_row S sv (pi_k 6 pi)) hvs (by decide) ?_
    rw [show (5 : Int32).toNatClampNeg = 5 from rfl, W6_up]
    refine ev_run (cs := []) (pc' := 56) (L' := [some (.ref 0), some (.ref (50 + 15 * pi 0)), some (.int 6)]) (st' := []) (w' := W_X6 (m_X4_savedStates 5 S, sv, pi_r pi)) [] 3 (by with_unfolding_all rfl) trivial ?_
    exact t_save56b F (m_X4_savedStates 5 S) sv (pi_r pi) x _ hR
