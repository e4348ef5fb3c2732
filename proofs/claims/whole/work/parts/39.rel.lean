/-! the class's world and the model's state: how they go together -/
def bv (s : Int32) (t : Nat) : Int32 := if mb s t then 1 else 0
/-- scalars -/
def WS (T n e h m : Nat) (u : S_X3) (v : Nat → Int32) : Prop :=
  a_X3_time u = nI T ∧ v 0 = nI T ∧ T ≤ 5600 ∧ a_X3_things u = nI n ∧ v 1 = nI n ∧ n ≤ 24 ∧ v 2 = nI (h + m) ∧ v 3 = nI m ∧ a_X3_ends u = nI e ∧ v 4 = nI e ∧
  e = cn (fun t => !mb (a_X3_living u) t) n ∧ v 5 = nI (cn (fun t => a_X3_endKinds u t == 2) n) ∧ v 6 = nI (cn (mb (a_X3_wronged u)) 24) ∧ v 7 = a_X3_slanderFound u
/-- settings -/
def WT (u : S_X3) (v : Nat → Int32) : Prop :=
  (∀ i, i < 5 → v (8 + i) = a_X3_settings u i) ∧ (∀ i, i < 3 → ∃ d, d ≤ 20 ∧ a_X3_settings u i = nI d) ∧ (a_X3_settings u 3 = 0 ∨ a_X3_settings u 3 = 1) ∧ ∃ d, d ≤ 50 ∧ a_X3_settings u 4 = nI d
/-- the parts of a thing -/
def WP (n h : Nat) (u : S_X3) (v : Nat → Int32) : Prop :=
  (∀ t, t < n → v (17 + 10 * t) = bv (a_X3_living u) t ∧ (v (17 + 10 * t + 1) = a_X3_ranks u t ∧ ∃ r, r ≤ 9 ∧ a_X3_ranks u t = nI r) ∧ v (17 + 10 * t + 2) = a_X3_counts u t ∧ v (17 + 10 * t + 3) = bv (a_X3_suspects u) t ∧ v (17 + 10 * t + 4) = a_X3_came u t ∧
    v (17 + 10 * t + 5) = a_X3_endNumbers u t ∧ v (17 + 10 * t + 6) = a_X3_endTimes u t ∧ v (17 + 10 * t + 7) = a_X3_endKinds u t ∧ v (17 + 10 * t + 8) = bv (a_X3_wronged u) t) ∧
  (∀ t, t < 24 → -(1300 + (h : Int)) ≤ (a_X3_counts u t).toInt ∧ (a_X3_counts u t).toInt ≤ 1300 + (h : Int)) ∧
  (∀ t, n ≤ t → t < 24 → a_X3_counts u t = 0 ∧ a_X3_endKinds u t = 0)
/-- the sets -/
def WM (n : Nat) (u : S_X3) : Prop :=
  (∀ t, mb (a_X3_living u) t = true → t < n) ∧ (∀ t, mb (a_X3_suspects u) t = true → mb (a_X3_living u) t = true) ∧ (∀ t, mb (a_X3_wronged u) t = true → t < n ∧ mb (a_X3_living u) t = false) ∧ (∀ t, mb (a_X3_living u) t = true → a_X3_endKinds u t = 0)
/-- what is held; G: those that end together -/
def WH (G : Nat → Bool) (n : Nat) (u : S_X3) (v : Nat → Int32) : Prop :=
  (∀ k, k < 4 → v (13 + k) = a_X3_hold u k) ∧
  (∀ o, o < n → ∀ k, k < 4 → v (257 + 4 * o + k) = a_X3_hold u (4 + 4 * o + k) ∨ (G o = true ∧ mb (a_X3_living u) o = true ∧ a_X3_hold u (4 + 4 * o + k) = -1 ∧ ∃ t, t < n ∧ v (257 + 4 * o + k) = nI t ∧ G t = true ∧ mb (a_X3_living u) t = false)) ∧
  (∀ k, k < 100 → a_X3_hold u k = -1 ∨ ∃ t, t < n ∧ a_X3_hold u k = nI t ∧ mb (a_X3_living u) t = true) ∧
  (∀ o, o < 24 → mb (a_X3_living u) o = false → ∀ k, k < 4 → a_X3_hold u (4 + 4 * o + k) = -1)
/-- the order of ends -/
def WE (e : Nat) (u : S_X3) (v : Nat → Int32) : Prop := ∀ j, j < e → v (353 + j) = a_X3_endOrder u j
/-- reports -/
def WR (h m : Nat) (u : S_X3) (v : Nat → Int32) : Prop :=
  RR (a_X3_rep u) h m (RV v) ∧ (∀ j, j < m → rby (RV v j) = 1 ∨ rby (RV v j) = -1) ∧ ∀ j, j < m → 0 ≤ du (RV v j) ∧ du (RV v j) ≤ 6000
/-- all; B: what may be reported beside the ends -/
def WX (G : Nat → Bool) (B T n e h m : Nat) (u : S_X3) (v : Nat → Int32) : Prop :=
  WS T n e h m u v ∧ WT u v ∧ WP n h u v ∧ WM n u ∧ WH G n u v ∧ WE e u v ∧ WR h m u v ∧ h + m ≤ B + 4 * e ∧ B + 96 ≤ 1200
theorem bv1 {s : Int32} {t : Nat} : bv s t = 1 ↔ mb s t = true := by
  unfold bv
  cases mb s t
  · simp
  · simp
theorem x3_lives (F : Nat) (u : S_X3) {t : Nat} (h : t < 24) : s_X3_lives F u (nI t) = some (mb (a_X3_living u) t) := by
  unfold s_X3_lives
  rw [if_neg (ni_nneg (by omega)), if_neg (il_nle h (by decide)), st_in_mb _ (by omega)]
  cases mb (a_X3_living u) t <;> rfl
theorem ni_fm3 : ∀ t, t < 24 → jd_fm (nI t) 3 = nI (t % 3) := by decide
theorem x3_dueTime (F : Nat) (u : S_X3) {t : Nat} (h : t < 24) : s_X3_dueTime F u (nI t) = some (a_X3_time u + a_X3_settings u (t % 3)) := by
  unfold s_X3_dueTime
  rw [if_pos (by decide), ni_fm3 t h, if_pos (ni_lx (show t % 3 < 5 by omega) (by decide)), ni_nat (by omega)]
/-- a report more, on both sides -/
theorem WX_report {F : Nat} (hF : 1300 < F) {G : Nat → Bool} {B T n e h m : Nat} {u : S_X3} {w : S_X5} (q : WX G B T n e h m u (a_X5_state w)) (hb : h + m + 1 ≤ B + 4 * e) {t : Nat} (ht : t < n) {y fl : Int32} (hy : y = 1 ∨ y = -1) :
    ∃ r' v', s_X1_make F (a_X3_rep u) (nI t) y (a_X3_time u + a_X3_settings u (t % 3)) fl = some (nI (h + m), r') ∧ s_X5_addReport F w (nI t) y fl = some (nI (h + m), m_X5_state v' w) ∧ WX G B T n e h (m + 1) (m_X3_rep r' u) v' ∧ (∀ k, k < 377 → k ≠ 2 → k ≠ 3 → v' k = a_X5_state w k) := by
  obtain ⟨⟨s1, s2, s3, s4, s5, s6, s7, s8, s9, s10, s11, s12, s13, s14⟩, hT, hP, hM, hH, hE, ⟨r1, r2, r3⟩, hb1, hb2⟩ := q
  have he : e ≤ 24 := by
    have := cn_le (fun t => !mb (a_X3_living u) t) n
    omega
  have ht24 : t < 24 := by omega
  obtain ⟨r', hr1, hr2⟩ := x1_make hF r1 (by omega) ht24 y (a_X3_time u + a_X3_settings u (t % 3)) fl
  have hv := x5_addReport (F := F) w (m := m) (by omega) ht24 s8 y fl
  have hdue : a_X5_state w 0 + a_X5_state w (8 + t % 3) = a_X3_time u + a_X3_settings u (t % 3) := by rw [s2, s1, hT.1 (t % 3) (by omega)]
  rw [s7, hdue] at hv
  have low : ∀ k, k < 377 → k ≠ 2 → k ≠ 3 → adV (a_X5_state w) m (nI (h + m), nI t, y, a_X3_time u + a_X3_settings u (t % 3), fl) k = a_X5_state w k := fun k hk h2 h3 => adV_low _ _ _ (by omega) h2 h3
  have hd : ∃ d, d ≤ 20 ∧ a_X3_settings u (t % 3) = nI d := hT.2.1 (t % 3) (by omega)
  obtain ⟨d, hd1, hd2⟩ := hd
  refine ⟨r', _, hr1, hv, ⟨⟨s1, ?_, s3, s4, ?_, s6, ?_, ?_, s9, ?_, s11, ?_, ?_, ?_⟩, ⟨fun i hi => ?_, hT.2⟩, ⟨fun t ht => ?_, hP.2⟩, hM, ⟨fun k hk => ?_, fun o ho k hk => ?_, hH.2.2⟩, fun j hj => ?_, ⟨hr2 _ (fun i hi => adV_rows _ _ _ hi) (adV_row _ _ _), fun j hj => ?_, fun j hj => ?_⟩, by omega, hb2⟩, low⟩
  · rw [low 0 (by omega) (by omega) (by omega)]; exact s2
  · rw [low 1 (by omega) (by omega) (by omega)]; exact s5
  · show adV _ _ _ 2 = _
    unfold adV; rw [if_pos rfl, s7, ni_1]; rfl
  · show adV _ _ _ 3 = _
    unfold adV; rw [if_neg (by omega), if_pos rfl, s8, ni_1]
  · rw [low 4 (by omega) (by omega) (by omega)]; exact s10
  · rw [low 5 (by omega) (by omega) (by omega)]; exact s12
  · rw [low 6 (by omega) (by omega) (by omega)]; exact s13
  · rw [low 7 (by omega) (by omega) (by omega)]; exact s14
  · rw [low (8 + i) (by omega) (by omega) (by omega)]; exact hT.1 i hi
  · rw [low _ (by omega) (by omega) (by omega), low _ (by omega) (by omega) (by omega), low _ (by omega) (by omega) (by omega), low _ (by omega) (by omega) (by omega), low _ (by omega) (by omega) (by omega), low _ (by omega) (by omega) (by omega), low _ (by omega) (by omega) (by omega), low _ (by omega) (by omega) (by omega), low _ (by omega) (by omega) (by omega)]
    exact hP.1 t ht
  · rw [low _ (by omega) (by omega) (by omega)]; exact hH.1 k hk
  · rw [low _ (by omega) (by omega) (by omega)]; exact hH.2.1 o ho k hk
  · rw [low _ (by omega) (by omega) (by omega)]; exact hE j hj
  · by_cases hj2 : j = m
    · subst hj2; rw [adV_row]; exact hy
    · rw [adV_rows _ _ _ (by omega)]; exact r2 j (by omega)
  · by_cases hj2 : j = m
    · subst hj2
      rw [adV_row]
      show 0 ≤ (a_X3_time u + a_X3_settings u (t % 3)).toInt ∧ (a_X3_time u + a_X3_settings u (t % 3)).toInt ≤ 6000
      rw [s1, hd2, ni_add, ni_int (by omega)]
      omega
    · rw [adV_rows _ _ _ (by omega)]; exact r3 j (by omega)
