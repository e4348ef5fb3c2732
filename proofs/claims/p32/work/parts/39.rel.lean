/-! the class's world and the model's state: how they go together -/
def bv (s : Int32) (t : Nat) : Int32 := if mb s t then 1 else 0
/-- scalars -/
def WS (T n e h m : Nat) (u : S_X3) (v : Nat → Int32) : Prop :=
  a_X3_time u = nI T ∧ v 0 = nI T ∧ T ≤ 5600 ∧ a_X3_things u = nI n ∧ v 1 = nI n ∧ n ≤ 24 ∧ v 2 = nI (h + m) ∧ v 3 = nI m ∧ a_X3_ends u = nI e ∧ v 4 = nI e ∧
  e = cn (fun t => !mb (a_X3_living u) t) n ∧ v 5 = nI (cn (fun t => a_X3_endKinds u t == 2) n) ∧ v 6 = nI (cn (mb (a_X3_wronged u)) 24) ∧ v 7 = a_X3_slanderFound u
/-- settings -/
def WT (u : S_X3) (v : Nat → Int32) : Prop :=
  (∀ i, i < 5 → v (8 + i) = a_X3_settings u i) ∧ (∀ i, i < 3 → ∃ d, d ≤ 20 ∧ a_X3_settings u i = nI d) ∧ (a_X3_settings u 3 = 0 ∨ a_X3_settings u 3 = 1) ∧ ∃ d, d ≤ 50 ∧ a_X3_settings u 4 = nI d
/-- the parts of a thing -/
def WP (n h : Nat) (u : S_X3) (v : Nat → Int32) : Prop :=
  (∀ t, t < n → v (17 + 10 * t) = bv (a_X3_living u) t ∧ (v (17 + 10 * t + 1) = a_X3_ranks u t ∧ ∃ r, r ≤ 9 ∧ a_X3_ranks u t = nI r) ∧ v (17 + 10 * t + 2) = a_X3_counts u t ∧ v (17 + 10 * t + 3) = bv (a_X3_suspects u) t ∧ v (17 + 10 * t + 4) = a_X3_came u t ∧
    v (17 + 10 * t + 5) = a_X3_endNumbers u t ∧ v (17 + 10 * t + 6) = a_X3_endTimes u t ∧ v (17 + 10 * t + 7) = a_X3_endKinds u t ∧ v (17 + 10 * t + 8) = bv (a_X3_wronged u) t) ∧
  (∀ t, t < 24 → -(1300 + (h : Int)) ≤ (a_X3_counts u t).toInt ∧ (a_X3_counts u t).toInt ≤ 1300 + (h : Int)) ∧
  (∀ t, n ≤ t → t < 24 → a_X3_counts u t = 0 ∧ a_X3_endKinds u t = 0)
/-- the sets -/
def WM (n : Nat) (u : S_X3) : Prop :=
  (∀ t, mb (a_X3_living u) t = true → t < n) ∧ (∀ t, mb (a_X3_suspects u) t = true → mb (a_X3_living u) t = true) ∧ (∀ t, mb (a_X3_wronged u) t = true → t < n ∧ mb (a_X3_living u) t = false) ∧ (∀ t, mb (a_X3_living u) t = true → a_X3_endKinds u t = 0)
/-- what is held; G: those that end together -/
def WH (G : Nat → Bool) (n : Nat) (u : S_X3) (v : Nat → Int32) : Prop :=
  (∀ k, k < 4 → v (13 + k) = a_X3_hold u k) ∧
  (∀ o, o < n → ∀ k, k < 4 → v (257 + 4 * o + k) = a_X3_hold u (4 + 4 * o + k) ∨ (G o = true ∧ mb (a_X3_living u) o = true ∧ a_X3_hold u (4 + 4 * o + k) = -1 ∧ ∃ t, t < n ∧ v (257 + 4 * o + k) = nI t ∧ G t = true ∧ mb (a_X3_living u) t = false)) ∧
  (∀ k, k < 100 → a_X3_hold u k = -1 ∨ ∃ t, t < n ∧ a_X3_hold u k = nI t ∧ mb (a_X3_living u) t = true) ∧
  (∀ o, o < 24 → mb (a_X3_living u) o = false → ∀ k, k < 4 → a_X3_hold u (4 + 4 * o + k) = -1)
/-- the order of ends -/
def WE (e : Nat) (u : S_X3) (v : Nat → Int32) : Prop := ∀ j, j < e → v (353 + j) = a_X3_endOrder u j
/-- reports -/
def WR (n h m : Nat) (u : S_X3) (v : Nat → Int32) : Prop :=
  RR (a_X3_rep u) h m (RV v) ∧ (∀ j, j < m → rby (RV v j) = 1 ∨ rby (RV v j) = -1) ∧ (∀ j, j < m → 0 ≤ du (RV v j) ∧ du (RV v j) ≤ 6000) ∧ ∀ j, j < m → ∃ t, t < n ∧ rof (RV v j) = nI t
/-- all but what is held; B: what may be reported beside the ends -/
def WB (B T n e h m : Nat) (u : S_X3) (v : Nat → Int32) : Prop :=
  WS T n e h m u v ∧ WT u v ∧ WP n h u v ∧ WM n u ∧ WE e u v ∧ WR n h m u v ∧ h + m ≤ B + 4 * e ∧ B + 96 ≤ 1200
def WX (G : Nat → Bool) (B T n e h m : Nat) (u : S_X3) (v : Nat → Int32) : Prop := WB B T n e h m u v ∧ WH G n u v
theorem bv1 {s : Int32} {t : Nat} : bv s t = 1 ↔ mb s t = true := by
  unfold bv
  cases mb s t
  · simp
  · simp
theorem bv_t {s : Int32} {t : Nat} (h : mb s t = true) : bv s t = 1 := bv1.mpr h
theorem bv_f {s : Int32} {t : Nat} (h : mb s t = false) : bv s t = 0 := by unfold bv; rw [h]; rfl
theorem bv_c {s s' : Int32} {t : Nat} (h : mb s t = mb s' t) : bv s t = bv s' t := by unfold bv; rw [h]
theorem x3_lives (F : Nat) (u : S_X3) {t : Nat} (h : t < 24) : s_X3_lives F u (nI t) = some (mb (a_X3_living u) t) := by
  unfold s_X3_lives
  rw [if_neg (ni_nneg (by omega)), if_neg (il_nle h (by decide)), st_in_mb _ (by omega)]
  cases mb (a_X3_living u) t <;> rfl
theorem ni_fm3 : ∀ t, t < 24 → jd_fm (nI t) 3 = nI (t % 3) := by decide
theorem x3_dueTime (F : Nat) (u : S_X3) {t : Nat} (h : t < 24) : s_X3_dueTime F u (nI t) = some (a_X3_time u + a_X3_settings u (t % 3)) := by
  unfold s_X3_dueTime
  rw [if_pos (by decide), ni_fm3 t h, if_pos (ni_lx (show t % 3 < 5 by omega) (by decide)), ni_nat (by omega)]
/-! v changed where a component does not look -/
theorem WS_v {T n e h m : Nat} {u : S_X3} {v v' : Nat → Int32} (q : WS T n e h m u v) (lo : ∀ k, k < 8 → v' k = v k) : WS T n e h m u v' := by
  obtain ⟨s1, s2, s3, s4, s5, s6, s7, s8, s9, s10, s11, s12, s13, s14⟩ := q
  exact ⟨s1, (lo 0 (by omega)).trans s2, s3, s4, (lo 1 (by omega)).trans s5, s6, (lo 2 (by omega)).trans s7, (lo 3 (by omega)).trans s8, s9, (lo 4 (by omega)).trans s10, s11, (lo 5 (by omega)).trans s12, (lo 6 (by omega)).trans s13, (lo 7 (by omega)).trans s14⟩
theorem WT_v {u : S_X3} {v v' : Nat → Int32} (q : WT u v) (lo : ∀ k, 8 ≤ k → k < 13 → v' k = v k) : WT u v' :=
  ⟨fun i hi => (lo (8 + i) (by omega) (by omega)).trans (q.1 i hi), q.2⟩
theorem WP_v {n h : Nat} {u : S_X3} {v v' : Nat → Int32} (hn : n ≤ 24) (q : WP n h u v) (lo : ∀ k, 17 ≤ k → k < 257 → v' k = v k) : WP n h u v' := by
  refine ⟨fun t ht => ?_, q.2⟩
  have := q.1 t ht
  rw [lo _ (by omega) (by omega), lo _ (by omega) (by omega), lo _ (by omega) (by omega), lo _ (by omega) (by omega), lo _ (by omega) (by omega), lo _ (by omega) (by omega), lo _ (by omega) (by omega), lo _ (by omega) (by omega), lo _ (by omega) (by omega)]
  exact this
theorem WE_v {e : Nat} {u : S_X3} {v v' : Nat → Int32} (he : e ≤ 24) (q : WE e u v) (lo : ∀ k, 353 ≤ k → k < 377 → v' k = v k) : WE e u v' :=
  fun j hj => (lo (353 + j) (by omega) (by omega)).trans (q j hj)
theorem RV_v {m : Nat} {v v' : Nat → Int32} (lo : ∀ k, 377 ≤ k → k < 377 + 5 * m → v' k = v k) {j : Nat} (hj : j < m) : RV v' j = RV v j := by
  unfold RV rwA
  rw [lo _ (by omega) (by omega), lo _ (by omega) (by omega), lo _ (by omega) (by omega), lo _ (by omega) (by omega), lo _ (by omega) (by omega)]
theorem WR_v {n h m : Nat} {u : S_X3} {v v' : Nat → Int32} (q : WR n h m u v) (lo : ∀ k, 377 ≤ k → k < 377 + 5 * m → v' k = v k) : WR n h m u v' := by
  refine ⟨RR_congr q.1 fun j hj => (RV_v lo hj).symm, fun j hj => ?_, fun j hj => ?_, fun j hj => ?_⟩
  · rw [RV_v lo hj]; exact q.2.1 j hj
  · rw [RV_v lo hj]; exact q.2.2.1 j hj
  · rw [RV_v lo hj]; exact q.2.2.2 j hj
theorem WH_v {G : Nat → Bool} {n : Nat} {u : S_X3} {v v' : Nat → Int32} (hn : n ≤ 24) (q : WH G n u v) (lo : ∀ k, (13 ≤ k ∧ k < 17) ∨ (257 ≤ k ∧ k < 353) → v' k = v k) : WH G n u v' := by
  refine ⟨fun k hk => (lo _ (by omega)).trans (q.1 k hk), fun o ho k hk => ?_, q.2.2⟩
  rw [lo (257 + 4 * o + k) (by omega)]
  exact q.2.1 o ho k hk
theorem WB_e {B T n e h m : Nat} {u : S_X3} {v : Nat → Int32} (q : WB B T n e h m u v) : e ≤ n ∧ n ≤ 24 ∧ h + m ≤ 1200 := by
  have h1 := q.1.2.2.2.2.2.2.2.2.2.2.1
  have h2 := cn_le (fun t => !mb (a_X3_living u) t) n
  have h3 := q.1.2.2.2.2.2.1
  have h4 := q.2.2.2.2.2.2.1
  have h5 := q.2.2.2.2.2.2.2
  omega
/-- what is held may change -/
theorem WB_hold {B T n e h m : Nat} {u : S_X3} {v v' : Nat → Int32} (q : WB B T n e h m u v) (f : S_X0) (lo : ∀ k, ¬ ((13 ≤ k ∧ k < 17) ∨ (257 ≤ k ∧ k < 353)) → v' k = v k) : WB B T n e h m (m_X3_hold f u) v' := by
  obtain ⟨he, hn, -⟩ := WB_e q
  obtain ⟨hS, hT, hP, hM, hE, hR, hb⟩ := q
  exact ⟨(WS_v hS fun k hk => lo k (by omega) : WS T n e h m u v'), (WT_v hT fun k h1 h2 => lo k (by omega) : WT u v'), (WP_v hn hP fun k h1 h2 => lo k (by omega) : WP n h u v'), hM, (WE_v (by omega) hE fun k h1 h2 => lo k (by omega) : WE e u v'), (WR_v hR fun k h1 h2 => lo k (by omega) : WR n h m u v'), hb⟩
/-- a report more, on both sides -/
theorem WB_report {F : Nat} (hF : 1300 < F) {B T n e h m : Nat} {u : S_X3} {w : S_X5} (q : WB B T n e h m u (a_X5_state w)) (hb : h + m + 1 ≤ B + 4 * e) {t : Nat} (ht : t < n) {y fl : Int32} (hy : y = 1 ∨ y = -1) :
    ∃ r' v', s_X1_make F (a_X3_rep u) (nI t) y (a_X3_time u + a_X3_settings u (t % 3)) fl = some (nI (h + m), r') ∧ s_X5_addReport F w (nI t) y fl = some (nI (h + m), m_X5_state v' w) ∧ WB B T n e h (m + 1) (m_X3_rep r' u) v' ∧ (∀ k, k < 377 → k ≠ 2 → k ≠ 3 → v' k = a_X5_state w k) := by
  obtain ⟨he, hn, -⟩ := WB_e q
  obtain ⟨⟨s1, s2, s3, s4, s5, s6, s7, s8, s9, s10, s11, s12, s13, s14⟩, hT, hP, hM, hE, ⟨r1, r2, r3, r4⟩, hb1, hb2⟩ := q
  have ht24 : t < 24 := by omega
  obtain ⟨r', hr1, hr2⟩ := x1_make hF r1 (by omega) ht24 y (a_X3_time u + a_X3_settings u (t % 3)) fl
  have hv := x5_addReport (F := F) w (m := m) (by omega) ht24 s8 y fl
  have hdue : a_X5_state w 0 + a_X5_state w (8 + t % 3) = a_X3_time u + a_X3_settings u (t % 3) := by rw [s2, s1, hT.1 (t % 3) (by omega)]
  rw [s7, hdue] at hv
  have low : ∀ k, k < 377 → k ≠ 2 → k ≠ 3 → adV (a_X5_state w) m (nI (h + m), nI t, y, a_X3_time u + a_X3_settings u (t % 3), fl) k = a_X5_state w k := fun k hk h2 h3 => adV_low _ _ _ (by omega) h2 h3
  have hd : ∃ d, d ≤ 20 ∧ a_X3_settings u (t % 3) = nI d := hT.2.1 (t % 3) (by omega)
  obtain ⟨d, hd1, hd2⟩ := hd
  refine ⟨r', _, hr1, hv, ⟨⟨s1, ?_, s3, s4, ?_, s6, ?_, ?_, s9, ?_, s11, ?_, ?_, ?_⟩, (WT_v hT fun k h1 h2 => low k (by omega) (by omega) (by omega) : WT u _), (WP_v hn hP fun k h1 h2 => low k (by omega) (by omega) (by omega) : WP n h u _), hM, (WE_v (by omega) hE fun k h1 h2 => low k (by omega) (by omega) (by omega) : WE e u _), ⟨hr2 _ (fun i hi => adV_rows _ _ _ hi) (adV_row _ _ _), fun j hj => ?_, fun j hj => ?_, fun j hj => ?_⟩, by omega, hb2⟩, low⟩
  · rw [low 0 (by omega) (by omega) (by omega)]; exact s2
  · rw [low 1 (by omega) (by omega) (by omega)]; exact s5
  · show adV _ _ _ 2 = _
    unfold adV; rw [if_pos rfl, s7, ni_1]; rfl
  · show adV _ _ _ 3 = _
    unfold adV; rw [if_neg (by omega), if_pos rfl, s8, ni_1]
  · rw [low 4 (by omega) (by omega) (by omega)]; exact s10
  · rw [low 5 (by omega) (by omega) (by omega)]; exact s12
  · rw [low 6 (by omega) (by omega) (by omega)]; exact s13
  · rw [low 7 (by omega) (by omega) (by omega)]; exact s14
  · by_cases hj2 : j = m
    · subst hj2; rw [adV_row]; exact hy
    · rw [adV_rows _ _ _ (by omega)]; exact r2 j (by omega)
  · by_cases hj2 : j = m
    · subst hj2
      rw [adV_row]
      show 0 ≤ (a_X3_time u + a_X3_settings u (t % 3)).toInt ∧ (a_X3_time u + a_X3_settings u (t % 3)).toInt ≤ 6000
      rw [s1, hd2, ni_add, ni_int (by omega)]
      omega
    · rw [adV_rows _ _ _ (by omega)]; exact r3 j (by omega)
  · by_cases hj2 : j = m
    · subst hj2
      rw [adV_row]
      exact ⟨t, ht, rfl⟩
    · rw [adV_rows _ _ _ (by omega)]; exact r4 j (by omega)
/-- the first report is heard, on both sides -/
theorem WB_drop {F : Nat} (hF : 6100 < F) {B T n e h m : Nat} {u : S_X3} {w : S_X5} (q : WB B T n e h (m + 1) u (a_X5_state w)) {i : Nat} (hi : fmR (RV (a_X5_state w)) (m + 1) i) :
    ∃ r', s_X1_dropFirst F (a_X3_rep u) = some r' ∧ s_X5_dropReport F w (nI i) = some (m_X5_state (drV (a_X5_state w) i m) w) ∧ WB B T n e (h + 1) m (m_X3_rep r' u) (drV (a_X5_state w) i m) := by
  obtain ⟨he, hn, hhm⟩ := WB_e q
  obtain ⟨⟨s1, s2, s3, s4, s5, s6, s7, s8, s9, s10, s11, s12, s13, s14⟩, hT, hP, hM, hE, ⟨r1, r2, r3, r4⟩, hb1, hb2⟩ := q
  obtain ⟨r', hr1, hr2⟩ := x1_dropFirst (F := F) r1 hi
  have hv := x5_dropReport hF w (show m < 1200 by omega) (show i ≤ m by have := hi.1; omega) s8
  have low : ∀ k, k < 377 → k ≠ 3 → drV (a_X5_state w) i m k = a_X5_state w k := fun k hk h3 => drV_low _ hk h3
  have row : ∀ j, j < m → RV (drV (a_X5_state w) i m) j = delR (RV (a_X5_state w)) i j := fun j hj => drV_row _ hj
  have hdel : ∀ j, j < m → ∃ j', j' < m + 1 ∧ delR (RV (a_X5_state w)) i j = RV (a_X5_state w) j' := by
    intro j hj
    unfold delR
    by_cases h1 : j < i
    · exact ⟨j, by omega, by rw [if_pos h1]⟩
    · exact ⟨j + 1, by omega, by rw [if_neg h1]⟩
  refine ⟨r', hr1, hv, ⟨s1, ?_, s3, s4, ?_, s6, ?_, ?_, s9, ?_, s11, ?_, ?_, ?_⟩, (WT_v hT fun k h1 h2 => low k (by omega) (by omega) : WT u _), ?_, hM, (WE_v (by omega) hE fun k h1 h2 => low k (by omega) (by omega) : WE e u _), ⟨RR_congr hr2 fun j hj => (row j hj).symm, fun j hj => ?_, fun j hj => ?_, fun j hj => ?_⟩, by omega, hb2⟩
  · rw [low 0 (by omega) (by omega)]; exact s2
  · rw [low 1 (by omega) (by omega)]; exact s5
  · rw [low 2 (by omega) (by omega), s7, show h + (m + 1) = h + 1 + m by omega]
  · unfold drV; rw [if_pos rfl]
  · rw [low 4 (by omega) (by omega)]; exact s10
  · rw [low 5 (by omega) (by omega)]; exact s12
  · rw [low 6 (by omega) (by omega)]; exact s13
  · rw [low 7 (by omega) (by omega)]; exact s14
  · obtain ⟨p1, p2, p3⟩ := (WP_v hn hP fun k h1 h2 => low k (by omega) (by omega) : WP n h u (drV (a_X5_state w) i m))
    refine ⟨p1, fun t ht => ?_, p3⟩
    have := p2 t ht
    show -(1300 + ((h + 1 : Nat) : Int)) ≤ (a_X3_counts u t).toInt ∧ (a_X3_counts u t).toInt ≤ 1300 + ((h + 1 : Nat) : Int)
    omega
  · obtain ⟨j', h1, h2⟩ := hdel j hj
    rw [row j hj, h2]; exact r2 j' h1
  · obtain ⟨j', h1, h2⟩ := hdel j hj
    rw [row j hj, h2]; exact r3 j' h1
  · obtain ⟨j', h1, h2⟩ := hdel j hj
    rw [row j hj, h2]; exact r4 j' h1
/-! one thing's parts change -/
theorem WB_counts {B T n e h m : Nat} {u : S_X3} {v : Nat → Int32} (q : WB B T n e h m u v) {t : Nat} (ht : t < n) {c : Int32} (hc : -(1300 + (h : Int)) ≤ c.toInt ∧ c.toInt ≤ 1300 + (h : Int)) : WB B T n e h m (m_X3_counts (upd (a_X3_counts u) t c) u) (upd v (17 + 10 * t + 2) c) := by
  obtain ⟨he, hn, -⟩ := WB_e q
  obtain ⟨hS, hT, hP, hM, hE, hR, hb⟩ := q
  have lo : ∀ k, k ≠ 17 + 10 * t + 2 → upd v (17 + 10 * t + 2) c k = v k := fun k hk => upd_ne _ _ hk
  refine ⟨(WS_v hS fun k hk => lo k (by omega) : WS T n e h m u _), (WT_v hT fun k h1 h2 => lo k (by omega) : WT u _), ⟨fun s hs => ?_, fun s hs => ?_, fun s h1 h2 => ?_⟩, hM, (WE_v (by omega) hE fun k h1 h2 => lo k (by omega) : WE e u _), (WR_v hR fun k h1 h2 => lo k (by omega) : WR n h m u _), hb⟩
  · obtain ⟨p0, p1, p2, p3, p4, p5, p6, p7, p8⟩ := hP.1 s hs
    rw [lo _ (by omega), lo _ (by omega), lo (17 + 10 * s + 3) (by omega), lo (17 + 10 * s + 4) (by omega), lo (17 + 10 * s + 5) (by omega), lo (17 + 10 * s + 6) (by omega), lo (17 + 10 * s + 7) (by omega), lo (17 + 10 * s + 8) (by omega)]
    refine ⟨p0, p1, ?_, p3, p4, p5, p6, p7, p8⟩
    show _ = upd (a_X3_counts u) t c s
    by_cases hst : s = t
    · subst hst; rw [upd_at, upd_at]
    · rw [upd_ne _ _ hst, lo _ (by omega)]; exact p2
  · show -(1300 + (h : Int)) ≤ (upd (a_X3_counts u) t c s).toInt ∧ (upd (a_X3_counts u) t c s).toInt ≤ 1300 + (h : Int)
    by_cases hst : s = t
    · subst hst; rw [upd_at]; exact hc
    · rw [upd_ne _ _ hst]; exact hP.2.1 s hs
  · show upd (a_X3_counts u) t c s = 0 ∧ a_X3_endKinds u s = 0
    rw [upd_ne _ _ (by omega)]
    exact hP.2.2 s h1 h2
theorem WB_susp {B T n e h m : Nat} {u : S_X3} {v : Nat → Int32} (q : WB B T n e h m u v) {t : Nat} (ht : t < n) {b : Bool} (hbl : b = true → mb (a_X3_living u) t = true) {s' : Int32} (hs' : ∀ j, mb s' j = if j = t then b else mb (a_X3_suspects u) j) : WB B T n e h m (m_X3_suspects s' u) (upd v (17 + 10 * t + 3) (if b then 1 else 0)) := by
  obtain ⟨he, hn, -⟩ := WB_e q
  obtain ⟨hS, hT, hP, hM, hE, hR, hb⟩ := q
  have lo : ∀ k, k ≠ 17 + 10 * t + 3 → upd v (17 + 10 * t + 3) (if b then 1 else 0) k = v k := fun k hk => upd_ne _ _ hk
  refine ⟨(WS_v hS fun k hk => lo k (by omega) : WS T n e h m u _), (WT_v hT fun k h1 h2 => lo k (by omega) : WT u _), ⟨fun s hs => ?_, hP.2⟩, ⟨hM.1, fun s hs => ?_, hM.2.2⟩, (WE_v (by omega) hE fun k h1 h2 => lo k (by omega) : WE e u _), (WR_v hR fun k h1 h2 => lo k (by omega) : WR n h m u _), hb⟩
  · obtain ⟨p0, p1, p2, p3, p4, p5, p6, p7, p8⟩ := hP.1 s hs
    rw [lo _ (by omega), lo _ (by omega), lo (17 + 10 * s + 2) (by omega), lo (17 + 10 * s + 4) (by omega), lo (17 + 10 * s + 5) (by omega), lo (17 + 10 * s + 6) (by omega), lo (17 + 10 * s + 7) (by omega), lo (17 + 10 * s + 8) (by omega)]
    refine ⟨p0, p1, p2, ?_, p4, p5, p6, p7, p8⟩
    show _ = bv s' s
    unfold bv
    rw [hs' s]
    by_cases hst : s = t
    · subst hst; rw [upd_at, if_pos rfl]
    · rw [if_neg hst, lo _ (by omega), p3]; rfl
  · have hs2 : mb s' s = true := hs
    rw [hs' s] at hs2
    show mb (a_X3_living u) s = true
    by_cases hst : s = t
    · subst hst; rw [if_pos rfl] at hs2; exact hbl hs2
    · rw [if_neg hst] at hs2; exact hM.2.1 s hs2
theorem WB_found {B T n e h m : Nat} {u : S_X3} {v : Nat → Int32} (q : WB B T n e h m u v) : WB B T n e h m (m_X3_slanderFound (a_X3_slanderFound u + 1) u) (upd v 7 (v 7 + 1)) := by
  obtain ⟨he, hn, -⟩ := WB_e q
  obtain ⟨⟨s1, s2, s3, s4, s5, s6, s7, s8, s9, s10, s11, s12, s13, s14⟩, hT, hP, hM, hE, hR, hb⟩ := q
  have lo : ∀ k, k ≠ 7 → upd v 7 (v 7 + 1) k = v k := fun k hk => upd_ne _ _ hk
  refine ⟨⟨s1, (lo 0 (by omega)).trans s2, s3, s4, (lo 1 (by omega)).trans s5, s6, (lo 2 (by omega)).trans s7, (lo 3 (by omega)).trans s8, s9, (lo 4 (by omega)).trans s10, s11, (lo 5 (by omega)).trans s12, (lo 6 (by omega)).trans s13, ?_⟩, (WT_v hT fun k h1 h2 => lo k (by omega) : WT u _), (WP_v hn hP fun k h1 h2 => lo k (by omega) : WP n h u _), hM, (WE_v (by omega) hE fun k h1 h2 => lo k (by omega) : WE e u _), (WR_v hR fun k h1 h2 => lo k (by omega) : WR n h m u _), hb⟩
  rw [upd_at, s14]
