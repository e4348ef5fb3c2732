/-! the class's reports -/
theorem ni_sub {a b : Nat} (h : b ≤ a) : nI a - nI b = nI (a - b) := by
  have : nI a = nI (a - b) + nI b := by rw [ni_add]; congr 1; omega
  rw [this, Int32.add_sub_cancel]
def rpt (r : rw5) (p : Nat) : Int32 := match p with
  | 0 => r.1
  | 1 => r.2.1
  | 2 => r.2.2.1
  | 3 => r.2.2.2.1
  | _ => r.2.2.2.2
theorem rpt_at (a : Nat → Int32) (b : Nat) {p : Nat} (h : p < 5) : rpt (rwA a b) p = a (b + p) := by
  match p, h with
  | 0, _ => rfl
  | 1, _ => rfl
  | 2, _ => rfl
  | 3, _ => rfl
  | 4, _ => rfl
def RR (r : S_X1) (h m : Nat) (R : Nat → rw5) : Prop :=
  a_X1_heard r = nI h ∧ a_X1_made r = nI (h + m) ∧ h + m ≤ 1200 ∧ (∀ j, j < m → (srt R m)[j]? = some (rwA (a_X1_rows r) (5 * (h + j)))) ∧
  (∀ t, t < 24 → a_X1_numbers r t = nI (cn (fun j => rof (R j) == nI t) m)) ∧
  (∀ t, t < 24 → a_X1_sums r t = sm (fun j => if rof (R j) == nI t then rby (R j) else 0) m) ∧
  (∀ j, j < m → ∃ t, t < 24 ∧ rof (R j) = nI t)
theorem RR_congr {r : S_X1} {h m : Nat} {R R' : Nat → rw5} (q : RR r h m R) (e : ∀ j, j < m → R j = R' j) : RR r h m R' := by
  obtain ⟨q1, q2, q3, q4, q5, q6, q7⟩ := q
  refine ⟨q1, q2, q3, fun j hj => ?_, fun t ht => ?_, fun t ht => ?_, fun j hj => ?_⟩
  · rw [← srt_congr m e]; exact q4 j hj
  · rw [q5 t ht, cn_congr m fun j hj => by rw [e j hj]]
  · rw [q6 t ht, sm_congr m fun j hj => by rw [e j hj]]
  · rw [← e j hj]; exact q7 j hj
theorem x1_part {F : Nat} {r : S_X1} {h m : Nat} {R : Nat → rw5} (q : RR r h m R) {j p : Nat} (hj : j < m) (hp : p < 5) : s_X1_part F r (nI j) (nI p) = some (a_X1_rows r (5 * (h + j) + p)) := by
  obtain ⟨q1, q2, q3, -⟩ := q
  have e : (5 * (a_X1_heard r + nI j)) + nI p = nI (5 * (h + j) + p) := by
    rw [q1, show (5 : Int32) = nI 5 from rfl, ni_add, ni_mul, ni_add]
  unfold s_X1_part
  rw [e, if_neg (ni_nneg (by omega)), if_neg (il_nle (show 5 * (h + j) + p < 6000 by omega) (by decide)), if_pos (ni_lx (show 5 * (h + j) + p < 6000 by omega) (by decide)), ni_nat (by omega)]
theorem x1_rpt {F : Nat} {r : S_X1} {h m : Nat} {R : Nat → rw5} (q : RR r h m R) {j p : Nat} {x : rw5} (hx : (srt R m)[j]? = some x) (hj : j < m) (hp : p < 5) : s_X1_part F r (nI j) (nI p) = some (rpt x p) := by
  rw [x1_part q hj hp]
  have := q.2.2.2.1 j hj
  rw [hx] at this
  rw [Option.some.inj this, rpt_at _ _ hp]
theorem x1_anyDue0 {F : Nat} {r : S_X1} {h : Nat} {R : Nat → rw5} (q : RR r h 0 R) (T : Int32) : s_X1_anyDue F r T = some false := by
  unfold s_X1_anyDue
  rw [q.1, q.2.1, if_pos (by rw [Nat.add_zero]; exact Int32.le_refl _)]
theorem x1_anyDue {F : Nat} {r : S_X1} {h m : Nat} {R : Nat → rw5} (q : RR r h (m + 1) R) {i : Nat} (hi : fmR R (m + 1) i) (T : Int32) : s_X1_anyDue F r T = some (decide (du (R i) ≤ T.toInt)) := by
  have hx : (srt R (m + 1))[0]? = some (R i) := by rw [srt_fm m i hi]; rfl
  have hp := x1_rpt (F := F) q (p := 3) hx (by omega) (by omega)
  unfold s_X1_anyDue
  rw [q.1, q.2.1, if_neg (ni_nle (by omega) (by have := q.2.2.1; omega)), show (0 : Int32) = nI 0 from rfl, show (3 : Int32) = nI 3 from rfl, hp, Option.bind_some]
  by_cases hlt : T < rpt (R i) 3
  · rw [if_pos hlt]
    have h2 : T.toInt < du (R i) := Int32.lt_iff_toInt_lt.mp hlt
    rw [decide_eq_false (by omega)]
  · rw [if_neg hlt]
    have h2 : ¬ T.toInt < du (R i) := fun q => hlt (Int32.lt_iff_toInt_lt.mpr q)
    rw [decide_eq_true (by omega)]
theorem x1_numberFor {F : Nat} {r : S_X1} {h m : Nat} {R : Nat → rw5} (q : RR r h m R) {t : Nat} (ht : t < 24) : s_X1_numberFor F r (nI t) = some (nI (cn (fun j => rof (R j) == nI t) m)) := by
  unfold s_X1_numberFor
  rw [if_neg (ni_nneg (by omega)), if_neg (il_nle ht (by decide)), if_pos (ni_lx ht (by decide)), ni_nat (by omega), q.2.2.2.2.1 t ht]
theorem x1_sumFor {F : Nat} {r : S_X1} {h m : Nat} {R : Nat → rw5} (q : RR r h m R) {t : Nat} (ht : t < 24) : s_X1_sumFor F r (nI t) = some (sm (fun j => if rof (R j) == nI t then rby (R j) else 0) m) := by
  unfold s_X1_sumFor
  rw [if_neg (ni_nneg (by omega)), if_neg (il_nle ht (by decide)), if_pos (ni_lx ht (by decide)), ni_nat (by omega), q.2.2.2.2.2.1 t ht]
theorem x1_anyFor {F : Nat} (hF : 100 < F) {r : S_X1} {h m : Nat} {R : Nat → rw5} (q : RR r h m R) (s : Int32) : ∃ b, s_X1_anyFor F r s = some b ∧ (b = true ↔ ∃ j t, j < m ∧ t < 24 ∧ rof (R j) = nI t ∧ mb s t = true) := by
  have hm : m ≤ 1200 := by have := q.2.2.1; omega
  have key : ∀ d k n, k + d = 24 → d < n → (∀ t, t < k → mb s t = true → cn (fun j => rof (R j) == nI t) m = 0) → ∃ b, s_X1_anyFor_l2 F r s n (nI k) = some b ∧ (b = true ↔ ∃ t, t < 24 ∧ mb s t = true ∧ 0 < cn (fun j => rof (R j) == nI t) m) := by
    intro d
    induction d with
    | zero =>
      intro k n hk hn h0
      obtain ⟨n, rfl⟩ : ∃ j, n = j + 1 := ⟨n - 1, by omega⟩
      obtain rfl : k = 24 := by omega
      refine ⟨false, by rw [e_X1_anyFor_l2, if_pos (by decide)], ⟨fun h => absurd h (by decide), ?_⟩⟩
      rintro ⟨t, ht, hb, hc⟩
      rw [h0 t ht hb] at hc; omega
    | succ d ih =>
      intro k n hk hn h0
      obtain ⟨n, rfl⟩ : ∃ j, n = j + 1 := ⟨n - 1, by omega⟩
      rw [e_X1_anyFor_l2, if_neg (il_nle (show k < 24 by omega) (by decide)), st_in_mb s (by omega), ni_1]
      cases hb : mb s k with
      | false =>
        rw [if_neg (by decide)]
        refine ih (k + 1) n (by omega) (by omega) fun t ht hbt => ?_
        by_cases htk : t = k
        · subst htk; rw [hb] at hbt; cases hbt
        · exact h0 t (by omega) hbt
      | true =>
        rw [if_pos rfl, if_pos (ni_lx (show k < 24 by omega) (by decide)), ni_nat (by omega), q.2.2.2.2.1 k (by omega)]
        have hc := cn_le (fun j => rof (R j) == nI k) m
        by_cases h1 : cn (fun j => rof (R j) == nI k) m = 0
        · rw [h1, if_pos (by decide)]
          refine ih (k + 1) n (by omega) (by omega) fun t ht hbt => ?_
          by_cases htk : t = k
          · subst htk; exact h1
          · exact h0 t (by omega) hbt
        · rw [if_neg (fun hle => h1 (by have := (ni_le (b := 0) (by omega) (by omega)).mp hle; omega))]
          exact ⟨true, rfl, ⟨fun _ => ⟨k, by omega, hb, by omega⟩, fun _ => rfl⟩⟩
  obtain ⟨b, h1, h2⟩ := key 24 0 F rfl (by omega) (fun t ht => by omega)
  refine ⟨b, h1, h2.trans ⟨?_, ?_⟩⟩
  · rintro ⟨t, ht, hb, hc⟩
    apply Classical.byContradiction
    intro hn
    have := cn_zero (p := fun j => rof (R j) == nI t) m fun j hj => by
      cases hj2 : rof (R j) == nI t with
      | false => rfl
      | true => exact absurd ⟨j, t, hj, ht, by simpa using hj2, hb⟩ hn
    omega
  · rintro ⟨j, t, hj, ht, he, hb⟩
    refine ⟨t, ht, hb, ?_⟩
    cases hz : cn (fun j => rof (R j) == nI t) m with
    | succ k => omega
    | zero =>
      have := cn_of0 m hz j hj
      simp [he] at this
theorem x1_dropFirst {F : Nat} {r : S_X1} {h m : Nat} {R : Nat → rw5} (q : RR r h (m + 1) R) {i : Nat} (hi : fmR R (m + 1) i) : ∃ r', s_X1_dropFirst F r = some r' ∧ RR r' (h + 1) m (delR R i) := by
  have hx : (srt R (m + 1))[0]? = some (R i) := by rw [srt_fm m i hi]; rfl
  have hp1 := x1_rpt (F := F) q (p := 1) hx (by omega) (by omega)
  obtain ⟨t, ht, hof⟩ := q.2.2.2.2.2.2 i hi.1
  have hof' : rpt (R i) 1 = nI t := hof
  obtain ⟨q1, q2, q3, q4, q5, q6, q7⟩ := q
  have hp2 : s_X1_part F (m_X1_numbers (upd (a_X1_numbers r) t (a_X1_numbers r t - 1)) r) 0 2 = some (rpt (R i) 2) := by
    have e : s_X1_part F (m_X1_numbers (upd (a_X1_numbers r) t (a_X1_numbers r t - 1)) r) 0 2 = s_X1_part F r (nI 0) (nI 2) := rfl
    rw [e]
    exact x1_rpt (F := F) ⟨q1, q2, q3, q4, q5, q6, q7⟩ (p := 2) hx (by omega) (by omega)
  refine ⟨m_X1_heard (nI h + 1) (m_X1_sums (upd (a_X1_sums r) t (a_X1_sums r t - rpt (R i) 2)) (m_X1_numbers (upd (a_X1_numbers r) t (a_X1_numbers r t - 1)) r)), ?_, ?_⟩
  · unfold s_X1_dropFirst
    have hp1' : s_X1_part F r 0 1 = some (nI t) := by rw [← hof']; exact hp1
    rw [hp1', Option.bind_some, q1, q2, if_neg (ni_nle (show h < h + (m + 1) by omega) (by omega)), if_neg (ni_nneg (by omega)), if_neg (il_nle ht (by decide))]
    have hx2 : lf_ix (nI t) 24 := ni_lx ht (by decide)
    simp only [if_pos hx2, ni_nat (show t < 2147483648 by omega), hp2, Option.bind_some]
  · refine ⟨?_, ?_, by omega, fun j hj => ?_, fun s hs => ?_, fun s hs => ?_, fun j hj => ?_⟩
    · show nI h + 1 = nI (h + 1)
      rw [ni_1]
    · show a_X1_made r = _
      rw [q2]; congr 1; omega
    · have := q4 (j + 1) (by omega)
      rw [srt_fm m i hi, List.getElem?_cons_succ] at this
      rw [this]
      show some (rwA (a_X1_rows r) _) = some (rwA (a_X1_rows r) _)
      congr 2; omega
    · show upd (a_X1_numbers r) t (a_X1_numbers r t - 1) s = _
      by_cases hst : s = t
      · subst hst
        rw [upd_at, q5 s hs, cn_del _ m i hi.1]
        have e : (rof (R i) == nI s) = true := by simp [hof]
        have e2 : cn (fun j => rof (delR R i j) == nI s) m = cn (delR (fun j => rof (R j) == nI s) i) m := cn_congr m fun j _ => by unfold delR; split <;> rfl
        rw [e, if_pos rfl, ← ni_1, Int32.add_sub_cancel, e2]
      · rw [upd_ne _ _ hst, q5 s hs, cn_del _ m i hi.1]
        have e : (rof (R i) == nI s) = false := by
          rw [hof]
          simp only [beq_eq_false_iff_ne, ne_eq]
          intro hc
          exact hst ((ni_eq (by omega) (by omega)).mp hc).symm
        have e2 : cn (fun j => rof (delR R i j) == nI s) m = cn (delR (fun j => rof (R j) == nI s) i) m := cn_congr m fun j _ => by unfold delR; split <;> rfl
        rw [e, if_neg (by decide), e2, Nat.add_zero]
    · show upd (a_X1_sums r) t (a_X1_sums r t - rpt (R i) 2) s = _
      have e2 : sm (fun j => if rof (delR R i j) == nI s then rby (delR R i j) else 0) m = sm (delR (fun j => if rof (R j) == nI s then rby (R j) else 0) i) m := sm_congr m fun j _ => by unfold delR; split <;> rfl
      by_cases hst : s = t
      · subst hst
        have e : (rof (R i) == nI s) = true := by simp [hof]
        rw [upd_at, q6 s hs, sm_del _ m i hi.1, e2, e, if_pos rfl]
        show _ + rpt (R i) 2 - rpt (R i) 2 = _
        rw [Int32.add_sub_cancel]
      · have e : (rof (R i) == nI s) = false := by
          rw [hof]
          simp only [beq_eq_false_iff_ne, ne_eq]
          intro hc
          exact hst ((ni_eq (by omega) (by omega)).mp hc).symm
        rw [upd_ne _ _ hst, q6 s hs, sm_del _ m i hi.1, e2, e, if_neg (by decide), Int32.add_zero]
    · unfold delR
      split
      · exact q7 j (by omega)
      · exact q7 (j + 1) (by omega)
