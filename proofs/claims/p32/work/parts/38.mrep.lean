/-! the model's reports -/
def RV (v : Nat → Int32) (j : Nat) : rw5 := rwA v (377 + 5 * j)
theorem ix_rep (j p : Nat) : (377 + (5 * nI j)) + nI p = nI (377 + 5 * j + p) := by
  rw [show (377 : Int32) = nI 377 from rfl, show (5 : Int32) = nI 5 from rfl, ni_mul, ni_add, ni_add]
theorem x5_rep (F : Nat) (u : S_X5) {j p : Nat} (hj : j < 3999) (hp : p < 5) : s_X5_reportPart F u (nI j) (nI p) = some (rpt (RV (a_X5_state u) j) p) := by
  unfold s_X5_reportPart
  rw [ix_rep, if_pos (ni_lx (show 377 + 5 * j + p < 20377 by omega) (by decide)), ni_nat (by omega)]
  unfold RV
  rw [rpt_at _ _ hp]
theorem x5_underWay {F : Nat} (hF : 1300 < F) (u : S_X5) {m : Nat} (hm : m ≤ 1200) (h3 : a_X5_state u 3 = nI m) (t : Int32) : s_X5_underWay F u t = some (nI (cn (fun j => rof (RV (a_X5_state u) j) == t) m)) := by
  have := (lf_for (fun n k (a : Nat) => s_X5_underWay_l4 F u t n (nI a) (nI k)) m (fun a => some (nI a)) (fun k a => if rof (RV (a_X5_state u) k) == t then a + 1 else a) (fun _ _ => True)
    (fun n a _ => by
      have e : a_X5_state u (3 : Int32).toNatClampNeg = nI m := h3
      rw [e_X5_underWay_l4, e, if_pos (Int32.le_refl _)]) (fun n k a hk _ => by
      refine ⟨?_, trivial⟩
      have e : a_X5_state u (3 : Int32).toNatClampNeg = nI m := h3
      have e2 := x5_rep F u (j := k) (p := 1) (by omega) (by omega)
      rw [e_X5_underWay_l4, e, if_neg (ni_nle hk (by omega)), show (1 : Int32) = nI 1 from rfl, e2, Option.bind_some, ← show (1 : Int32) = nI 1 from rfl, ni_1 k]
      have e3 : rpt (RV (a_X5_state u) k) 1 = rof (RV (a_X5_state u) k) := rfl
      rw [e3]
      by_cases h : rof (RV (a_X5_state u) k) = t
      · rw [if_pos h, if_pos (by simpa using h), ni_1]
      · rw [if_neg h, if_neg (by simpa using h), Int32.add_zero]) m 0 0 F (by omega) (by omega) trivial).1
  rw [fr_cn0] at this
  exact this
theorem fr_sm (p : Nat → Int32) : ∀ d k, fr (fun k a => a + p k) k d (sm p k) = sm p (k + d) := by
  intro d
  induction d with
  | zero => intro k; rfl
  | succ d ih => intro k; unfold fr; rw [show k + (d + 1) = k + 1 + d by omega, ← ih (k + 1)]; rfl
theorem x5_sumUnderWay {F : Nat} (hF : 1300 < F) (u : S_X5) {m : Nat} (hm : m ≤ 1200) (h3 : a_X5_state u 3 = nI m) (t : Int32) : s_X5_sumUnderWay F u t = some (sm (fun j => if rof (RV (a_X5_state u) j) == t then rby (RV (a_X5_state u) j) else 0) m) := by
  have := (lf_for (fun n k (a : Int32) => s_X5_sumUnderWay_l4 F u t n a (nI k)) m (fun a => some a) (fun k a => a + if rof (RV (a_X5_state u) k) == t then rby (RV (a_X5_state u) k) else 0) (fun _ _ => True)
    (fun n a _ => by
      have e : a_X5_state u (3 : Int32).toNatClampNeg = nI m := h3
      rw [e_X5_sumUnderWay_l4, e, if_pos (Int32.le_refl _)]) (fun n k a hk _ => by
      refine ⟨?_, trivial⟩
      have e : a_X5_state u (3 : Int32).toNatClampNeg = nI m := h3
      have e2 : s_X5_reportPart F u (nI k) 1 = some (rof (RV (a_X5_state u) k)) := x5_rep F u (j := k) (p := 1) (by omega) (by omega)
      have e4 : s_X5_reportPart F u (nI k) 2 = some (rby (RV (a_X5_state u) k)) := x5_rep F u (j := k) (p := 2) (by omega) (by omega)
      rw [e_X5_sumUnderWay_l4, e, if_neg (ni_nle hk (by omega)), e2, Option.bind_some, ni_1, e4, Option.bind_some]
      by_cases h : rof (RV (a_X5_state u) k) = t
      · rw [if_pos h, if_pos (by simpa using h)]
      · rw [if_neg h, if_neg (by simpa using h)]) m 0 0 F (by omega) (by omega) trivial).1
  have e := fr_sm (fun j => if rof (RV (a_X5_state u) j) == t then rby (RV (a_X5_state u) j) else 0) m 0
  rw [Nat.zero_add] at e
  rw [← e]
  exact this
theorem x5_firstDue {F : Nat} (hF : 1300 < F) (u : S_X5) {m : Nat} (hm : m ≤ 1200) (h3 : a_X5_state u 3 = nI m) : ∃ r, s_X5_firstDue F u = some r ∧ ((r = -1 ∧ ∀ j, j < m → (a_X5_state u 0).toInt < du (RV (a_X5_state u) j)) ∨ (∃ b, r = nI b ∧ fmR (RV (a_X5_state u)) m b ∧ du (RV (a_X5_state u) b) ≤ (a_X5_state u 0).toInt)) := by
  let Q := fun (k : Nat) (r : Int32) => (r = -1 ∧ ∀ j, j < k → (a_X5_state u 0).toInt < du (RV (a_X5_state u) j)) ∨ (∃ b, r = nI b ∧ fmR (RV (a_X5_state u)) k b ∧ du (RV (a_X5_state u) b) ≤ (a_X5_state u 0).toInt)
  have hrep : ∀ j, j < m → s_X5_reportPart F u (nI j) 3 = some (rpt (RV (a_X5_state u) j) 3) := fun j hj => x5_rep F u (p := 3) (by omega) (by omega)
  have hT : a_X5_state u (0 : Int32).toNatClampNeg = a_X5_state u 0 := rfl
  have key : ∀ d k r n, k + d = m → d < n → Q k r → ∃ r', s_X5_firstDue_l4 F u n r (nI k) = some r' ∧ Q m r' := by
    intro d
    induction d with
    | zero =>
      intro k r n hk hn hq
      obtain ⟨n, rfl⟩ : ∃ j, n = j + 1 := ⟨n - 1, by omega⟩
      obtain rfl : k = m := by omega
      have e : a_X5_state u (3 : Int32).toNatClampNeg = nI k := h3
      exact ⟨r, by rw [e_X5_firstDue_l4, e, if_pos (Int32.le_refl _)], hq⟩
    | succ d ih =>
      intro k r n hk hn hq
      obtain ⟨n, rfl⟩ : ∃ j, n = j + 1 := ⟨n - 1, by omega⟩
      have e : a_X5_state u (3 : Int32).toNatClampNeg = nI m := h3
      rw [e_X5_firstDue_l4, e, if_neg (ni_nle (show k < m by omega) (by omega)), hrep k (by omega), Option.bind_some, hT]
      by_cases hc : a_X5_state u 0 < rpt (RV (a_X5_state u) k) 3
      · rw [if_pos hc]
        have hc' : (a_X5_state u 0).toInt < du (RV (a_X5_state u) k) := Int32.lt_iff_toInt_lt.mp hc
        unfold s_X5_firstDue_b34
        rw [if_pos rfl, ni_1]
        refine ih (k + 1) r n (by omega) (by omega) ?_
        rcases hq with ⟨q1, q2⟩ | ⟨b, q1, q2, q3⟩
        · refine Or.inl ⟨q1, fun j hj => ?_⟩
          by_cases hjk : j = k
          · subst hjk; exact hc'
          · exact q2 j (by omega)
        · refine Or.inr ⟨b, q1, ⟨by have := q2.1; omega, q2.2.1, fun j hj => ?_⟩, q3⟩
          by_cases hjk : j = k
          · subst hjk; omega
          · exact q2.2.2 j (by omega)
      · rw [if_neg hc]
        have hc' : ¬ (a_X5_state u 0).toInt < du (RV (a_X5_state u) k) := fun h => hc (Int32.lt_iff_toInt_lt.mpr h)
        unfold s_X5_firstDue_b34
        rw [if_neg (by decide), ni_1]
        rcases hq with ⟨q1, q2⟩ | ⟨b, q1, q2, q3⟩
        · rw [if_pos q1]
          refine ih (k + 1) _ n (by omega) (by omega) (Or.inr ⟨k, rfl, ⟨by omega, fun j hj => ?_, fun j hj => ?_⟩, by omega⟩)
          · have := q2 j hj; omega
          · by_cases hjk : j = k
            · subst hjk; exact Int.le_refl _
            · have := q2 j (by omega); omega
        · have hb := q2.1
          rw [if_neg (by rw [q1]; exact nI_ne (by omega)), hrep k (by omega), Option.bind_some, q1, hrep b (by omega), Option.bind_some]
          by_cases hle : rpt (RV (a_X5_state u) b) 3 ≤ rpt (RV (a_X5_state u) k) 3
          · rw [if_pos hle]
            have hle' : du (RV (a_X5_state u) b) ≤ du (RV (a_X5_state u) k) := Int32.le_iff_toInt_le.mp hle
            refine ih (k + 1) _ n (by omega) (by omega) (Or.inr ⟨b, rfl, ⟨by omega, q2.2.1, fun j hj => ?_⟩, q3⟩)
            by_cases hjk : j = k
            · subst hjk; exact hle'
            · exact q2.2.2 j (by omega)
          · rw [if_neg hle]
            have hle' : ¬ du (RV (a_X5_state u) b) ≤ du (RV (a_X5_state u) k) := fun h => hle (Int32.le_iff_toInt_le.mpr h)
            refine ih (k + 1) _ n (by omega) (by omega) (Or.inr ⟨k, rfl, ⟨by omega, fun j hj => ?_, fun j hj => ?_⟩, by omega⟩)
            · have := q2.2.2 j hj; omega
            · by_cases hjk : j = k
              · subst hjk; exact Int.le_refl _
              · have := q2.2.2 j (by omega); omega
  exact key m 0 (-1) F (by omega) (by omega) (Or.inl ⟨rfl, fun j hj => by omega⟩)
def drV (v : Nat → Int32) (i m : Nat) : Nat → Int32 := fun k => if k = 3 then nI m else if 377 + 5 * i ≤ k ∧ k < 377 + 5 * m then v (k + 5) else v k
theorem x5_dropReport {F : Nat} (hF : 6100 < F) (u : S_X5) {m i : Nat} (hm : m < 1200) (hi : i ≤ m) (h3 : a_X5_state u 3 = nI (m + 1)) : s_X5_dropReport F u (nI i) = some (m_X5_state (drV (a_X5_state u) i m) u) := by
  let w : Nat → Nat → Int32 := fun K k => if 377 + 5 * i ≤ k ∧ k < K then a_X5_state u (k + 5) else a_X5_state u k
  have key : ∀ d K n, K + d = 377 + 5 * m → d < n → 377 + 5 * i ≤ K → s_X5_dropReport_l8 F n (m_X5_state (w K) u) (nI K) = some (m_X5_state (drV (a_X5_state u) i m) u) := by
    intro d
    induction d with
    | zero =>
      intro K n hK hn hiK
      obtain ⟨n, rfl⟩ : ∃ j, n = j + 1 := ⟨n - 1, by omega⟩
      have e : a_X5_state (m_X5_state (w K) u) (3 : Int32).toNatClampNeg = nI (m + 1) := by
        show w K 3 = _
        show (if 377 + 5 * i ≤ 3 ∧ 3 < K then _ else _) = _
        rw [if_neg (by omega), h3]
      have e2 : (377 : Int32) + 5 * (nI (m + 1) - 1) = nI (377 + 5 * m) := by
        rw [← ni_1, Int32.add_sub_cancel, show (377 : Int32) = nI 377 from rfl, show (5 : Int32) = nI 5 from rfl, ni_mul, ni_add]
      rw [e_X5_dropReport_l8, e, e2, if_pos ((ni_le (by omega) (by omega)).mpr (by omega)), ← ni_1 m, Int32.add_sub_cancel]
      have hf : upd (w K) 3 (nI m) = drV (a_X5_state u) i m := by
        funext k
        unfold drV
        by_cases hk : k = 3
        · subst hk; rw [upd_at, if_pos rfl]
        · rw [upd_ne _ _ hk, if_neg hk]
          obtain rfl : K = 377 + 5 * m := by omega
          rfl
      exact congrArg (fun f => some (m_X5_state f u)) hf
    | succ d ih =>
      intro K n hK hn hiK
      obtain ⟨n, rfl⟩ : ∃ j, n = j + 1 := ⟨n - 1, by omega⟩
      have e : a_X5_state (m_X5_state (w K) u) (3 : Int32).toNatClampNeg = nI (m + 1) := by
        show w K 3 = _
        show (if 377 + 5 * i ≤ 3 ∧ 3 < K then _ else _) = _
        rw [if_neg (by omega), h3]
      have e2 : (377 : Int32) + 5 * (nI (m + 1) - 1) = nI (377 + 5 * m) := by
        rw [← ni_1, Int32.add_sub_cancel, show (377 : Int32) = nI 377 from rfl, show (5 : Int32) = nI 5 from rfl, ni_mul, ni_add]
      have e3 : nI K + 5 = nI (K + 5) := by rw [show (5 : Int32) = nI 5 from rfl, ni_add]
      rw [e_X5_dropReport_l8, e, e2, if_neg (fun hc => by have := (ni_le (by omega) (by omega)).mp hc; omega), e3, if_pos (ni_lx (show K + 5 < 20377 by omega) (by decide)), if_pos (ni_lx (show K < 20377 by omega) (by decide)), ni_nat (by omega), ni_nat (by omega), ni_1]
      have hw : upd (w K) K (w K (K + 5)) = w (K + 1) := by
        funext k
        by_cases hk : k = K
        · subst hk
          rw [upd_at]
          show (if 377 + 5 * i ≤ k + 5 ∧ k + 5 < k then _ else _) = (if 377 + 5 * i ≤ k ∧ k < k + 1 then _ else _)
          rw [if_neg (by omega), if_pos (by omega)]
        · rw [upd_ne _ _ hk]
          show (if 377 + 5 * i ≤ k ∧ k < K then _ else _) = (if 377 + 5 * i ≤ k ∧ k < K + 1 then _ else _)
          by_cases hc : 377 + 5 * i ≤ k ∧ k < K
          · rw [if_pos hc, if_pos (by omega)]
          · rw [if_neg hc, if_neg (by omega)]
      have hih := ih (K + 1) n (by omega) (by omega) (by omega)
      rw [← hw] at hih
      exact hih
  have h0 : w (377 + 5 * i) = a_X5_state u := by
    funext k
    show (if 377 + 5 * i ≤ k ∧ k < 377 + 5 * i then _ else _) = _
    rw [if_neg (by omega)]
  have := key (5 * m - 5 * i) (377 + 5 * i) F (by omega) (by omega) (Nat.le_refl _)
  rw [h0] at this
  unfold s_X5_dropReport
  rw [show (377 : Int32) = nI 377 from rfl, show (5 : Int32) = nI 5 from rfl, ni_mul, ni_add]
  exact this
theorem drV_row (v : Nat → Int32) {i m j : Nat} (hj : j < m) : RV (drV v i m) j = delR (RV v) i j := by
  have pt : ∀ p, p < 5 → drV v i m (377 + 5 * j + p) = if j < i then v (377 + 5 * j + p) else v (377 + 5 * (j + 1) + p) := by
    intro p hp
    unfold drV
    rw [if_neg (by omega)]
    by_cases h : j < i
    · rw [if_pos h, if_neg (by omega)]
    · rw [if_neg h, if_pos (by omega)]
      congr 1; omega
  have p0 : drV v i m (377 + 5 * j) = if j < i then v (377 + 5 * j) else v (377 + 5 * (j + 1)) := pt 0 (by omega)
  show (drV v i m (377 + 5 * j), drV v i m (377 + 5 * j + 1), drV v i m (377 + 5 * j + 2), drV v i m (377 + 5 * j + 3), drV v i m (377 + 5 * j + 4)) = _
  rw [p0, pt 1 (by omega), pt 2 (by omega), pt 3 (by omega), pt 4 (by omega)]
  unfold delR
  by_cases h : j < i
  · simp only [if_pos h]; rfl
  · simp only [if_neg h]; rfl
theorem drV_low (v : Nat → Int32) {i m k : Nat} (hk : k < 377) (h3 : k ≠ 3) : drV v i m k = v k := by
  unfold drV
  rw [if_neg h3, if_neg (by omega)]
/-- a report more -/
def adV (v : Nat → Int32) (m : Nat) (x : rw5) : Nat → Int32 := fun k => if k = 2 then v 2 + 1 else if k = 3 then v 3 + 1 else if k = 377 + 5 * m then x.1 else if k = 377 + 5 * m + 1 then x.2.1 else if k = 377 + 5 * m + 2 then x.2.2.1 else if k = 377 + 5 * m + 3 then x.2.2.2.1 else if k = 377 + 5 * m + 4 then x.2.2.2.2 else v k
theorem gs_X5 (f : Nat → Int32) (u : S_X5) : a_X5_state (m_X5_state f u) = f := rfl
theorem ss_X5 (f g : Nat → Int32) (u : S_X5) : m_X5_state f (m_X5_state g u) = m_X5_state f u := rfl
theorem ni_mod3 : ∀ t, t < 24 → 8 + (nI t - nI t / 3 * 3) = nI (8 + t % 3) := by decide
theorem x5_addReport {F : Nat} (u : S_X5) {m t : Nat} (hm : m < 3999) (ht : t < 24) (h3 : a_X5_state u 3 = nI m) (y fl : Int32) : s_X5_addReport F u (nI t) y fl = some (a_X5_state u 2, m_X5_state (adV (a_X5_state u) m (a_X5_state u 2, nI t, y, a_X5_state u 0 + a_X5_state u (8 + t % 3), fl)) u) := by
  have e3 : a_X5_state u (3 : Int32).toNatClampNeg = nI m := h3
  have a0 : (377 : Int32) + 5 * nI m + 0 = nI (377 + 5 * m) := by rw [show (0 : Int32) = nI 0 from rfl, ix_rep]; rfl
  have a1 : (377 : Int32) + 5 * nI m + 1 = nI (377 + 5 * m + 1) := by rw [show (1 : Int32) = nI 1 from rfl, ix_rep]
  have a2 : (377 : Int32) + 5 * nI m + 2 = nI (377 + 5 * m + 2) := by rw [show (2 : Int32) = nI 2 from rfl, ix_rep]
  have a3 : (377 : Int32) + 5 * nI m + 3 = nI (377 + 5 * m + 3) := by rw [show (3 : Int32) = nI 3 from rfl, ix_rep]
  have a4 : (377 : Int32) + 5 * nI m + 4 = nI (377 + 5 * m + 4) := by rw [show (4 : Int32) = nI 4 from rfl, ix_rep]
  have i0 : (0 : Int32).toNatClampNeg = 0 := rfl
  have i2 : (2 : Int32).toNatClampNeg = 2 := rfl
  have i3 : (3 : Int32).toNatClampNeg = 3 := rfl
  unfold s_X5_addReport
  simp only [lf_let, gs_X5, ss_X5]
  simp only [i0, i2, i3, h3, a0, a1, a2, a3, a4, ni_mod3 t ht]
  rw [if_pos (ni_lx (show 377 + 5 * m < 20377 by omega) (by decide)), if_pos (ni_lx (show 377 + 5 * m + 1 < 20377 by omega) (by decide)), if_pos (ni_lx (show 377 + 5 * m + 2 < 20377 by omega) (by decide)), if_pos (ni_lx (show 8 + t % 3 < 20377 by omega) (by decide)), if_pos (ni_lx (show 377 + 5 * m + 3 < 20377 by omega) (by decide)), if_pos (ni_lx (show 377 + 5 * m + 4 < 20377 by omega) (by decide)),
    ni_nat (show 377 + 5 * m < 2147483648 by omega), ni_nat (show 377 + 5 * m + 1 < 2147483648 by omega), ni_nat (show 377 + 5 * m + 2 < 2147483648 by omega), ni_nat (show 377 + 5 * m + 3 < 2147483648 by omega), ni_nat (show 377 + 5 * m + 4 < 2147483648 by omega), ni_nat (show 8 + t % 3 < 2147483648 by omega)]
  refine congrArg some (Prod.ext rfl ?_)
  refine congrArg (fun f => m_X5_state f u) ?_
  funext k
  have g : ∀ j, j < 377 → upd (upd (upd (a_X5_state u) (377 + 5 * m) (a_X5_state u 2)) (377 + 5 * m + 1) (nI t)) (377 + 5 * m + 2) y j = a_X5_state u j := by
    intro j hj
    rw [upd_ne _ _ (by omega), upd_ne _ _ (by omega), upd_ne _ _ (by omega)]
  have g2 : ∀ (z : Int32) (j : Nat), j < 377 → upd (upd (upd (upd (upd (a_X5_state u) (377 + 5 * m) (a_X5_state u 2)) (377 + 5 * m + 1) (nI t)) (377 + 5 * m + 2) y) (377 + 5 * m + 3) z) (377 + 5 * m + 4) fl j = a_X5_state u j := by
    intro z j hj
    rw [upd_ne _ _ (by omega), upd_ne _ _ (by omega), g j hj]
  unfold adV
  by_cases k2 : k = 2
  · rw [if_pos k2, k2, upd_at]
    show upd _ 3 _ 2 + 1 = _
    rw [upd_ne _ _ (show 2 ≠ 3 by omega)]
    exact congrArg (· + 1) (g2 _ 2 (by omega))
  · rw [if_neg k2, upd_ne _ _ k2]
    by_cases k3 : k = 3
    · rw [if_pos k3, k3, upd_at]
      exact congrArg (· + 1) (g2 _ 3 (by omega))
    · rw [if_neg k3, upd_ne _ _ k3]
      by_cases c0 : k = 377 + 5 * m
      · rw [if_pos c0, c0, upd_ne _ _ (by omega), upd_ne _ _ (by omega), upd_ne _ _ (by omega), upd_ne _ _ (by omega), upd_at]
      · rw [if_neg c0]
        by_cases c1 : k = 377 + 5 * m + 1
        · rw [if_pos c1, c1, upd_ne _ _ (by omega), upd_ne _ _ (by omega), upd_ne _ _ (by omega), upd_at]
        · rw [if_neg c1]
          by_cases c2 : k = 377 + 5 * m + 2
          · rw [if_pos c2, c2, upd_ne _ _ (by omega), upd_ne _ _ (by omega), upd_at]
          · rw [if_neg c2]
            by_cases c3 : k = 377 + 5 * m + 3
            · rw [if_pos c3, c3, upd_ne _ _ (by omega), upd_at]
              show upd _ _ _ 0 + upd _ _ _ (8 + t % 3) = _
              exact congr (congrArg _ (g 0 (by omega))) (g (8 + t % 3) (by omega))
            · rw [if_neg c3]
              by_cases c4 : k = 377 + 5 * m + 4
              · rw [if_pos c4, c4, upd_at]
              · rw [if_neg c4, upd_ne _ _ c4, upd_ne _ _ c3, upd_ne _ _ c2, upd_ne _ _ c1, upd_ne _ _ c0]
theorem adV_low (v : Nat → Int32) (m : Nat) (x : rw5) {k : Nat} (h : k < 377 + 5 * m) (h2 : k ≠ 2) (h3 : k ≠ 3) : adV v m x k = v k := by
  unfold adV
  rw [if_neg h2, if_neg h3, if_neg (by omega), if_neg (by omega), if_neg (by omega), if_neg (by omega), if_neg (by omega)]
theorem adV_rows (v : Nat → Int32) (m : Nat) (x : rw5) {j : Nat} (h : j < m) : RV (adV v m x) j = RV v j := by
  unfold RV rwA
  rw [adV_low _ _ _ (by omega) (by omega) (by omega), adV_low _ _ _ (by omega) (by omega) (by omega), adV_low _ _ _ (by omega) (by omega) (by omega), adV_low _ _ _ (by omega) (by omega) (by omega), adV_low _ _ _ (by omega) (by omega) (by omega)]
theorem adV_row (v : Nat → Int32) (m : Nat) (x : rw5) : RV (adV v m x) m = x := by
  unfold RV rwA adV
  have h : ∀ p, ¬ 377 + 5 * m + p = 2 ∧ ¬ 377 + 5 * m + p = 3 := fun p => ⟨by omega, by omega⟩
  have h0 : ¬ 377 + 5 * m = 2 ∧ ¬ 377 + 5 * m = 3 := ⟨by omega, by omega⟩
  simp [h, h0]
