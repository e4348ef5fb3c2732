/-! rests and who is innocent, on both sides -/
theorem x3_withRest {F : Nat} (hF : 100 < F) (u : S_X3) (set : Int32) : ∃ r, s_X3_withRest F u set = some r ∧ ∀ t, mb r t = true ↔ t < 24 ∧ mb set t = true ∧ ¬ a_X3_counts u t ≤ nI (cn (fun k => (a_X3_hold u (4 + k) == nI t) && mb set (k / 4)) 96) := by
  obtain ⟨r, h1, h2⟩ := lf_bits (fun n k c => s_X3_withRest_l4 F u set n c (nI k)) 24 (fun c => some c) (fun t => mb set t && !decide (a_X3_counts u t ≤ nI (cn (fun k => (a_X3_hold u (4 + k) == nI t) && mb set (k / 4)) 96))) (n := F) (by omega) (by omega) (fun n c => by rw [e_X3_withRest_l4, if_pos (by decide)]) (fun n k c hk => by
    rw [e_X3_withRest_l4, if_neg (il_nle hk (by decide)), st_in_mb set (by omega), if_pos (ni_lx hk (by decide)), ni_nat (by omega), x0_slots hF, Option.bind_some, ni_1]
    cases hs : mb set k with
    | false => rw [if_neg Bool.false_ne_true, Bool.false_and, if_neg Bool.false_ne_true]
    | true =>
      rw [if_pos rfl, Bool.true_and]
      by_cases hc : a_X3_counts u k ≤ nI (cn (fun j => (a_X3_hold u (4 + j) == nI k) && mb set (j / 4)) 96)
      · rw [if_pos hc, decide_eq_true hc, if_neg (by decide)]
      · rw [if_neg hc, decide_eq_false hc, if_pos (by decide)])
  refine ⟨r, h1, fun t => ?_⟩
  rw [h2 t, Bool.and_eq_true]
  constructor
  · rintro ⟨z1, z2, z3⟩; exact ⟨z1, z2, by simpa using z3⟩
  · rintro ⟨z1, z2, z3⟩; exact ⟨z1, z2, by simpa using z3⟩
theorem i32_le {a b : Int32} : a ≤ b ↔ a.toInt ≤ b.toInt := Int32.le_iff_toInt_le
/-- the rest of a thing -/
theorem x5_restOf {F : Nat} (hF : 100 < F) {B T n e h m : Nat} {u : S_X3} {w : S_X5} (q : WX G0 B T n e h m u (a_X5_state w)) {set : Int32} (hset : ∀ t, t < 24 → (a_X5_isInSet w t = 1 ↔ mb set t = true)) (hsl : ∀ t, mb set t = true → mb (a_X3_living u) t = true) {t : Nat} (ht : t < n) :
    ∃ x, s_X5_restOf F w (nI t) = some x ∧ (x ≤ 0 ↔ a_X3_counts u t ≤ nI (cn (fun k => (a_X3_hold u (4 + k) == nI t) && mb set (k / 4)) 96)) := by
  obtain ⟨he, hn, hhm⟩ := WB_e q.1
  have h1 : a_X5_state w (1 : Int32).toNatClampNeg = nI n := q.1.1.2.2.2.2.1
  obtain ⟨p, hp⟩ : ∃ p : Nat → Bool, p = fun k => (a_X3_hold u (4 + k) == nI t) && mb set (k / 4) := ⟨_, rfl⟩
  rw [← hp]
  obtain ⟨c, hc⟩ : ∃ c, c = a_X3_counts u t := ⟨_, rfl⟩
  rw [← hc]
  have hcb := q.1.2.2.1.2.1 t (by omega)
  rw [← hc] at hcb
  have own : ∀ (o : Nat) (kk : Int32 → Int32 → Option Int32) (a : Int32), o < n → s_X5_restOf_l22 F w (nI t) (nI o) kk F a 0 = kk (a - nI (cn (fun k => p (4 * o + k)) 4)) (nI (o + 1)) := by
    intro o kk a ho
    cases hlv : mb set o with
    | true =>
      have hin := (hset o (by omega)).mpr hlv
      have key := (lf_for (fun n k (b : Nat) => s_X5_restOf_l22 F w (nI t) (nI o) kk n (a - nI b) (nI k)) 4 (fun b => kk (a - nI b) (nI (o + 1))) (fun k b => if p (4 * o + k) then b + 1 else b) (fun _ _ => True) (fun n b _ => by
          show s_X5_restOf_l22 F w (nI t) (nI o) kk (n + 1) (a - nI b) (nI 4) = _
          rw [e_X5_restOf_l22, if_pos (by decide), ni_1]) (fun n k b hk _ => by
        refine ⟨?_, trivial⟩
        rw [e_X5_restOf_l22, if_neg (il_nle hk (by decide)), if_pos (ni_lx (show o < 24 by omega) (by decide)), ni_nat (by omega), if_pos hin, x5_slotOf F _ (by omega), Option.bind_some, WH0 q.2 ho hk, ni_1]
        have hpk : p (4 * o + k) = (a_X3_hold u (4 + 4 * o + k) == nI t) := by
          rw [hp]
          show ((a_X3_hold u (4 + (4 * o + k)) == nI t) && mb set ((4 * o + k) / 4)) = _
          rw [show (4 * o + k) / 4 = o by omega, hlv, Bool.and_true, Nat.add_assoc]
        rw [hpk]
        by_cases hc2 : a_X3_hold u (4 + 4 * o + k) = nI t
        · rw [if_pos hc2, if_pos (by simpa using hc2), Int32.sub_sub, ni_1 b]
        · rw [if_neg hc2, if_neg (by simpa using hc2), Int32.sub_zero]) 4 0 0 F (by omega) (by omega) trivial).1
      have hfr := fr_cn (fun k => p (4 * o + k)) 4 0 0
      rw [show 0 + cn (fun k => p (4 * o + k)) 0 = 0 from rfl, Nat.zero_add, Nat.zero_add] at hfr
      rw [hfr] at key
      have key' : s_X5_restOf_l22 F w (nI t) (nI o) kk F (a - 0) 0 = _ := key
      rw [Int32.sub_zero] at key'
      exact key'
    | false =>
      have hz : cn (fun k => p (4 * o + k)) 4 = 0 := cn_zero 4 fun k hk => by
        rw [hp]
        show ((a_X3_hold u (4 + (4 * o + k)) == nI t) && mb set ((4 * o + k) / 4)) = _
        rw [show (4 * o + k) / 4 = o by omega, hlv, Bool.and_false]
      rw [hz]
      have hin : ¬ a_X5_isInSet w o = 1 := fun z => by rw [(hset o (by omega)).mp z] at hlv; cases hlv
      obtain ⟨F', rfl⟩ : ∃ F', F = F' + 1 := ⟨F - 1, by omega⟩
      have h0 : s_X5_restOf_l22 (F' + 1) w (nI t) (nI o) kk (F' + 1) a 0 = _ := e_X5_restOf_l22 (F' + 1) w (nI t) (nI o) kk F' a 0
      rw [h0, if_neg (by decide), if_pos (ni_lx (show o < 24 by omega) (by decide)), ni_nat (by omega), if_neg hin, ni_1, show nI 0 = 0 from rfl, Int32.sub_zero]
  have owners : ∀ d o nn, o + d = n → d < nn → s_X5_restOf_l9 F w (nI t) nn (c - nI (cn p (4 * o))) (nI o) = some (c - nI (cn p (4 * n))) := by
    intro d
    induction d with
    | zero =>
      intro o nn ho hnn
      obtain ⟨nn, rfl⟩ : ∃ j, nn = j + 1 := ⟨nn - 1, by omega⟩
      obtain rfl : o = n := by omega
      rw [e_X5_restOf_l9, h1, if_pos (Int32.le_refl _)]
    | succ d ih =>
      intro o nn ho hnn
      obtain ⟨nn, rfl⟩ : ∃ j, nn = j + 1 := ⟨nn - 1, by omega⟩
      rw [e_X5_restOf_l9, h1, if_neg (ni_nle (show o < n by omega) (by omega)), own o _ _ (by omega), Int32.sub_sub, ni_add, ← cn_add p (4 * o) 4, show 4 * o + 4 = 4 * (o + 1) by omega]
      exact ih (o + 1) nn (by omega) (by omega)
  have all : cn p (4 * n) = cn p 96 := by
    have := cn_add p (4 * n) (96 - 4 * n)
    rw [show 4 * n + (96 - 4 * n) = 96 by omega, cn_zero (96 - 4 * n) fun k hk => by
      rw [hp]
      show ((a_X3_hold u (4 + (4 * n + k)) == nI t) && mb set ((4 * n + k) / 4)) = false
      have : mb set ((4 * n + k) / 4) = false := by
        cases hl : mb set ((4 * n + k) / 4) with
        | false => rfl
        | true => have := q.1.2.2.2.1.1 _ (hsl _ hl); omega
      rw [this, Bool.and_false]] at this
    omega
  have h2 := owners n 0 F (by omega) (by omega)
  have h2' : s_X5_restOf_l9 F w (nI t) F (c - 0) 0 = _ := h2
  rw [Int32.sub_zero, all] at h2'
  refine ⟨c - nI (cn p 96), ?_, ?_⟩
  · unfold s_X5_restOf
    have h3 := x5_part F w (t := t) (p := 2) (by omega)
    rw [(q.1.2.2.1.1 t ht).2.2.1, ← hc] at h3
    have h3' : s_X5_part F w (nI t) 2 = some c := h3
    rw [h3', Option.bind_some]
    exact h2'
  · have hle := cn_le p 96
    have hsub : (c - nI (cn p 96)).toInt = c.toInt - (cn p 96 : Int) := by
      rw [Int32.toInt_sub, ni_int (by omega)]
      exact Int.bmod_eq_of_le (by omega) (by omega)
    rw [i32_le, i32_le, hsub, ni_int (by omega)]
    have : (0 : Int32).toInt = 0 := rfl
    omega
/-- who is innocent -/
theorem x_innocent {F : Nat} (hF : 6100 < F) {B T n e h m : Nat} {u : S_X3} {w : S_X5} (q : WX G0 B T n e h m u (a_X5_state w)) {set : Int32} (hset : ∀ t, t < 24 → (a_X5_isInSet w t = 1 ↔ mb set t = true)) (hsl : ∀ t, mb set t = true → mb (a_X3_living u) t = true) :
    ∃ r i g, s_X3_withRest F u set = some r ∧ s_X0_reachedFrom F (a_X3_hold u) r (-1) = some i ∧ s_X5_findInnocent F w = some (m_X5_isInnocent g w) ∧ g01 g ∧ (∀ t, t < 24 → (g t = 1 ↔ mb i t = true)) := by
  obtain ⟨he, hn, hhm⟩ := WB_e q.1
  obtain ⟨r, r1, r2⟩ := x3_withRest (F := F) (by omega) u set
  obtain ⟨i, i1, -, i3⟩ := x0_reachedFrom (F := F) (by omega) (WX_hOK q) (-1) (s := r) (fun t ht => by
    cases hb : mb r t with
    | false => rfl
    | true => exact absurd ((r2 t).mp hb).1 (by omega))
  obtain ⟨c0, hc0⟩ : ∃ c : Nat → Int32, c = fun k => if k < 24 then 0 else a_X5_isInnocent w k := ⟨_, rfl⟩
  have hclear := x5_clear (F := F) (by omega) (a_X5_isInnocent w)
  rw [← hc0] at hclear
  have c00 : ∀ t, t < 24 → c0 t = 0 := fun t ht => by rw [hc0]; exact if_pos ht
  have loop : ∀ d k c nn, k + d = n → d < nn → (∀ t, t < 24 → (c t = 0 ∨ c t = 1) ∧ (c t = 1 ↔ t < k ∧ mb r t = true)) → ∃ c', s_X5_findInnocent_l9 F nn (m_X5_isInnocent c w) (nI k) = s_X5_findInnocent_b54 F (m_X5_isInnocent c' w) ∧ ∀ t, t < 24 → (c' t = 0 ∨ c' t = 1) ∧ (c' t = 1 ↔ mb r t = true) := by
    intro d
    induction d with
    | zero =>
      intro k c nn hk hnn hc
      obtain ⟨nn, rfl⟩ : ∃ j, nn = j + 1 := ⟨nn - 1, by omega⟩
      obtain rfl : k = n := by omega
      refine ⟨c, ?_, fun t ht => ⟨(hc t ht).1, (hc t ht).2.trans ⟨fun z => z.2, fun z => ⟨?_, z⟩⟩⟩⟩
      · have h1 : a_X5_state (m_X5_isInnocent c w) (1 : Int32).toNatClampNeg = nI k := q.1.1.2.2.2.2.1
        rw [e_X5_findInnocent_l9, h1, if_pos (Int32.le_refl _)]
      · exact q.1.2.2.2.1.1 t (hsl t ((r2 t).mp z).2.1)
    | succ d ih =>
      intro k c nn hk hnn hc
      obtain ⟨nn, rfl⟩ : ∃ j, nn = j + 1 := ⟨nn - 1, by omega⟩
      have h1 : a_X5_state (m_X5_isInnocent c w) (1 : Int32).toNatClampNeg = nI n := q.1.1.2.2.2.2.1
      have nxt : ∀ x : Int32, (x = 0 ∨ x = 1) → (x = 1 ↔ mb r k = true) → ∃ c', s_X5_findInnocent_l9 F nn (m_X5_isInnocent (upd c k x) w) (nI (k + 1)) = s_X5_findInnocent_b54 F (m_X5_isInnocent c' w) ∧ ∀ t, t < 24 → (c' t = 0 ∨ c' t = 1) ∧ (c' t = 1 ↔ mb r t = true) := by
        intro x hx0 hx
        refine ih (k + 1) (upd c k x) nn (by omega) (by omega) fun t ht => ?_
        by_cases htk : t = k
        · rw [htk, upd_at]
          exact ⟨hx0, hx.trans ⟨fun z => ⟨by omega, z⟩, fun z => z.2⟩⟩
        · rw [upd_ne _ _ htk]
          exact ⟨(hc t ht).1, (hc t ht).2.trans ⟨fun z => ⟨by omega, z.2⟩, fun z => ⟨by omega, z.2⟩⟩⟩
      obtain ⟨w1, hw1⟩ : ∃ w1, w1 = m_X5_isInnocent c w := ⟨_, rfl⟩
      have est : a_X5_state w1 = a_X5_state w := by rw [hw1]
      have ese : a_X5_isInSet w1 = a_X5_isInSet w := by rw [hw1]
      have ein : a_X5_isInnocent w1 = c := by rw [hw1]
      have eup : ∀ x, m_X5_isInnocent (upd (a_X5_isInnocent w1) k x) w1 = m_X5_isInnocent (upd c k x) w := fun x => by rw [hw1]
      rw [← hw1] at h1 ⊢
      rw [e_X5_findInnocent_l9, h1, if_neg (ni_nle (show k < n by omega) (by omega)), if_pos (ni_lx (show k < 24 by omega) (by decide)), if_pos (ni_lx (show k < 24 by omega) (by decide)), if_pos (ni_lx (show k < 24 by omega) (by decide)), ni_nat (by omega), ni_1, ese, eup, eup]
      by_cases hin : a_X5_isInSet w k = 1
      · rw [if_pos hin]
        obtain ⟨x, x1, x2⟩ := x5_restOf (F := F) (by omega) (w := w1) (by rw [est]; exact q) (set := set) (by rw [ese]; exact hset) hsl (show k < n by omega)
        rw [x1, Option.bind_some]
        by_cases hx : x ≤ 0
        · rw [if_pos hx]
          refine nxt 0 (Or.inl rfl) ⟨fun z => absurd z (by decide), fun z => ?_⟩
          exact absurd (x2.mp hx) ((r2 k).mp z).2.2
        · rw [if_neg hx]
          exact nxt 1 (Or.inr rfl) ⟨fun _ => (r2 k).mpr ⟨by omega, (hset k (by omega)).mp hin, fun z => hx (x2.mpr z)⟩, fun _ => rfl⟩
      · rw [if_neg hin]
        refine nxt 0 (Or.inl rfl) ⟨fun z => absurd z (by decide), fun z => ?_⟩
        exact absurd ((hset k (by omega)).mpr ((r2 k).mp z).2.1) hin
  obtain ⟨c', l1, l2⟩ := loop n 0 c0 F (by omega) (by omega) (fun t ht => ⟨Or.inl (c00 t ht), by rw [c00 t ht]; exact ⟨fun z => absurd z (by decide), fun z => absurd z.1 (by omega)⟩⟩)
  obtain ⟨g, g1, g2, g3⟩ := sp_all_p7 (F := F) (by omega) (u := m_X5_isInnocent c' w) (n := n) (WX_mOK q) (fun t ht => (l2 t ht).1)
  refine ⟨r, i, g, r1, i1, ?_, g2, fun t ht => ?_⟩
  · unfold s_X5_findInnocent
    have l1' : s_X5_findInnocent_l9 F F (m_X5_isInnocent c0 w) 0 = _ := l1
    rw [hclear, Option.bind_some, l1']
    unfold s_X5_findInnocent_b54
    rw [g1, Option.bind_some]
  · rw [g3 t ht, i3 t]
    exact hRe_E (E := mG (a_X5_state w) n) (E' := hG (a_X3_hold u) (-1)) (fun x y => WX_E q x y) (S := fun x => x < 24 ∧ c' x = 1) (S' := fun x => mb r x = true) (fun x => ⟨fun z => ((l2 x z.1).2).mp z.2, fun z => ⟨((r2 x).mp z).1, ((l2 x ((r2 x).mp z).1).2).mpr z⟩⟩) t
