/-! rings, on both sides -/
theorem x_findFrom {F : Nat} (hF : 6100 < F) {B T n e h m : Nat} {u : S_X3} {w : S_X5} (q : WX G0 B T n e h m u (a_X5_state w)) {t : Nat} (ht : t < n) :
    ∃ g, s_X5_findFrom F w (nI t) = some (m_X5_isInSet g w) ∧ g01 g ∧ ∀ x, x < 24 → (g x = 1 ↔ hFrom (a_X3_hold u) t x) := by
  obtain ⟨he, hn, -⟩ := WB_e q.1
  obtain ⟨c0, hc0⟩ : ∃ c : Nat → Int32, c = fun k => if k < 24 then 0 else a_X5_isInSet w k := ⟨_, rfl⟩
  have hclear := x5_clear (F := F) (by omega) (a_X5_isInSet w)
  rw [← hc0] at hclear
  have c00 : ∀ x, x < 24 → c0 x = 0 := fun x hx => by rw [hc0]; exact if_pos hx
  have slots : ∀ d k c nn, k + d = 4 → d < nn → (∀ x, x < 24 → (c x = 0 ∨ c x = 1) ∧ (c x = 1 ↔ ∃ j, j < k ∧ a_X3_hold u (4 + 4 * t + j) = nI x)) → ∃ c', s_X5_findFrom_l9 F (nI t) nn (m_X5_isInSet c w) (nI k) = s_X5_findFrom_b50 F (m_X5_isInSet c' w) ∧ ∀ x, x < 24 → (c' x = 0 ∨ c' x = 1) ∧ (c' x = 1 ↔ hG (a_X3_hold u) (-1) t x) := by
    have hfin : ∀ x, x < 24 → ((∃ j, j < 4 ∧ a_X3_hold u (4 + 4 * t + j) = nI x) ↔ hG (a_X3_hold u) (-1) t x) := by
      intro x hx
      constructor
      · rintro ⟨j, h1, h2⟩
        exact ⟨by omega, ⟨4 + 4 * t + j, by omega, by omega, nI_ne (by omega), h2⟩, hx⟩
      · rintro ⟨-, ⟨j, h1, h2, -, h4⟩, -⟩
        exact ⟨j - (4 + 4 * t), by omega, by rw [show 4 + 4 * t + (j - (4 + 4 * t)) = j by omega]; exact h4⟩
    intro d
    induction d with
    | zero =>
      intro k c nn hk hnn hc
      obtain ⟨nn, rfl⟩ : ∃ j, nn = j + 1 := ⟨nn - 1, by omega⟩
      obtain rfl : k = 4 := by omega
      exact ⟨c, by rw [e_X5_findFrom_l9, if_pos (by decide)], fun x hx => ⟨(hc x hx).1, (hc x hx).2.trans (hfin x hx)⟩⟩
    | succ d ih =>
      intro k c nn hk hnn hc
      obtain ⟨nn, rfl⟩ : ∃ j, nn = j + 1 := ⟨nn - 1, by omega⟩
      have hk4 : k < 4 := by omega
      obtain ⟨w1, hw1⟩ : ∃ w1, w1 = m_X5_isInSet c w := ⟨_, rfl⟩
      have est : a_X5_state w1 = a_X5_state w := by rw [hw1]
      have eup : ∀ x, m_X5_isInSet (upd (a_X5_isInSet w1) x 1) w1 = m_X5_isInSet (upd c x 1) w := fun x => by rw [hw1]
      rw [← hw1, e_X5_findFrom_l9, if_neg (il_nle hk4 (by decide)), x5_lives F _ (by omega), Option.bind_some, est, WX_lv q.1 ht]
      cases hl : mb (a_X3_living u) t with
      | false =>
        rw [if_neg Bool.false_ne_true, hw1]
        refine ⟨c, rfl, fun x hx => ⟨(hc x hx).1, (hc x hx).2.trans ?_⟩⟩
        have hno : ∀ j, j < 4 → ¬ a_X3_hold u (4 + 4 * t + j) = nI x := fun j hj z => by
          rw [q.2.2.2.2 t (by omega) hl j hj] at z; exact nI_ne (by omega) z.symm
        constructor
        · rintro ⟨j, h1, h2⟩; exact absurd h2 (hno j (by omega))
        · intro z
          obtain ⟨j, h1, h2⟩ := (hfin x hx).mpr z
          exact absurd h2 (hno j h1)
      | true =>
        rw [if_pos rfl, x5_slotOf F _ (by omega), Option.bind_some, Option.bind_some, est, WH0 q.2 ht hk4, ni_1]
        rcases q.2.2.2.1 (4 + 4 * t + k) (by omega) with z | ⟨s, z1, z2, z3⟩
        · rw [if_pos z, hw1]
          refine ih (k + 1) c nn (by omega) (by omega) fun x hx => ⟨(hc x hx).1, (hc x hx).2.trans ⟨?_, ?_⟩⟩
          · rintro ⟨j, h1, h2⟩; exact ⟨j, by omega, h2⟩
          · rintro ⟨j, h1, h2⟩
            refine ⟨j, ?_, h2⟩
            by_cases hjk : j = k
            · rw [hjk, z] at h2; exact absurd h2.symm (nI_ne (by omega))
            · omega
        · rw [z2, if_neg (nI_ne (by omega)), if_pos (ni_lx (show s < 24 by omega) (by decide)), ni_nat (by omega), eup]
          refine ih (k + 1) (upd c s 1) nn (by omega) (by omega) fun x hx => ?_
          by_cases hxs : x = s
          · rw [hxs, upd_at]
            exact ⟨Or.inr rfl, ⟨fun _ => ⟨k, by omega, z2⟩, fun _ => rfl⟩⟩
          · rw [upd_ne _ _ hxs]
            refine ⟨(hc x hx).1, (hc x hx).2.trans ⟨?_, ?_⟩⟩
            · rintro ⟨j, h1, h2⟩; exact ⟨j, by omega, h2⟩
            · rintro ⟨j, h1, h2⟩
              refine ⟨j, ?_, h2⟩
              by_cases hjk : j = k
              · rw [hjk, z2] at h2; exact absurd ((ni_eq (by omega) (by omega)).mp h2).symm hxs
              · omega
  obtain ⟨c', l1, l2⟩ := slots 4 0 c0 F (by omega) (by omega) (fun x hx => ⟨Or.inl (c00 x hx), by rw [c00 x hx]; exact ⟨fun z => absurd z (by decide), fun ⟨j, h1, _⟩ => by omega⟩⟩)
  obtain ⟨g, g1, g2, g3⟩ := sp_all_p6 (F := F) (by omega) (u := m_X5_isInSet c' w) (n := n) (WX_mOK q) (fun x hx => (l2 x hx).1)
  refine ⟨g, ?_, g2, fun x hx => ?_⟩
  · unfold s_X5_findFrom
    have l1' : s_X5_findFrom_l9 F (nI t) F (m_X5_isInSet c0 w) 0 = _ := l1
    rw [hclear, Option.bind_some, l1']
    unfold s_X5_findFrom_b50
    rw [g1, Option.bind_some]
  · rw [g3 x hx]
    exact hRe_E (E := mG (a_X5_state w) n) (E' := hG (a_X3_hold u) (-1)) (fun a b => WX_E q a b) (S := fun y => y < 24 ∧ c' y = 1) (S' := hG (a_X3_hold u) (-1) t) (fun y => ⟨fun z => ((l2 y z.1).2).mp z.2, fun z => ⟨z.2.2, ((l2 y z.2.2).2).mpr z⟩⟩) x
theorem hFrom_lt {B T n e h m : Nat} {u : S_X3} {v : Nat → Int32} (q : WX G0 B T n e h m u v) {x y : Nat} (z : hFrom (a_X3_hold u) x y) : y < n :=
  q.1.2.2.2.1.1 y (hRe_least (P := fun t => mb (a_X3_living u) t = true) (fun y hy => WX_E_live q hy) (fun y z _ hz => WX_E_live q hz) z)
theorem bits_eq {a b : Int32} {P : Nat → Prop} (ha : ∀ t, mb a t = true ↔ P t) (hb : ∀ t, mb b t = true ↔ P t) : a = b := mb_ext fun t _ => by rw [Bool.eq_iff_iff, ha t, hb t]
theorem x_ring {F : Nat} (hF : 6100 < F) {B T n e h m : Nat} {u : S_X3} {w : S_X5} (q : WX G0 B T n e h m u (a_X5_state w)) {t : Nat} (ht : t < n) :
    ∃ z w', s_X0_ringOf F (a_X3_hold u) (nI t) = some z ∧ s_X5_ringOf F w (nI t) = some (z, w') ∧ LK w w' := by
  obtain ⟨he, hn, -⟩ := WB_e q.1
  have ht24 : t < 24 := by omega
  obtain ⟨r, r1, r2, r3⟩ := x0_reachOf (F := F) (by omega) (WX_hOK q) ht24
  -- the class
  obtain ⟨p, hp⟩ : ∃ p : Nat → Bool, p = fun o => @decide (hFrom (a_X3_hold u) t o ∧ hFrom (a_X3_hold u) o t) (Classical.propDecidable _) := ⟨_, rfl⟩
  have hpi : ∀ o, p o = true ↔ hFrom (a_X3_hold u) t o ∧ hFrom (a_X3_hold u) o t := fun o => by rw [hp]; exact @decide_eq_true_iff _ (Classical.propDecidable _)
  obtain ⟨z, z1, z2⟩ := lf_bits (fun nn k c => s_X0_ringOf_l11 F (a_X3_hold u) (nI t) r nn c (nI k)) 24 (fun c => some c) p (n := F) (by omega) (by omega) (fun nn c => by
      show s_X0_ringOf_l11 F (a_X3_hold u) (nI t) r (nn + 1) c (nI 24) = _
      rw [e_X0_ringOf_l11, if_pos (by decide)]) (fun nn k c hk => by
    obtain ⟨rk, k1, k2, k3⟩ := x0_reachOf (F := F) (by omega) (WX_hOK q) hk
    rw [e_X0_ringOf_l11, if_neg (il_nle hk (by decide)), st_in_mb r (by omega), k1, Option.bind_some, st_in_mb rk (by omega), ni_1]
    cases ha : mb r k with
    | false =>
      have : p k = false := by
        cases hb : p k with
        | false => rfl
        | true => have := (r3 k).mpr ((hpi k).mp hb).1; rw [ha] at this; cases this
      rw [if_neg Bool.false_ne_true, this, if_neg Bool.false_ne_true]
    | true =>
      rw [if_pos rfl]
      cases hb : mb rk t with
      | false =>
        have : p k = false := by
          cases hc : p k with
          | false => rfl
          | true => have := (k3 t).mpr ((hpi k).mp hc).2; rw [hb] at this; cases this
        rw [if_neg Bool.false_ne_true, this, if_neg Bool.false_ne_true]
      | true => rw [if_pos rfl, (hpi k).mpr ⟨(r3 k).mp ha, (k3 t).mp hb⟩, if_pos rfl])
  have hz : ∀ o, mb z o = true ↔ hFrom (a_X3_hold u) t o ∧ hFrom (a_X3_hold u) o t := fun o => by
    rw [z2 o, hpi o]
    exact ⟨fun c => c.2, fun c => ⟨by have := hFrom_lt q c.1; omega, c⟩⟩
  -- the model
  obtain ⟨g, g1, g2, g3⟩ := x_findFrom hF q ht
  obtain ⟨w1, hw1⟩ : ∃ w1, w1 = m_X5_isInSet g w := ⟨_, rfl⟩
  have lk1 : LK w w1 := by rw [hw1]; exact LK.se w g
  have ese : a_X5_isInSet w1 = g := by rw [hw1]
  have h1 : a_X5_state w1 (1 : Int32).toNatClampNeg = nI n := by rw [lk1.2]; exact q.1.1.2.2.2.2.1
  have sh1 : ∀ k, (1 : Int32) <<< (nI k &&& 31) = 1 <<< (nI k &&& 31) := fun _ => rfl
  have sh0 : ∀ k, k < 32 → (0 : Int32) <<< (nI k &&& 31) = 0 := by decide
  obtain ⟨z3, m1, m2⟩ := lf_bits (fun nn k c => s_X5_ringOf_l9 F w1 (nI t) nn c (nI k)) n (fun c => s_X5_ringOf_l41 F (nI t) c F w1 0 0) (fun o => g o == 1) (n := F) (by omega) (by omega) (fun nn c => by rw [e_X5_ringOf_l9, h1, if_pos (Int32.le_refl _)]) (fun nn k c hk => by
    rw [e_X5_ringOf_l9, h1, if_neg (ni_nle hk (by omega)), if_pos (ni_lx (show k < 24 by omega) (by decide)), ni_nat (by omega), ese, ni_1]
    rcases g2 k (by omega) with c0 | c0
    · rw [c0, sh0 k (by omega), Int32.or_zero, if_neg (by decide)]
    · rw [c0, if_pos (by decide)])
  have hz3 : ∀ o, mb z3 o = true ↔ hFrom (a_X3_hold u) t o := fun o => by
    rw [m2 o]
    constructor
    · rintro ⟨c1, c2⟩; exact (g3 o (by omega)).mp (by simpa using c2)
    · intro c
      have := hFrom_lt q c
      exact ⟨this, by simpa using (g3 o (by omega)).mpr c⟩
  have loop : ∀ d k w2 c nn, k + d = n → d < nn → LK w w2 → (∀ o, mb c o = true ↔ o < k ∧ hFrom (a_X3_hold u) t o ∧ hFrom (a_X3_hold u) o t) → ∃ c' w', s_X5_ringOf_l41 F (nI t) z3 nn w2 c (nI k) = some (c', w') ∧ LK w w' ∧ ∀ o, mb c' o = true ↔ o < n ∧ hFrom (a_X3_hold u) t o ∧ hFrom (a_X3_hold u) o t := by
    intro d
    induction d with
    | zero =>
      intro k w2 c nn hk hnn lk hc
      obtain ⟨nn, rfl⟩ : ∃ j, nn = j + 1 := ⟨nn - 1, by omega⟩
      obtain rfl : k = n := by omega
      have h2 : a_X5_state w2 (1 : Int32).toNatClampNeg = nI k := by rw [lk.2]; exact q.1.1.2.2.2.2.1
      exact ⟨c, w2, by rw [e_X5_ringOf_l41, h2, if_pos (Int32.le_refl _)], lk, hc⟩
    | succ d ih =>
      intro k w2 c nn hk hnn lk hc
      obtain ⟨nn, rfl⟩ : ∃ j, nn = j + 1 := ⟨nn - 1, by omega⟩
      have hkn : k < n := by omega
      have h2 : a_X5_state w2 (1 : Int32).toNatClampNeg = nI n := by rw [lk.2]; exact q.1.1.2.2.2.2.1
      have q2 : WX G0 B T n e h m u (a_X5_state w2) := by rw [lk.2]; exact q
      rw [e_X5_ringOf_l41, h2, if_neg (ni_nle hkn (by omega)), sr_bv z3 (by omega), ni_1]
      cases ha : mb z3 k with
      | false =>
        rw [bv_f ha, if_neg (by decide)]
        refine ih (k + 1) w2 c nn (by omega) (by omega) lk fun o => (hc o).trans ⟨fun y => ⟨by omega, y.2⟩, fun y => ⟨?_, y.2⟩⟩
        by_cases hok : o = k
        · have := (hz3 k).mpr (hok ▸ y.2.1)
          rw [ha] at this; cases this
        · omega
      | true =>
        rw [bv_t ha, if_pos rfl]
        obtain ⟨gk, k1, k2, k3⟩ := x_findFrom hF q2 hkn
        rw [k1, Option.bind_some, if_pos (ni_lx ht24 (by decide)), ni_nat (by omega), show a_X5_isInSet (m_X5_isInSet gk w2) t = gk t from rfl]
        refine ih (k + 1) (m_X5_isInSet gk w2) _ nn (by omega) (by omega) (lk.tr (LK.se w2 gk)) fun o => ?_
        rcases k2 t ht24 with c0 | c0
        · rw [c0, sh0 k (by omega), Int32.or_zero, hc o]
          refine ⟨fun y => ⟨by omega, y.2⟩, fun y => ⟨?_, y.2⟩⟩
          by_cases hok : o = k
          · have := (k3 t ht24).mpr (hok ▸ y.2.2)
            rw [c0] at this; exact absurd this (by decide)
          · omega
        · rw [c0, mb_set c (by omega)]
          by_cases hok : o = k
          · rw [if_pos hok, hok]
            exact ⟨fun _ => ⟨by omega, (hz3 k).mp ha, (k3 t ht24).mp c0⟩, fun _ => rfl⟩
          · rw [if_neg hok, hc o]
            exact ⟨fun y => ⟨by omega, y.2⟩, fun y => ⟨by omega, y.2⟩⟩
  obtain ⟨c', w', l1, l2, l3⟩ := loop n 0 w1 0 F (by omega) (by omega) lk1 (fun o => by rw [mb_0]; exact ⟨fun y => absurd y Bool.false_ne_true, fun y => absurd y.1 (by omega)⟩)
  have hzc : z = c' := bits_eq hz (fun o => (l3 o).trans ⟨fun y => y.2, fun y => ⟨hFrom_lt q y.1, y⟩⟩)
  refine ⟨z, w', ?_, ?_, l2⟩
  · unfold s_X0_ringOf
    rw [r1, Option.bind_some]
    exact z1
  · unfold s_X5_ringOf
    have m1' : s_X5_ringOf_l9 F w1 (nI t) F 0 0 = _ := m1
    rw [g1, ← hw1, Option.bind_some, m1', hzc]
    exact l1
