/-! looks, on both sides -/
theorem bcn {s : Int32} {n : Nat} (hn : n ≤ 24) (h : ∀ t, mb s t = true → t < n) : jd_bc s = nI (cn (mb s) n) := by
  rw [bc24 (fun t ht => by have := h t ht; omega)]
  have := cn_add (mb s) n (24 - n)
  rw [show n + (24 - n) = 24 by omega, cn_zero (24 - n) fun k hk => by
    cases hb : mb s (n + k) with
    | false => rfl
    | true => have := h _ hb; omega] at this
  rw [this, Nat.add_zero]
theorem x5_suspects {F : Nat} (hF : 100 < F) {B T n e h m : Nat} {u : S_X3} {w : S_X5} (q : WB B T n e h m u (a_X5_state w)) : s_X5_suspects F w = some (jd_bc (a_X3_suspects u)) := by
  obtain ⟨he, hn, -⟩ := WB_e q
  have h1 : a_X5_state w (1 : Int32).toNatClampNeg = nI n := q.1.2.2.2.2.1
  have key := lf_cnt (fun nn k c => s_X5_suspects_l4 F w nn c (nI k)) n (fun c => some c) (mb (a_X3_suspects u)) 0 (n := F) (by omega) (fun nn c => by rw [e_X5_suspects_l4, h1, if_pos (Int32.le_refl _)]) (fun nn k c hk => by
    have h2 := x5_part F w (t := k) (p := 3) (by omega)
    rw [(q.2.2.1.1 k hk).2.2.2.1] at h2
    have h2' : s_X5_part F w (nI k) 3 = some (bv (a_X3_suspects u) k) := h2
    rw [e_X5_suspects_l4, h1, if_neg (ni_nle hk (by omega)), h2', Option.bind_some, ni_1]
    cases hb : mb (a_X3_suspects u) k with
    | true => rw [bv_t hb, if_pos rfl]
    | false => rw [bv_f hb, if_neg Bool.false_ne_true, Int32.add_zero])
  rw [bcn hn (fun t ht => q.2.2.2.1.1 t (q.2.2.2.1.2.1 t ht))]
  rw [Nat.zero_add] at key
  exact key
theorem x5_living {F : Nat} (hF : 100 < F) {B T n e h m : Nat} {u : S_X3} {w : S_X5} (q : WB B T n e h m u (a_X5_state w)) : s_X5_living F w = some (jd_bc (a_X3_living u)) := by
  obtain ⟨he, hn, -⟩ := WB_e q
  have h1 : a_X5_state w (1 : Int32).toNatClampNeg = nI n := q.1.2.2.2.2.1
  have key := lf_cnt (fun nn k c => s_X5_living_l4 F w nn c (nI k)) n (fun c => some c) (mb (a_X3_living u)) 0 (n := F) (by omega) (fun nn c => by rw [e_X5_living_l4, h1, if_pos (Int32.le_refl _)]) (fun nn k c hk => by
    have h2 := x5_part F w (t := k) (p := 0) (by omega)
    rw [show 17 + 10 * k + 0 = 17 + 10 * k from rfl, (q.2.2.1.1 k hk).1] at h2
    have h2' : s_X5_part F w (nI k) 0 = some (bv (a_X3_living u) k) := h2
    rw [e_X5_living_l4, h1, if_neg (ni_nle hk (by omega)), h2', Option.bind_some, ni_1]
    cases hb : mb (a_X3_living u) k with
    | true => rw [bv_t hb, if_pos rfl]
    | false => rw [bv_f hb, if_neg Bool.false_ne_true, Int32.add_zero])
  rw [bcn hn q.2.2.2.1.1]
  rw [Nat.zero_add] at key
  exact key
/-- what is reached -/
theorem x5_reached {F : Nat} (hF : 6100 < F) {B T n e h m : Nat} {u : S_X3} {w : S_X5} (q : WX G0 B T n e h m u (a_X5_state w)) :
    ∃ r g, s_X0_reached F (a_X3_hold u) = some r ∧ mB r ∧ s_X5_findReached F w = some (jd_bc r, m_X5_isReached g w) ∧ (∀ t, t < 24 → g t = bv r t) ∧ (∀ t, mb r t = true → mb (a_X3_living u) t = true) ∧ ∀ t, mb r t = true ↔ hTop (a_X3_hold u) (-1) t := by
  obtain ⟨he, hn, -⟩ := WB_e q.1
  obtain ⟨r, r1, r2, r3⟩ := x0_reached (F := F) (by omega) (WX_hOK q)
  obtain ⟨c0, hc0⟩ : ∃ c : Nat → Int32, c = fun k => if k < 24 then 0 else a_X5_isReached w k := ⟨_, rfl⟩
  have hclear := x5_clear (F := F) (by omega) (a_X5_isReached w)
  rw [← hc0] at hclear
  have c00 : ∀ t, t < 24 → c0 t = 0 := fun t ht => by rw [hc0]; exact if_pos ht
  have hands : ∀ d k c nn, k + d = 4 → d < nn → (∀ t, t < 24 → (c t = 0 ∨ c t = 1) ∧ (c t = 1 ↔ ∃ j, j < k ∧ a_X3_hold u j = nI t)) → ∃ c', s_X5_findReached_l9 F nn (m_X5_isReached c w) (nI k) = s_X5_findReached_b48 F (m_X5_isReached c' w) ∧ ∀ t, t < 24 → (c' t = 0 ∨ c' t = 1) ∧ (c' t = 1 ↔ ∃ j, j < 4 ∧ a_X3_hold u j = nI t) := by
    intro d
    induction d with
    | zero =>
      intro k c nn hk hnn hc
      obtain ⟨nn, rfl⟩ : ∃ j, nn = j + 1 := ⟨nn - 1, by omega⟩
      obtain rfl : k = 4 := by omega
      exact ⟨c, by rw [e_X5_findReached_l9, if_pos (by decide)], hc⟩
    | succ d ih =>
      intro k c nn hk hnn hc
      obtain ⟨nn, rfl⟩ : ∃ j, nn = j + 1 := ⟨nn - 1, by omega⟩
      obtain ⟨w1, hw1⟩ : ∃ w1, w1 = m_X5_isReached c w := ⟨_, rfl⟩
      have est : a_X5_state w1 = a_X5_state w := by rw [hw1]
      have eup : ∀ t, m_X5_isReached (upd (a_X5_isReached w1) t 1) w1 = m_X5_isReached (upd c t 1) w := fun x => by rw [hw1]
      have hk4 : k < 4 := by omega
      rw [← hw1, e_X5_findReached_l9, if_neg (il_nle hk4 (by decide)), ni_13, if_pos (ni_lx (show 13 + k < 20377 by omega) (by decide)), if_pos (ni_lx (show 13 + k < 20377 by omega) (by decide)), ni_nat (by omega), est, q.2.1 k hk4, ni_1]
      rcases q.2.2.2.1 k (by omega) with z | ⟨s, z1, z2, z3⟩
      · rw [if_pos z, hw1]
        refine ih (k + 1) c nn (by omega) (by omega) fun t ht => ⟨(hc t ht).1, (hc t ht).2.trans ⟨?_, ?_⟩⟩
        · rintro ⟨j, h1, h2⟩; exact ⟨j, by omega, h2⟩
        · rintro ⟨j, h1, h2⟩
          refine ⟨j, ?_, h2⟩
          by_cases hjk : j = k
          · rw [hjk, z] at h2; exact absurd h2.symm (nI_ne (by omega))
          · omega
      · rw [z2, if_neg (nI_ne (by omega)), if_pos (ni_lx (show s < 24 by omega) (by decide)), ni_nat (by omega), eup]
        refine ih (k + 1) (upd c s 1) nn (by omega) (by omega) fun t ht => ?_
        by_cases hts : t = s
        · rw [hts, upd_at]
          exact ⟨Or.inr rfl, ⟨fun _ => ⟨k, by omega, z2⟩, fun _ => rfl⟩⟩
        · rw [upd_ne _ _ hts]
          refine ⟨(hc t ht).1, (hc t ht).2.trans ⟨?_, ?_⟩⟩
          · rintro ⟨j, h1, h2⟩; exact ⟨j, by omega, h2⟩
          · rintro ⟨j, h1, h2⟩
            refine ⟨j, ?_, h2⟩
            by_cases hjk : j = k
            · rw [hjk, z2] at h2; exact absurd ((ni_eq (by omega) (by omega)).mp h2).symm hts
            · omega
  obtain ⟨c', l1, l2⟩ := hands 4 0 c0 F (by omega) (by omega) (fun t ht => ⟨Or.inl (c00 t ht), by rw [c00 t ht]; exact ⟨fun z => absurd z (by decide), fun ⟨j, h1, _⟩ => by omega⟩⟩)
  obtain ⟨g, g1, g2, g3⟩ := sp_all_p5 (F := F) (by omega) (u := m_X5_isReached c' w) (n := n) (WX_mOK q) (fun t ht => (l2 t ht).1)
  have hgr : ∀ t, t < 24 → (g t = 1 ↔ mb r t = true) := by
    intro t ht
    rw [g3 t ht, r3 t]
    exact hRe_E (E := mG (a_X5_state w) n) (E' := hG (a_X3_hold u) (-1)) (fun x y => WX_E q x y) (S := fun x => x < 24 ∧ c' x = 1) (S' := fun x => x < 24 ∧ hE (a_X3_hold u) (-1) 0 4 x) (fun x => by
      constructor
      · rintro ⟨h1, h2⟩
        obtain ⟨j, h3, h4⟩ := (l2 x h1).2.mp h2
        exact ⟨h1, j, Nat.zero_le _, by omega, nI_ne (by omega), h4⟩
      · rintro ⟨h1, j, h2, h3, h4, h5⟩
        exact ⟨h1, (l2 x h1).2.mpr ⟨j, by omega, h5⟩⟩) t
  have hgb : ∀ t, t < 24 → g t = bv r t := by
    intro t ht
    rcases g2 t ht with z | z
    · rw [z, bv_f]
      cases hb : mb r t with
      | false => rfl
      | true => have := (hgr t ht).mpr hb; rw [z] at this; exact absurd this (by decide)
    · rw [z, bv_t ((hgr t ht).mp z)]
  have hlive : ∀ t, mb r t = true → mb (a_X3_living u) t = true := by
    intro t ht
    refine hRe_least (P := fun t => mb (a_X3_living u) t = true) (fun y hy => ?_) (fun y z _ hz => WX_E_live q hz) ((r3 t).mp ht)
    obtain ⟨h1, j, h2, h3, h4, h5⟩ := hy
    rcases q.2.2.2.1 j (by omega) with z | ⟨s, z1, z2, z3⟩
    · rw [h5] at z; exact absurd z (nI_ne (by omega))
    · rw [h5] at z2
      rw [(ni_eq (by omega) (by omega)).mp z2]; exact z3
  have hsum := lf_cnt (fun nn k c => s_X5_findReached_l60 F (m_X5_isReached g w) nn c (nI k)) 24 (fun c => some (c, m_X5_isReached g w)) (mb r) 0 (n := F) (by omega) (fun nn c => by
      show s_X5_findReached_l60 F (m_X5_isReached g w) (nn + 1) c (nI 24) = _
      rw [e_X5_findReached_l60, if_pos (by decide)]) (fun nn k c hk => by
    have hg : a_X5_isReached (m_X5_isReached g w) k = bv r k := hgb k hk
    rw [e_X5_findReached_l60, if_neg (il_nle hk (by decide)), if_pos (ni_lx hk (by decide)), ni_nat (by omega), hg, ni_1]
    cases hb : mb r k with
    | true => rw [bv_t hb, if_pos rfl]
    | false => rw [bv_f hb, if_neg Bool.false_ne_true, Int32.add_zero])
  have hbits : ∀ t, mb r t = true → t < 24 := fun t ht => by have := q.1.2.2.2.1.1 t (hlive t ht); omega
  refine ⟨r, g, r1, r2, ?_, hgb, hlive, r3⟩
  rw [bc24 hbits]
  unfold s_X5_findReached
  have l1' : s_X5_findReached_l9 F F (m_X5_isReached c0 w) 0 = _ := l1
  rw [hclear, Option.bind_some, l1']
  unfold s_X5_findReached_b48
  have g1' : s_X5_spread_p5 F (m_X5_isReached c' w) = some (m_X5_isReached g w) := g1
  rw [g1', Option.bind_some]
  rw [Nat.zero_add] at hsum
  exact hsum
theorem WX_empty {B T n e h m : Nat} {u : S_X3} {v : Nat → Int32} (q : WX G0 B T n e h m u v) {k : Nat} (hk : k < 100) : WX G0 B T n e h m (m_X3_hold (upd (a_X3_hold u) k (-1)) u) (upd v (mp k) (-1)) := by
  obtain ⟨f1, hf1⟩ : ∃ f, f = upd (a_X3_hold u) k (-1) := ⟨_, rfl⟩
  obtain ⟨v1, hv1⟩ : ∃ f, f = upd v (mp k) (-1) := ⟨_, rfl⟩
  have hmp : mp k < 353 := by unfold mp; split <;> omega
  rw [← hf1, ← hv1]
  refine ⟨WB_hold q.1 f1 fun j hj => by rw [hv1, upd_ne _ _ (by unfold mp; split <;> omega)], fun j hj => ?_, fun o ho j hj => Or.inl ?_, fun j hj => ?_, fun o ho hl j hj => ?_⟩
  · show v1 (13 + j) = f1 j
    rw [hv1, hf1]
    by_cases hjk : j = k
    · rw [hjk, upd_at, show 13 + k = mp k from by unfold mp; rw [if_pos (by omega)], upd_at]
    · rw [upd_ne _ _ hjk, upd_ne _ _ (by unfold mp; split <;> omega)]; exact q.2.1 j hj
  · show v1 (257 + 4 * o + j) = f1 (4 + 4 * o + j)
    rw [hv1, hf1]
    by_cases hjk : 4 + 4 * o + j = k
    · rw [hjk, upd_at, show 257 + 4 * o + j = mp k from by unfold mp; rw [if_neg (by omega)]; omega, upd_at]
    · rw [upd_ne _ _ hjk, upd_ne _ _ (by unfold mp; split <;> omega)]; exact WH0 q.2 ho hj
  · show f1 j = -1 ∨ ∃ t, t < n ∧ f1 j = nI t ∧ mb (a_X3_living u) t = true
    rw [hf1]
    by_cases hjk : j = k
    · rw [hjk, upd_at]; exact Or.inl rfl
    · rw [upd_ne _ _ hjk]; exact q.2.2.2.1 j hj
  · show f1 (4 + 4 * o + j) = -1
    rw [hf1]
    by_cases hjk : 4 + 4 * o + j = k
    · rw [hjk, upd_at]
    · rw [upd_ne _ _ hjk]; exact q.2.2.2.2 o ho hl j hj
theorem hE_upd {f : Nat → Int32} {k : Nat} (hk : k < 100) {a m t : Nat} (ham : a + m ≤ 100) (ht : t < 24) : hE (upd f k (-1)) (-1) a m t ↔ hE f (nI k) a m t := by
  constructor
  · rintro ⟨j, h1, h2, -, h4⟩
    by_cases hjk : j = k
    · rw [hjk, upd_at] at h4; exact absurd h4.symm (nI_ne (by omega))
    · rw [upd_ne _ _ hjk] at h4
      exact ⟨j, h1, h2, fun z => hjk ((ni_eq (by omega) (by omega)).mp z), h4⟩
  · rintro ⟨j, h1, h2, h3, h4⟩
    have hjk : j ≠ k := fun z => h3 (by rw [z])
    exact ⟨j, h1, h2, nI_ne (by omega), by rw [upd_ne _ _ hjk]; exact h4⟩
theorem hTop_upd {f : Nat → Int32} {k : Nat} (hk : k < 100) (t : Nat) : hTop (upd f k (-1)) (-1) t ↔ hTop f (nI k) t := by
  refine hRe_E (fun x y => ?_) (fun x => ?_) t
  · constructor
    · rintro ⟨h1, h2, h3⟩; exact ⟨h1, (hE_upd hk (by omega) h3).mp h2, h3⟩
    · rintro ⟨h1, h2, h3⟩; exact ⟨h1, (hE_upd hk (by omega) h3).mpr h2, h3⟩
  · constructor
    · rintro ⟨h1, h2⟩; exact ⟨h1, (hE_upd hk (by omega) h1).mp h2⟩
    · rintro ⟨h1, h2⟩; exact ⟨h1, (hE_upd hk (by omega) h1).mpr h2⟩
/-- how many slots and hands hold something -/
theorem x5_holding {F : Nat} (hF : 200 < F) {B T n e h m : Nat} {u : S_X3} {w : S_X5} (q : WX G0 B T n e h m u (a_X5_state w)) : ∃ z, s_X0_taken F (a_X3_hold u) = some z ∧ s_X5_holding F w = some z := by
  obtain ⟨he, hn, -⟩ := WB_e q.1
  have h1 : a_X5_state w (1 : Int32).toNatClampNeg = nI n := q.1.1.2.2.2.2.1
  obtain ⟨p, hp⟩ : ∃ p : Nat → Bool, p = fun k => !(a_X3_hold u k == -1) := ⟨_, rfl⟩
  have ct := x0_taken (F := F) (by omega) (a_X3_hold u)
  rw [← hp] at ct
  refine ⟨_, ct, ?_⟩
  have hands := lf_cnt (fun nn k c => s_X5_holding_l4 F w nn c (nI k)) 4 (fun c => s_X5_holding_l38 F w F c 0) p 0 (n := F) (by omega) (fun nn c => by rw [e_X5_holding_l4, if_pos (by decide)]) (fun nn k c hk => by
    rw [e_X5_holding_l4, if_neg (il_nle hk (by decide)), ni_13, if_pos (ni_lx (show 13 + k < 20377 by omega) (by decide)), ni_nat (by omega), q.2.1 k hk, ni_1, hp]
    show _ = s_X5_holding_l4 F w nn (if !(a_X3_hold u k == -1) then c + 1 else c) (nI (k + 1))
    by_cases hc : a_X3_hold u k = -1
    · rw [if_pos hc, Int32.add_zero, if_neg (by simp [hc])]
    · rw [if_neg hc, if_pos (by simpa using hc)])
  have e4 : 4 * a_X5_state w (1 : Int32).toNatClampNeg = nI (4 * n) := by rw [h1, show (4 : Int32) = nI 4 from rfl, ni_mul]
  have slots := lf_cnt (fun nn k c => s_X5_holding_l38 F w nn c (nI k)) (4 * n) (fun c => some c) (fun k => p (4 + k)) (0 + cn p 4) (n := F) (by omega) (fun nn c => by rw [e_X5_holding_l38, e4, if_pos (Int32.le_refl _)]) (fun nn k c hk => by
    have hv : a_X5_state w (257 + k) = a_X3_hold u (4 + k) := by
      have := WH0 q.2 (show k / 4 < n by omega) (show k % 4 < 4 by omega)
      rw [show 257 + 4 * (k / 4) + k % 4 = 257 + k by omega, show 4 + 4 * (k / 4) + k % 4 = 4 + k by omega] at this
      exact this
    rw [e_X5_holding_l38, e4, if_neg (ni_nle hk (by omega)), show (257 : Int32) = nI 257 from rfl, ni_add, if_pos (ni_lx (show 257 + k < 20377 by omega) (by decide)), ni_nat (by omega), hv, ni_1, hp]
    show _ = s_X5_holding_l38 F w nn (if !(a_X3_hold u (4 + k) == -1) then c + 1 else c) (nI (k + 1))
    by_cases hc : a_X3_hold u (4 + k) = -1
    · rw [if_pos hc, Int32.add_zero, if_neg (by simp [hc])]
    · rw [if_neg hc, if_pos (by simpa using hc)])
  have all : cn p 100 = cn p 4 + cn (fun k => p (4 + k)) (4 * n) := by
    have a1 := cn_add p (4 + 4 * n) (96 - 4 * n)
    rw [show 4 + 4 * n + (96 - 4 * n) = 100 by omega, cn_zero (96 - 4 * n) fun k hk => by
      have hlv : mb (a_X3_living u) (n + k / 4) = false := by
        cases hl : mb (a_X3_living u) (n + k / 4) with
        | false => rfl
        | true => have := q.1.2.2.2.1.1 _ hl; omega
      have := q.2.2.2.2 (n + k / 4) (by omega) hlv (k % 4) (by omega)
      rw [show 4 + 4 * (n + k / 4) + k % 4 = 4 + 4 * n + k by omega] at this
      rw [hp]
      show (!(a_X3_hold u (4 + 4 * n + k) == -1)) = false
      rw [this]; rfl, cn_add p 4 (4 * n)] at a1
    omega
  have hands' : s_X5_holding F w = s_X5_holding_l38 F w F (nI (0 + cn p 4)) 0 := hands
  have slots' : s_X5_holding_l38 F w F (nI (0 + cn p 4)) 0 = _ := slots
  rw [hands', slots', all, Nat.zero_add]
