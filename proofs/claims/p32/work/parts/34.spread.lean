/-! reading the model's state -/
theorem ni_mul (a b : Nat) : nI a * nI b = nI (a * b) := (Int32.ofNat_mul a b).symm
theorem ix_part (t p : Nat) : (17 + (10 * nI t)) + nI p = nI (17 + 10 * t + p) := by
  rw [show (17 : Int32) = nI 17 from rfl, show (10 : Int32) = nI 10 from rfl, ni_mul, ni_add, ni_add]
theorem ix_slot (t p : Nat) : (257 + (4 * nI t)) + nI p = nI (257 + 4 * t + p) := by
  rw [show (257 : Int32) = nI 257 from rfl, show (4 : Int32) = nI 4 from rfl, ni_mul, ni_add, ni_add]
theorem x5_part (F : Nat) (u : S_X5) {t p : Nat} (h : 17 + 10 * t + p < 20377) : s_X5_part F u (nI t) (nI p) = some (a_X5_state u (17 + 10 * t + p)) := by
  unfold s_X5_part
  rw [ix_part, if_pos (ni_lx h (by decide)), ni_nat (by omega)]
theorem x5_lives (F : Nat) (u : S_X5) {t : Nat} (h : t < 24) : s_X5_lives F u (nI t) = some (a_X5_state u (17 + 10 * t) == 1) := by
  unfold s_X5_lives
  have h1 := x5_part F u (t := t) (p := 0) (by omega)
  rw [show (0 : Int32) = nI 0 from rfl, h1, Option.bind_some, Nat.add_zero]
  by_cases h2 : a_X5_state u (17 + 10 * t) = 1
  · rw [if_pos h2]; simp [h2]
  · rw [if_neg h2]; simp [h2]
theorem x5_slotOf (F : Nat) (u : S_X5) {t k : Nat} (h : 257 + 4 * t + k < 20377) : s_X5_slotOf F u (nI t) (nI k) = some (a_X5_state u (257 + 4 * t + k)) := by
  unfold s_X5_slotOf
  rw [ix_slot, if_pos (ni_lx h (by decide)), ni_nat (by omega)]
/-! marks spread, in the model -/
def mG (v : Nat → Int32) (n x y : Nat) : Prop := x < n ∧ v (17 + 10 * x) = 1 ∧ y < 24 ∧ ∃ k, k < 4 ∧ v (257 + 4 * x + k) = nI y
def g01 (g : Nat → Int32) : Prop := ∀ t, t < 24 → g t = 0 ∨ g t = 1
def gc (g : Nat → Int32) : Nat := cn (fun t => g t == 1) 24
def mOK (v : Nat → Int32) (n : Nat) : Prop := n ≤ 24 ∧ v 1 = nI n ∧ ∀ x, x < n → ∀ k, k < 4 → v (257 + 4 * x + k) = -1 ∨ ∃ y, y < 24 ∧ v (257 + 4 * x + k) = nI y
def spQ (v : Nat → Int32) (n : Nat) (g0 : Nat → Int32) (T : Nat → Prop) (t k : Nat) (g : Nat → Int32) (c : Int32) : Prop :=
  g01 g ∧ (∀ x, x < 24 → g0 x = 1 → g x = 1) ∧ (∀ x, x < 24 → g x = 1 → T x) ∧ ((c = 0 ∧ (∀ x, x < 24 → g x = g0 x) ∧ (∀ x y, x < t → g0 x = 1 → mG v n x y → g0 y = 1) ∧ (∀ j y, j < k → g0 t = 1 → v (17 + 10 * t) = 1 → y < 24 → v (257 + 4 * t + j) = nI y → g0 y = 1)) ∨ (c = 1 ∧ gc g0 < gc g))
theorem gc_lt {g0 g : Nat → Int32} {y : Nat} (hy : y < 24) (h : ∀ x, x < 24 → g0 x = 1 → g x = 1) (h0 : ¬ g0 y = 1) (h1 : g y = 1) : gc g0 < gc g := by
  have h2 : cn (fun t => g0 t == 1) 24 + 1 ≤ cn (fun t => g t == 1) 24 := by
    have e := cn_one (p := fun t => g0 t == 1) (q := fun t => if t = y then true else g0 t == 1) 24 hy (by simpa using h0) (by simp) (fun k hk hky => by simp [hky])
    rw [← e]
    refine cn_mono 24 fun k hk hp => ?_
    by_cases hky : k = y
    · subst hky; simpa using h1
    · simp [hky] at hp
      simpa using h k hk hp
  exact h2
theorem upd_at (f : Nat → Int32) (k : Nat) (v : Int32) : upd f k v k = v := by unfold upd; simp
theorem upd_ne (f : Nat → Int32) {k j : Nat} (v : Int32) (h : j ≠ k) : upd f k v j = f j := by unfold upd; simp [h]
theorem sp_in_p5 {F : Nat} {u : S_X5} {n : Nat} (hv : mOK (a_X5_state u) n) {g0 : Nat → Int32} {T : Nat → Prop} (hT : ∀ x y, T x → mG (a_X5_state u) n x y → T y) {t : Nat} (ht : t < n) (k2 : S_X5 → Int32 → Option S_X5) (k10 : S_X5 → Int32 → Int32 → Option S_X5) :
    ∀ d k m g c, k + d = 4 → d < m → spQ (a_X5_state u) n g0 T t k g c → ∃ g' c', s_X5_spread_p5_l23 F (nI t) k2 k10 m (m_X5_isReached g u) c (nI k) = k10 (m_X5_isReached g' u) c' (nI (t + 1)) ∧ spQ (a_X5_state u) n g0 T (t + 1) 0 g' c' := by
  have ht24 : t < 24 := Nat.lt_of_lt_of_le ht hv.1
  have done : ∀ g c, spQ (a_X5_state u) n g0 T t 0 g c → ((g0 t = 1 → a_X5_state u (17 + 10 * t) = 1 → ∀ y, mG (a_X5_state u) n t y → c = 0 → g0 y = 1)) → spQ (a_X5_state u) n g0 T (t + 1) 0 g c := by
    intro g c h hc
    obtain ⟨q1, q2, q3, q4⟩ := h
    refine ⟨q1, q2, q3, ?_⟩
    rcases q4 with ⟨p1, p2, p3, -⟩ | q4
    · refine Or.inl ⟨p1, p2, fun x y hx hx1 hxy => ?_, fun j y hj => by omega⟩
      by_cases hxt : x = t
      · subst hxt; exact hc hx1 hxy.2.1 y hxy p1
      · exact p3 x y (by omega) hx1 hxy
    · exact Or.inr q4
  intro d
  induction d with
  | zero =>
    intro k m g c hk hm hq
    obtain ⟨m, rfl⟩ : ∃ j, m = j + 1 := ⟨m - 1, by omega⟩
    obtain rfl : k = 4 := by omega
    refine ⟨g, c, ?_, done g c ⟨hq.1, hq.2.1, hq.2.2.1, ?_⟩ ?_⟩
    · rw [e_X5_spread_p5_l23, if_pos (by decide), ni_1]
    · rcases hq.2.2.2 with ⟨p1, p2, p3, -⟩ | q4
      · exact Or.inl ⟨p1, p2, p3, fun j y hj => by omega⟩
      · exact Or.inr q4
    · intro h1 h2 y hy hc
      rcases hq.2.2.2 with ⟨p1, p2, p3, p4⟩ | ⟨q4, -⟩
      · obtain ⟨-, -, hy24, j, hj, hjy⟩ := hy
        exact p4 j y hj h1 h2 hy24 hjy
      · rw [hc] at q4; exact absurd q4 (by decide)
  | succ d ih =>
    intro k m g c hk hm hq
    obtain ⟨m, rfl⟩ : ∃ j, m = j + 1 := ⟨m - 1, by omega⟩
    have weak : spQ (a_X5_state u) n g0 T t 0 g c := ⟨hq.1, hq.2.1, hq.2.2.1, by
      rcases hq.2.2.2 with ⟨p1, p2, p3, -⟩ | q4
      · exact Or.inl ⟨p1, p2, p3, fun j y hj => by omega⟩
      · exact Or.inr q4⟩
    rw [e_X5_spread_p5_l23, if_neg (il_nle (show k < 4 by omega) (by decide)), if_pos (ni_lx ht24 (by decide)), ni_nat (by omega)]
    by_cases hm1 : g t = 1
    · rw [if_pos hm1]
      have hl := x5_lives F (m_X5_isReached g u) ht24
      rw [hl, Option.bind_some]
      by_cases hlv : a_X5_state u (17 + 10 * t) = 1
      · rw [if_pos (by simpa using hlv)]
        have hs := x5_slotOf F (m_X5_isReached g u) (t := t) (k := k) (by omega)
        rw [hs, Option.bind_some, ni_1]
        have same : (∀ y, y < 24 → a_X5_state u (257 + 4 * t + k) = nI y → ¬ g y = 0) → spQ (a_X5_state u) n g0 T t (k + 1) g c := by
          intro hno
          refine ⟨hq.1, hq.2.1, hq.2.2.1, ?_⟩
          rcases hq.2.2.2 with ⟨p1, p2, p3, p4⟩ | q4
          · refine Or.inl ⟨p1, p2, p3, fun j y hj h1 h2 h3 h4 => ?_⟩
            by_cases hjk : j = k
            · subst hjk
              rcases hq.1 y h3 with h5 | h5
              · exact absurd h5 (hno y h3 h4)
              · rw [← p2 y h3]; exact h5
            · exact p4 j y (by omega) h1 h2 h3 h4
          · exact Or.inr q4
        rcases hv.2.2 t ht k (by omega) with h1 | ⟨y, hy, h1⟩
        · have e1 : a_X5_state (m_X5_isReached g u) (257 + 4 * t + k) = -1 := h1
          rw [if_pos e1]
          exact ih (k + 1) m g c (by omega) (by omega) (same fun y hy h2 => by rw [h1] at h2; exact absurd h2.symm (nI_ne (by omega)))
        · have e1 : a_X5_state (m_X5_isReached g u) (257 + 4 * t + k) = nI y := h1
          rw [e1, if_neg (nI_ne (by omega)), if_pos (ni_lx hy (by decide)), if_pos (ni_lx hy (by decide)), ni_nat (by omega)]
          by_cases h2 : g y = 0
          · rw [if_pos h2]
            refine ih (k + 1) m (upd g y 1) 1 (by omega) (by omega) ⟨?_, ?_, ?_, Or.inr ⟨rfl, ?_⟩⟩
            · intro x hx
              by_cases hxy : x = y
              · rw [hxy, upd_at]; exact Or.inr rfl
              · rw [upd_ne _ _ hxy]; exact hq.1 x hx
            · intro x hx hx1
              by_cases hxy : x = y
              · rw [hxy, upd_at]
              · rw [upd_ne _ _ hxy]; exact hq.2.1 x hx hx1
            · intro x hx hx1
              by_cases hxy : x = y
              · subst hxy
                exact hT t x (hq.2.2.1 t ht24 hm1) ⟨ht, hlv, hx, k, by omega, h1⟩
              · rw [upd_ne _ _ hxy] at hx1; exact hq.2.2.1 x hx hx1
            · refine gc_lt hy (fun x hx hx1 => ?_) (fun h3 => ?_) (upd_at _ _ _)
              · by_cases hxy : x = y
                · rw [hxy, upd_at]
                · rw [upd_ne _ _ hxy]; exact hq.2.1 x hx hx1
              · have := hq.2.1 y hy h3
                rw [h2] at this
                exact absurd this (by decide)
          · rw [if_neg h2]
            exact ih (k + 1) m g c (by omega) (by omega) (same fun z hz h3 => by
              rw [h1] at h3
              have := (ni_eq (by omega) (by omega)).mp h3
              subst this; exact h2)
      · rw [if_neg (by simpa using hlv)]
        exact ⟨g, c, by rw [ni_1], done g c weak fun _ h => absurd h hlv⟩
    · rw [if_neg hm1]
      refine ⟨g, c, by rw [ni_1], done g c weak fun h1 => ?_⟩
      exact absurd (hq.2.1 t ht24 h1) hm1
theorem sp_pass_p5 {F : Nat} (hF : 100 < F) {u : S_X5} {n : Nat} (hv : mOK (a_X5_state u) n) {g0 : Nat → Int32} {T : Nat → Prop} (hT : ∀ x y, T x → mG (a_X5_state u) n x y → T y) (k2 : S_X5 → Int32 → Option S_X5) :
    ∀ d t m g c, t + d = n → d < m → spQ (a_X5_state u) n g0 T t 0 g c → ∃ g' c', s_X5_spread_p5_l10 F k2 m (m_X5_isReached g u) c (nI t) = k2 (m_X5_isReached g' u) c' ∧ spQ (a_X5_state u) n g0 T n 0 g' c' := by
  intro d
  induction d with
  | zero =>
    intro t m g c ht hm hq
    obtain ⟨m, rfl⟩ : ∃ j, m = j + 1 := ⟨m - 1, by omega⟩
    obtain rfl : t = n := by omega
    have e1 : a_X5_state (m_X5_isReached g u) (1 : Int32).toNatClampNeg = nI t := hv.2.1
    refine ⟨g, c, ?_, hq⟩
    rw [e_X5_spread_p5_l10, e1, if_pos (Int32.le_refl _)]
  | succ d ih =>
    intro t m g c ht hm hq
    obtain ⟨m, rfl⟩ : ∃ j, m = j + 1 := ⟨m - 1, by omega⟩
    have hn := hv.1
    have e1 : a_X5_state (m_X5_isReached g u) (1 : Int32).toNatClampNeg = nI n := hv.2.1
    rw [e_X5_spread_p5_l10, e1, if_neg (ni_nle (show t < n by omega) (by omega))]
    obtain ⟨g1, c1, h1, h2⟩ := sp_in_p5 (F := F) hv hT (show t < n by omega) k2 (s_X5_spread_p5_l10 F k2 m) 4 0 F g c rfl (by omega) hq
    have h1' : s_X5_spread_p5_l23 F (nI t) k2 (s_X5_spread_p5_l10 F k2 m) F (m_X5_isReached g u) c 0 = _ := h1
    rw [h1']
    exact ih (t + 1) m g1 c1 (by omega) (by omega) h2
theorem sp_all_p5 {F : Nat} (hF : 100 < F) {u : S_X5} {n : Nat} (hv : mOK (a_X5_state u) n) (hg : g01 (a_X5_isReached u)) : ∃ g, s_X5_spread_p5 F u = some (m_X5_isReached g u) ∧ g01 g ∧ ∀ t, t < 24 → (g t = 1 ↔ hRe (mG (a_X5_state u) n) (fun x => x < 24 ∧ a_X5_isReached u x = 1) t) := by
  let T := hRe (mG (a_X5_state u) n) (fun x => x < 24 ∧ a_X5_isReached u x = 1)
  have hT : ∀ x y, T x → mG (a_X5_state u) n x y → T y := fun x y h e => hRe_go h e
  have key : ∀ d m g, 24 ≤ gc g + d → d + 1 < m → g01 g → (∀ x, x < 24 → a_X5_isReached u x = 1 → g x = 1) → (∀ x, x < 24 → g x = 1 → T x) → ∃ g', s_X5_spread_p5_l2 F m (m_X5_isReached g u) 1 = some (m_X5_isReached g' u) ∧ g01 g' ∧ ∀ t, t < 24 → (g' t = 1 ↔ T t) := by
    intro d
    induction d with
    | zero =>
      intro m g hd hm h1 h2 h3
      obtain ⟨m, rfl⟩ : ∃ j, m = j + 2 := ⟨m - 2, by omega⟩
      rw [e_X5_spread_p5_l2, if_neg (by decide)]
      obtain ⟨g', c', q1, q2⟩ := sp_pass_p5 hF hv hT (s_X5_spread_p5_l2 F (m + 1)) n 0 F g 0 (by omega) (by have := hv.1; omega) (g0 := g) ⟨h1, fun _ _ h => h, h3, Or.inl ⟨rfl, fun _ _ => rfl, fun x y hx => by omega, fun j y hj => by omega⟩⟩
      have q1' : s_X5_spread_p5_l10 F (s_X5_spread_p5_l2 F (m + 1)) F (m_X5_isReached g u) 0 0 = _ := q1
      rw [q1']
      rcases q2.2.2.2 with ⟨p1, p2, p3, -⟩ | ⟨-, p4⟩
      · rw [p1, e_X5_spread_p5_l2, if_pos rfl]
        refine ⟨g', rfl, q2.1, fun t ht => ⟨q2.2.2.1 t ht, fun hTt => ?_⟩⟩
        rw [p2 t ht]
        refine (hRe_least (P := fun t => t < 24 ∧ g t = 1) (fun y hy => ⟨hy.1, h2 y hy.1 hy.2⟩) (fun y z hy hz => ⟨hz.2.2.1, p3 y z hz.1 hy.2 hz⟩) hTt).2
      · have := cn_le (fun t => g' t == 1) 24
        unfold gc at p4 hd
        omega
    | succ d ih =>
      intro m g hd hm h1 h2 h3
      obtain ⟨m, rfl⟩ : ∃ j, m = j + 2 := ⟨m - 2, by omega⟩
      rw [e_X5_spread_p5_l2, if_neg (by decide)]
      obtain ⟨g', c', q1, q2⟩ := sp_pass_p5 hF hv hT (s_X5_spread_p5_l2 F (m + 1)) n 0 F g 0 (by omega) (by have := hv.1; omega) (g0 := g) ⟨h1, fun _ _ h => h, h3, Or.inl ⟨rfl, fun _ _ => rfl, fun x y hx => by omega, fun j y hj => by omega⟩⟩
      have q1' : s_X5_spread_p5_l10 F (s_X5_spread_p5_l2 F (m + 1)) F (m_X5_isReached g u) 0 0 = _ := q1
      rw [q1']
      rcases q2.2.2.2 with ⟨p1, p2, p3, -⟩ | ⟨p0, p4⟩
      · rw [p1, e_X5_spread_p5_l2, if_pos rfl]
        refine ⟨g', rfl, q2.1, fun t ht => ⟨q2.2.2.1 t ht, fun hTt => ?_⟩⟩
        rw [p2 t ht]
        refine (hRe_least (P := fun t => t < 24 ∧ g t = 1) (fun y hy => ⟨hy.1, h2 y hy.1 hy.2⟩) (fun y z hy hz => ⟨hz.2.2.1, p3 y z hz.1 hy.2 hz⟩) hTt).2
      · rw [p0]
        refine ih (m + 1) g' (by omega) (by omega) q2.1 (fun x hx hx1 => q2.2.1 x hx (h2 x hx hx1)) q2.2.2.1
  obtain ⟨g, h1, h2, h3⟩ := key 24 F (a_X5_isReached u) (by omega) (by omega) hg (fun _ _ h => h) (fun x hx h => hRe_in ⟨hx, h⟩)
  refine ⟨g, ?_, h2, h3⟩
  unfold s_X5_spread_p5
  exact h1
theorem sp_in_p6 {F : Nat} {u : S_X5} {n : Nat} (hv : mOK (a_X5_state u) n) {g0 : Nat → Int32} {T : Nat → Prop} (hT : ∀ x y, T x → mG (a_X5_state u) n x y → T y) {t : Nat} (ht : t < n) (k2 : S_X5 → Int32 → Option S_X5) (k10 : S_X5 → Int32 → Int32 → Option S_X5) :
    ∀ d k m g c, k + d = 4 → d < m → spQ (a_X5_state u) n g0 T t k g c → ∃ g' c', s_X5_spread_p6_l23 F (nI t) k2 k10 m (m_X5_isInSet g u) c (nI k) = k10 (m_X5_isInSet g' u) c' (nI (t + 1)) ∧ spQ (a_X5_state u) n g0 T (t + 1) 0 g' c' := by
  have ht24 : t < 24 := Nat.lt_of_lt_of_le ht hv.1
  have done : ∀ g c, spQ (a_X5_state u) n g0 T t 0 g c → ((g0 t = 1 → a_X5_state u (17 + 10 * t) = 1 → ∀ y, mG (a_X5_state u) n t y → c = 0 → g0 y = 1)) → spQ (a_X5_state u) n g0 T (t + 1) 0 g c := by
    intro g c h hc
    obtain ⟨q1, q2, q3, q4⟩ := h
    refine ⟨q1, q2, q3, ?_⟩
    rcases q4 with ⟨p1, p2, p3, -⟩ | q4
    · refine Or.inl ⟨p1, p2, fun x y hx hx1 hxy => ?_, fun j y hj => by omega⟩
      by_cases hxt : x = t
      · subst hxt; exact hc hx1 hxy.2.1 y hxy p1
      · exact p3 x y (by omega) hx1 hxy
    · exact Or.inr q4
  intro d
  induction d with
  | zero =>
    intro k m g c hk hm hq
    obtain ⟨m, rfl⟩ : ∃ j, m = j + 1 := ⟨m - 1, by omega⟩
    obtain rfl : k = 4 := by omega
    refine ⟨g, c, ?_, done g c ⟨hq.1, hq.2.1, hq.2.2.1, ?_⟩ ?_⟩
    · rw [e_X5_spread_p6_l23, if_pos (by decide), ni_1]
    · rcases hq.2.2.2 with ⟨p1, p2, p3, -⟩ | q4
      · exact Or.inl ⟨p1, p2, p3, fun j y hj => by omega⟩
      · exact Or.inr q4
    · intro h1 h2 y hy hc
      rcases hq.2.2.2 with ⟨p1, p2, p3, p4⟩ | ⟨q4, -⟩
      · obtain ⟨-, -, hy24, j, hj, hjy⟩ := hy
        exact p4 j y hj h1 h2 hy24 hjy
      · rw [hc] at q4; exact absurd q4 (by decide)
  | succ d ih =>
    intro k m g c hk hm hq
    obtain ⟨m, rfl⟩ : ∃ j, m = j + 1 := ⟨m - 1, by omega⟩
    have weak : spQ (a_X5_state u) n g0 T t 0 g c := ⟨hq.1, hq.2.1, hq.2.2.1, by
      rcases hq.2.2.2 with ⟨p1, p2, p3, -⟩ | q4
      · exact Or.inl ⟨p1, p2, p3, fun j y hj => by omega⟩
      · exact Or.inr q4⟩
    rw [e_X5_spread_p6_l23, if_neg (il_nle (show k < 4 by omega) (by decide)), if_pos (ni_lx ht24 (by decide)), ni_nat (by omega)]
    by_cases hm1 : g t = 1
    · rw [if_pos hm1]
      have hl := x5_lives F (m_X5_isInSet g u) ht24
      rw [hl, Option.bind_some]
      by_cases hlv : a_X5_state u (17 + 10 * t) = 1
      · rw [if_pos (by simpa using hlv)]
        have hs := x5_slotOf F (m_X5_isInSet g u) (t := t) (k := k) (by omega)
        rw [hs, Option.bind_some, ni_1]
        have same : (∀ y, y < 24 → a_X5_state u (257 + 4 * t + k) = nI y → ¬ g y = 0) → spQ (a_X5_state u) n g0 T t (k + 1) g c := by
          intro hno
          refine ⟨hq.1, hq.2.1, hq.2.2.1, ?_⟩
          rcases hq.2.2.2 with ⟨p1, p2, p3, p4⟩ | q4
          · refine Or.inl ⟨p1, p2, p3, fun j y hj h1 h2 h3 h4 => ?_⟩
            by_cases hjk : j = k
            · subst hjk
              rcases hq.1 y h3 with h5 | h5
              · exact absurd h5 (hno y h3 h4)
              · rw [← p2 y h3]; exact h5
            · exact p4 j y (by omega) h1 h2 h3 h4
          · exact Or.inr q4
        rcases hv.2.2 t ht k (by omega) with h1 | ⟨y, hy, h1⟩
        · have e1 : a_X5_state (m_X5_isInSet g u) (257 + 4 * t + k) = -1 := h1
          rw [if_pos e1]
          exact ih (k + 1) m g c (by omega) (by omega) (same fun y hy h2 => by rw [h1] at h2; exact absurd h2.symm (nI_ne (by omega)))
        · have e1 : a_X5_state (m_X5_isInSet g u) (257 + 4 * t + k) = nI y := h1
          rw [e1, if_neg (nI_ne (by omega)), if_pos (ni_lx hy (by decide)), if_pos (ni_lx hy (by decide)), ni_nat (by omega)]
          by_cases h2 : g y = 0
          · rw [if_pos h2]
            refine ih (k + 1) m (upd g y 1) 1 (by omega) (by omega) ⟨?_, ?_, ?_, Or.inr ⟨rfl, ?_⟩⟩
            · intro x hx
              by_cases hxy : x = y
              · rw [hxy, upd_at]; exact Or.inr rfl
              · rw [upd_ne _ _ hxy]; exact hq.1 x hx
            · intro x hx hx1
              by_cases hxy : x = y
              · rw [hxy, upd_at]
              · rw [upd_ne _ _ hxy]; exact hq.2.1 x hx hx1
            · intro x hx hx1
              by_cases hxy : x = y
              · subst hxy
                exact hT t x (hq.2.2.1 t ht24 hm1) ⟨ht, hlv, hx, k, by omega, h1⟩
              · rw [upd_ne _ _ hxy] at hx1; exact hq.2.2.1 x hx hx1
            · refine gc_lt hy (fun x hx hx1 => ?_) (fun h3 => ?_) (upd_at _ _ _)
              · by_cases hxy : x = y
                · rw [hxy, upd_at]
                · rw [upd_ne _ _ hxy]; exact hq.2.1 x hx hx1
              · have := hq.2.1 y hy h3
                rw [h2] at this
                exact absurd this (by decide)
          · rw [if_neg h2]
            exact ih (k + 1) m g c (by omega) (by omega) (same fun z hz h3 => by
              rw [h1] at h3
              have := (ni_eq (by omega) (by omega)).mp h3
              subst this; exact h2)
      · rw [if_neg (by simpa using hlv)]
        exact ⟨g, c, by rw [ni_1], done g c weak fun _ h => absurd h hlv⟩
    · rw [if_neg hm1]
      refine ⟨g, c, by rw [ni_1], done g c weak fun h1 => ?_⟩
      exact absurd (hq.2.1 t ht24 h1) hm1
theorem sp_pass_p6 {F : Nat} (hF : 100 < F) {u : S_X5} {n : Nat} (hv : mOK (a_X5_state u) n) {g0 : Nat → Int32} {T : Nat → Prop} (hT : ∀ x y, T x → mG (a_X5_state u) n x y → T y) (k2 : S_X5 → Int32 → Option S_X5) :
    ∀ d t m g c, t + d = n → d < m → spQ (a_X5_state u) n g0 T t 0 g c → ∃ g' c', s_X5_spread_p6_l10 F k2 m (m_X5_isInSet g u) c (nI t) = k2 (m_X5_isInSet g' u) c' ∧ spQ (a_X5_state u) n g0 T n 0 g' c' := by
  intro d
  induction d with
  | zero =>
    intro t m g c ht hm hq
    obtain ⟨m, rfl⟩ : ∃ j, m = j + 1 := ⟨m - 1, by omega⟩
    obtain rfl : t = n := by omega
    have e1 : a_X5_state (m_X5_isInSet g u) (1 : Int32).toNatClampNeg = nI t := hv.2.1
    refine ⟨g, c, ?_, hq⟩
    rw [e_X5_spread_p6_l10, e1, if_pos (Int32.le_refl _)]
  | succ d ih =>
    intro t m g c ht hm hq
    obtain ⟨m, rfl⟩ : ∃ j, m = j + 1 := ⟨m - 1, by omega⟩
    have hn := hv.1
    have e1 : a_X5_state (m_X5_isInSet g u) (1 : Int32).toNatClampNeg = nI n := hv.2.1
    rw [e_X5_spread_p6_l10, e1, if_neg (ni_nle (show t < n by omega) (by omega))]
    obtain ⟨g1, c1, h1, h2⟩ := sp_in_p6 (F := F) hv hT (show t < n by omega) k2 (s_X5_spread_p6_l10 F k2 m) 4 0 F g c rfl (by omega) hq
    have h1' : s_X5_spread_p6_l23 F (nI t) k2 (s_X5_spread_p6_l10 F k2 m) F (m_X5_isInSet g u) c 0 = _ := h1
    rw [h1']
    exact ih (t + 1) m g1 c1 (by omega) (by omega) h2
theorem sp_all_p6 {F : Nat} (hF : 100 < F) {u : S_X5} {n : Nat} (hv : mOK (a_X5_state u) n) (hg : g01 (a_X5_isInSet u)) : ∃ g, s_X5_spread_p6 F u = some (m_X5_isInSet g u) ∧ g01 g ∧ ∀ t, t < 24 → (g t = 1 ↔ hRe (mG (a_X5_state u) n) (fun x => x < 24 ∧ a_X5_isInSet u x = 1) t) := by
  let T := hRe (mG (a_X5_state u) n) (fun x => x < 24 ∧ a_X5_isInSet u x = 1)
  have hT : ∀ x y, T x → mG (a_X5_state u) n x y → T y := fun x y h e => hRe_go h e
  have key : ∀ d m g, 24 ≤ gc g + d → d + 1 < m → g01 g → (∀ x, x < 24 → a_X5_isInSet u x = 1 → g x = 1) → (∀ x, x < 24 → g x = 1 → T x) → ∃ g', s_X5_spread_p6_l2 F m (m_X5_isInSet g u) 1 = some (m_X5_isInSet g' u) ∧ g01 g' ∧ ∀ t, t < 24 → (g' t = 1 ↔ T t) := by
    intro d
    induction d with
    | zero =>
      intro m g hd hm h1 h2 h3
      obtain ⟨m, rfl⟩ : ∃ j, m = j + 2 := ⟨m - 2, by omega⟩
      rw [e_X5_spread_p6_l2, if_neg (by decide)]
      obtain ⟨g', c', q1, q2⟩ := sp_pass_p6 hF hv hT (s_X5_spread_p6_l2 F (m + 1)) n 0 F g 0 (by omega) (by have := hv.1; omega) (g0 := g) ⟨h1, fun _ _ h => h, h3, Or.inl ⟨rfl, fun _ _ => rfl, fun x y hx => by omega, fun j y hj => by omega⟩⟩
      have q1' : s_X5_spread_p6_l10 F (s_X5_spread_p6_l2 F (m + 1)) F (m_X5_isInSet g u) 0 0 = _ := q1
      rw [q1']
      rcases q2.2.2.2 with ⟨p1, p2, p3, -⟩ | ⟨-, p4⟩
      · rw [p1, e_X5_spread_p6_l2, if_pos rfl]
        refine ⟨g', rfl, q2.1, fun t ht => ⟨q2.2.2.1 t ht, fun hTt => ?_⟩⟩
        rw [p2 t ht]
        refine (hRe_least (P := fun t => t < 24 ∧ g t = 1) (fun y hy => ⟨hy.1, h2 y hy.1 hy.2⟩) (fun y z hy hz => ⟨hz.2.2.1, p3 y z hz.1 hy.2 hz⟩) hTt).2
      · have := cn_le (fun t => g' t == 1) 24
        unfold gc at p4 hd
        omega
    | succ d ih =>
      intro m g hd hm h1 h2 h3
      obtain ⟨m, rfl⟩ : ∃ j, m = j + 2 := ⟨m - 2, by omega⟩
      rw [e_X5_spread_p6_l2, if_neg (by decide)]
      obtain ⟨g', c', q1, q2⟩ := sp_pass_p6 hF hv hT (s_X5_spread_p6_l2 F (m + 1)) n 0 F g 0 (by omega) (by have := hv.1; omega) (g0 := g) ⟨h1, fun _ _ h => h, h3, Or.inl ⟨rfl, fun _ _ => rfl, fun x y hx => by omega, fun j y hj => by omega⟩⟩
      have q1' : s_X5_spread_p6_l10 F (s_X5_spread_p6_l2 F (m + 1)) F (m_X5_isInSet g u) 0 0 = _ := q1
      rw [q1']
      rcases q2.2.2.2 with ⟨p1, p2, p3, -⟩ | ⟨p0, p4⟩
      · rw [p1, e_X5_spread_p6_l2, if_pos rfl]
        refine ⟨g', rfl, q2.1, fun t ht => ⟨q2.2.2.1 t ht, fun hTt => ?_⟩⟩
        rw [p2 t ht]
        refine (hRe_least (P := fun t => t < 24 ∧ g t = 1) (fun y hy => ⟨hy.1, h2 y hy.1 hy.2⟩) (fun y z hy hz => ⟨hz.2.2.1, p3 y z hz.1 hy.2 hz⟩) hTt).2
      · rw [p0]
        refine ih (m + 1) g' (by omega) (by omega) q2.1 (fun x hx hx1 => q2.2.1 x hx (h2 x hx hx1)) q2.2.2.1
  obtain ⟨g, h1, h2, h3⟩ := key 24 F (a_X5_isInSet u) (by omega) (by omega) hg (fun _ _ h => h) (fun x hx h => hRe_in ⟨hx, h⟩)
  refine ⟨g, ?_, h2, h3⟩
  unfold s_X5_spread_p6
  exact h1
theorem sp_in_p7 {F : Nat} {u : S_X5} {n : Nat} (hv : mOK (a_X5_state u) n) {g0 : Nat → Int32} {T : Nat → Prop} (hT : ∀ x y, T x → mG (a_X5_state u) n x y → T y) {t : Nat} (ht : t < n) (k2 : S_X5 → Int32 → Option S_X5) (k10 : S_X5 → Int32 → Int32 → Option S_X5) :
    ∀ d k m g c, k + d = 4 → d < m → spQ (a_X5_state u) n g0 T t k g c → ∃ g' c', s_X5_spread_p7_l23 F (nI t) k2 k10 m (m_X5_isInnocent g u) c (nI k) = k10 (m_X5_isInnocent g' u) c' (nI (t + 1)) ∧ spQ (a_X5_state u) n g0 T (t + 1) 0 g' c' := by
  have ht24 : t < 24 := Nat.lt_of_lt_of_le ht hv.1
  have done : ∀ g c, spQ (a_X5_state u) n g0 T t 0 g c → ((g0 t = 1 → a_X5_state u (17 + 10 * t) = 1 → ∀ y, mG (a_X5_state u) n t y → c = 0 → g0 y = 1)) → spQ (a_X5_state u) n g0 T (t + 1) 0 g c := by
    intro g c h hc
    obtain ⟨q1, q2, q3, q4⟩ := h
    refine ⟨q1, q2, q3, ?_⟩
    rcases q4 with ⟨p1, p2, p3, -⟩ | q4
    · refine Or.inl ⟨p1, p2, fun x y hx hx1 hxy => ?_, fun j y hj => by omega⟩
      by_cases hxt : x = t
      · subst hxt; exact hc hx1 hxy.2.1 y hxy p1
      · exact p3 x y (by omega) hx1 hxy
    · exact Or.inr q4
  intro d
  induction d with
  | zero =>
    intro k m g c hk hm hq
    obtain ⟨m, rfl⟩ : ∃ j, m = j + 1 := ⟨m - 1, by omega⟩
    obtain rfl : k = 4 := by omega
    refine ⟨g, c, ?_, done g c ⟨hq.1, hq.2.1, hq.2.2.1, ?_⟩ ?_⟩
    · rw [e_X5_spread_p7_l23, if_pos (by decide), ni_1]
    · rcases hq.2.2.2 with ⟨p1, p2, p3, -⟩ | q4
      · exact Or.inl ⟨p1, p2, p3, fun j y hj => by omega⟩
      · exact Or.inr q4
    · intro h1 h2 y hy hc
      rcases hq.2.2.2 with ⟨p1, p2, p3, p4⟩ | ⟨q4, -⟩
      · obtain ⟨-, -, hy24, j, hj, hjy⟩ := hy
        exact p4 j y hj h1 h2 hy24 hjy
      · rw [hc] at q4; exact absurd q4 (by decide)
  | succ d ih =>
    intro k m g c hk hm hq
    obtain ⟨m, rfl⟩ : ∃ j, m = j + 1 := ⟨m - 1, by omega⟩
    have weak : spQ (a_X5_state u) n g0 T t 0 g c := ⟨hq.1, hq.2.1, hq.2.2.1, by
      rcases hq.2.2.2 with ⟨p1, p2, p3, -⟩ | q4
      · exact Or.inl ⟨p1, p2, p3, fun j y hj => by omega⟩
      · exact Or.inr q4⟩
    rw [e_X5_spread_p7_l23, if_neg (il_nle (show k < 4 by omega) (by decide)), if_pos (ni_lx ht24 (by decide)), ni_nat (by omega)]
    by_cases hm1 : g t = 1
    · rw [if_pos hm1]
      have hl := x5_lives F (m_X5_isInnocent g u) ht24
      rw [hl, Option.bind_some]
      by_cases hlv : a_X5_state u (17 + 10 * t) = 1
      · rw [if_pos (by simpa using hlv)]
        have hs := x5_slotOf F (m_X5_isInnocent g u) (t := t) (k := k) (by omega)
        rw [hs, Option.bind_some, ni_1]
        have same : (∀ y, y < 24 → a_X5_state u (257 + 4 * t + k) = nI y → ¬ g y = 0) → spQ (a_X5_state u) n g0 T t (k + 1) g c := by
          intro hno
          refine ⟨hq.1, hq.2.1, hq.2.2.1, ?_⟩
          rcases hq.2.2.2 with ⟨p1, p2, p3, p4⟩ | q4
          · refine Or.inl ⟨p1, p2, p3, fun j y hj h1 h2 h3 h4 => ?_⟩
            by_cases hjk : j = k
            · subst hjk
              rcases hq.1 y h3 with h5 | h5
              · exact absurd h5 (hno y h3 h4)
              · rw [← p2 y h3]; exact h5
            · exact p4 j y (by omega) h1 h2 h3 h4
          · exact Or.inr q4
        rcases hv.2.2 t ht k (by omega) with h1 | ⟨y, hy, h1⟩
        · have e1 : a_X5_state (m_X5_isInnocent g u) (257 + 4 * t + k) = -1 := h1
          rw [if_pos e1]
          exact ih (k + 1) m g c (by omega) (by omega) (same fun y hy h2 => by rw [h1] at h2; exact absurd h2.symm (nI_ne (by omega)))
        · have e1 : a_X5_state (m_X5_isInnocent g u) (257 + 4 * t + k) = nI y := h1
          rw [e1, if_neg (nI_ne (by omega)), if_pos (ni_lx hy (by decide)), if_pos (ni_lx hy (by decide)), ni_nat (by omega)]
          by_cases h2 : g y = 0
          · rw [if_pos h2]
            refine ih (k + 1) m (upd g y 1) 1 (by omega) (by omega) ⟨?_, ?_, ?_, Or.inr ⟨rfl, ?_⟩⟩
            · intro x hx
              by_cases hxy : x = y
              · rw [hxy, upd_at]; exact Or.inr rfl
              · rw [upd_ne _ _ hxy]; exact hq.1 x hx
            · intro x hx hx1
              by_cases hxy : x = y
              · rw [hxy, upd_at]
              · rw [upd_ne _ _ hxy]; exact hq.2.1 x hx hx1
            · intro x hx hx1
              by_cases hxy : x = y
              · subst hxy
                exact hT t x (hq.2.2.1 t ht24 hm1) ⟨ht, hlv, hx, k, by omega, h1⟩
              · rw [upd_ne _ _ hxy] at hx1; exact hq.2.2.1 x hx hx1
            · refine gc_lt hy (fun x hx hx1 => ?_) (fun h3 => ?_) (upd_at _ _ _)
              · by_cases hxy : x = y
                · rw [hxy, upd_at]
                · rw [upd_ne _ _ hxy]; exact hq.2.1 x hx hx1
              · have := hq.2.1 y hy h3
                rw [h2] at this
                exact absurd this (by decide)
          · rw [if_neg h2]
            exact ih (k + 1) m g c (by omega) (by omega) (same fun z hz h3 => by
              rw [h1] at h3
              have := (ni_eq (by omega) (by omega)).mp h3
              subst this; exact h2)
      · rw [if_neg (by simpa using hlv)]
        exact ⟨g, c, by rw [ni_1], done g c weak fun _ h => absurd h hlv⟩
    · rw [if_neg hm1]
      refine ⟨g, c, by rw [ni_1], done g c weak fun h1 => ?_⟩
      exact absurd (hq.2.1 t ht24 h1) hm1
theorem sp_pass_p7 {F : Nat} (hF : 100 < F) {u : S_X5} {n : Nat} (hv : mOK (a_X5_state u) n) {g0 : Nat → Int32} {T : Nat → Prop} (hT : ∀ x y, T x → mG (a_X5_state u) n x y → T y) (k2 : S_X5 → Int32 → Option S_X5) :
    ∀ d t m g c, t + d = n → d < m → spQ (a_X5_state u) n g0 T t 0 g c → ∃ g' c', s_X5_spread_p7_l10 F k2 m (m_X5_isInnocent g u) c (nI t) = k2 (m_X5_isInnocent g' u) c' ∧ spQ (a_X5_state u) n g0 T n 0 g' c' := by
  intro d
  induction d with
  | zero =>
    intro t m g c ht hm hq
    obtain ⟨m, rfl⟩ : ∃ j, m = j + 1 := ⟨m - 1, by omega⟩
    obtain rfl : t = n := by omega
    have e1 : a_X5_state (m_X5_isInnocent g u) (1 : Int32).toNatClampNeg = nI t := hv.2.1
    refine ⟨g, c, ?_, hq⟩
    rw [e_X5_spread_p7_l10, e1, if_pos (Int32.le_refl _)]
  | succ d ih =>
    intro t m g c ht hm hq
    obtain ⟨m, rfl⟩ : ∃ j, m = j + 1 := ⟨m - 1, by omega⟩
    have hn := hv.1
    have e1 : a_X5_state (m_X5_isInnocent g u) (1 : Int32).toNatClampNeg = nI n := hv.2.1
    rw [e_X5_spread_p7_l10, e1, if_neg (ni_nle (show t < n by omega) (by omega))]
    obtain ⟨g1, c1, h1, h2⟩ := sp_in_p7 (F := F) hv hT (show t < n by omega) k2 (s_X5_spread_p7_l10 F k2 m) 4 0 F g c rfl (by omega) hq
    have h1' : s_X5_spread_p7_l23 F (nI t) k2 (s_X5_spread_p7_l10 F k2 m) F (m_X5_isInnocent g u) c 0 = _ := h1
    rw [h1']
    exact ih (t + 1) m g1 c1 (by omega) (by omega) h2
theorem sp_all_p7 {F : Nat} (hF : 100 < F) {u : S_X5} {n : Nat} (hv : mOK (a_X5_state u) n) (hg : g01 (a_X5_isInnocent u)) : ∃ g, s_X5_spread_p7 F u = some (m_X5_isInnocent g u) ∧ g01 g ∧ ∀ t, t < 24 → (g t = 1 ↔ hRe (mG (a_X5_state u) n) (fun x => x < 24 ∧ a_X5_isInnocent u x = 1) t) := by
  let T := hRe (mG (a_X5_state u) n) (fun x => x < 24 ∧ a_X5_isInnocent u x = 1)
  have hT : ∀ x y, T x → mG (a_X5_state u) n x y → T y := fun x y h e => hRe_go h e
  have key : ∀ d m g, 24 ≤ gc g + d → d + 1 < m → g01 g → (∀ x, x < 24 → a_X5_isInnocent u x = 1 → g x = 1) → (∀ x, x < 24 → g x = 1 → T x) → ∃ g', s_X5_spread_p7_l2 F m (m_X5_isInnocent g u) 1 = some (m_X5_isInnocent g' u) ∧ g01 g' ∧ ∀ t, t < 24 → (g' t = 1 ↔ T t) := by
    intro d
    induction d with
    | zero =>
      intro m g hd hm h1 h2 h3
      obtain ⟨m, rfl⟩ : ∃ j, m = j + 2 := ⟨m - 2, by omega⟩
      rw [e_X5_spread_p7_l2, if_neg (by decide)]
      obtain ⟨g', c', q1, q2⟩ := sp_pass_p7 hF hv hT (s_X5_spread_p7_l2 F (m + 1)) n 0 F g 0 (by omega) (by have := hv.1; omega) (g0 := g) ⟨h1, fun _ _ h => h, h3, Or.inl ⟨rfl, fun _ _ => rfl, fun x y hx => by omega, fun j y hj => by omega⟩⟩
      have q1' : s_X5_spread_p7_l10 F (s_X5_spread_p7_l2 F (m + 1)) F (m_X5_isInnocent g u) 0 0 = _ := q1
      rw [q1']
      rcases q2.2.2.2 with ⟨p1, p2, p3, -⟩ | ⟨-, p4⟩
      · rw [p1, e_X5_spread_p7_l2, if_pos rfl]
        refine ⟨g', rfl, q2.1, fun t ht => ⟨q2.2.2.1 t ht, fun hTt => ?_⟩⟩
        rw [p2 t ht]
        refine (hRe_least (P := fun t => t < 24 ∧ g t = 1) (fun y hy => ⟨hy.1, h2 y hy.1 hy.2⟩) (fun y z hy hz => ⟨hz.2.2.1, p3 y z hz.1 hy.2 hz⟩) hTt).2
      · have := cn_le (fun t => g' t == 1) 24
        unfold gc at p4 hd
        omega
    | succ d ih =>
      intro m g hd hm h1 h2 h3
      obtain ⟨m, rfl⟩ : ∃ j, m = j + 2 := ⟨m - 2, by omega⟩
      rw [e_X5_spread_p7_l2, if_neg (by decide)]
      obtain ⟨g', c', q1, q2⟩ := sp_pass_p7 hF hv hT (s_X5_spread_p7_l2 F (m + 1)) n 0 F g 0 (by omega) (by have := hv.1; omega) (g0 := g) ⟨h1, fun _ _ h => h, h3, Or.inl ⟨rfl, fun _ _ => rfl, fun x y hx => by omega, fun j y hj => by omega⟩⟩
      have q1' : s_X5_spread_p7_l10 F (s_X5_spread_p7_l2 F (m + 1)) F (m_X5_isInnocent g u) 0 0 = _ := q1
      rw [q1']
      rcases q2.2.2.2 with ⟨p1, p2, p3, -⟩ | ⟨p0, p4⟩
      · rw [p1, e_X5_spread_p7_l2, if_pos rfl]
        refine ⟨g', rfl, q2.1, fun t ht => ⟨q2.2.2.1 t ht, fun hTt => ?_⟩⟩
        rw [p2 t ht]
        refine (hRe_least (P := fun t => t < 24 ∧ g t = 1) (fun y hy => ⟨hy.1, h2 y hy.1 hy.2⟩) (fun y z hy hz => ⟨hz.2.2.1, p3 y z hz.1 hy.2 hz⟩) hTt).2
      · rw [p0]
        refine ih (m + 1) g' (by omega) (by omega) q2.1 (fun x hx hx1 => q2.2.1 x hx (h2 x hx hx1)) q2.2.2.1
  obtain ⟨g, h1, h2, h3⟩ := key 24 F (a_X5_isInnocent u) (by omega) (by omega) hg (fun _ _ h => h) (fun x hx h => hRe_in ⟨hx, h⟩)
  refine ⟨g, ?_, h2, h3⟩
  unfold s_X5_spread_p7
  exact h1
