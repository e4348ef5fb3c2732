/-! what the engine reaches -/
theorem EH.edge {u : S_X3} {th sl : Nat → Int32} (q : EH u th sl) {x y : Nat} (z : hG (a_X3_hold u) (-1) x y) : x < 6 ∧ y < 6 ∧ mb (a_X3_living u) x = true ∧ ∃ k, k < 24 ∧ k / 4 = x ∧ sl k = nI y := by
  obtain ⟨q1, q2, q3, q4, q5, q6⟩ := q
  obtain ⟨h1, ⟨k, h2, h3, h4, h5⟩, h6⟩ := z
  have hk : 4 + 4 * x + (k - (4 + 4 * x)) = k := by omega
  have hlx : mb (a_X3_living u) x = true := by
    cases hl : mb (a_X3_living u) x with
    | true => rfl
    | false =>
      have := q5 x h1 hl (k - (4 + 4 * x)) (by omega)
      rw [hk, h5] at this
      exact absurd this (nI_ne (by omega))
  have hx := q6 x hlx
  have hy : y < 6 := by
    rcases q4 k (by omega) with z | ⟨t, g1, g2, -⟩
    · rw [h5] at z; exact absurd z (nI_ne (by omega))
    · rw [h5] at g2
      have := (ni_eq (by omega) (by omega)).mp g2
      omega
  refine ⟨hx, hy, hlx, k - 4, by omega, by omega, ?_⟩
  rw [q2 (k - 4) (by omega), show 4 + (k - 4) = k by omega, h5]
theorem EH.of_edge {u : S_X3} {th sl : Nat → Int32} (q : EH u th sl) {k y : Nat} (hk : k < 24) (hs : sl k = nI y) (hy : y < 6) : hG (a_X3_hold u) (-1) (k / 4) y := by
  refine ⟨by omega, ⟨4 + k, by omega, by omega, nI_ne (by omega), ?_⟩, by omega⟩
  rw [← q.2.1 k hk, hs]
theorem EH.slot {u : S_X3} {th sl : Nat → Int32} (q : EH u th sl) {k : Nat} (hk : k < 28) : sl k = -1 ∨ ∃ t, t < 6 ∧ sl k = nI t ∧ mb (a_X3_living u) t = true := by
  by_cases h : k < 24
  · rw [q.2.1 k h]; exact q.2.2.2.1 (4 + k) (by omega)
  · have := q.2.2.1 (k - 24) (by omega)
    rw [show 24 + (k - 24) = k by omega] at this
    rw [this]; exact q.2.2.2.1 (k - 24) (by omega)
theorem i32_neg1 : (-1 : Int32) < 0 := by decide
theorem or_0 (a : Int32) : a ||| 0 = a := by
  apply mb_ext
  intro t _
  rw [mb_or, mb_0, Bool.or_false]
abbrev eG (u : S_X3) : Nat → Nat → Prop := hG (a_X3_hold u) (-1)
theorem bit1 (s : Int32) {t : Nat} (ht : t < 32) : ((s >>> (nI t &&& 31)) &&& 1 = 1) ↔ mb s t = true := by
  rw [mb_bit s ht]
  cases mb s t with
  | true => exact ⟨fun _ => rfl, fun _ => rfl⟩
  | false => exact ⟨fun z => absurd z (by decide), fun z => by cases z⟩
/-- one round -/
theorem e_sweep {F : Nat} (hF : 6400 < F) {u : S_X3} {th sl : Nat → Int32} (q : EH u th sl) (v4 : Int32) (k5 : Int32 → Int32 → Option Int32) (a : Int32) :
    ∃ b, s_L_reach_l15 F 48 28 th sl v4 k5 F a 0 = k5 b (v4 + 1) ∧ (∀ t, mb a t = true → mb b t = true) ∧ (∀ t, mb b t = true → hRe (eG u) (fun x => mb a x = true) t) ∧ ∀ x y, mb a x = true → eG u x y → mb b y = true := by
  have key : ∀ d k c n, k + d = 24 → d < n → (∀ t, mb a t = true → mb c t = true) → (∀ t, mb c t = true → hRe (eG u) (fun x => mb a x = true) t) → (∀ j y, j < k → y < 6 → mb a (j / 4) = true → sl j = nI y → mb c y = true) →
      ∃ b, s_L_reach_l15 F 48 28 th sl v4 k5 n c (nI k) = k5 b (v4 + 1) ∧ (∀ t, mb a t = true → mb b t = true) ∧ (∀ t, mb b t = true → hRe (eG u) (fun x => mb a x = true) t) ∧ ∀ j y, j < 24 → y < 6 → mb a (j / 4) = true → sl j = nI y → mb b y = true := by
    intro d
    induction d with
    | zero =>
      intro k c n hk hn h1 h2 h3
      obtain ⟨n, rfl⟩ : ∃ j, n = j + 1 := ⟨n - 1, by omega⟩
      obtain rfl : k = 24 := by omega
      exact ⟨c, by rw [e_L_reach_l15, if_pos (by decide)], h1, h2, h3⟩
    | succ d ih =>
      intro k c n hk hn h1 h2 h3
      obtain ⟨n, rfl⟩ : ∃ j, n = j + 1 := ⟨n - 1, by omega⟩
      have hk24 : k < 24 := by omega
      rw [e_L_reach_l15, if_neg (il_nle hk24 (by decide)), ni_d4 k (by omega), e_lives F th (by omega), q.1 (k / 4) (by omega), if_pos (ni_lx (show k < 28 by omega) (by decide)), if_pos (ni_lx (show k < 28 by omega) (by decide)), ni_nat (by omega), or_0, ni_1, Option.bind_some]
      have same : (mb a (k / 4) = true → ∀ y, y < 6 → sl k = nI y → mb c y = true) → ∃ b, s_L_reach_l15 F 48 28 th sl v4 k5 n c (nI (k + 1)) = k5 b (v4 + 1) ∧ (∀ t, mb a t = true → mb b t = true) ∧ (∀ t, mb b t = true → hRe (eG u) (fun x => mb a x = true) t) ∧ ∀ j y, j < 24 → y < 6 → mb a (j / 4) = true → sl j = nI y → mb b y = true := fun hz => by
        refine ih (k + 1) c n (by omega) (by omega) h1 h2 fun j y hj hy ha hs => ?_
        by_cases hjk : j = k
        · subst hjk; exact hz ha y hy hs
        · exact h3 j y (by omega) hy ha hs
      by_cases hb : mb c (k / 4) = true
      · rw [if_pos ((bit1 c (by omega)).mpr hb)]
        rcases q.slot (show k < 28 by omega) with z | ⟨y, hy, hz, hly⟩
        · have nope : mb a (k / 4) = true → ∀ y, y < 6 → sl k = nI y → mb c y = true := fun _ y hy hs => by rw [z] at hs; exact absurd hs.symm (nI_ne (by omega))
          cases hl : mb (a_X3_living u) (k / 4) with
          | true => rw [if_pos rfl, z, if_pos i32_neg1]; exact same nope
          | false => rw [if_neg Bool.false_ne_true]; exact same nope
        · have he := q.of_edge hk24 hz hy
          have hl := (q.edge he).2.2.1
          rw [hl, if_pos rfl, hz, if_neg (ni_nneg (by omega))]
          refine ih (k + 1) _ n (by omega) (by omega) (fun t ht => ?_) (fun t ht => ?_) (fun j y' hj hy' ha hs => ?_)
          · rw [mb_set _ (by omega), h1 t ht]; split <;> rfl
          · rw [mb_set _ (by omega)] at ht
            by_cases hty : t = y
            · rw [hty]; exact hRe_go (h2 _ hb) he
            · rw [if_neg hty] at ht; exact h2 t ht
          · rw [mb_set _ (by omega)]
            by_cases hyy : y' = y
            · rw [if_pos hyy]
            · rw [if_neg hyy]
              by_cases hjk : j = k
              · subst hjk
                rw [hz] at hs
                exact absurd ((ni_eq (by omega) (by omega)).mp hs).symm hyy
              · exact h3 j y' (by omega) hy' ha hs
      · rw [if_neg (fun z => hb ((bit1 c (by omega)).mp z))]
        exact same fun ha => absurd (h1 _ ha) hb
  obtain ⟨b, h1, h2, h3, h4⟩ := key 24 0 a F rfl (by omega) (fun _ h => h) (fun t h => hRe_in h) (fun j y hj => by omega)
  refine ⟨b, h1, h2, h3, fun x y hx hxy => ?_⟩
  obtain ⟨e1, e2, e3, k, e4, e5, e6⟩ := q.edge hxy
  exact h4 k y e4 e2 (by rw [e5]; exact hx) e6
theorem e_reach {F : Nat} (hF : 6400 < F) {u : S_X3} {th sl : Nat → Int32} (q : EH u th sl) {s : Int32} (hs : ∀ t, mb s t = true → t < 6) :
    ∃ r, s_L_reach F 48 28 th sl s = some r ∧ (∀ t, mb r t = true ↔ hRe (eG u) (fun x => mb s x = true) t) ∧ ∀ t, mb r t = true → t < 6 := by
  have lt6 : ∀ {a : Int32}, (∀ t, mb a t = true → t < 6) → ∀ {t}, hRe (eG u) (fun x => mb a x = true) t → t < 6 := fun ha t z => hRe_least (P := fun t => t < 6) (fun y hy => ha y hy) (fun y z _ hz => (q.edge hz).2.1) z
  have key : ∀ d i a n, i + d = 6 → d < n → (∀ t, mb s t = true → mb a t = true) → (∀ t, mb a t = true → hRe (eG u) (fun x => mb s x = true) t) → ((∀ x y, mb a x = true → eG u x y → mb a y = true) ∨ i ≤ cn (mb a) 6) →
      ∃ r, s_L_reach_l5 F 48 28 th sl n a (nI i) = some r ∧ ∀ t, mb r t = true ↔ hRe (eG u) (fun x => mb s x = true) t := by
    intro d
    induction d with
    | zero =>
      intro i a n hi hn h1 h2 h3
      obtain ⟨n, rfl⟩ : ∃ j, n = j + 1 := ⟨n - 1, by omega⟩
      obtain rfl : i = 6 := by omega
      refine ⟨a, by rw [e_L_reach_l5, if_pos (by decide)], fun t => ⟨h2 t, fun z => ?_⟩⟩
      refine hRe_least (P := fun t => mb a t = true) h1 ?_ z
      rcases h3 with h3 | h3
      · exact h3
      · intro x y _ hxy
        have hfull := cn_full 6 (Nat.le_antisymm (cn_le _ 6) h3)
        exact hfull y (q.edge hxy).2.1
    | succ d ih =>
      intro i a n hi hn h1 h2 h3
      obtain ⟨n, rfl⟩ : ∃ j, n = j + 1 := ⟨n - 1, by omega⟩
      have ha6 : ∀ t, mb a t = true → t < 6 := fun t ht => lt6 hs (h2 t ht)
      obtain ⟨b, b1, b2, b3, b4⟩ := e_sweep hF q (nI i) (s_L_reach_l5 F 48 28 th sl n) a
      rw [e_L_reach_l5, if_neg (il_nle (show i < 6 by omega) (by decide)), b1, ni_1]
      refine ih (i + 1) b n (by omega) (by omega) (fun t ht => b2 t (h1 t ht)) (fun t ht => ?_) ?_
      · exact hRe_least (P := fun t => hRe (eG u) (fun x => mb s x = true) t) (fun y hy => h2 y hy) (fun y z hy hz => hRe_go hy hz) (b3 t ht)
      · by_cases hc : ∀ x y, mb a x = true → eG u x y → mb a y = true
        · refine Or.inl fun x y hx hxy => ?_
          have hxa : mb a x = true := hRe_least (P := fun t => mb a t = true) (fun y hy => hy) (fun y z hy hz => hc y z hy hz) (b3 x hx)
          exact b4 x y hxa hxy
        · have hc2 : ∃ x y, mb a x = true ∧ eG u x y ∧ ¬ mb a y = true := by
            apply Classical.byContradiction
            intro hn
            apply hc
            intro x y hx hxy
            apply Classical.byContradiction
            intro hy
            exact hn ⟨x, y, hx, hxy, hy⟩
          obtain ⟨x, y, hx, hxy, hy⟩ := hc2
          have hi' : i ≤ cn (mb a) 6 := h3.resolve_left hc
          have hlt := cn_lt_of (p := mb a) (q := mb b) (n := 6) (i := y) (q.edge hxy).2.1 (fun k _ hk => b2 k hk) (by simpa using hy) (b4 x y hx hxy)
          exact Or.inr (by omega)
  obtain ⟨r, r1, r2⟩ := key 6 0 s F rfl (by omega) (fun _ h => h) (fun t h => hRe_in h) (Or.inr (Nat.zero_le _))
  exact ⟨r, r1, r2, fun t ht => lt6 hs ((r2 t).mp ht)⟩
/-- what the hands reach -/
theorem e_held {F : Nat} (hF : 6400 < F) {u : S_X3} {th sl : Nat → Int32} (q : EH u th sl) : ∃ r, s_L_held F 48 28 th sl = some r ∧ (∀ t, mb r t = true ↔ hTop (a_X3_hold u) (-1) t) ∧ ∀ t, mb r t = true → t < 6 := by
  have key : ∀ d k c n, k + d = 28 → d < n → 24 ≤ k → (∀ t, mb c t = true ↔ ∃ j, 24 ≤ j ∧ j < k ∧ t < 6 ∧ sl j = nI t) →
      ∃ b, s_L_held_l5 F 48 28 th sl n c (nI k) = s_L_held_b35 F 48 28 th sl b ∧ ∀ t, mb b t = true ↔ ∃ j, 24 ≤ j ∧ j < 28 ∧ t < 6 ∧ sl j = nI t := by
    intro d
    induction d with
    | zero =>
      intro k c n hk hn h1 h2
      obtain ⟨n, rfl⟩ : ∃ j, n = j + 1 := ⟨n - 1, by omega⟩
      obtain rfl : k = 28 := by omega
      exact ⟨c, by rw [e_L_held_l5, if_pos (by decide)], h2⟩
    | succ d ih =>
      intro k c n hk hn h1 h2
      obtain ⟨n, rfl⟩ : ∃ j, n = j + 1 := ⟨n - 1, by omega⟩
      have hk28 : k < 28 := by omega
      rw [e_L_held_l5, if_neg (il_nle hk28 (by decide)), if_pos (ni_lx hk28 (by decide)), if_pos (ni_lx hk28 (by decide)), ni_nat (by omega), or_0, ni_1]
      rcases q.slot hk28 with z | ⟨y, hy, hz, -⟩
      · rw [z, if_pos i32_neg1]
        refine ih (k + 1) c n (by omega) (by omega) (by omega) fun t => ?_
        rw [h2 t]
        constructor
        · rintro ⟨j, g1, g2, g3, g4⟩; exact ⟨j, g1, by omega, g3, g4⟩
        · rintro ⟨j, g1, g2, g3, g4⟩
          refine ⟨j, g1, ?_, g3, g4⟩
          by_cases hjk : j = k
          · subst hjk; rw [z] at g4; exact absurd g4.symm (nI_ne (by omega))
          · omega
      · rw [hz, if_neg (ni_nneg (by omega))]
        refine ih (k + 1) _ n (by omega) (by omega) (by omega) fun t => ?_
        rw [mb_set _ (by omega)]
        by_cases hty : t = y
        · rw [if_pos hty, hty]
          exact ⟨fun _ => ⟨k, h1, by omega, hy, hz⟩, fun _ => rfl⟩
        · rw [if_neg hty, h2 t]
          constructor
          · rintro ⟨j, g1, g2, g3, g4⟩; exact ⟨j, g1, by omega, g3, g4⟩
          · rintro ⟨j, g1, g2, g3, g4⟩
            refine ⟨j, g1, ?_, g3, g4⟩
            by_cases hjk : j = k
            · subst hjk; rw [hz] at g4; exact absurd ((ni_eq (by omega) (by omega)).mp g4).symm hty
            · omega
  obtain ⟨b, b1, b2⟩ := key 4 24 0 F rfl (by omega) (Nat.le_refl _) (fun t => by
    rw [mb_0]
    exact ⟨fun z => (by cases z), fun ⟨j, g1, g2, _⟩ => by omega⟩)
  have hb6 : ∀ t, mb b t = true → t < 6 := fun t ht => ((b2 t).mp ht).choose_spec.2.2.1
  obtain ⟨r, r1, r2, r3⟩ := e_reach hF q hb6
  refine ⟨r, ?_, fun t => ?_, r3⟩
  · have b1' : s_L_held F 48 28 th sl = s_L_held_b35 F 48 28 th sl b := b1
    rw [b1']
    unfold s_L_held_b35
    rw [r1, Option.bind_some]
  · rw [r2 t]
    refine hRe_E (fun _ _ => Iff.rfl) (fun x => ?_) t
    rw [b2 x]
    constructor
    · rintro ⟨j, g1, g2, g3, g4⟩
      have := q.2.2.1 (j - 24) (by omega)
      rw [show 24 + (j - 24) = j by omega, g4] at this
      exact ⟨by omega, j - 24, by omega, by omega, nI_ne (by omega), this.symm⟩
    · rintro ⟨g1, k, g2, g3, g4, g5⟩
      have hx : x < 6 := by
        rcases q.2.2.2.1 k (by omega) with z | ⟨t, z1, z2, -⟩
        · rw [g5] at z; exact absurd z (nI_ne (by omega))
        · rw [g5] at z2
          have := (ni_eq (by omega) (by omega)).mp z2
          omega
      exact ⟨24 + k, by omega, by omega, hx, by rw [q.2.2.1 k (by omega), g5]⟩
