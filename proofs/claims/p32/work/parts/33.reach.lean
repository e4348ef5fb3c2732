/-! what is reached, in the class -/
def hG (f : Nat → Int32) (w : Int32) (x y : Nat) : Prop := x < 24 ∧ hE f w (4 + 4 * x) 4 y ∧ y < 24
theorem ni_pl : ∀ k, k < 24 → st_pl (nI k) 0 = nI (4 + 4 * k) := by decide
def mB (s : Int32) : Prop := ∀ t, 24 ≤ t → mb s t = false
theorem x0_reachedFrom {F : Nat} (hF : 100 < F) {f : S_X0} (hf : hOK f 24) (w : Int32) {s : Int32} (hs : mB s) : ∃ r, s_X0_reachedFrom F f s w = some r ∧ mB r ∧ ∀ t, mb r t = true ↔ hRe (hG f w) (fun x => mb s x = true) t := by
  let T := fun t => hRe (hG f w) (fun x => mb s x = true) t
  have key : ∀ d i r l n, i + d = 24 → d < n → mB r → (∀ t, mb s t = true → mb r t = true) → (∀ t, mb r t = true → T t) → (∀ t, mb l t = true → mb r t = true) →
      (∀ y z, mb r y = true → mb l y = false → hG f w y z → mb r z = true) → i ≤ cn (fun t => mb r t && !mb l t) 24 →
      ∃ r', s_X0_reachedFrom_l8 F f w n r l (nI i) = some r' ∧ mB r' ∧ ∀ t, mb r' t = true ↔ T t := by
    intro d
    induction d with
    | zero =>
      intro i r l n hi hn hB h1 h2 h3 h4 h5
      obtain ⟨n, rfl⟩ : ∃ m, n = m + 1 := ⟨n - 1, by omega⟩
      obtain rfl : i = 24 := by omega
      refine ⟨r, by rw [e_X0_reachedFrom_l8, if_pos (by decide)], hB, fun t => ⟨h2 t, fun hT => ?_⟩⟩
      have hfull := cn_full 24 (Nat.le_antisymm (cn_le _ 24) h5)
      refine hRe_least h1 (fun y z hy hz => ?_) hT
      refine h4 y z hy ?_ hz
      have := hfull y hz.1
      rw [Bool.and_eq_true] at this
      simpa using this.2
    | succ d ih =>
      intro i r l n hi hn hB h1 h2 h3 h4 h5
      obtain ⟨n, rfl⟩ : ∃ m, n = m + 1 := ⟨n - 1, by omega⟩
      rw [e_X0_reachedFrom_l8, if_neg (il_nle (show i < 24 by omega) (by decide))]
      by_cases hl : l = 0
      · rw [if_pos hl]
        refine ⟨r, rfl, hB, fun t => ⟨h2 t, fun hT => ?_⟩⟩
        exact hRe_least h1 (fun y z hy hz => h4 y z hy (by rw [hl, mb_0]) hz) hT
      · rw [if_neg hl]
        obtain ⟨k, hk, hb, hlow⟩ := mb_least hl
        have hk24 : k < 24 := by
          apply Classical.byContradiction
          intro hc
          have := hB k (by omega)
          rw [h3 k hb] at this
          cases this
        rw [ntz_low hk hb hlow, ni_pl k hk24]
        obtain ⟨a, ha, hab⟩ := x0_among hF hf w (a := 4 + 4 * k) (m := 4) (by omega)
        have ha' : s_X0_heldAmong F f (nI (4 + 4 * k)) 4 w = some a := ha
        rw [ha']
        dsimp only [Option.bind_some]
        rw [ni_1]
        have hnew : ∀ t, mb (a &&& (r ^^^ (-1))) t = true ↔ mb a t = true ∧ mb r t = false := by
          intro t
          rw [mb_and]
          by_cases ht : t < 32
          · rw [mb_not _ ht]; simp
          · rw [mb_big a (by omega), mb_big r (by omega)]; simp
        have ha24 : ∀ t, mb a t = true → t < 24 := fun t ht => ((hab t).mp ht).1
        have hl' : ∀ t, t < 32 → mb ((l &&& ((1 <<< (nI k &&& 31)) ^^^ (-1))) ||| (a &&& (r ^^^ (-1)))) t = ((mb l t && !decide (k = t)) || (mb a t && !mb r t)) := by
          intro t ht
          rw [mb_or, mb_and, mb_and, mb_not _ ht, mb_not _ ht, mb_one k hk t ht]
        have hr' : ∀ t, t < 32 → mb (r ||| (a &&& (r ^^^ (-1)))) t = (mb r t || mb a t) := by
          intro t ht
          rw [mb_or, mb_and, mb_not _ ht]
          cases mb r t <;> simp
        refine ih (i + 1) _ _ n (by omega) (by omega) ?_ ?_ ?_ ?_ ?_ ?_
        · intro t ht
          by_cases ht2 : t < 32
          · rw [hr' t ht2, hB t ht]
            cases hat : mb a t with
            | false => rfl
            | true => exact absurd (ha24 t hat) (by omega)
          · exact mb_big _ (by omega)
        · intro t ht
          rw [mb_or, h1 t ht]; rfl
        · intro t ht
          rw [mb_or, Bool.or_eq_true] at ht
          rcases ht with ht | ht
          · exact h2 t ht
          · obtain ⟨p1, p2⟩ := (hnew t).mp ht
            obtain ⟨q1, q2⟩ := (hab t).mp p1
            exact hRe_go (h2 k (h3 k hb)) ⟨hk24, q2, q1⟩
        · intro t ht
          by_cases ht2 : t < 32
          · rw [hl' t ht2] at ht
            rw [hr' t ht2]
            rw [Bool.or_eq_true, Bool.and_eq_true, Bool.and_eq_true] at ht
            rcases ht with ht | ht
            · rw [h3 t ht.1]; rfl
            · rw [ht.1]; simp
          · rw [mb_big _ (by omega)] at ht; cases ht
        · intro y z hy hyl hz
          have hz24 := hz.2.2
          rw [hr' z (by omega)]
          rw [hr' y (by have := hz.1; omega)] at hy
          rw [hl' y (by have := hz.1; omega)] at hyl
          by_cases hyk : k = y
          · subst hyk
            rw [(hab z).mpr ⟨hz24, hz.2.1⟩]; simp
          · rw [Bool.or_eq_false_iff] at hyl
            have e1 : mb l y = false := by simpa [hyk] using hyl.1
            have e2 : mb r y = true := by
              cases hry : mb r y with
              | true => rfl
              | false => rw [hry] at hy hyl; simp at hy hyl; rw [hy] at hyl; exact absurd hyl.2 (by decide)
            rw [h4 y z e2 e1 hz]; rfl
        · have e : cn (fun t => mb (r ||| (a &&& (r ^^^ (-1)))) t && !mb ((l &&& ((1 <<< (nI k &&& 31)) ^^^ (-1))) ||| (a &&& (r ^^^ (-1)))) t) 24 = cn (fun t => mb r t && !mb l t) 24 + 1 := by
            refine cn_one 24 hk24 ?_ ?_ ?_
            · rw [hb]; simp
            · rw [hr' k hk, hl' k hk, h3 k hb]
              simp
            · intro t ht htk
              rw [hr' t (by omega), hl' t (by omega)]
              cases hrt : mb r t with
              | true => simp [Ne.symm htk]
              | false => cases mb a t <;> simp
          rw [e]
          omega
  obtain ⟨r, h1, h2, h3⟩ := key 24 0 s s F rfl (by omega) hs (fun _ h => h) (fun t h => hRe_in h) (fun _ h => h) (fun y z h1 h2 => by rw [h1] at h2; cases h2) (Nat.zero_le _)
  exact ⟨r, h1, h2, h3⟩
/-- what the hands reach, without the place w -/
def hTop (f : Nat → Int32) (w : Int32) (t : Nat) : Prop := hRe (hG f w) (fun x => x < 24 ∧ hE f w 0 4 x) t
/-- what a thing reaches -/
def hFrom (f : Nat → Int32) (x t : Nat) : Prop := hRe (hG f (-1)) (hG f (-1) x) t
theorem x0_without {F : Nat} (hF : 100 < F) {f : S_X0} (hf : hOK f 24) (w : Int32) : ∃ r, s_X0_reachedWithout F f w = some r ∧ mB r ∧ ∀ t, mb r t = true ↔ hTop f w t := by
  obtain ⟨a, h1, h2⟩ := x0_among hF hf w (a := 0) (m := 4) (by omega)
  obtain ⟨r, h3, h4, h5⟩ := x0_reachedFrom hF hf w (s := a) (fun t ht => by
    cases hb : mb a t with
    | false => rfl
    | true => exact absurd ((h2 t).mp hb).1 (by omega))
  refine ⟨r, ?_, h4, fun t => ?_⟩
  · have h1' : s_X0_heldAmong F f 0 4 w = some a := h1
    unfold s_X0_reachedWithout
    rw [h1', Option.bind_some, h3, Option.bind_some]
  · rw [h5]
    constructor
    · exact hRe_mono (fun _ _ h => h) (fun x hx => (h2 x).mp hx)
    · exact hRe_mono (fun _ _ h => h) (fun x hx => (h2 x).mpr hx)
theorem x0_reached {F : Nat} (hF : 100 < F) {f : S_X0} (hf : hOK f 24) : ∃ r, s_X0_reached F f = some r ∧ mB r ∧ ∀ t, mb r t = true ↔ hTop f (-1) t := by
  obtain ⟨r, h1, h2⟩ := x0_without hF hf (-1)
  exact ⟨r, by unfold s_X0_reached; rw [h1, Option.bind_some], h2⟩
theorem x0_reachOf {F : Nat} (hF : 100 < F) {f : S_X0} (hf : hOK f 24) {x : Nat} (hx : x < 24) : ∃ r, s_X0_reachOf F f (nI x) = some r ∧ mB r ∧ ∀ t, mb r t = true ↔ hFrom f x t := by
  obtain ⟨a, h1, h2⟩ := x0_among hF hf (-1) (a := 4 + 4 * x) (m := 4) (by omega)
  obtain ⟨r, h3, h4, h5⟩ := x0_reachedFrom hF hf (-1) (s := a) (fun t ht => by
    cases hb : mb a t with
    | false => rfl
    | true => exact absurd ((h2 t).mp hb).1 (by omega))
  refine ⟨r, ?_, h4, fun t => ?_⟩
  · have h1' : s_X0_heldAmong F f (nI (4 + 4 * x)) 4 (-1) = some a := h1
    unfold s_X0_reachOf
    rw [ni_pl x hx, h1', Option.bind_some, h3, Option.bind_some]
  · rw [h5]
    constructor
    · exact hRe_mono (fun _ _ h => h) (fun y hy => ⟨hx, ((h2 y).mp hy).2, ((h2 y).mp hy).1⟩)
    · exact hRe_mono (fun _ _ h => h) (fun y hy => (h2 y).mpr ⟨hy.2.2, hy.2.1⟩)
