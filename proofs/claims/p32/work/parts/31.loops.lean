/-! loops that count up -/
def fr {α : Type} (g : Nat → α → α) : Nat → Nat → α → α
  | _, 0, a => a
  | k, d + 1, a => fr g (k + 1) d (g k a)
theorem lf_for {α β : Type} (f : Nat → Nat → α → Option β) (N : Nat) (e : α → Option β) (g : Nat → α → α) (P : Nat → α → Prop)
    (hN : ∀ n a, P N a → f (n + 1) N a = e a) (hS : ∀ n k a, k < N → P k a → f (n + 1) k a = f n (k + 1) (g k a) ∧ P (k + 1) (g k a)) :
    ∀ d k a n, k + d = N → d < n → P k a → f n k a = e (fr g k d a) ∧ P N (fr g k d a) := by
  intro d
  induction d with
  | zero =>
    intro k a n hk hn hp
    obtain ⟨m, rfl⟩ : ∃ m, n = m + 1 := ⟨n - 1, by omega⟩
    obtain rfl : k = N := by omega
    exact ⟨hN m a hp, hp⟩
  | succ d ih =>
    intro k a n hk hn hp
    obtain ⟨m, rfl⟩ : ∃ m, n = m + 1 := ⟨n - 1, by omega⟩
    obtain ⟨h1, h2⟩ := hS m k a (by omega) hp
    rw [h1]
    exact ih (k + 1) (g k a) m (by omega) (by omega) h2
theorem fr_inv {α : Type} (g : Nat → α → α) (N : Nat) (P : Nat → α → Prop) (hS : ∀ k a, k < N → P k a → P (k + 1) (g k a)) : ∀ d k a, k + d = N → P k a → P N (fr g k d a) := by
  intro d
  induction d with
  | zero =>
    intro k a hk hp
    obtain rfl : k = N := by omega
    exact hp
  | succ d ih => intro k a hk hp; exact ih (k + 1) (g k a) (by omega) (hS k a (by omega) hp)
/-- how many numbers below -/
def cn (p : Nat → Bool) : Nat → Nat
  | 0 => 0
  | n + 1 => cn p n + (if p n then 1 else 0)
theorem cn_le (p : Nat → Bool) (n : Nat) : cn p n ≤ n := by
  induction n with
  | zero => exact Nat.le_refl _
  | succ n ih => unfold cn; split <;> omega
theorem cn_congr {p q : Nat → Bool} (n : Nat) (h : ∀ k, k < n → p k = q k) : cn p n = cn q n := by
  induction n with
  | zero => rfl
  | succ n ih => unfold cn; rw [ih (fun k hk => h k (by omega)), h n (by omega)]
theorem cn_mono {p q : Nat → Bool} (n : Nat) (h : ∀ k, k < n → p k = true → q k = true) : cn p n ≤ cn q n := by
  induction n with
  | zero => exact Nat.le_refl _
  | succ n ih =>
    unfold cn
    have := ih (fun k hk => h k (by omega))
    cases hp : p n with
    | false => simp; omega
    | true => rw [h n (by omega) hp]; simp; omega
theorem cn_full {p : Nat → Bool} (n : Nat) (h : cn p n = n) : ∀ k, k < n → p k = true := by
  induction n with
  | zero => intro k hk; omega
  | succ n ih =>
    unfold cn at h
    have h1 := cn_le p n
    intro k hk
    by_cases hp : p n = true
    · rw [if_pos hp] at h
      by_cases hk2 : k = n
      · rw [hk2]; exact hp
      · exact ih (by omega) k (by omega)
    · rw [if_neg hp] at h; omega
theorem cn_zero {p : Nat → Bool} (n : Nat) (h : ∀ k, k < n → p k = false) : cn p n = 0 := by
  induction n with
  | zero => rfl
  | succ n ih => unfold cn; rw [ih (fun k hk => h k (by omega)), h n (by omega)]; rfl
theorem cn_of0 {p : Nat → Bool} (n : Nat) (h : cn p n = 0) : ∀ k, k < n → p k = false := by
  induction n with
  | zero => intro k hk; omega
  | succ n ih =>
    unfold cn at h
    intro k hk
    cases hp : p n with
    | true => rw [hp] at h; simp at h
    | false =>
      by_cases hk2 : k = n
      · rw [hk2]; exact hp
      · exact ih (by omega) k (by omega)
theorem cn_one {p q : Nat → Bool} {j : Nat} (n : Nat) (hj : j < n) (h1 : p j = false) (h2 : q j = true) (h : ∀ k, k < n → k ≠ j → q k = p k) : cn q n = cn p n + 1 := by
  induction n with
  | zero => omega
  | succ n ih =>
    unfold cn
    by_cases hn : j = n
    · subst hn
      rw [h1, h2, cn_congr j (fun k hk => h k (by omega) (by omega))]
      rfl
    · rw [ih (by omega) (fun k hk => h k (by omega)), h n (by omega) (by omega)]
      omega
theorem cn_add (p : Nat → Bool) (n m : Nat) : cn p (n + m) = cn p n + cn (fun k => p (n + k)) m := by
  induction m with
  | zero => rfl
  | succ m ih =>
    show cn p (n + m) + (if p (n + m) then 1 else 0) = cn p n + (cn (fun k => p (n + k)) m + (if p (n + m) then 1 else 0))
    rw [ih]; omega
theorem fr_cn (p : Nat → Bool) : ∀ d k a, fr (fun k a => if p k then a + 1 else a) k d (a + cn p k) = a + cn p (k + d) := by
  intro d
  induction d with
  | zero => intro k a; rfl
  | succ d ih =>
    intro k a
    unfold fr
    rw [show k + (d + 1) = k + 1 + d by omega, ← ih (k + 1) a]
    congr 1
    show (if p k then a + cn p k + 1 else a + cn p k) = a + (cn p k + (if p k then 1 else 0))
    split <;> rfl
theorem fr_cn0 (p : Nat → Bool) (N : Nat) : fr (fun k a => if p k then a + 1 else a) 0 N 0 = cn p N := by
  have := fr_cn p N 0 0
  simpa [cn] using this
theorem il_nle {c k : Nat} (h : k < c) (hc : c < 2147483648) : ¬ (OfNat.ofNat c : Int32) ≤ nI k := ni_nle h hc
theorem ni_lx {k n : Nat} (h : k < n) (hn : n < 2147483648) : lf_ix (nI k) n := ni_in h (by omega)
/-- some of the smallest closed set -/
def hRe (E : Nat → Nat → Prop) (S : Nat → Prop) (x : Nat) : Prop := ∀ P : Nat → Prop, (∀ y, S y → P y) → (∀ y z, P y → E y z → P z) → P x
theorem hRe_in {E : Nat → Nat → Prop} {S : Nat → Prop} {x : Nat} (h : S x) : hRe E S x := fun _ h1 _ => h1 x h
theorem hRe_go {E : Nat → Nat → Prop} {S : Nat → Prop} {x y : Nat} (h : hRe E S x) (e : E x y) : hRe E S y := fun P h1 h2 => h2 x y (h P h1 h2) e
theorem hRe_mono {E E' : Nat → Nat → Prop} {S S' : Nat → Prop} {x : Nat} (hE : ∀ a b, E a b → E' a b) (hS : ∀ a, S a → S' a) (h : hRe E S x) : hRe E' S' x := fun P h1 h2 => h P (fun y hy => h1 y (hS y hy)) (fun y z hy e => h2 y z hy (hE y z e))
theorem hRe_least {E : Nat → Nat → Prop} {S P : Nat → Prop} (h1 : ∀ y, S y → P y) (h2 : ∀ y z, P y → E y z → P z) {x : Nat} (h : hRe E S x) : P x := h P h1 h2
theorem ni_nneg {k : Nat} (h : k < 2147483648) : ¬ nI k < 0 := ni_nlt (N := 0) (Nat.zero_le k) h
