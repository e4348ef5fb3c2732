/-! rows of reports: in the order made, and in the order heard -/
abbrev rw5 : Type := Int32 × Int32 × Int32 × Int32 × Int32
def rwA (a : Nat → Int32) (b : Nat) : rw5 := (a b, a (b + 1), a (b + 2), a (b + 3), a (b + 4))
def du (r : rw5) : Int := r.2.2.2.1.toInt
def rof (r : rw5) : Int32 := r.2.1
def rby (r : rw5) : Int32 := r.2.2.1
def insR (r : rw5) : List rw5 → List rw5
  | [] => [r]
  | c :: C => if du r < du c then r :: c :: C else c :: insR r C
def srt (R : Nat → rw5) : Nat → List rw5
  | 0 => []
  | m + 1 => insR (R m) (srt R m)
theorem insR_len (r : rw5) (L : List rw5) : (insR r L).length = L.length + 1 := by
  induction L with
  | nil => rfl
  | cons c C ih => unfold insR; split <;> simp [ih]
theorem srt_len (R : Nat → rw5) (m : Nat) : (srt R m).length = m := by
  induction m with
  | zero => rfl
  | succ m ih => unfold srt; rw [insR_len, ih]
theorem srt_congr {R R' : Nat → rw5} (m : Nat) (h : ∀ j, j < m → R j = R' j) : srt R m = srt R' m := by
  induction m with
  | zero => rfl
  | succ m ih => unfold srt; rw [ih (fun j hj => h j (by omega)), h m (by omega)]
theorem insR_mem {r x : rw5} (L : List rw5) : x ∈ insR r L ↔ x = r ∨ x ∈ L := by
  induction L with
  | nil => simp [insR]
  | cons c C ih =>
    unfold insR
    split
    · simp
    · rw [List.mem_cons, ih, List.mem_cons]
      constructor
      · rintro (h | h | h)
        · exact Or.inr (Or.inl h)
        · exact Or.inl h
        · exact Or.inr (Or.inr h)
      · rintro (h | h | h)
        · exact Or.inr (Or.inl h)
        · exact Or.inl h
        · exact Or.inr (Or.inr h)
theorem srt_mem {R : Nat → rw5} {x : rw5} (m : Nat) : x ∈ srt R m ↔ ∃ j, j < m ∧ x = R j := by
  induction m with
  | zero =>
    constructor
    · intro h; cases h
    · rintro ⟨j, hj, -⟩; omega
  | succ m ih =>
    unfold srt
    rw [insR_mem, ih]
    constructor
    · rintro (h | ⟨j, hj, h⟩)
      · exact ⟨m, by omega, h⟩
      · exact ⟨j, by omega, h⟩
    · rintro ⟨j, hj, h⟩
      by_cases hjm : j = m
      · subst hjm; exact Or.inl h
      · exact Or.inr ⟨j, by omega, h⟩
def ordR (L : List rw5) : Prop := L.Pairwise fun a b => du a ≤ du b
theorem insR_ord {r : rw5} {L : List rw5} (h : ordR L) : ordR (insR r L) := by
  induction L with
  | nil => exact List.pairwise_singleton _ _
  | cons c C ih =>
    unfold ordR at h ih ⊢
    rw [List.pairwise_cons] at h
    unfold insR
    split
    · next hlt =>
      rw [List.pairwise_cons, List.pairwise_cons]
      refine ⟨fun x hx => ?_, h⟩
      rcases List.mem_cons.mp hx with rfl | hx
      · omega
      · have := h.1 x hx; omega
    · next hlt =>
      rw [List.pairwise_cons]
      refine ⟨fun x hx => ?_, ih h.2⟩
      rcases (insR_mem C).mp hx with rfl | hx
      · omega
      · exact h.1 x hx
theorem srt_ord (R : Nat → rw5) (m : Nat) : ordR (srt R m) := by
  induction m with
  | zero => exact List.Pairwise.nil
  | succ m ih => exact insR_ord ih
theorem insR_at {r : rw5} (L : List rw5) : ∀ (j0 : Nat), j0 ≤ L.length → (∀ j x, j < j0 → L[j]? = some x → du x ≤ du r) → (∀ j x, j0 ≤ j → L[j]? = some x → du r < du x) → ∀ j, (insR r L)[j]? = if j < j0 then L[j]? else if j = j0 then some r else L[j - 1]? := by
  induction L with
  | nil =>
    intro j0 hj h1 h2 j
    obtain rfl : j0 = 0 := by simpa using hj
    unfold insR
    cases j with
    | zero => rfl
    | succ j => simp
  | cons c C ih =>
    intro j0 hj h1 h2 j
    unfold insR
    cases j0 with
    | zero =>
      rw [if_pos (h2 0 c (by omega) rfl), if_neg (by omega)]
      cases j with
      | zero => rfl
      | succ j => simp
    | succ j0 =>
      rw [if_neg (by have := h1 0 c (by omega) rfl; omega)]
      cases j with
      | zero => rfl
      | succ j =>
        have := ih j0 (by simpa using hj) (fun i x hi hx => h1 (i + 1) x (by omega) (by simpa using hx)) (fun i x hi hx => h2 (i + 1) x (by omega) (by simpa using hx)) j
        rw [List.getElem?_cons_succ, this, List.getElem?_cons_succ]
        by_cases hlt : j < j0
        · rw [if_pos hlt, if_pos (show j + 1 < j0 + 1 by omega)]
        · rw [if_neg hlt, if_neg (show ¬ j + 1 < j0 + 1 by omega)]
          by_cases he : j = j0
          · rw [if_pos he, if_pos (show j + 1 = j0 + 1 by omega)]
          · have e1 : j + 1 - 1 = (j - 1) + 1 := by omega
            rw [if_neg he, if_neg (show ¬ j + 1 = j0 + 1 by omega), e1, List.getElem?_cons_succ]
theorem insR_front {r : rw5} {L : List rw5} (h : ∀ x ∈ L, du r < du x) : insR r L = r :: L := by
  cases L with
  | nil => rfl
  | cons c C => unfold insR; rw [if_pos (h c List.mem_cons_self)]
def fmR (R : Nat → rw5) (m i : Nat) : Prop := i < m ∧ (∀ j, j < i → du (R i) < du (R j)) ∧ ∀ j, j < m → du (R i) ≤ du (R j)
def delR {α : Type} (R : Nat → α) (i j : Nat) : α := if j < i then R j else R (j + 1)
theorem srt_fm {R : Nat → rw5} (m : Nat) : ∀ i, fmR R (m + 1) i → srt R (m + 1) = R i :: srt (delR R i) m := by
  induction m with
  | zero =>
    intro i h
    obtain rfl : i = 0 := by have := h.1; omega
    rfl
  | succ m ih =>
    intro i h
    by_cases hi : i = m + 1
    · subst hi
      rw [srt, insR_front]
      · congr 1
        exact srt_congr (m + 1) fun j hj => by unfold delR; rw [if_pos hj]
      · intro x hx
        obtain ⟨j, hj, rfl⟩ := (srt_mem (m + 1)).mp hx
        exact h.2.1 j hj
    · have h1 := h.1
      rw [srt, ih i ⟨by omega, h.2.1, fun j hj => h.2.2 j (by omega)⟩, insR, if_neg (by have := h.2.2 (m + 1) (by omega); omega), srt]
      congr 2
      unfold delR
      rw [if_neg (by omega)]
theorem fm_ex (R : Nat → rw5) (m : Nat) : ∃ i, fmR R (m + 1) i := by
  induction m with
  | zero =>
    refine ⟨0, by omega, fun j hj => by omega, fun j hj => ?_⟩
    obtain rfl : j = 0 := by omega
    exact Int.le_refl _
  | succ m ih =>
    obtain ⟨i, h1, h2, h3⟩ := ih
    by_cases h : du (R (m + 1)) < du (R i)
    · refine ⟨m + 1, by omega, fun j hj => ?_, fun j hj => ?_⟩
      · have := h3 j hj; omega
      · by_cases hj2 : j = m + 1
        · subst hj2; omega
        · have := h3 j (by omega); omega
    · refine ⟨i, by omega, h2, fun j hj => ?_⟩
      by_cases hj2 : j = m + 1
      · subst hj2; omega
      · exact h3 j (by omega)
theorem cn_del (p : Nat → Bool) (m : Nat) : ∀ i, i < m + 1 → cn p (m + 1) = cn (delR p i) m + (if p i then 1 else 0) := by
  induction m with
  | zero =>
    intro i hi
    obtain rfl : i = 0 := by omega
    rfl
  | succ m ih =>
    intro i hi
    by_cases h : i = m + 1
    · subst h
      rw [cn, cn_congr (q := delR p (m + 1)) (m + 1) fun j hj => by unfold delR; rw [if_pos hj]]
    · rw [cn, ih i (by omega), show cn (delR p i) (m + 1) = cn (delR p i) m + (if delR p i m then 1 else 0) from rfl]
      have : delR p i m = p (m + 1) := by unfold delR; rw [if_neg (by omega)]
      rw [this]; omega
/-- a sum below -/
def sm (p : Nat → Int32) : Nat → Int32
  | 0 => 0
  | n + 1 => sm p n + p n
theorem sm_congr {p q : Nat → Int32} (n : Nat) (h : ∀ k, k < n → p k = q k) : sm p n = sm q n := by
  induction n with
  | zero => rfl
  | succ n ih => unfold sm; rw [ih (fun k hk => h k (by omega)), h n (by omega)]
theorem sm_del (p : Nat → Int32) (m : Nat) : ∀ i, i < m + 1 → sm p (m + 1) = sm (delR p i) m + p i := by
  induction m with
  | zero =>
    intro i hi
    obtain rfl : i = 0 := by omega
    rfl
  | succ m ih =>
    intro i hi
    by_cases h : i = m + 1
    · subst h
      rw [sm, sm_congr (q := delR p (m + 1)) (m + 1) fun j hj => by unfold delR; rw [if_pos hj]]
    · rw [sm, ih i (by omega), show sm (delR p i) (m + 1) = sm (delR p i) m + delR p i m from rfl]
      have : delR p i m = p (m + 1) := by unfold delR; rw [if_neg (by omega)]
      rw [this, Int32.add_assoc, Int32.add_assoc, Int32.add_comm (p i)]
