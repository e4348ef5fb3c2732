/-! ===== the locals and the forced forms ===== -/
theorem ev_nth_st1 (L : ev_L) (i : Nat) (v : Option Value) (j : Nat) (u : Value) (h : ev_nth (ev_st1 L i v) j = some u) : (j = i ∧ v = some u) ∨ (j ≠ i ∧ ev_nth L j = some u ∧ ¬ (j + 1 = i ∧ u.category = 2)) := by
  induction L generalizing i j with
  | nil => simp [ev_st1, ev_nth] at h
  | cons x l ih =>
    cases i with
    | zero =>
      cases j with
      | zero => exact Or.inl ⟨rfl, h⟩
      | succ j => exact Or.inr ⟨by omega, h, by omega⟩
    | succ i =>
      cases j with
      | zero =>
        right
        refine ⟨by omega, ?_⟩
        cases i with
        | zero =>
          simp only [ev_st1, ev_nth] at h
          have hx : x = some u ∧ ¬ u.category = 2 := by
            unfold ev_clr at h
            split at h <;> first | (cases h; done) | (cases h; exact ⟨rfl, by decide⟩) | (cases h; exact ⟨rfl, by simp [Value.category]⟩)
          exact ⟨hx.1, fun q => hx.2 q.2⟩
        | succ i => exact ⟨h, by omega⟩
      | succ j =>
        simp only [ev_st1, ev_nth] at h
        rcases ih i j h with ⟨h1, h2⟩ | ⟨h1, h2, h3⟩
        · exact Or.inl ⟨by omega, h2⟩
        · exact Or.inr ⟨by omega, h2, fun q => h3 ⟨by omega, q.2⟩⟩
/-- the listed values, as the kit's rows have them -/
def ev_as (ad : Nat → Nat) (L : ev_L) : List (Nat × Value) := (List.range L.length).filterMap (fun i => (ev_nth L i).map (fun v => (i, ev_cv ad v)))
theorem ev_nth_lt {L : ev_L} {i : Nat} {v : Value} (h : ev_nth L i = some v) : i < L.length := by
  induction L generalizing i with
  | nil => simp [ev_nth] at h
  | cons x l ih =>
    cases i with
    | zero => simp
    | succ i => have := ih h; simp; omega
theorem ev_as_in {ad : Nat → Nat} {L : ev_L} {q : Nat × Value} : q ∈ ev_as ad L ↔ ∃ v, ev_nth L q.1 = some v ∧ q.2 = ev_cv ad v := by
  obtain ⟨i, u⟩ := q
  unfold ev_as
  rw [List.mem_filterMap]
  constructor
  · rintro ⟨j, -, hj⟩
    cases h : ev_nth L j with
    | none => rw [h] at hj; cases hj
    | some u => rw [h] at hj; cases hj; exact ⟨u, h, rfl⟩
  · rintro ⟨v, h, h2⟩
    exact ⟨i, List.mem_range.mpr (ev_nth_lt h), by dsimp only at h h2; rw [h, h2]; rfl⟩
theorem ev_LH.has {ad : Nat → Nat} {ls : Array Slot} {nL : Nat} {L : ev_L} (h : ev_LH ad ls nL L) : lv_has ls nL (ev_as ad L) := ⟨h.1, h.2.1, fun q hq => by
  obtain ⟨v, h1, h2⟩ := ev_as_in.mp hq
  rw [h2]
  exact h.2.2 _ _ h1⟩
theorem ev_LH.of {ad : Nat → Nat} {ls : Array Slot} {nL : Nat} {L : ev_L} {l : List (Nat × Value)} (h : lv_has ls nL l) (hl : ∀ i v, ev_nth L i = some v → (i, ev_cv ad v) ∈ l) : ev_LH ad ls nL L := ⟨h.1, h.2.1, fun i v hv => h.2.2 (i, ev_cv ad v) (hl i v hv)⟩
theorem ev_LH.st1 {ad : Nat → Nat} {ls : Array Slot} {nL : Nat} {L : ev_L} {i : Nat} {v : Value} (h : lv_has ls nL ((i, ev_cv ad v) :: (ev_as ad L).filter (fun q => !(q.1 == i) && !(q.1 + 1 == i && q.2.category == 2)))) : ev_LH ad ls nL (ev_st1 L i (some v)) := by
  refine ev_LH.of h fun j u hj => ?_
  rcases ev_nth_st1 L i (some v) j u hj with ⟨h1, h2⟩ | ⟨h1, h2, h3⟩
  · cases h2; subst h1; exact List.mem_cons_self
  · refine List.mem_cons_of_mem _ (List.mem_filter.mpr ⟨ev_as_in.mpr ⟨u, h2, rfl⟩, ?_⟩)
    have a : (j == i) = false := by simp [h1]
    have b : (j + 1 == i && (ev_cv ad u).category == 2) = false := by
      rw [Bool.and_eq_false_iff, ev_cv_cat]
      by_cases c : j + 1 = i
      · right; simp; exact fun q => h3 ⟨c, q⟩
      · left; simp [c]
    simp only [a, b]
    rfl
theorem ev_LH.st2 {ad : Nat → Nat} {ls : Array Slot} {nL : Nat} {L : ev_L} {i : Nat} {v : Value} (h : lv_has ls nL ((i, ev_cv ad v) :: (ev_as ad L).filter (fun q => !(q.1 == i) && (!(q.1 == i + 1) && !(q.1 + 1 == i && q.2.category == 2))))) : ev_LH ad ls nL (ev_st2 L i (some v)) := by
  refine ev_LH.of h fun j u hj => ?_
  unfold ev_st2 at hj
  rcases ev_nth_st1 _ i (some v) j u hj with ⟨h1, h2⟩ | ⟨h1, h2, h3⟩
  · cases h2; subst h1; exact List.mem_cons_self
  · rcases ev_nth_st1 L (i + 1) none j u h2 with ⟨g1, g2⟩ | ⟨g1, g2, g3⟩
    · cases g2
    · refine List.mem_cons_of_mem _ (List.mem_filter.mpr ⟨ev_as_in.mpr ⟨u, g2, rfl⟩, ?_⟩)
      have a : (j == i) = false := by simp [h1]
      have a2 : (j == i + 1) = false := by simp [g1]
      have b : (j + 1 == i && (ev_cv ad u).category == 2) = false := by
        rw [Bool.and_eq_false_iff, ev_cv_cat]
        by_cases c : j + 1 = i
        · right; simp; exact fun q => h3 ⟨c, q⟩
        · left; simp [c]
      simp only [a, a2, b]
      rfl
theorem ev_LH.k {ad : Nat → Nat} {ls : Array Slot} {nL : Nat} {L : ev_L} (h : ev_LH ad ls nL L) {i : Nat} {v : Value} (hi : ev_nth L i = some v) : ∃ k : Nat, (ev_as ad L)[k]? = some (i, ev_cv ad v) := List.getElem?_of_mem (ev_as_in.mpr ⟨v, hi, rfl⟩)
-- forced forms: what a run comes to, its lists written out
def ev_fv {α : Type} (v : Value) (k : Value → α) : α := match v with
  | .ref a => k (.ref a)
  | .int x => k (.int x)
  | .long x => k (.long x)
  | .float x => k (.float x)
  | .double x => k (.double x)
  | .null => k .null
  | .retAddr x => k (.retAddr x)
def ev_fov {α : Type} (v : Option Value) (k : Option Value → α) : α := match v with
  | none => k none
  | some u => ev_fv u fun u => k (some u)
def ev_fL {α : Type} : ev_L → (ev_L → α) → α
  | [], k => k []
  | x :: l, k => ev_fov x fun x => ev_fL l fun l => k (x :: l)
def ev_fV {α : Type} : List Value → (List Value → α) → α
  | [], k => k []
  | x :: l, k => ev_fv x fun x => ev_fV l fun l => k (x :: l)
def ev_fE {α : Type} (E : ev_E) (k : ev_E → α) : α := match E with
  | .inl (t, n, .inl f) => k (.inl (t, n, .inl f))
  | .inl (t, n, .inr (.inl f)) => k (.inl (t, n, .inr (.inl f)))
  | .inl (t, n, .inr (.inr (.inl f))) => k (.inl (t, n, .inr (.inr (.inl f))))
  | .inl (t, n, .inr (.inr (.inr (.inl f)))) => k (.inl (t, n, .inr (.inr (.inr (.inl f)))))
  | .inl (t, n, .inr (.inr (.inr (.inr f)))) => k (.inl (t, n, .inr (.inr (.inr (.inr f)))))
  | .inr (ci, fs) => ev_fV fs fun fs => k (.inr (ci, fs))
def ev_fW {α : Type} : List ev_E → (List ev_E → α) → α
  | [], k => k []
  | x :: l, k => ev_fE x fun x => ev_fW l fun l => k (x :: l)
def ev_fP {α : Type} : List Prop → (List Prop → α) → α
  | [], k => k []
  | x :: l, k => ev_fP l fun l => k (x :: l)
theorem ev_fv_eq {α : Type} (v : Value) (k : Value → α) : ev_fv v k = k v := by cases v <;> rfl
theorem ev_fov_eq {α : Type} (v : Option Value) (k : Option Value → α) : ev_fov v k = k v := by
  cases v with
  | none => rfl
  | some u => exact ev_fv_eq u (fun u => k (some u))
theorem ev_fL_eq {α : Type} (L : ev_L) (k : ev_L → α) : ev_fL L k = k L := by
  induction L generalizing k with
  | nil => rfl
  | cons x l ih => rw [ev_fL, ev_fov_eq, ih]
theorem ev_fV_eq {α : Type} (L : List Value) (k : List Value → α) : ev_fV L k = k L := by
  induction L generalizing k with
  | nil => rfl
  | cons x l ih => rw [ev_fV, ev_fv_eq, ih]
theorem ev_fE_eq {α : Type} (E : ev_E) (k : ev_E → α) : ev_fE E k = k E := by
  match E with
  | .inl (t, n, .inl f) => rfl
  | .inl (t, n, .inr (.inl f)) => rfl
  | .inl (t, n, .inr (.inr (.inl f))) => rfl
  | .inl (t, n, .inr (.inr (.inr (.inl f)))) => rfl
  | .inl (t, n, .inr (.inr (.inr (.inr f)))) => rfl
  | .inr (ci, fs) => exact ev_fV_eq fs _
theorem ev_fW_eq {α : Type} (L : List ev_E) (k : List ev_E → α) : ev_fW L k = k L := by
  induction L generalizing k with
  | nil => rfl
  | cons x l ih => rw [ev_fW, ev_fE_eq, ih]
theorem ev_fP_eq {α : Type} (L : List Prop) (k : List Prop → α) : ev_fP L k = k L := by
  induction L generalizing k with
  | nil => rfl
  | cons x l ih => rw [ev_fP, ih]
def ev_fO (o : ev_O) : ev_O := match o with
  | (cs, pc, L, st, w) => ev_fP cs fun cs => ev_fL L fun L => ev_fV st fun st => ev_fW w fun w => (cs, pc, L, st, w)
theorem ev_fO_eq (o : ev_O) : ev_fO o = o := by
  obtain ⟨cs, pc, L, st, w⟩ := o
  show (ev_fP cs fun cs => ev_fL L fun L => ev_fV st fun st => ev_fW w fun w => (cs, pc, L, st, w)) = _
  rw [ev_fP_eq, ev_fL_eq, ev_fV_eq, ev_fW_eq]
