/-! fewer locals known; rows of ints that agree as far as they go -/
def ev_sub : ev_L → ev_L → Prop
  | [], _ => True
  | none :: l, _ :: m => ev_sub l m
  | some v :: l, some u :: m => u = v ∧ ev_sub l m
  | _ :: _, _ => False
theorem ev_sub_nth {L' L : ev_L} (h : ev_sub L' L) : ∀ i v, ev_nth L' i = some v → ev_nth L i = some v := by
  induction L' generalizing L with
  | nil => intro i v hv; cases hv
  | cons x l ih =>
    intro i v hv
    cases L with
    | nil => cases x <;> exact h.elim
    | cons y m =>
      cases x with
      | none =>
        cases i with
        | zero => cases hv
        | succ i => exact ih h i v hv
      | some a =>
        cases y with
        | none => exact h.elim
        | some b =>
          cases i with
          | zero => cases hv; exact congrArg some h.1
          | succ i => exact ih h.2 i v hv
theorem ev_to2 {μ : ev_M} {N0 : Option Nat} {X : ev_X} {pc : Nat} {L L' : ev_L} {st st' : List Value} {w w' : List ev_E} {kc ks : Nat} (k : ev_V μ N0 X pc L' st' w' kc ks) (hL : ev_sub L' L) (hs : st = st') (hw : w = w') : ev_V μ N0 X pc L st w kc ks := by
  subst hs; subst hw
  intro p l e R s m args below meth c D ct ad0 A Q h0 hx ad H locs ls I
  exact k p l e R s m args below meth c D ct ad0 A Q h0 hx ad H locs ls ⟨I.1, I.2.1, I.2.2.1, I.2.2.2.1, I.2.2.2.2.1, I.2.2.2.2.2.1, fun i v hv => I.2.2.2.2.2.2 i v (ev_sub_nth hL i v hv)⟩
theorem ev_vpc {cA : ClassId} {n : Nat} {f g : Nat → Int32} (h : ∀ k, k < n → f k = g k) : vp_cell cA (n, .inl f) = vp_cell cA (n, .inl g) := by
  rw [vp_cell_i, vp_cell_i]
  unfold arrV
  have : (fun j : Fin n => Value.int (f j.val)) = fun j : Fin n => Value.int (g j.val) := funext fun j => by rw [h j.val j.isLt]
  rw [this]
theorem ev_nrm {μ : ev_M} {N0 : Option Nat} {X : ev_X} {pc : Nat} {L : ev_L} {st : List Value} {w : List ev_E} {kc ks : Nat} (k : Nat) {n : Nat} {f : Nat → Int32} (g : Nat → Int32) (hw : ev_wg w k = some (.inl (0, n, .inl f))) (hf : ∀ j, j < n → f j = g j) (kk : ev_V μ N0 X pc L st (ev_ws w k (.inl (0, n, .inl g))) kc ks) : ev_V μ N0 X pc L st w kc ks := by
  intro p l e R s m args below meth c D ct ad0 A Q h0 hx ad H locs ls I
  obtain ⟨hP, hD, hS, hE, hL⟩ := I
  rw [ev_wg_eq] at hw
  refine kk p l e R s m args below meth c D ct ad0 A Q h0 hx ad H locs ls ⟨?_, ?_, hS, hE, hL⟩
  · intro j q hq
    obtain ⟨E, h1, rfl⟩ := ev_lay_inv hq
    rw [ev_ws_eq, List.getElem?_set] at h1
    by_cases hj : k = j
    · subst hj
      rw [if_pos rfl] at h1
      split at h1
      · cases h1
        have h2 := hP k _ (ev_lay_get hw)
        have h3 : H[ad k]? = some (vp_cell (ct 0) (n, .inl f)) := h2
        rw [ev_vpc hf] at h3
        exact h3
      · cases h1
    · rw [if_neg hj] at h1
      exact hP j _ (ev_lay_get h1)
  · have hin : ∀ (j : Nat) (E : ev_E), (ev_ws w k (.inl (0, n, .inl g)))[j]? = some E → ∃ E0, w[j]? = some E0 := by
      intro j E h
      have h1 := (List.getElem?_eq_some_iff.mp h).1
      rw [ev_ws_eq, List.length_set] at h1
      exact ⟨_, List.getElem?_eq_getElem h1⟩
    refine ⟨fun i j a b hi hj hab => ?_, fun j q hq => ?_⟩
    · obtain ⟨E1, h1, rfl⟩ := ev_lay_inv hi
      obtain ⟨E2, h2, rfl⟩ := ev_lay_inv hj
      obtain ⟨F1, g1⟩ := hin i E1 h1
      obtain ⟨F2, g2⟩ := hin j E2 h2
      exact hD.1 i j (ad i, ev_ce ad ct F1) (ad j, ev_ce ad ct F2) (ev_lay_get g1) (ev_lay_get g2) hab
    · obtain ⟨E1, h1, rfl⟩ := ev_lay_inv hq
      obtain ⟨F1, g1⟩ := hin j E1 h1
      exact hD.2 j (ad j, ev_ce ad ct F1) (ev_lay_get g1)
theorem ni_ge0 {p : Int32} (h : ¬ p < 0) : 0 ≤ p.toInt := by
  have : ¬ p.toInt < 0 := fun q => h (Int32.lt_iff_toInt_lt.mpr (by simpa using q))
  omega
theorem am_next {p : Int32} {n : Nat} (h1 : ¬ p < 0) (h3 : ¬ (100 : Int32) ≤ p) (hm : 0 ≤ p.toInt → 100 < p.toInt + ((n + 1 : Nat) : Int)) : 0 ≤ (p + 1).toInt → 100 < (p + 1).toInt + (n : Int) := by
  intro _
  have e := ni_of h1
  have hlt : p.toNatClampNeg < 2147483648 := ni_lt31 p
  have h4 : ¬ 100 ≤ p.toNatClampNeg := by
    intro q
    apply h3
    rw [e]
    exact (ni_le (a := 100) (by decide) hlt).mpr q
  have e2 : (p + 1).toInt = p.toInt + 1 := by
    rw [e, ni_1, ni_int (by omega), ni_int (by omega)]
    omega
  have := hm (ni_ge0 h1)
  omega
theorem am_last {p : Int32} (h1 : ¬ p < 0) (h3 : ¬ (100 : Int32) ≤ p) : ¬ (0 ≤ p.toInt → 100 < p.toInt + ((0 : Nat) : Int)) := by
  intro hm
  have := hm (ni_ge0 h1)
  apply h3
  rw [Int32.le_iff_toInt_le]
  have : (100 : Int32).toInt = 100 := rfl
  omega
