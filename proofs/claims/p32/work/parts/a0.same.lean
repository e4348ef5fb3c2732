/-! the engine finds the class as it is itself: rings -/
section
variable {F B T e h m : Nat} {u : S_X4} {v : Nat → Int32} {E : S_XE}
/-- what a slot adds to a set -/
def om (x : S_X3) (sl : Nat → Int32) (t k : Nat) : Int32 := if mb (a_X3_living x) t then (if sl (4 * t + k) < 0 then 0 else 1 <<< (sl (4 * t + k) &&& 31)) else 0
theorem om_bit {x : S_X3} {th sl : Nat → Int32} (q : EH x th sl) {t k : Nat} (ht : t < 6) (hk : k < 4) (y : Nat) : mb (om x sl t k) y = true ↔ y < 6 ∧ sl (4 * t + k) = nI y := by
  unfold om
  cases hl : mb (a_X3_living x) t with
  | false =>
    rw [if_neg Bool.false_ne_true, mb_0]
    refine ⟨fun z => (by cases z), fun ⟨z1, z2⟩ => ?_⟩
    have := (q.edge (q.of_edge (k := 4 * t + k) (by omega) z2 z1)).2.2.1
    rw [show (4 * t + k) / 4 = t by omega, hl] at this
    cases this
  | true =>
    rw [if_pos rfl]
    rcases q.slot (k := 4 * t + k) (by omega) with z | ⟨s, s1, s2, -⟩
    · rw [z, if_pos i32_neg1, mb_0]
      exact ⟨fun z => (by cases z), fun ⟨z1, z2⟩ => absurd z2.symm (nI_ne (by omega))⟩
    · rw [s2, if_neg (ni_nneg (by omega))]
      by_cases hy : y < 32
      · rw [mb_one s (by omega) y hy, decide_eq_true_eq]
        constructor
        · intro z; exact ⟨by omega, by rw [z]⟩
        · rintro ⟨z1, z2⟩; exact (ni_eq (by omega) (by omega)).mp z2
      · rw [mb_big _ (by omega)]
        exact ⟨fun z => (by cases z), fun ⟨z1, _⟩ => by omega⟩
theorem e_from (hF : 6400 < F) (q : KE B T e h m (a_X4_now u) v E) {t p : Nat} (ht : t < 6) (hp : p < 6) (v5 v6 v7 v8 v9 v11 v12 v13 : Int32) (k22 : Int32 → Int32 → Int32 → Int32 → Option Bool) (k264 : Int32 → Int32 → Option Bool) :
    ∃ a b, s_L_same_l280 F 12 48 28 64 u E.1 E.2.1 E.2.2.1 E.2.2.2 v5 v6 v7 v8 v9 (nI t) v11 v12 v13 (nI p) k22 k264 F 0 0 0 = s_L_same_b374 F 12 48 28 64 k22 k264 u E.1 E.2.1 E.2.2.1 E.2.2.2 v5 v6 v7 v8 v9 (nI t) v11 v12 v13 (nI p) a b ∧ (∀ y, mb a y = true ↔ eG (a_X4_now u) t y) ∧ ∀ y, mb b y = true ↔ eG (a_X4_now u) p y := by
  have eh := q.eh
  obtain ⟨eq, th, sl, re⟩ := E
  dsimp only at eh ⊢
  have step : ∀ n k a b, k < 4 → s_L_same_l280 F 12 48 28 64 u eq th sl re v5 v6 v7 v8 v9 (nI t) v11 v12 v13 (nI p) k22 k264 (n + 1) a b (nI k) = s_L_same_l280 F 12 48 28 64 u eq th sl re v5 v6 v7 v8 v9 (nI t) v11 v12 v13 (nI p) k22 k264 n (a ||| om (a_X4_now u) sl t k) (b ||| om (a_X4_now u) sl p k) (nI (k + 1)) := by
    intro n k a b hk
    have i1 : 4 * nI t + nI k = nI (4 * t + k) := by rw [show (4 : Int32) = nI 4 from rfl, ni_mul, ni_add]
    have i2 : 4 * nI p + nI k = nI (4 * p + k) := by rw [show (4 : Int32) = nI 4 from rfl, ni_mul, ni_add]
    have n1 : (nI (4 * t + k)).toNatClampNeg = 4 * t + k := ni_nat (by omega)
    have n2 : (nI (4 * p + k)).toNatClampNeg = 4 * p + k := ni_nat (by omega)
    have b324 : ∀ c, s_L_same_b324 F 12 48 28 64 k22 k264 (s_L_same_l280 F 12 48 28 64 u eq th sl re v5 v6 v7 v8 v9 (nI t) v11 v12 v13 (nI p) k22 k264 n) u eq th sl re v5 v6 v7 v8 v9 (nI t) v11 v12 v13 (nI p) b (nI k) a c = s_L_same_l280 F 12 48 28 64 u eq th sl re v5 v6 v7 v8 v9 (nI t) v11 v12 v13 (nI p) k22 k264 n (a ||| c) (b ||| om (a_X4_now u) sl p k) (nI (k + 1)) := by
      intro c
      unfold s_L_same_b324 om
      rw [e_lives F th hp, Option.bind_some, eh.1 p hp, i2, if_pos (ni_lx (show 4 * p + k < 28 by omega) (by decide)), if_pos (ni_lx (show 4 * p + k < 28 by omega) (by decide)), n2, ni_1]
      cases mb (a_X3_living (a_X4_now u)) p with
      | false => rw [if_neg Bool.false_ne_true, if_neg Bool.false_ne_true]
      | true =>
        rw [if_pos rfl, if_pos rfl]
        by_cases hc : sl (4 * p + k) < 0
        · rw [if_pos hc, if_pos hc]
        · rw [if_neg hc, if_neg hc]
    rw [e_L_same_l280, if_neg (il_nle hk (by decide)), e_lives F th ht, Option.bind_some, eh.1 t ht, i1, if_pos (ni_lx (show 4 * t + k < 28 by omega) (by decide)), if_pos (ni_lx (show 4 * t + k < 28 by omega) (by decide)), n1, b324, b324]
    unfold om
    cases mb (a_X3_living (a_X4_now u)) t with
    | false => rw [if_neg Bool.false_ne_true, if_neg Bool.false_ne_true]
    | true =>
      rw [if_pos rfl, if_pos rfl]
      by_cases hc : sl (4 * t + k) < 0
      · rw [if_pos hc, if_pos hc]
      · rw [if_neg hc, if_neg hc]
  have key := lf_for (fun n k (a : Int32 × Int32) => s_L_same_l280 F 12 48 28 64 u eq th sl re v5 v6 v7 v8 v9 (nI t) v11 v12 v13 (nI p) k22 k264 n a.1 a.2 (nI k)) 4 (fun a => s_L_same_b374 F 12 48 28 64 k22 k264 u eq th sl re v5 v6 v7 v8 v9 (nI t) v11 v12 v13 (nI p) a.1 a.2) (fun k a => (a.1 ||| om (a_X4_now u) sl t k, a.2 ||| om (a_X4_now u) sl p k)) (fun k a => (∀ y, mb a.1 y = true ↔ y < 6 ∧ ∃ j, j < k ∧ sl (4 * t + j) = nI y) ∧ ∀ y, mb a.2 y = true ↔ y < 6 ∧ ∃ j, j < k ∧ sl (4 * p + j) = nI y)
    (fun n a _ => by
      show s_L_same_l280 F 12 48 28 64 u eq th sl re v5 v6 v7 v8 v9 (nI t) v11 v12 v13 (nI p) k22 k264 (n + 1) a.1 a.2 (nI 4) = _
      rw [e_L_same_l280, if_pos (by decide)])
    (fun n k a hk ha => by
      have grow : ∀ {s : Nat} {c : Int32}, s < 6 → (∀ y, mb c y = true ↔ y < 6 ∧ ∃ j, j < k ∧ sl (4 * s + j) = nI y) → ∀ y, mb (c ||| om (a_X4_now u) sl s k) y = true ↔ y < 6 ∧ ∃ j, j < k + 1 ∧ sl (4 * s + j) = nI y := by
        intro s c hs hc y
        rw [mb_or, Bool.or_eq_true, hc y, om_bit eh hs hk y]
        constructor
        · rintro (⟨z1, j, z2, z3⟩ | ⟨z1, z2⟩)
          · exact ⟨z1, j, by omega, z3⟩
          · exact ⟨z1, k, by omega, z2⟩
        · rintro ⟨z1, j, z2, z3⟩
          by_cases hjk : j = k
          · subst hjk; exact Or.inr ⟨z1, z3⟩
          · exact Or.inl ⟨z1, j, by omega, z3⟩
      exact ⟨step n k a.1 a.2 hk, grow ht ha.1, grow hp ha.2⟩)
    4 0 (0, 0) F rfl (by omega) ⟨fun y => by
      rw [mb_0]; exact ⟨fun z => (by cases z), fun ⟨_, j, hj, _⟩ => by omega⟩, fun y => by
      rw [mb_0]; exact ⟨fun z => (by cases z), fun ⟨_, j, hj, _⟩ => by omega⟩⟩
  obtain ⟨a, ha⟩ : ∃ a, a = fr (fun k (a : Int32 × Int32) => (a.1 ||| om (a_X4_now u) sl t k, a.2 ||| om (a_X4_now u) sl p k)) 0 4 (0, 0) := ⟨_, rfl⟩
  rw [← ha] at key
  obtain ⟨k1, k2, k3⟩ := key
  have fin : ∀ {s : Nat} {c : Int32}, s < 6 → (∀ y, mb c y = true ↔ y < 6 ∧ ∃ j, j < 4 ∧ sl (4 * s + j) = nI y) → ∀ y, mb c y = true ↔ eG (a_X4_now u) s y := by
    intro s c hs hc y
    rw [hc y]
    constructor
    · rintro ⟨z1, j, z2, z3⟩
      have := eh.of_edge (k := 4 * s + j) (by omega) z3 z1
      rw [show (4 * s + j) / 4 = s by omega] at this
      exact this
    · intro z
      obtain ⟨-, z2, -, k, z3, z4, z5⟩ := eh.edge z
      exact ⟨z2, k - 4 * s, by omega, by rw [show 4 * s + (k - 4 * s) = k by omega]; exact z5⟩
  exact ⟨a.1, a.2, k1, fin ht k2, fin hp k3⟩
theorem e_ring (hF : 6400 < F) (q : KE B T e h m (a_X4_now u) v E) {t : Nat} (ht : t < 6) (v5 v6 v7 v8 v9 v11 v12 : Int32) (k22 : Int32 → Int32 → Int32 → Int32 → Option Bool) :
    ∃ r, s_X4_ring F u (nI t) = some r ∧ s_L_same_l264 F 12 48 28 64 u E.1 E.2.1 E.2.2.1 E.2.2.2 v5 v6 v7 v8 v9 (nI t) v11 v12 k22 F 0 0 = s_L_same_b425 F 12 48 28 64 k22 u E.1 E.2.1 E.2.2.1 E.2.2.2 v5 v6 v7 v8 v9 (nI t) v11 v12 r := by
  obtain ⟨r, r1, r2⟩ := k_ring hF q ht
  have eh := q.eh
  obtain ⟨r', y1, y2⟩ := lf_bits (fun n k c => s_L_same_l264 F 12 48 28 64 u E.1 E.2.1 E.2.2.1 E.2.2.2 v5 v6 v7 v8 v9 (nI t) v11 v12 k22 n c (nI k)) 6 (fun c => s_L_same_b425 F 12 48 28 64 k22 u E.1 E.2.1 E.2.2.1 E.2.2.2 v5 v6 v7 v8 v9 (nI t) v11 v12 c) (mb r) (n := F) (by omega) (by omega) (fun n c => by
    rw [e_L_same_l264, if_pos (by decide)]) (fun n k c hk => by
    obtain ⟨a, b, a1, a2, a3⟩ := e_from hF q ht hk v5 v6 v7 v8 v9 v11 v12 c k22 (s_L_same_l264 F 12 48 28 64 u E.1 E.2.1 E.2.2.1 E.2.2.2 v5 v6 v7 v8 v9 (nI t) v11 v12 k22 n)
    obtain ⟨ra, b1, b2, -⟩ := e_reach hF eh (s := a) (fun y hy => (eh.edge ((a2 y).mp hy)).2.1)
    obtain ⟨rb, c1, c2, -⟩ := e_reach hF eh (s := b) (fun y hy => (eh.edge ((a3 y).mp hy)).2.1)
    have ba : ∀ y, mb ra y = true ↔ hFrom (a_X3_hold (a_X4_now u)) t y := fun y => (b2 y).trans (hRe_E (fun _ _ => Iff.rfl) a2 y)
    have bb : ∀ y, mb rb y = true ↔ hFrom (a_X3_hold (a_X4_now u)) k y := fun y => (c2 y).trans (hRe_E (fun _ _ => Iff.rfl) a3 y)
    rw [e_L_same_l264, if_neg (il_nle hk (by decide)), a1]
    unfold s_L_same_b374
    rw [b1, Option.bind_some, c1, Option.bind_some, or_0, ni_1]
    cases hr : mb r k with
    | true =>
      obtain ⟨z1, z2⟩ := (r2 k).mp hr
      rw [if_pos ((bit1 ra (by omega)).mpr ((ba k).mpr z1)), if_pos ((bit1 rb (by omega)).mpr ((bb t).mpr z2)), if_pos rfl]
    | false =>
      rw [if_neg Bool.false_ne_true]
      by_cases z1 : mb ra k = true
      · rw [if_pos ((bit1 ra (by omega)).mpr z1)]
        by_cases z2 : mb rb t = true
        · have := (r2 k).mpr ⟨(ba k).mp z1, (bb t).mp z2⟩
          rw [hr] at this; cases this
        · rw [if_neg (fun z => z2 ((bit1 rb (by omega)).mp z))]
      · rw [if_neg (fun z => z1 ((bit1 ra (by omega)).mp z))])
  have hrr : r' = r := mb_ext fun y _ => by
    rw [Bool.eq_iff_iff, y2 y]
    exact ⟨fun z => z.2, fun z => ⟨hFrom6 q ((r2 y).mp z).1, z⟩⟩
  rw [hrr] at y1
  exact ⟨r, r1, y1⟩
theorem e_slotsSame (hF : 6400 < F) (q : KE B T e h m (a_X4_now u) v E) {t : Nat} (ht : t < 6) (v5 v6 v7 v8 v9 v11 v12 : Int32) (k22 : Int32 → Int32 → Int32 → Int32 → Option Bool) :
    s_L_same_l441 F 12 48 28 64 u E.1 E.2.1 E.2.2.1 E.2.2.2 v5 v6 v7 v8 v9 (nI t) v11 v12 k22 F 0 = s_L_same_b475 F 12 48 28 64 k22 u E.1 E.2.1 E.2.2.1 E.2.2.2 v5 v6 v7 v8 v9 (nI t) v11 v12 := by
  have key := (lf_for (fun n k (_ : Unit) => s_L_same_l441 F 12 48 28 64 u E.1 E.2.1 E.2.2.1 E.2.2.2 v5 v6 v7 v8 v9 (nI t) v11 v12 k22 n (nI k)) 4 (fun _ => s_L_same_b475 F 12 48 28 64 k22 u E.1 E.2.1 E.2.2.1 E.2.2.2 v5 v6 v7 v8 v9 (nI t) v11 v12) (fun _ a => a) (fun _ _ => True)
    (fun n a _ => by
      show s_L_same_l441 F 12 48 28 64 u E.1 E.2.1 E.2.2.1 E.2.2.2 v5 v6 v7 v8 v9 (nI t) v11 v12 k22 (n + 1) (nI 4) = _
      rw [e_L_same_l441, if_pos (by decide)])
    (fun n k a hk _ => by
      refine ⟨?_, trivial⟩
      have i1 : 4 * nI t + nI k = nI (4 * t + k) := by rw [show (4 : Int32) = nI 4 from rfl, ni_mul, ni_add]
      rw [e_L_same_l441, if_neg (il_nle hk (by decide)), k_slot q ht hk, Option.bind_some, i1, if_pos (ni_lx (show 4 * t + k < 28 by omega) (by decide)), ni_nat (show 4 * t + k < 2147483648 by omega), if_pos rfl, ni_1]) 4 0 () F rfl (by omega) trivial).1
  exact key
end
