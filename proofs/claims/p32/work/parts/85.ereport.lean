/-! the engine makes a report -/
theorem i_0 : (0 : Int32).toNatClampNeg = 0 := rfl
theorem i_1 : (1 : Int32).toNatClampNeg = 1 := rfl
theorem i_2 : (2 : Int32).toNatClampNeg = 2 := rfl
theorem i_3 : (3 : Int32).toNatClampNeg = 3 := rfl
theorem i_4 : (4 : Int32).toNatClampNeg = 4 := rfl
theorem i_5 : (5 : Int32).toNatClampNeg = 5 := rfl
theorem i_6 : (6 : Int32).toNatClampNeg = 6 := rfl
theorem i_10 : (10 : Int32).toNatClampNeg = 10 := rfl
theorem i_11 : (11 : Int32).toNatClampNeg = 11 := rfl
theorem ni_g3 : ∀ t, t < 6 → 7 + (nI t - nI t / 3 * 3) = nI (7 + t % 3) := by decide
theorem e_report {F : Nat} {q re : Nat → Int32} {m t : Nat} (hm : m < 64) (ht : t < 6) (h2 : q 2 = nI m) (y : Int32) :
    s_L_report F (q, re) (nI t) y = some (upd (upd q 2 (q 2 + 1)) 1 (q 1 + 1), upd re m (((((q 0 + q (7 + t % 3)) * 128 + q 1) * 8 + nI t) * 2) + (if y ≤ 0 then 0 else 1))) := by
  have e0 : upd q 2 (q 2 + 1) 0 = q 0 := upd_ne _ _ (by omega)
  have e1 : upd q 2 (q 2 + 1) 1 = q 1 := upd_ne _ _ (by omega)
  have e7 : upd q 2 (q 2 + 1) (7 + t % 3) = q (7 + t % 3) := upd_ne _ _ (by omega)
  have hix : lf_ix (q 2) 64 := by rw [h2]; exact ni_lx hm (by decide)
  have hn : (q 2).toNatClampNeg = m := by rw [h2, ni_nat (by omega)]
  unfold s_L_report
  dsimp only [lf_let, a_XQ_q, m_XQ_q, a_XQ_re, m_XQ_re]
  rw [i_2, i_0, i_1, ni_g3 t ht, if_pos (ni_lx (show 7 + t % 3 < 12 by omega) (by decide)), ni_nat (show 7 + t % 3 < 2147483648 by omega)]
  by_cases hy : y ≤ 0
  · rw [if_pos hy, if_pos hy, if_pos hix, hn, e0, e1, e7]
  · rw [if_neg hy, if_neg hy, if_pos hix, hn, e0, e1, e7]
theorem adV_2 (v : Nat → Int32) (m : Nat) (x : rw5) : adV v m x 2 = v 2 + 1 := by unfold adV; rw [if_pos rfl]
theorem adV_3 (v : Nat → Int32) (m : Nat) (x : rw5) : adV v m x 3 = v 3 + 1 := by unfold adV; rw [if_neg (by omega), if_pos rfl]
/-- what a report rests on -/
def MB (T h m : Nat) (v : Nat → Int32) : Prop := v 0 = nI T ∧ T ≤ 5600 ∧ v 2 = nI (h + m) ∧ v 3 = nI m ∧ ∀ i, i < 3 → ∃ d, d ≤ 20 ∧ v (8 + i) = nI d
theorem MB.of {B T n e h m : Nat} {u : S_X3} {v : Nat → Int32} (q : WB B T n e h m u v) : MB T h m v := by
  obtain ⟨⟨s1, s2, s3, s4, s5, s6, s7, s8, s9, s10, s11, s12, s13, s14⟩, hT2, -⟩ := q
  refine ⟨s2, s3, s7, s8, fun i hi => ?_⟩
  obtain ⟨d, hd1, hd2⟩ := hT2.2.1 i hi
  exact ⟨d, hd1, by rw [hT2.1 i (by omega), hd2]⟩
theorem MB.v {T h m : Nat} {v v' : Nat → Int32} (q : MB T h m v) (lo : ∀ k, (k = 0 ∨ k = 2 ∨ k = 3 ∨ (8 ≤ k ∧ k < 11)) → v' k = v k) : MB T h m v' := by
  obtain ⟨q1, q2, q3, q4, q5⟩ := q
  refine ⟨by rw [lo 0 (by omega)]; exact q1, q2, by rw [lo 2 (by omega)]; exact q3, by rw [lo 3 (by omega)]; exact q4, fun i hi => by rw [lo (8 + i) (by omega)]; exact q5 i hi⟩
theorem MB.report {T h m : Nat} {v : Nat → Int32} (q : MB T h m v) (x : rw5) : MB T h (m + 1) (adV v m x) := by
  obtain ⟨q1, q2, q3, q4, q5⟩ := q
  refine ⟨by rw [adV_low _ _ _ (by omega) (by omega) (by omega)]; exact q1, q2, by rw [adV_2, q3, ni_1]; rfl, by rw [adV_3, q4, ni_1], fun i hi => by rw [adV_low _ _ _ (by omega) (by omega) (by omega)]; exact q5 i hi⟩
theorem EM_report {F : Nat} {T h m : Nat} {v : Nat → Int32} {E : S_XE} (q : MB T h m v) (em : EM 6 m v E) (hm : h + m < 63) {t : Nat} (ht : t < 6) {y : Int32} (hy : y = 1 ∨ y = -1) :
    ∃ Q R, s_L_report F (E.1, E.2.2.2) (nI t) y = some (Q, R) ∧ EM 6 (m + 1) (adV v m (v 2, nI t, y, v 0 + v (8 + t % 3), 0)) (Q, E.2.1, E.2.2.1, R) := by
  obtain ⟨s2, s3, s7, s8, hT2⟩ := q
  obtain ⟨⟨⟨a0, a1, a2, a3, a4, a5, a6⟩, a7⟩, b, c, d1, d2, d3⟩ := em
  obtain ⟨d, hd1, hd3⟩ := hT2 (t % 3) (by omega)
  obtain ⟨x, hx⟩ : ∃ x : rw5, x = (v 2, nI t, y, v 0 + v (8 + t % 3), 0) := ⟨_, rfl⟩
  obtain ⟨v', hv'⟩ : ∃ v', v' = adV v m x := ⟨_, rfl⟩
  have low : ∀ k, k < 377 → k ≠ 2 → k ≠ 3 → v' k = v k := fun k hk h2 h3 => by rw [hv']; exact adV_low _ _ _ (by omega) h2 h3
  have v2 : v' 2 = v 2 + 1 := by rw [hv']; exact adV_2 v m x
  have v3 : v' 3 = v 3 + 1 := by rw [hv']; exact adV_3 v m x
  have rows : ∀ j, j < m → RV v' j = RV v j := fun j hj => by rw [hv']; exact adV_rows _ _ _ hj
  have row : RV v' m = x := by rw [hv']; exact adV_row _ _ _
  have hpk : PK 6 x (((((E.1 0 + E.1 (7 + t % 3)) * 128 + E.1 1) * 8 + nI t) * 2) + (if y ≤ 0 then 0 else 1)) := by
    rw [a0, a7 (t % 3) (by omega), a1, hx]
    refine ⟨T + d, h + m, t, decide (y = 1), by omega, by omega, ht, s7, rfl, ?_, ?_, ?_⟩
    · rcases hy with z | z <;> rw [z] <;> rfl
    · show v 0 + v (8 + t % 3) = _
      rw [s2, hd3, ni_add]
    · rw [s2, hd3, s7, ni_add, show (128 : Int32) = nI 128 from rfl, ni_mul, ni_add, show (8 : Int32) = nI 8 from rfl, ni_mul, ni_add, show (2 : Int32) = nI 2 from rfl, ni_mul]
      rcases hy with z | z
      · rw [z, if_neg (by decide), show (1 : Int32) = nI 1 from rfl, ni_add]; rfl
      · rw [z, if_pos (by decide), show (0 : Int32) = nI 0 from rfl, ni_add]; rfl
  have hrep := e_report (F := F) (q := E.1) (re := E.2.2.2) (m := m) (by omega) ht (by rw [a2, s8]) y
  obtain ⟨Q, hQ⟩ : ∃ Q, Q = upd (upd E.1 2 (E.1 2 + 1)) 1 (E.1 1 + 1) := ⟨_, rfl⟩
  obtain ⟨z, hz⟩ : ∃ z, z = ((((E.1 0 + E.1 (7 + t % 3)) * 128 + E.1 1) * 8 + nI t) * 2) + (if y ≤ 0 then 0 else 1) := ⟨_, rfl⟩
  obtain ⟨R, hR⟩ : ∃ R, R = upd E.2.2.2 m z := ⟨_, rfl⟩
  rw [← hz] at hpk
  rw [← hQ, ← hz, ← hR] at hrep
  have Qlo : ∀ k, k ≠ 1 → k ≠ 2 → Q k = E.1 k := fun k h1 h2 => by rw [hQ, upd_ne _ _ h1, upd_ne _ _ h2]
  have Q1 : Q 1 = E.1 1 + 1 := by rw [hQ, upd_at]
  have Q2 : Q 2 = E.1 2 + 1 := by rw [hQ, upd_ne _ _ (by omega), upd_at]
  have Rlo : ∀ k, k ≠ m → R k = E.2.2.2 k := fun k h1 => by rw [hR, upd_ne _ _ h1]
  have Rm : R m = z := by rw [hR, upd_at]
  refine ⟨Q, R, hrep, ?_⟩
  rw [← hx, ← hv']
  refine ⟨⟨⟨?_, ?_, ?_, ?_, ?_, ?_, ?_⟩, fun i hi => ?_⟩, fun s hs => ?_, ⟨fun k hk => ?_, fun k hk => ?_⟩, fun j hj => ?_, fun i j hij hj => ?_, fun j hj => ?_⟩
  · show Q 0 = _
    rw [Qlo 0 (by omega) (by omega), low 0 (by omega) (by omega) (by omega)]; exact a0
  · show Q 1 = _
    rw [Q1, v2, a1]
  · show Q 2 = _
    rw [Q2, v3, a2]
  · show Q 3 = _
    rw [Qlo 3 (by omega) (by omega), low 4 (by omega) (by omega) (by omega)]; exact a3
  · show Q 4 = _
    rw [Qlo 4 (by omega) (by omega), low 5 (by omega) (by omega) (by omega)]; exact a4
  · show Q 5 = _
    rw [Qlo 5 (by omega) (by omega), low 6 (by omega) (by omega) (by omega)]; exact a5
  · show Q 6 = _
    rw [Qlo 6 (by omega) (by omega), low 7 (by omega) (by omega) (by omega)]; exact a6
  · show Q (7 + i) = _
    rw [Qlo _ (by omega) (by omega), low (8 + i) (by omega) (by omega) (by omega)]; exact a7 i hi
  · have := b s hs
    rw [low _ (by omega) (by omega) (by omega), low _ (by omega) (by omega) (by omega), low _ (by omega) (by omega) (by omega), low (17 + 10 * s + 3) (by omega) (by omega) (by omega), low (17 + 10 * s + 5) (by omega) (by omega) (by omega), low (17 + 10 * s + 6) (by omega) (by omega) (by omega), low (17 + 10 * s + 7) (by omega) (by omega) (by omega), low (17 + 10 * s + 8) (by omega) (by omega) (by omega)]
    exact this
  · rw [low _ (by omega) (by omega) (by omega)]; exact c.1 k hk
  · rw [low _ (by omega) (by omega) (by omega)]; exact c.2 k hk
  · by_cases hjm : j = m
    · subst hjm
      rw [row]
      show PK 6 x (R j)
      rw [Rm]; exact hpk
    · rw [rows j (by omega)]
      show PK 6 (RV v j) (R j)
      rw [Rlo j hjm]; exact d1 j (by omega)
  · by_cases hjm : j = m
    · subst hjm
      rw [row, rows i (by omega), hx]
      exact d3 i (by omega)
    · rw [rows i (by omega), rows j (by omega)]; exact d2 i j hij (by omega)
  · have e2 : (v' 2).toInt = (v 2).toInt + 1 := by
      rw [v2, s7, ni_1, ni_int (by omega), ni_int (by omega)]; rfl
    rw [e2]
    by_cases hjm : j = m
    · subst hjm
      rw [row, hx]
      show (v 2).toInt < _
      omega
    · rw [rows j (by omega)]
      have := d3 j (by omega)
      omega
