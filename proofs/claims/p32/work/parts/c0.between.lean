/-! the class between two calls of the law -/
def RY (s : Nat) (S : S_X6) : Prop := s ≤ 6 ∧ a_X4_savedStates S.1 = nI s ∧ PM S.2.2
def RZ (S : S_X6) : Prop := ∃ s, RY s S
theorem RZ.g {S : S_X6} (r : RZ S) {u : S_X4} (h : a_X4_savedStates u = a_X4_savedStates S.1) : RZ (m_X6_g u S) := by
  obtain ⟨s, r1, r2, r3⟩ := r
  exact ⟨s, r1, h.trans r2, r3⟩
theorem z_save {F : Nat} {B T n e h m : Nat} {v : Nat → Int32} {S : S_X6} (q3 : WX G0 B T n e h m (a_X4_now S.1) v) (r : RZ S) :
    ∃ S', s_X4_save_6 F S = some S' ∧ RZ S' ∧ a_X4_now S'.1 = a_X4_now S.1 := by
  obtain ⟨s, q2, q5, q9⟩ := r
  obtain ⟨g, sv, pi⟩ := S
  dsimp only at q3 q5 q9
  have hpi := pi_ok_all q9.1
  by_cases h6 : s = 6
  · subst h6
    have hr5 : pi_r pi 5 = pi 0 := rfl
    obtain ⟨y, y1, -, y3⟩ := x3_copyFrom (F := F) (sv (pi 0)) q3
    have hs : s_X4_save_6 F (g, sv, pi) = some (m_X4_savedStates (nI 6) g, va_up sv (pi 0) y, pi_r pi) := by
      unfold s_X4_save_6
      rw [if_neg (show ¬ a_X4_savedStates g < 6 by rw [q5]; decide), if_pos q9.1]
      unfold s6_put
      have h0 := hpi 0 (by omega)
      rw [if_pos (show lf_ix (5 : Int32) 6 by decide)]
      show (if pi_r pi 5 < 6 then (s_X3_copyFrom F (sv (pi_r pi 5)) (a_X4_now g)).bind (fun y => some (m_X4_savedStates (5 + 1) g, va_up sv (pi_r pi 5) y, pi_r pi)) else none) = _
      rw [hr5, if_pos h0, y1, Option.bind_some]
      rfl
    exact ⟨_, hs, ⟨6, Nat.le_refl _, rfl, PM_r q9⟩, rfl⟩
  · obtain ⟨y, y1, -, y3⟩ := x3_copyFrom (F := F) (sv (pi s)) q3
    have hs : s_X4_save_6 F (g, sv, pi) = some (m_X4_savedStates (nI (s + 1)) g, va_up sv (pi s) y, pi) := by
      unfold s_X4_save_6
      rw [if_pos (show a_X4_savedStates g < 6 by rw [q5]; exact (ni_lt (b := 6) (by omega) (by omega)).mpr (by omega))]
      unfold s6_put
      show (if lf_ix (a_X4_savedStates g) 6 then (if pi (a_X4_savedStates g).toNatClampNeg < 6 then (s_X3_copyFrom F (sv (pi (a_X4_savedStates g).toNatClampNeg)) (a_X4_now g)).bind (fun y => some (m_X4_savedStates (a_X4_savedStates g + 1) g, va_up sv (pi (a_X4_savedStates g).toNatClampNeg) y, pi)) else none) else none) = _
      rw [q5, if_pos (ni_lx (by omega) (by omega)), ni_nat (by omega), if_pos (hpi s (by omega)), y1, Option.bind_some, ni_1]
    exact ⟨_, hs, ⟨s + 1, by omega, rfl, q9⟩, rfl⟩
/-! the setup -/
theorem z_set {F : Nat} {B T n e h m : Nat} {v : Nat → Int32} {S : S_X6} (q : WX G0 B T n e h m (a_X4_now S.1) v) (r : RZ S) {d y : Nat} (hd : d < 5) (hy1 : (d < 3 → y ≤ 20) ∧ (d = 3 → y ≤ 1) ∧ (d = 4 → y ≤ 50)) :
    ∃ S', s_X4_set_6 F S (nI d) (nI y) = some (a_X3_settings (a_X4_now S.1) d, S') ∧ RZ S' ∧ WX G0 B T n e h m (a_X4_now S'.1) (upd v (8 + d) (nI y)) ∧ a_X3_settings (a_X4_now S'.1) = upd (a_X3_settings (a_X4_now S.1)) d (nI y) := by
  obtain ⟨S1, s1, r1, s3⟩ := z_save (F := F) q r
  have g1 : tT 5 (nI d) = true := (tT_iff (by omega)).mpr ⟨d, hd, rfl⟩
  obtain ⟨mx, hmx⟩ : ∃ mx : Int32, mx = if 3 ≤ nI d then (if nI d = 3 then 1 else 50) else 20 := ⟨_, rfl⟩
  have hmo : s_X4_mostOf F (nI d) = some mx := by
    unfold s_X4_mostOf
    rw [hmx]
    split
    · split <;> rfl
    · rfl
  have hy0 : y < 2147483648 := by omega
  have hle : nI y ≤ mx := by
    rw [hmx]
    by_cases h3 : d < 3
    · rw [if_neg (il_nle h3 (by decide))]
      exact (ni_le (b := 20) hy0 (by omega)).mpr (hy1.1 h3)
    · by_cases h4 : d = 3
      · subst h4
        rw [if_pos (by decide), if_pos (by decide)]
        exact (ni_le (b := 1) hy0 (by omega)).mpr (hy1.2.1 rfl)
      · obtain rfl : d = 4 := by omega
        rw [if_pos (by decide), if_neg (by decide)]
        exact (ni_le (b := 50) hy0 (by omega)).mpr (hy1.2.2 rfl)
  have r3 := WX_set (s3 ▸ q : WX G0 B T n e h m (a_X4_now S1.1) v) hd hy1.1 hy1.2.1 hy1.2.2
  refine ⟨m_X6_g (m_X4_now (m_X3_settings (upd (a_X3_settings (a_X4_now S1.1)) d (nI y)) (a_X4_now S1.1)) S1.1) S1, ?_, r1.g rfl, r3, by rw [← s3]⟩
  unfold s_X4_set_6
  rw [c_isSetting, Option.bind_some, g1, if_pos rfl, if_neg (ni_nneg (by omega)), hmo, Option.bind_some, if_pos hle, s1, Option.bind_some, if_pos (ni_lx (by omega) (by omega)), if_pos (ni_lx (by omega) (by omega)), ni_nat (by omega), ← s3]
theorem z_add {F : Nat} (hF : 6400 < F) {B T n e h m : Nat} {v : Nat → Int32} {S : S_X6} (q : WX G0 B T n e h m (a_X4_now S.1) v) (r : RZ S) (hn : n < 24) {d : Nat} (hd : d ≤ 9) :
    ∃ S' v', s_X4_add_6 F S (nI d) = some (nI n, S') ∧ RZ S' ∧ WX G0 B T (n + 1) e h m (a_X4_now S'.1) v' ∧ ∀ k, v' k = if k = 1 then v 1 + 1 else if 257 + 4 * n ≤ k ∧ k < 257 + 4 * n + 4 then -1 else if k = 17 + 10 * n + 6 then -1 else if k = 17 + 10 * n + 5 then -1 else if k = 17 + 10 * n + 4 then v 0 else if k = 17 + 10 * n + 1 then nI d else if k = 17 + 10 * n then 1 else if 17 + 10 * n ≤ k ∧ k < 17 + 10 * n + 10 then 0 else v k := by
  obtain ⟨S1, s1, r1, s3⟩ := z_save (F := F) q r
  have hth : a_X3_things (a_X4_now S.1) = nI n := q.1.1.2.2.2.1
  have q1 : WX G0 B T n e h m (a_X4_now S1.1) v := s3 ▸ q
  obtain ⟨w, hw⟩ : ∃ w : S_X5, w = m_X5_state v default := ⟨_, rfl⟩
  have est : a_X5_state w = v := by rw [hw]
  obtain ⟨x, v', b1, b2, b3, -⟩ := x_bring (F := F) (w := w) (by omega) (est.symm ▸ q1) hn hd
  obtain ⟨v2, c1, c2⟩ := md_added (F := F) (by omega) w hn (by rw [est]; exact q1.1.1.2.2.2.2.1) (nI d)
  have e2 := congrArg (fun z : Option (Int32 × S_X5) => z.map fun p => a_X5_state p.2) (b2.symm.trans c1)
  have e3 : v' = v2 := Option.some.inj e2
  subst e3
  rw [est] at c2
  refine ⟨m_X6_g (m_X4_now x S1.1) S1, v', ?_, r1.g rfl, b3, c2⟩
  unfold s_X4_add_6
  rw [if_neg (ni_nneg (by omega)), if_pos (show nI d ≤ 9 from (ni_le (b := 9) (by omega) (by omega)).mpr hd), hth, if_pos (show nI n < 24 from (ni_lt (b := 24) (by omega) (by omega)).mpr hn), s1, Option.bind_some, b1, Option.bind_some]
/-! a turn's operations -/
section OPS
variable {F : Nat} {B T e h m : Nat} {v : Nat → Int32} {S : S_X6} {E : S_XE}
def KZ (B T : Nat) (S : S_X6) (E : S_XE) : Prop := ∃ e h m v, KE B T e h m (a_X4_now S.1) v E ∧ ND T m v ∧ RZ S ∧ E.1 3 = nI e
theorem KZ.of (q : KE B T e h m (a_X4_now S.1) v E) (nd : ND T m v) (r : RZ S) : KZ B T S E := ⟨e, h, m, v, q, nd, r, by rw [q.2.1.1.1.2.2.2.1]; exact q.1.1.1.2.2.2.2.2.2.2.2.2.1⟩
theorem z_take (hF : 6400 < F) (q : KE B T e h m (a_X4_now S.1) v E) (r : RZ S) (hB : B + 2 ≤ 32) {d : Nat} (hd : d < 4) {y : Int32} (hy : y = -1 ∨ ∃ t, t < 6 ∧ y = nI t ∧ mb (a_X3_living (a_X4_now S.1)) t = true) :
    ∃ S' E', s_X4_take_6 F S (nI d) y = some (E.2.2.1 (24 + d), S') ∧ eC F d y E = some E' ∧ KZ (B + 2) T S' E' := by
  obtain ⟨S1, s1, r1, s3⟩ := z_save (F := F) q.1 r
  have hth : a_X3_things (a_X4_now S.1) = nI 6 := q.1.1.1.2.2.2.1
  obtain ⟨e', h', m', u', v', E', c1, c2, c3, c4, c5, c6⟩ := c_change hF hB (s3.symm ▸ q.1) q.2.1 (k := d) (by omega) (fun z => by omega) (y := y) (by
    rcases hy with z | ⟨t, -, z1, z2⟩
    · exact Or.inl z
    · exact Or.inr ⟨t, z1, by rw [s3]; exact z2⟩)
  have hea : ea d = 24 + d := if_pos hd
  rw [hea] at c1
  refine ⟨m_X6_g (m_X4_now u' S1.1) S1, E', ?_, c2, KZ.of ⟨c3, c5, hB, q.2.2.2⟩ c4 (r1.g rfl)⟩
  have g2 : ((y == -1) || tT 6 y) = true := by
    rcases hy with z | ⟨t, z0, z1, z2⟩
    · rw [z]; rfl
    · rw [(tT_iff (by omega)).mpr ⟨t, z0, z1⟩, Bool.or_true]
  have g3 : tH (a_X4_now S.1) y = true := tH_iff.mpr (by
    rcases hy with z | ⟨t, z0, z1, z2⟩
    · exact Or.inl z
    · exact Or.inr ⟨t, by omega, z1, z2⟩)
  unfold s_X4_take_6
  rw [c_isHand, Option.bind_some, (tT_iff (n := 4) (by omega)).mpr ⟨d, hd, rfl⟩, if_pos rfl, c_isThingOrNone F (u := a_X6_g S) hth, Option.bind_some, g2, if_pos rfl, c_mayBeHeld, Option.bind_some, g3, if_pos rfl, s1, Option.bind_some, c1, Option.bind_some]
theorem z_put (hF : 6400 < F) (q : KE B T e h m (a_X4_now S.1) v E) (r : RZ S) (hB : B + 2 ≤ 32) {t sl : Nat} (ht : t < 6) (hl : mb (a_X3_living (a_X4_now S.1)) t = true) (hsl : sl < 4) {y : Int32} (hy : y = -1 ∨ ∃ t, t < 6 ∧ y = nI t ∧ mb (a_X3_living (a_X4_now S.1)) t = true) :
    ∃ S' E', s_X4_put_6 F S (nI t) (nI sl) y = some (E.2.2.1 (4 * t + sl), S') ∧ eC F (4 + 4 * t + sl) y E = some E' ∧ KZ (B + 2) T S' E' := by
  obtain ⟨S1, s1, r1, s3⟩ := z_save (F := F) q.1 r
  have hth : a_X3_things (a_X4_now S.1) = nI 6 := q.1.1.1.2.2.2.1
  obtain ⟨e', h', m', u', v', E', c1, c2, c3, c4, c5, c6⟩ := c_change hF hB (s3.symm ▸ q.1) q.2.1 (k := 4 + 4 * t + sl) (by omega) (fun z => by rw [show (4 + 4 * t + sl - 4) / 4 = t by omega, s3]; exact hl) (y := y) (by
    rcases hy with z | ⟨t, -, z1, z2⟩
    · exact Or.inl z
    · exact Or.inr ⟨t, z1, by rw [s3]; exact z2⟩)
  have hea : ea (4 + 4 * t + sl) = 4 * t + sl := by
    unfold ea
    rw [if_neg (by omega)]
    omega
  rw [hea] at c1
  refine ⟨m_X6_g (m_X4_now u' S1.1) S1, E', ?_, c2, KZ.of ⟨c3, c5, hB, q.2.2.2⟩ c4 (r1.g rfl)⟩
  have g2 : ((y == -1) || tT 6 y) = true := by
    rcases hy with z | ⟨t, z0, z1, z2⟩
    · rw [z]; rfl
    · rw [(tT_iff (by omega)).mpr ⟨t, z0, z1⟩, Bool.or_true]
  have g3 : tH (a_X4_now S.1) y = true := tH_iff.mpr (by
    rcases hy with z | ⟨t, z0, z1, z2⟩
    · exact Or.inl z
    · exact Or.inr ⟨t, by omega, z1, z2⟩)
  have g4 : tL (a_X4_now S.1) (nI t) = true := tL_iff.mpr ⟨t, by omega, rfl, hl⟩
  unfold s_X4_put_6
  rw [c_isThing F (u := a_X6_g S) hth, Option.bind_some, (tT_iff (n := 6) (by omega)).mpr ⟨t, ht, rfl⟩, if_pos rfl, c_isSlot, Option.bind_some, (tT_iff (n := 4) (by omega)).mpr ⟨sl, hsl, rfl⟩, if_pos rfl, c_isThingOrNone F (u := a_X6_g S) hth, Option.bind_some, g2, if_pos rfl, c_lives, Option.bind_some, g4, if_pos rfl, c_mayBeHeld, Option.bind_some, g3, if_pos rfl, s1, Option.bind_some, ni_plk, c1, Option.bind_some]
/-- what the class throws where a thing has ended -/
theorem z_take_e (q : KE B T e h m (a_X4_now S.1) v E) {d t : Nat} (hd : d < 4) (ht : t < 6) (hl : mb (a_X3_living (a_X4_now S.1)) t = false) : s_X4_take_e F S.1 (nI d) (nI t) = some 2 := by
  have hth : a_X3_things (a_X4_now S.1) = nI 6 := q.1.1.1.2.2.2.1
  have g3 : tH (a_X4_now S.1) (nI t) = false := by
    rw [Bool.eq_false_iff]
    intro z
    rcases tH_iff.mp z with z | ⟨k, z0, z1, z2⟩
    · exact absurd z (nI_ne (by omega))
    · rw [(ni_eq (by omega) (by omega)).mp z1, z2] at hl
      cases hl
  unfold s_X4_take_e
  rw [c_isHand, Option.bind_some, (tT_iff (n := 4) (by omega)).mpr ⟨d, hd, rfl⟩, if_pos rfl, c_isThingOrNone F hth, Option.bind_some, (tT_iff (n := 6) (by omega)).mpr ⟨t, ht, rfl⟩, Bool.or_true, if_pos rfl, c_mayBeHeld, Option.bind_some, g3, if_neg Bool.false_ne_true]
theorem z_put_e (q : KE B T e h m (a_X4_now S.1) v E) {t sl : Nat} (ht : t < 6) (hsl : sl < 4) {y : Int32} (hy : y = -1 ∨ ∃ t, t < 6 ∧ y = nI t) (hl : tL (a_X4_now S.1) (nI t) = false ∨ tH (a_X4_now S.1) y = false) : s_X4_put_e F S.1 (nI t) (nI sl) y = some 2 := by
  have hth : a_X3_things (a_X4_now S.1) = nI 6 := q.1.1.1.2.2.2.1
  have g2 : ((y == -1) || tT 6 y) = true := by
    rcases hy with z | ⟨t, z0, z1⟩
    · rw [z]; rfl
    · rw [(tT_iff (by omega)).mpr ⟨t, z0, z1⟩, Bool.or_true]
  unfold s_X4_put_e
  rw [c_isThing F hth, Option.bind_some, (tT_iff (n := 6) (by omega)).mpr ⟨t, ht, rfl⟩, if_pos rfl, c_isSlot, Option.bind_some, (tT_iff (n := 4) (by omega)).mpr ⟨sl, hsl, rfl⟩, if_pos rfl, c_isThingOrNone F hth, Option.bind_some, g2, if_pos rfl, c_lives, Option.bind_some]
  cases g4 : tL (a_X4_now S.1) (nI t) with
  | false => rw [if_neg Bool.false_ne_true]
  | true =>
    rcases hl with z | z
    · rw [g4] at z; cases z
    · rw [if_pos rfl, c_mayBeHeld, Option.bind_some, z, if_neg Bool.false_ne_true]
theorem z_pass (hF : 6400 < F) (q : KE B T e h m (a_X4_now S.1) v E) (nd : ND T m v) (r : RZ S) {c : Nat} (hc1 : 1 ≤ c) (hc : c ≤ 6) (hT : T + c ≤ 5000) :
    ∃ S' E' e', s_X4_pass_6 F S (nI c) = some (nI e' - nI e, S') ∧ eT F c E = some E' ∧ KZ B (T + c) S' E' ∧ E'.1 3 = nI e' ∧ E.1 3 = nI e := by
  obtain ⟨S1, s1, r1, s3⟩ := z_save (F := F) q.1 r
  have htm : a_X3_time (a_X4_now S.1) = nI T := q.1.1.1.1
  obtain ⟨e', h', m', u', v', E', c1, c2, c3, c4, c5, c6, -⟩ := c_pass hF q.2.2.1 (c := c) (by omega) (by omega) (s3.symm ▸ q.1) nd q.2.1
  have ke : KE B (T + c) e' h' m' u' v' E' := ⟨c3, c5, q.2.2.1, hT⟩
  have i1 : E'.1 3 = nI e' := by rw [c5.1.1.2.2.2.1]; exact c3.1.1.2.2.2.2.2.2.2.2.2.1
  have i2 : E.1 3 = nI e := by rw [q.2.1.1.1.2.2.2.1]; exact q.1.1.1.2.2.2.2.2.2.2.2.2.1
  refine ⟨m_X6_g (m_X4_now u' S1.1) S1, E', e', ?_, c2, KZ.of (S := m_X6_g (m_X4_now u' S1.1) S1) ke c4 (r1.g rfl), i1, i2⟩
  unfold s_X4_pass_6
  rw [if_neg (show ¬ nI c < 1 from fun z => by have := (ni_lt (b := 1) (by omega) (by omega)).mp z; omega), if_pos (show nI c ≤ 100 from (ni_le (b := 100) (by omega) (by omega)).mpr (by omega)), show a_X3_time (a_X4_now (a_X6_g S)) = nI T from htm, ni_add, if_pos (show nI (T + c) ≤ 5000 from (ni_le (b := 5000) (by omega) (by omega)).mpr hT), s1, Option.bind_some, c1, Option.bind_some]
theorem z_trial (hF : 6400 < F) (q : KE B T e h m (a_X4_now S.1) v E) (nd : ND T m v) (r : RZ S) :
    ∃ S' E' e', s_X4_trial_6 F S = some (nI e' - nI e, S') ∧ s_L_trial F E = some E' ∧ KZ B T S' E' ∧ E'.1 3 = nI e' ∧ E.1 3 = nI e := by
  obtain ⟨S1, s1, r1, s3⟩ := z_save (F := F) q.1 r
  obtain ⟨e', h', m', u', v', E', c1, c2, c3, c4, c5, c6⟩ := c_trial hF q.2.2.1 (s3.symm ▸ q.1) nd q.2.1
  have ke : KE B T e' h' m' u' v' E' := ⟨c3, c5, q.2.2⟩
  have i1 : E'.1 3 = nI e' := by rw [c5.1.1.2.2.2.1]; exact c3.1.1.2.2.2.2.2.2.2.2.2.1
  have i2 : E.1 3 = nI e := by rw [q.2.1.1.1.2.2.2.1]; exact q.1.1.1.2.2.2.2.2.2.2.2.2.1
  refine ⟨m_X6_g (m_X4_now u' S1.1) S1, E', e', ?_, c2, KZ.of (S := m_X6_g (m_X4_now u' S1.1) S1) ke c4 (r1.g rfl), i1, i2⟩
  unfold s_X4_trial_6
  rw [s1, Option.bind_some, c1, Option.bind_some]
end OPS
