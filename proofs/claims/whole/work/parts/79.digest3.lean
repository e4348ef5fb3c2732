/-! the share, and the digest's end -/
theorem x_share {F : Nat} (hF : 6400 < F) {B T n e h m : Nat} {u : S_X3} {w : S_X5} (q : WX G0 B T n e h m u (a_X5_state w)) :
    ∃ l, s_X3_total F u 2 = some (nI l) ∧ s_X5_living F w = some (nI l) ∧ l ≤ 24 ∧ (l = 0 ∨ ∃ r g, 1 ≤ l ∧ r ≤ l ∧ s_X3_total F u 3 = some (nI r) ∧ s_X5_findReached F w = some (nI r, m_X5_isReached g w)) := by
  obtain ⟨he, hn, -⟩ := WB_e q.1
  have hl := bcn (s := a_X3_living u) hn q.1.2.2.2.1.1
  obtain ⟨r, g, k1, k2, k3, k4, k5, -⟩ := x5_reached (F := F) (by omega) q
  have hr := bcn (s := r) hn (fun t ht => q.1.2.2.2.1.1 t (k5 t ht))
  have hle := cn_mono n (p := mb r) (q := mb (a_X3_living u)) fun k _ hk => k5 k hk
  have hln := cn_le (mb (a_X3_living u)) n
  refine ⟨cn (mb (a_X3_living u)) n, ?_, ?_, by omega, ?_⟩
  · unfold s_X3_total
    rw [if_neg (show ¬ (2 : Int32) = 0 from by decide), if_neg (show ¬ (2 : Int32) = 1 from by decide), if_pos (show (2 : Int32) = 2 from rfl), hl]
  · rw [x5_living (by omega) q.1, hl]
  · by_cases h0 : cn (mb (a_X3_living u)) n = 0
    · exact Or.inl h0
    · refine Or.inr ⟨cn (mb r) n, g, by omega, hle, ?_, ?_⟩
      · unfold s_X3_total
        rw [if_neg (show ¬ (3 : Int32) = 0 from by decide), if_neg (show ¬ (3 : Int32) = 1 from by decide), if_neg (show ¬ (3 : Int32) = 2 from by decide), if_pos (show (3 : Int32) = 3 from rfl), k1, Option.bind_some, hr]
      · rw [k3, hr]
theorem p_share {F : Nat} (hF : 6400 < F) {c : Nat} (hc : c < 512) {S : S_X6} {w : S_X5} (q : REL c S w) : ∃ z w', s_X4_reachedShare F S.1 = some z ∧ s_X5_reachedShare F w = some (z, w') ∧ REL (c + 1) S w' := by
  obtain ⟨T, n, e, h, m, s, L, ch, hL, r⟩ := id q
  obtain ⟨l, l1, l2, l3, l4⟩ := x_share hF (w := m_X5_thrown 0 w) r.2.2.1
  unfold s_X4_reachedShare s_X5_reachedShare
  rw [l1, l2, Option.bind_some, Option.bind_some]
  rcases l4 with l4 | ⟨r', g, r1, r2, r3, r4⟩
  · subst l4
    exact ⟨FP.dconst0, m_X5_thrown 0 w, by rw [if_pos (show (nI 0 : Int32) = 0 from rfl)], by rw [if_pos (show (nI 0 : Int32) = 0 from rfl)], (q.more hc).thr 0⟩
  · have hne : ¬ nI l = 0 := fun z => by have := (ni_eq (b := 0) (by omega) (by omega)).mp z; omega
    have hb := (x_bits hF r1 l3 r2).1
    exact ⟨_, m_X5_isReached g (m_X5_thrown 0 w), by rw [if_neg hne, r3, Option.bind_some, if_pos hb], by rw [if_neg hne, r4, Option.bind_some, if_pos hb], REL.look0 r hL hc (LK_LA (LK.re _ g))⟩
section DG3
variable {F : Nat} {B T n e h m s : Nat} {S : S_X4} {w0 : S_X5}
theorem d_text {L : Nat} {ch : Nat → Nat} (hF : 6400 < F) (tx : TX L ch (a_X4_text S) w0) (hh : Int64) (w : S_X5) (la : LA m w0 w) : ∃ z w', LA m w0 w' ∧ s_X4_digest_l182 F S F hh 0 = some (z, S) ∧ s_X5_digest_l438 F w F hh 0 = some (z, w') := by
  have hL := tx.1
  obtain ⟨h', w', a1, a2, a3⟩ := dg_loop (ι := Unit) (κ := Unit) (m := m) (w0 := w0) (fun _ nn h k => s_X4_digest_l182 F S nn h k) (fun _ mm w h k => s_X5_digest_l438 F w mm h k) (fun _ h => some (h, S)) (fun _ w h => some (h, w)) L
    (fun _ nn h => by
      show s_X4_digest_l182 F S (nn + 1) h (nI L) = _
      rw [e_X4_digest_l182, tx.2.1, if_pos (Int32.le_refl _)])
    (fun _ mm w h la => by
      show s_X5_digest_l438 F w (mm + 1) h (nI L) = _
      rw [e_X5_digest_l438, la.1.2.2.1, tx.2.2.1, if_pos (Int32.le_refl _)])
    (fun k hk w h la => by
      obtain ⟨-, -, t1, t2⟩ := tx.2.2.2 k hk
      refine ⟨31 * h + (nI (ch k)).toInt64, w, la, fun _ nn => ?_, fun _ mm => ?_⟩
      · show s_X4_digest_l182 F S (nn + 1) h (nI k) = s_X4_digest_l182 F S nn _ _
        rw [e_X4_digest_l182, tx.2.1, if_neg (fun z => by have := (ni_le (by omega) (by omega)).mp z; omega), if_neg (il_nle (show k < 60 by omega) (by decide)), if_pos (ni_lx (by omega) (by omega)), mx_b, ni_nat (by omega), t1, ni_1]
      · have hx : a_X5_text w k = nI (ch k) := by rw [la.1.2.2.2.2.2.2.2.2]; exact t2
        show s_X5_digest_l438 F w (mm + 1) h (nI k) = s_X5_digest_l438 F w mm _ _
        rw [e_X5_digest_l438, la.1.2.2.1, tx.2.2.1, if_neg (fun z => by have := (ni_le (by omega) (by omega)).mp z; omega), if_pos (ni_lx (by omega) (by omega)), ni_nat (by omega), hx, ni_1]) hh w la
  exact ⟨h', w', a1, a2 () F (by omega), a3 () F (by omega)⟩
theorem d_last {L : Nat} {ch : Nat → Nat} (hF : 6400 < F) (g : DG B T n e h m s S w0) (tx : TX L ch (a_X4_text S) w0) (hh : Int64) (w : S_X5) (la : LA m w0 w) : ∃ z w', LA m w0 w' ∧ s_X4_digest_b155 F S hh = some (z, S) ∧ s_X5_digest_b395 F w hh = some (z, w') := by
  obtain ⟨l, l1, l2, l3, l4⟩ := x_share hF (g.qw la)
  unfold s_X4_digest_b155 s_X5_digest_b395 s_X4_reachedShare
  rw [l1, l2, Option.bind_some, Option.bind_some]
  have fin : ∀ (b : Int64) (w1 : S_X5), LA m w0 w1 → ∃ z w', LA m w0 w' ∧ s_X4_digest_l182 F S F (31 * (31 * hh + b) + (a_X2_length (a_X4_text S) : Int32).toInt64) 0 = some (z, S) ∧ s_X5_digest_b421 F w1 (31 * hh) b = some (z, w') := fun b w1 la1 => by
    obtain ⟨z, w', z1, z2, z3⟩ := d_text hF tx (31 * (31 * hh + b) + (a_X2_length (a_X4_text S) : Int32).toInt64) w1 la1
    refine ⟨z, w', z1, z2, ?_⟩
    unfold s_X5_digest_b421
    rw [la1.1.2.2.1, tx.2.2.1, ← tx.2.1]
    exact z3
  rcases l4 with l4 | ⟨r', g', r1, r2, r3, r4⟩
  · subst l4
    have hb0 : s_X4_bitsOf F FP.dconst0 = some 0 := by
      unfold s_X4_bitsOf
      rw [if_neg (by decide +kernel)]
    obtain ⟨z, w', z1, z2, z3⟩ := fin 0 w la
    refine ⟨z, w', z1, ?_, ?_⟩
    · rw [if_pos (show (nI 0 : Int32) = 0 from rfl), Option.bind_some, hb0, Option.bind_some, mx_b, mx_b]
      exact z2
    · rw [if_pos (show (nI 0 : Int32) = 0 from rfl)]
      exact z3
  · have hne : ¬ nI l = 0 := fun z => by have := (ni_eq (b := 0) (by omega) (by omega)).mp z; omega
    obtain ⟨hb, b, b1, b2⟩ := x_bits hF r1 l3 r2
    obtain ⟨z, w', z1, z2, z3⟩ := fin b (m_X5_isReached g' w) (LA_tr la (LK_LA (LK.re _ g')))
    refine ⟨z, w', z1, ?_, ?_⟩
    · rw [if_neg hne, r3, Option.bind_some, if_pos hb, Option.bind_some, b1, Option.bind_some, mx_b, mx_b]
      exact z2
    · rw [if_neg hne, r4, Option.bind_some, b2, Option.bind_some]
      exact z3
theorem d_all {L : Nat} {ch : Nat → Nat} (hF : 6400 < F) (g : DG B T n e h m s S w0) (tx : TX L ch (a_X4_text S) w0) (h0 : a_X5_thrown w0 = 0) : ∃ z U w', FX S U ∧ LA m w0 w' ∧ s_X4_digest F S = some (z, U) ∧ s_X5_digest_l11 F F w0 2389 0 = some (z, w') := by
  have la0 : LA m w0 w0 := LK_LA (LK.rf w0)
  obtain ⟨h1, w1, la1, a1, b1⟩ := d_counts hF g 2389 w0 la0
  obtain ⟨h2, w2, la2, a2, b2⟩ := d_settings hF g h1 w1 la1
  obtain ⟨h3, w3, la3, a3, b3⟩ := d_hands hF g h2 w2 la2
  obtain ⟨x, x1, x2⟩ := d_things hF g
  obtain ⟨h4, w4, la4, a4, b4⟩ := x2 h3 w3 la3
  obtain ⟨U1, hU1⟩ : ∃ U, U = m_X4_ahead x S := ⟨_, rfl⟩
  have f1 : FX S U1 := by rw [hU1]; exact FX.ah S x
  rw [← hU1] at x1 a4
  obtain ⟨h5, w5, la5, a5, b5⟩ := d_reports hF (g.fx f1) h4 w4 la4
  obtain ⟨y, y1, y2⟩ := d_passed hF (g.fx f1)
  obtain ⟨h6, w6, la6, a6, b6⟩ := y2 h5 w5 la5
  obtain ⟨U2, hU2⟩ : ∃ U, U = m_X4_ahead y U1 := ⟨_, rfl⟩
  have f2 : FX S U2 := f1.tr (by rw [hU2]; exact FX.ah U1 y)
  rw [← hU2] at y1 a6
  obtain ⟨v, v1, v2⟩ := d_tried hF (g.fx f2)
  obtain ⟨h7, w7, la7, a7, b7⟩ := v2 h6 w6 la6
  obtain ⟨U3, hU3⟩ : ∃ U, U = m_X4_ahead v U2 := ⟨_, rfl⟩
  have f3 : FX S U3 := f2.tr (by rw [hU3]; exact FX.ah U2 v)
  rw [← hU3] at v1 a7
  obtain ⟨h8, h9, w8, U4, la8, f4, a8, a9, b8⟩ := d_cut hF (g.fx f3) h7 w7 la7
  have f5 : FX S U4 := f3.tr f4
  obtain ⟨z, w9, la9, a10, b10⟩ := d_last hF (g.fx f5) (show TX L ch (a_X4_text U4) w0 by rw [f5.2.2]; exact tx) h9 w8 la8
  refine ⟨z, U4, w9, f5, la9, ?_, ?_⟩
  · unfold s_X4_digest
    rw [a1, a2, a3]
    unfold s_X4_digest_b87
    rw [x1, Option.bind_some, a4, Option.bind_some, a5, Option.bind_some, y1, Option.bind_some, a6, Option.bind_some, v1, Option.bind_some, a7, Option.bind_some, a8, Option.bind_some, a9]
    exact a10
  · rw [b1, b2, b3, b4, b5, b6, b7, b8]
    exact b10
end DG3
theorem p_digest {F : Nat} (hF : 6400 < F) {c : Nat} (hc : c < 512) {S : S_X6} {w : S_X5} (q : REL c S w) : ∃ z U w', s_X4_digest F S.1 = some (z, U) ∧ s_X5_digest F w = some (z, w') ∧ REL (c + 1) (m_X6_g U S) w' := by
  obtain ⟨T, n, e, h, m, s, L, ch, hL, r⟩ := id q
  obtain ⟨q1, q2, q3, q4, q5, q6, q7, q8, q9⟩ := id r
  obtain ⟨z, U, w', f, la, a, b⟩ := d_all (w0 := m_X5_thrown 0 w) hF ⟨q3, q4, q1, by omega, q5, q6, q2⟩ q8 rfl
  exact ⟨z, U, w', a, b, REL.look r hL hc f la⟩
