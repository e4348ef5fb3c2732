section DG2
variable {F : Nat} {B T n e h m s : Nat} {S : S_X4} {w0 : S_X5}
theorem DG.fx {U : S_X4} (g : DG B T n e h m s S w0) (fx : FX S U) : DG B T n e h m s U w0 := ⟨by rw [fx.1]; exact g.1, g.2.1, g.2.2.1, g.2.2.2.1, fx.2.1.trans g.2.2.2.2.1, g.2.2.2.2.2⟩
theorem d_ends (hF : 6400 < F) (g : DG B T n e h m s S w0) (hh : Int64) (w : S_X5) (la : LA m w0 w) : ∃ h' w', LA m w0 w' ∧ s_X4_withReportsAndEnds_l64 F S F hh 0 = some h' ∧ s_X5_digest_l259 F w F hh 0 = s_X5_digest_l295 F F w' h' 0 := by
  obtain ⟨he, hn, -⟩ := WB_e g.q.1
  obtain ⟨h', w', a1, a2, a3⟩ := dg_loop (ι := Unit) (κ := Unit) (m := m) (w0 := w0) (fun _ nn h k => s_X4_withReportsAndEnds_l64 F S nn h k) (fun _ mm w h k => s_X5_digest_l259 F w mm h k) (fun _ h => some h) (fun _ w h => s_X5_digest_l295 F F w h 0) e
    (fun _ nn h => by
      show s_X4_withReportsAndEnds_l64 F S (nn + 1) h (nI e) = _
      rw [e_X4_withReportsAndEnds_l64, g.q.1.1.2.2.2.2.2.2.2.2.1, if_pos (Int32.le_refl _)])
    (fun _ mm w h la => by
      show s_X5_digest_l259 F w (mm + 1) h (nI e) = _
      rw [e_X5_digest_l259, show a_X5_state w (4 : Int32).toNatClampNeg = nI e from (g.qw la).1.1.2.2.2.2.2.2.2.2.2.1, if_pos (Int32.le_refl _)])
    (fun k hk w h la => by
      have hv : a_X5_state w (353 + k) = a_X3_endOrder (a_X4_now S) k := (g.qw la).1.2.2.2.2.1 k hk
      have e3 : (353 : Int32) + nI k = nI (353 + k) := by rw [show (353 : Int32) = nI 353 from rfl, ni_add]
      refine ⟨31 * h + (a_X3_endOrder (a_X4_now S) k).toInt64, w, la, fun _ nn => ?_, fun _ mm => ?_⟩
      · show s_X4_withReportsAndEnds_l64 F S (nn + 1) h (nI k) = s_X4_withReportsAndEnds_l64 F S nn _ _
        rw [e_X4_withReportsAndEnds_l64, g.q.1.1.2.2.2.2.2.2.2.2.1, if_neg (fun z => by have := (ni_le (by omega) (by omega)).mp z; omega), if_neg (il_nle (show k < 24 by omega) (by decide)), if_pos (ni_lx (by omega) (by omega)), mx_b, ni_nat (by omega), ni_1]
      · show s_X5_digest_l259 F w (mm + 1) h (nI k) = s_X5_digest_l259 F w mm _ _
        rw [e_X5_digest_l259, show a_X5_state w (4 : Int32).toNatClampNeg = nI e from (g.qw la).1.1.2.2.2.2.2.2.2.2.2.1, if_neg (fun z => by have := (ni_le (by omega) (by omega)).mp z; omega), e3, if_pos (ni_lx (by omega) (by omega)), ni_nat (by omega), hv, ni_1]) hh w la
  exact ⟨h', w', a1, a2 () F (by omega), a3 () F (by omega)⟩
theorem d_reports (hF : 6400 < F) (g : DG B T n e h m s S w0) (hh : Int64) (w : S_X5) (la : LA m w0 w) : ∃ h' w', LA m w0 w' ∧ s_X4_withReportsAndEnds F S hh = some h' ∧ s_X5_digest_l203 F w F hh 0 = s_X5_digest_l295 F F w' h' 0 := by
  have hm := (WB_e g.q.1).2.2
  have hu : s_X1_underWay F (a_X3_rep (a_X4_now S)) = some (nI m) := x1_under g.q.1.2.2.2.2.2.1.1
  obtain ⟨h1, w1, a1, a2, a3⟩ := dg_loop (ι := Unit) (κ := Unit) (m := m) (w0 := w0) (fun _ nn h k => s_X4_withReportsAndEnds_l5 F S nn h k) (fun _ mm w h k => s_X5_digest_l203 F w mm h k) (fun _ h => s_X4_withReportsAndEnds_l64 F S F h 0) (fun _ w h => s_X5_digest_l259 F w F h 0) m
    (fun _ nn h => by
      show s_X4_withReportsAndEnds_l5 F S (nn + 1) h (nI m) = _
      rw [e_X4_withReportsAndEnds_l5, hu, Option.bind_some, if_pos (Int32.le_refl _)])
    (fun _ mm w h la => by
      show s_X5_digest_l203 F w (mm + 1) h (nI m) = _
      rw [e_X5_digest_l203, show a_X5_state w (3 : Int32).toNatClampNeg = nI m from (g.qw la).1.1.2.2.2.2.2.2.2.1, if_pos (Int32.le_refl _)])
    (fun p hp w h la => by
      obtain ⟨i, i1, i2, i3⟩ := x_report (F := F) (by omega) (g.qw la).1 hp
      obtain ⟨h2, w2, b1, b2, b3⟩ := dg_loop (ι := Int64 → Int32 → Option Int64) (κ := Int64 → Int32 → Option (Int64 × S_X5)) (m := m) (w0 := w0) (fun k5 nn h k => s_X4_withReportsAndEnds_l23 F S (nI p) k5 nn h k) (fun k203 mm _ h k => s_X5_digest_l223 F w (nI p) (nI i) k203 mm h k) (fun k5 h => k5 h (nI p + 1)) (fun k203 _ h => k203 h (nI p + 1)) 5
        (fun k5 nn h => by show s_X4_withReportsAndEnds_l23 F S (nI p) k5 (nn + 1) h (nI 5) = _; rw [e_X4_withReportsAndEnds_l23, if_pos (by decide)])
        (fun k203 mm _ h _ => by show s_X5_digest_l223 F w (nI p) (nI i) k203 (mm + 1) h (nI 5) = _; rw [e_X5_digest_l223, if_pos (by decide)])
        (fun k hk w' h la' => by
          obtain ⟨z, z1, z2⟩ := i3 k hk
          refine ⟨31 * h + z.toInt64, w', la', fun k5 nn => ?_, fun k203 mm => ?_⟩
          · show s_X4_withReportsAndEnds_l23 F S (nI p) k5 (nn + 1) h (nI k) = s_X4_withReportsAndEnds_l23 F S (nI p) k5 nn _ _
            rw [e_X4_withReportsAndEnds_l23, if_neg (il_nle (show k < 5 by omega) (by decide)), z1, Option.bind_some, mx_b, ni_1]
          · show s_X5_digest_l223 F w (nI p) (nI i) k203 (mm + 1) h (nI k) = s_X5_digest_l223 F w (nI p) (nI i) k203 mm _ _
            rw [e_X5_digest_l223, if_neg (show ¬ (4 : Int32) < nI k from ni_nlt (k := 4) (by omega) (by omega)), z2, Option.bind_some, ni_1]) h w la
      refine ⟨h2, w, la, fun _ nn => ?_, fun _ mm => ?_⟩
      · show s_X4_withReportsAndEnds_l5 F S (nn + 1) h (nI p) = s_X4_withReportsAndEnds_l5 F S nn _ _
        have b2' : s_X4_withReportsAndEnds_l23 F S (nI p) (s_X4_withReportsAndEnds_l5 F S nn) F h 0 = s_X4_withReportsAndEnds_l5 F S nn h2 (nI p + 1) := b2 (s_X4_withReportsAndEnds_l5 F S nn) F (by omega)
        rw [e_X4_withReportsAndEnds_l5, hu, Option.bind_some, if_neg (fun z => by have := (ni_le (by omega) (by omega)).mp z; omega), b2', ni_1]
      · show s_X5_digest_l203 F w (mm + 1) h (nI p) = s_X5_digest_l203 F w mm _ _
        have b3' : s_X5_digest_l223 F w (nI p) (nI i) (s_X5_digest_l203 F w mm) F h 0 = s_X5_digest_l203 F w mm h2 (nI p + 1) := b3 (s_X5_digest_l203 F w mm) F (by omega)
        rw [e_X5_digest_l203, show a_X5_state w (3 : Int32).toNatClampNeg = nI m from (g.qw la).1.1.2.2.2.2.2.2.2.1, if_neg (fun z => by have := (ni_le (by omega) (by omega)).mp z; omega), i2, Option.bind_some, b3', ni_1]) hh w la
  obtain ⟨h2, w2, c1, c2, c3⟩ := d_ends hF g h1 w1 a1
  refine ⟨h2, w2, c1, ?_, ?_⟩
  · unfold s_X4_withReportsAndEnds
    exact (a2 () F (by omega)).trans c2
  · exact (a3 () F (by omega)).trans c3
theorem d_passed (hF : 6400 < F) (g : DG B T n e h m s S w0) : ∃ x, s_X4_foresee F S 20 = some (m_X4_ahead x S) ∧ ∀ (hh : Int64) (w : S_X5), LA m w0 w → ∃ h' w', LA m w0 w' ∧ s_X4_withPassed F (m_X4_ahead x S) hh = some h' ∧ s_X5_digest_l295 F F w hh 0 = s_X5_digest_l323 F F w' h' 0 := by
  obtain ⟨x, x1, -⟩ := x_wouldPass hF (w := w0) (u := S) (c := 20) g.q g.nd g.hT (by omega)
  refine ⟨x, x1, fun hh w la => ?_⟩
  obtain ⟨U, hU⟩ : ∃ U, U = m_X4_ahead x S := ⟨_, rfl⟩
  rw [← hU] at x1 ⊢
  obtain ⟨h', w', a1, a2, a3⟩ := dg_loop (ι := Unit) (κ := Unit) (m := m) (w0 := w0) (fun _ nn h k => s_X4_withPassed_l5 F U nn h k) (fun _ mm w h k => s_X5_digest_l295 F mm w h k) (fun _ h => some h) (fun _ w h => s_X5_digest_l323 F F w h 0) 4
    (fun _ nn h => by show s_X4_withPassed_l5 F U (nn + 1) h (nI 4) = _; rw [e_X4_withPassed_l5, if_pos (by decide)])
    (fun _ mm w h _ => by show s_X5_digest_l295 F (mm + 1) w h (nI 4) = _; rw [e_X5_digest_l295, if_pos (by decide)])
    (fun k hk w h la => by
      obtain ⟨x', y1, y2⟩ := x_wouldPass hF (w := w) (u := S) (c := 20) (g.qw la) (LA_nd g.nd la) g.hT (by omega)
      rw [x1] at y1
      rw [← Option.some.inj y1] at y2
      obtain ⟨z, w', z1, z2, z3⟩ := y2 k hk
      refine ⟨31 * h + z.toInt64, w', LA_tr la z3, fun _ nn => ?_, fun _ mm => ?_⟩
      · show s_X4_withPassed_l5 F U (nn + 1) h (nI k) = s_X4_withPassed_l5 F U nn _ _
        rw [e_X4_withPassed_l5, if_neg (show ¬ (3 : Int32) < nI k from ni_nlt (k := 3) (by omega) (by omega)), z1, Option.bind_some, mx_b, ni_1]
      · have z2' : s_X5_wouldPass F w 20 (nI k) = some (z, w') := z2
        show s_X5_digest_l295 F (mm + 1) w h (nI k) = s_X5_digest_l295 F mm _ _ _
        rw [e_X5_digest_l295, if_neg (show ¬ (3 : Int32) < nI k from ni_nlt (k := 3) (by omega) (by omega)), z2', Option.bind_some, ni_1]) hh w la
  exact ⟨h', w', a1, a2 () F (by omega), a3 () F (by omega)⟩
theorem d_tried (hF : 6400 < F) (g : DG B T n e h m s S w0) : ∃ x, s_X4_foreseeTrial F S = some (m_X4_ahead x S) ∧ ∀ (hh : Int64) (w : S_X5), LA m w0 w → ∃ h' w', LA m w0 w' ∧ s_X4_withTried F (m_X4_ahead x S) hh = some h' ∧ s_X5_digest_l323 F F w hh 0 = s_X5_digest_b347 F w' h' := by
  obtain ⟨x, x1, -⟩ := x_wouldTry hF (w := w0) (u := S) g.q g.nd
  refine ⟨x, x1, fun hh w la => ?_⟩
  obtain ⟨U, hU⟩ : ∃ U, U = m_X4_ahead x S := ⟨_, rfl⟩
  rw [← hU] at x1 ⊢
  obtain ⟨h', w', a1, a2, a3⟩ := dg_loop (ι := Unit) (κ := Unit) (m := m) (w0 := w0) (fun _ nn h k => s_X4_withTried_l5 F U nn h k) (fun _ mm w h k => s_X5_digest_l323 F mm w h k) (fun _ h => some h) (fun _ w h => s_X5_digest_b347 F w h) 3
    (fun _ nn h => by show s_X4_withTried_l5 F U (nn + 1) h (nI 3) = _; rw [e_X4_withTried_l5, if_pos (by decide)])
    (fun _ mm w h _ => by show s_X5_digest_l323 F (mm + 1) w h (nI 3) = _; rw [e_X5_digest_l323, if_pos (by decide)])
    (fun k hk w h la => by
      obtain ⟨x', y1, y2⟩ := x_wouldTry hF (w := w) (u := S) (g.qw la) (LA_nd g.nd la)
      rw [x1] at y1
      rw [← Option.some.inj y1] at y2
      obtain ⟨z, w', z1, z2, z3⟩ := y2 k hk
      refine ⟨31 * h + z.toInt64, w', LA_tr la z3, fun _ nn => ?_, fun _ mm => ?_⟩
      · show s_X4_withTried_l5 F U (nn + 1) h (nI k) = s_X4_withTried_l5 F U nn _ _
        rw [e_X4_withTried_l5, if_neg (show ¬ (2 : Int32) < nI k from ni_nlt (k := 2) (by omega) (by omega)), z1, Option.bind_some, mx_b, ni_1]
      · show s_X5_digest_l323 F (mm + 1) w h (nI k) = s_X5_digest_l323 F mm _ _ _
        rw [e_X5_digest_l323, if_neg (show ¬ (2 : Int32) < nI k from ni_nlt (k := 2) (by omega) (by omega)), z2, Option.bind_some, ni_1]) hh w la
  exact ⟨h', w', a1, a2 () F (by omega), a3 () F (by omega)⟩
/-- the best cut, and how much the thing 0 bears -/
theorem d_cut (hF : 6400 < F) (g : DG B T n e h m s S w0) (hh : Int64) (w : S_X5) (la : LA m w0 w) : ∃ h1 h' w' U, LA m w0 w' ∧ FX S U ∧ s_X4_withBestCut F S hh = some h1 ∧
    (if a_X3_things (a_X4_now S) ≤ 0 then s_X4_digest_b155 F S h1 else (s_X4_slandersToEnd F S 0).bind fun y9 => (s_X4_mixed F h1 (y9.1.toInt64)).bind fun y10 => s_X4_digest_b155 F y9.2 y10) = s_X4_digest_b155 F U h' ∧ s_X5_digest_b347 F w hh = s_X5_digest_b395 F w' h' := by
  obtain ⟨he, hn, -⟩ := WB_e g.q.1
  obtain ⟨w1, z1, l1⟩ := x_cut (F := F) (by omega) (g.qw la) 0
  have la1 := LA_tr la (LK_LA l1)
  obtain ⟨w2, z2, l2⟩ := x_cut (F := F) (by omega) (g.qw la1) 1
  have la2 := LA_tr la1 (LK_LA l2)
  rw [if_pos (show (0 : Int32) = 0 from rfl)] at z1
  rw [if_neg (show ¬ (1 : Int32) = 0 by decide)] at z2
  have hh' := WX_hOK g.q
  obtain ⟨c1, hc1⟩ : ∃ c, c = (cutF (cutL F (a_X3_hold (a_X4_now S))) 100).1 := ⟨_, rfl⟩
  obtain ⟨c2, hc2⟩ : ∃ c, c = (cutF (cutL F (a_X3_hold (a_X4_now S))) 100).2 := ⟨_, rfl⟩
  have k0 := x0_cut (F := F) (by omega) hh'
  have k1 := x0_cut1 (F := F) (by omega) hh'
  rw [← hc1] at z1 k0 k1
  rw [← hc2] at z2 k1
  have hb : s_X4_withBestCut F S hh = some (31 * (31 * hh + c1.toInt64) + c2.toInt64) := by
    unfold s_X4_withBestCut
    rw [k0, Option.bind_some, mx_b]
    rcases k1 with ⟨a1, a2⟩ | ⟨a1, a2⟩
    · rw [if_pos a1, a2]
      unfold s_X4_withBestCut_b42
      rw [mx_b]
      rfl
    · rw [if_neg a1, a2, Option.bind_some]
      unfold s_X4_withBestCut_b42
      rw [mx_b]
  have hth := g.q.1.1.2.2.2.1
  have hs1 : a_X5_state w2 (1 : Int32).toNatClampNeg = nI n := (g.qw la2).1.1.2.2.2.2.1
  by_cases h0 : n = 0
  · subst h0
    refine ⟨_, 31 * (31 * hh + c1.toInt64) + c2.toInt64, w2, S, la2, FX.rf S, hb, ?_, ?_⟩
    · rw [hth, if_pos (by decide)]
    · unfold s_X5_digest_b347
      rw [z1, Option.bind_some, z2, Option.bind_some, hs1, if_pos (by decide)]
  · have hp : ¬ nI n ≤ 0 := fun z => by have := (ni_le (b := 0) (by omega) (by omega)).mp z; omega
    obtain ⟨z, U, w3, b1, b2, b3, b4⟩ := x_wouldBear hF (t := 0) (u := S) (g.qw la2) (LA_nd g.nd la2) g.hT g.hB (by omega)
    have b1' : s_X4_slandersToEnd F S 0 = some (z, U) := b1
    have b2' : s_X5_wouldBear F w2 0 = some (z, w3) := b2
    refine ⟨_, 31 * (31 * (31 * hh + c1.toInt64) + c2.toInt64) + z.toInt64, w3, U, LA_tr la2 b4, b3, hb, ?_, ?_⟩
    · rw [hth, if_neg hp, b1', Option.bind_some, mx_b]
    · unfold s_X5_digest_b347
      rw [z1, Option.bind_some, z2, Option.bind_some, hs1, if_neg hp, b2', Option.bind_some]
end DG2
