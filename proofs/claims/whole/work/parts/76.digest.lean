/-! the digest: one loop's law, and the loops down to the ends -/
theorem dg_loop {ι κ α β : Type} {m : Nat} {w0 : S_X5} (A : ι → Nat → Int64 → Int32 → Option α) (B : κ → Nat → S_X5 → Int64 → Int32 → Option β) (EA : ι → Int64 → Option α) (EB : κ → S_X5 → Int64 → Option β) (N : Nat)
    (zA : ∀ i nn h, A i (nn + 1) h (nI N) = EA i h) (zB : ∀ j mm w h, LA m w0 w → B j (mm + 1) w h (nI N) = EB j w h)
    (st : ∀ k, k < N → ∀ w h, LA m w0 w → ∃ h' w', LA m w0 w' ∧ (∀ i nn, A i (nn + 1) h (nI k) = A i nn h' (nI (k + 1))) ∧ ∀ j mm, B j (mm + 1) w h (nI k) = B j mm w' h' (nI (k + 1))) :
    ∀ h w, LA m w0 w → ∃ h' w', LA m w0 w' ∧ (∀ i nn, N < nn → A i nn h 0 = EA i h') ∧ ∀ j mm, N < mm → B j mm w h 0 = EB j w' h' := by
  have key : ∀ d k, k + d = N → ∀ h w, LA m w0 w → ∃ h' w', LA m w0 w' ∧ (∀ i nn, d < nn → A i nn h (nI k) = EA i h') ∧ ∀ j mm, d < mm → B j mm w h (nI k) = EB j w' h' := by
    intro d
    induction d with
    | zero =>
      intro k hk h w la
      obtain rfl : k = N := by omega
      refine ⟨h, w, la, fun i nn hn => ?_, fun j mm hm => ?_⟩
      · obtain ⟨nn, rfl⟩ : ∃ x, nn = x + 1 := ⟨nn - 1, by omega⟩
        exact zA i nn h
      · obtain ⟨mm, rfl⟩ : ∃ x, mm = x + 1 := ⟨mm - 1, by omega⟩
        exact zB j mm w h la
    | succ d ih =>
      intro k hk h w la
      obtain ⟨h1, w1, la1, a1, b1⟩ := st k (by omega) w h la
      obtain ⟨h2, w2, la2, a2, b2⟩ := ih (k + 1) (by omega) h1 w1 la1
      refine ⟨h2, w2, la2, fun i nn hn => ?_, fun j mm hm => ?_⟩
      · obtain ⟨nn, rfl⟩ : ∃ x, nn = x + 1 := ⟨nn - 1, by omega⟩
        rw [a1]
        exact a2 i nn (by omega)
      · obtain ⟨mm, rfl⟩ : ∃ x, mm = x + 1 := ⟨mm - 1, by omega⟩
        rw [b1]
        exact b2 j mm (by omega)
  intro h w la
  exact key N 0 (by omega) h w la
theorem mx_b {α : Type} (F : Nat) (a b : Int64) (f : Int64 → Option α) : (s_X4_mixed F a b).bind f = f (31 * a + b) := rfl
section DG
variable {F : Nat} {B T n e h m s : Nat} {S : S_X4} {w0 : S_X5}
/-- what a digest may use -/
def DG (B T n e h m s : Nat) (S : S_X4) (w0 : S_X5) : Prop := WX G0 B T n e h m (a_X4_now S) (a_X5_state w0) ∧ ND T m (a_X5_state w0) ∧ T ≤ 5000 ∧ B + 13 + 96 ≤ 1200 ∧ a_X4_savedStates S = nI s ∧ a_X5_savedMany w0 = nI s ∧ s ≤ 6
theorem DG.q (g : DG B T n e h m s S w0) : WX G0 B T n e h m (a_X4_now S) (a_X5_state w0) := g.1
theorem DG.nd (g : DG B T n e h m s S w0) : ND T m (a_X5_state w0) := g.2.1
theorem DG.hT (g : DG B T n e h m s S w0) : T ≤ 5000 := g.2.2.1
theorem DG.hB (g : DG B T n e h m s S w0) : B + 13 + 96 ≤ 1200 := g.2.2.2.1
theorem DG.sc (g : DG B T n e h m s S w0) : a_X4_savedStates S = nI s := g.2.2.2.2.1
theorem DG.sm (g : DG B T n e h m s S w0) : a_X5_savedMany w0 = nI s := g.2.2.2.2.2.1
theorem DG.qw (g : DG B T n e h m s S w0) {w : S_X5} (la : LA m w0 w) : WX G0 B T n e h m (a_X4_now S) (a_X5_state w) := LA_q g.q la
theorem LA_tr {w0 w w' : S_X5} (a : LA m w0 w) (b : LA m w w') : LA m w0 w' := ⟨SF1.tr a.1 b.1, fun k hk => (b.2 k hk).trans (a.2 k hk)⟩
theorem d_counts (hF : 6400 < F) (g : DG B T n e h m s S w0) (hh : Int64) (w : S_X5) (la : LA m w0 w) : ∃ h' w', LA m w0 w' ∧ s_X4_digest_l6 F S F hh 0 = s_X4_digest_l31 F S F h' 0 ∧ s_X5_digest_l11 F F w hh 0 = s_X5_digest_l38 F w' F h' 0 := by
  obtain ⟨h', w', a1, a2, a3⟩ := dg_loop (ι := Unit) (κ := Unit) (m := m) (w0 := w0) (fun _ nn h k => s_X4_digest_l6 F S nn h k) (fun _ mm w h k => s_X5_digest_l11 F mm w h k) (fun _ h => s_X4_digest_l31 F S F h 0) (fun _ w h => s_X5_digest_l38 F w F h 0) 14
    (fun _ nn h => by show s_X4_digest_l6 F S (nn + 1) h (nI 14) = _; rw [e_X4_digest_l6, if_pos (by decide)])
    (fun _ mm w h _ => by show s_X5_digest_l11 F (mm + 1) w h (nI 14) = _; rw [e_X5_digest_l11, if_pos (by decide)])
    (fun k hk w h la => by
      have hk2 : ∃ z w', s_X4_count F S (nI k) = some z ∧ s_X5_countOf F w (nI k) = some (z, w') ∧ LK w w' := by
        by_cases h13 : k = 13
        · subst h13
          refine ⟨nI s, w, ?_, ?_, LK.rf _⟩
          · unfold s_X4_count
            rw [if_neg (by decide), if_pos (by decide), if_pos (by decide)]
            exact congrArg some g.sc
          · show s_X5_countOf F w 13 = _
            unfold s_X5_countOf
            iterate 13 rw [if_neg (by decide)]
            exact congrArg (fun z => some (z, w)) (la.1.2.1.trans g.sm)
        · obtain ⟨z, w', z1, z2, z3⟩ := x_total (F := F) (by omega) (g.qw la) k (by omega)
          refine ⟨z, w', ?_, z2, z3⟩
          unfold s_X4_count
          rw [if_neg (ni_nneg (by omega)), if_pos (show nI k < 14 from (ni_lt (b := 14) (by omega) (by omega)).mpr (by omega)), if_neg (show ¬ nI k = 13 from fun z => h13 ((ni_eq (b := 13) (by omega) (by omega)).mp z)), z1]
          rfl
      obtain ⟨z, w', z1, z2, z3⟩ := hk2
      refine ⟨31 * h + z.toInt64, w', LA_tr la (LK_LA z3), fun _ nn => ?_, fun _ mm => ?_⟩
      · show s_X4_digest_l6 F S (nn + 1) h (nI k) = s_X4_digest_l6 F S nn _ _
        rw [e_X4_digest_l6, if_neg (il_nle (show k < 14 by omega) (by decide)), z1, Option.bind_some, mx_b, ni_1]
      · show s_X5_digest_l11 F (mm + 1) w h (nI k) = s_X5_digest_l11 F mm _ _ _
        rw [e_X5_digest_l11, if_neg (show ¬ (13 : Int32) < nI k from ni_nlt (k := 13) (by omega) (by omega)), z2, Option.bind_some, ni_1]) hh w la
  exact ⟨h', w', a1, a2 () F (by omega), a3 () F (by omega)⟩
theorem d_settings (hF : 6400 < F) (g : DG B T n e h m s S w0) (hh : Int64) (w : S_X5) (la : LA m w0 w) : ∃ h' w', LA m w0 w' ∧ s_X4_digest_l31 F S F hh 0 = s_X4_digest_l59 F S F h' 0 ∧ s_X5_digest_l38 F w F hh 0 = s_X5_digest_l68 F w' F h' 0 := by
  obtain ⟨h', w', a1, a2, a3⟩ := dg_loop (ι := Unit) (κ := Unit) (m := m) (w0 := w0) (fun _ nn h k => s_X4_digest_l31 F S nn h k) (fun _ mm w h k => s_X5_digest_l38 F w mm h k) (fun _ h => s_X4_digest_l59 F S F h 0) (fun _ w h => s_X5_digest_l68 F w F h 0) 5
    (fun _ nn h => by show s_X4_digest_l31 F S (nn + 1) h (nI 5) = _; rw [e_X4_digest_l31, if_pos (by decide)])
    (fun _ mm w h _ => by show s_X5_digest_l38 F w (mm + 1) h (nI 5) = _; rw [e_X5_digest_l38, if_pos (by decide)])
    (fun k hk w h la => by
      have hv := (g.qw la).1.2.1.1 k hk
      have e8 : (8 : Int32) + nI k = nI (8 + k) := by rw [show (8 : Int32) = nI 8 from rfl, ni_add]
      refine ⟨31 * h + (a_X3_settings (a_X4_now S) k).toInt64, w, la, fun _ nn => ?_, fun _ mm => ?_⟩
      · show s_X4_digest_l31 F S (nn + 1) h (nI k) = s_X4_digest_l31 F S nn _ _
        rw [e_X4_digest_l31, if_neg (il_nle (show k < 5 by omega) (by decide)), if_pos (ni_lx (by omega) (by omega)), mx_b, ni_nat (by omega), ni_1]
      · show s_X5_digest_l38 F w (mm + 1) h (nI k) = s_X5_digest_l38 F w mm _ _
        rw [e_X5_digest_l38, if_neg (il_nle (show k < 5 by omega) (by decide)), e8, if_pos (ni_lx (by omega) (by omega)), ni_nat (by omega), hv, ni_1]) hh w la
  exact ⟨h', w', a1, a2 () F (by omega), a3 () F (by omega)⟩
theorem d_hands (hF : 6400 < F) (g : DG B T n e h m s S w0) (hh : Int64) (w : S_X5) (la : LA m w0 w) : ∃ h' w', LA m w0 w' ∧ s_X4_digest_l59 F S F hh 0 = s_X4_digest_b87 F S h' ∧ s_X5_digest_l68 F w F hh 0 = s_X5_digest_l98 F F w' h' 0 := by
  obtain ⟨h', w', a1, a2, a3⟩ := dg_loop (ι := Unit) (κ := Unit) (m := m) (w0 := w0) (fun _ nn h k => s_X4_digest_l59 F S nn h k) (fun _ mm w h k => s_X5_digest_l68 F w mm h k) (fun _ h => s_X4_digest_b87 F S h) (fun _ w h => s_X5_digest_l98 F F w h 0) 4
    (fun _ nn h => by show s_X4_digest_l59 F S (nn + 1) h (nI 4) = _; rw [e_X4_digest_l59, if_pos (by decide)])
    (fun _ mm w h _ => by show s_X5_digest_l68 F w (mm + 1) h (nI 4) = _; rw [e_X5_digest_l68, if_pos (by decide)])
    (fun k hk w h la => by
      have hv : a_X5_state w (13 + k) = a_X3_hold (a_X4_now S) k := (g.qw la).2.1 k hk
      refine ⟨31 * h + (a_X3_hold (a_X4_now S) k).toInt64, w, la, fun _ nn => ?_, fun _ mm => ?_⟩
      · show s_X4_digest_l59 F S (nn + 1) h (nI k) = s_X4_digest_l59 F S nn _ _
        rw [e_X4_digest_l59, if_neg (il_nle (show k < 4 by omega) (by decide)), x0_at F _ (by omega), Option.bind_some, mx_b, ni_1]
      · show s_X5_digest_l68 F w (mm + 1) h (nI k) = s_X5_digest_l68 F w mm _ _
        rw [e_X5_digest_l68, if_neg (il_nle (show k < 4 by omega) (by decide)), ni_13, if_pos (ni_lx (by omega) (by omega)), ni_nat (by omega), hv, ni_1]) hh w la
  exact ⟨h', w', a1, a2 () F (by omega), a3 () F (by omega)⟩
theorem d_props (hF : 6400 < F) (g : DG B T n e h m s S w0) {t : Nat} (ht : t < n) (hh : Int64) (w : S_X5) (la : LA m w0 w) : ∃ h' w', LA m w0 w' ∧ (∀ k5, s_X4_withThings_l27 F S (nI t) k5 F hh 0 = s_X4_withThings_l60 F S (nI t) k5 F h' 0) ∧ ∀ k98, s_X5_digest_l111 F (nI t) k98 F w hh 0 = s_X5_digest_l142 F w' (nI t) k98 F h' 0 := by
  obtain ⟨h', w', a1, a2, a3⟩ := dg_loop (ι := Int64 → Int32 → Option Int64) (κ := S_X5 → Int64 → Int32 → Option (Int64 × S_X5)) (m := m) (w0 := w0) (fun k5 nn h k => s_X4_withThings_l27 F S (nI t) k5 nn h k) (fun k98 mm w h k => s_X5_digest_l111 F (nI t) k98 mm w h k) (fun k5 h => s_X4_withThings_l60 F S (nI t) k5 F h 0) (fun k98 w h => s_X5_digest_l142 F w (nI t) k98 F h 0) 13
    (fun k5 nn h => by show s_X4_withThings_l27 F S (nI t) k5 (nn + 1) h (nI 13) = _; rw [e_X4_withThings_l27, if_pos (by decide)])
    (fun k98 mm w h _ => by show s_X5_digest_l111 F (nI t) k98 (mm + 1) w h (nI 13) = _; rw [e_X5_digest_l111, if_pos (by decide)])
    (fun k hk w h la => by
      obtain ⟨z, w', z1, z2, z3⟩ := x_prop (F := F) (by omega) (g.qw la) ht k hk
      refine ⟨31 * h + z.toInt64, w', LA_tr la (LK_LA z3), fun k5 nn => ?_, fun k98 mm => ?_⟩
      · show s_X4_withThings_l27 F S (nI t) k5 (nn + 1) h (nI k) = s_X4_withThings_l27 F S (nI t) k5 nn _ _
        rw [e_X4_withThings_l27, if_neg (il_nle (show k < 13 by omega) (by decide)), z1, Option.bind_some, mx_b, ni_1]
      · show s_X5_digest_l111 F (nI t) k98 (mm + 1) w h (nI k) = s_X5_digest_l111 F (nI t) k98 mm _ _ _
        rw [e_X5_digest_l111, if_neg (show ¬ (12 : Int32) < nI k from ni_nlt (k := 12) (by omega) (by omega)), z2, Option.bind_some, ni_1]) hh w la
  exact ⟨h', w', a1, fun k5 => a2 k5 F (by omega), fun k98 => a3 k98 F (by omega)⟩
theorem d_slots (hF : 6400 < F) (g : DG B T n e h m s S w0) {t : Nat} (ht : t < n) (hh : Int64) (w : S_X5) (la : LA m w0 w) : ∃ h' w', LA m w0 w' ∧ (∀ k5, s_X4_withThings_l60 F S (nI t) k5 F hh 0 = s_X4_withThings_b95 F k5 S h' (nI t)) ∧ ∀ k98, s_X5_digest_l142 F w (nI t) k98 F hh 0 = s_X5_digest_b169 F k98 w' h' (nI t) := by
  obtain ⟨he, hn, -⟩ := WB_e g.q.1
  obtain ⟨h', w', a1, a2, a3⟩ := dg_loop (ι := Int64 → Int32 → Option Int64) (κ := S_X5 → Int64 → Int32 → Option (Int64 × S_X5)) (m := m) (w0 := w0) (fun k5 nn h k => s_X4_withThings_l60 F S (nI t) k5 nn h k) (fun k98 mm w h k => s_X5_digest_l142 F w (nI t) k98 mm h k) (fun k5 h => s_X4_withThings_b95 F k5 S h (nI t)) (fun k98 w h => s_X5_digest_b169 F k98 w h (nI t)) 4
    (fun k5 nn h => by show s_X4_withThings_l60 F S (nI t) k5 (nn + 1) h (nI 4) = _; rw [e_X4_withThings_l60, if_pos (by decide)])
    (fun k98 mm w h _ => by show s_X5_digest_l142 F w (nI t) k98 (mm + 1) h (nI 4) = _; rw [e_X5_digest_l142, if_pos (by decide)])
    (fun k hk w h la => by
      have hv : a_X5_state w (257 + 4 * t + k) = a_X3_hold (a_X4_now S) (4 + 4 * t + k) := by
        rcases (g.qw la).2.2.1 t ht k hk with z | z
        · exact z
        · exact absurd z.1 Bool.false_ne_true
      refine ⟨31 * h + (a_X3_hold (a_X4_now S) (4 + 4 * t + k)).toInt64, w, la, fun k5 nn => ?_, fun k98 mm => ?_⟩
      · show s_X4_withThings_l60 F S (nI t) k5 (nn + 1) h (nI k) = s_X4_withThings_l60 F S (nI t) k5 nn _ _
        rw [e_X4_withThings_l60, if_neg (il_nle (show k < 4 by omega) (by decide)), ni_plk, x0_at F _ (by omega), Option.bind_some, mx_b, ni_1]
      · show s_X5_digest_l142 F w (nI t) k98 (mm + 1) h (nI k) = s_X5_digest_l142 F w (nI t) k98 mm _ _
        rw [e_X5_digest_l142, if_neg (il_nle (show k < 4 by omega) (by decide)), x5_slotOf F w (t := t) (k := k) (by omega), Option.bind_some, hv, ni_1]) hh w la
  exact ⟨h', w', a1, fun k5 => a2 k5 F (by omega), fun k98 => a3 k98 F (by omega)⟩
theorem d_things (hF : 6400 < F) (g : DG B T n e h m s S w0) : ∃ x, s_X4_foresee F S 200 = some (m_X4_ahead x S) ∧ ∀ (hh : Int64) (w : S_X5), LA m w0 w → ∃ h' w', LA m w0 w' ∧ s_X4_withThings F (m_X4_ahead x S) hh = some h' ∧ s_X5_digest_l98 F F w hh 0 = s_X5_digest_l203 F w' F h' 0 := by
  obtain ⟨x, x1, x2⟩ := x_wouldEnd hF (w := w0) (u := S) g.q g.nd g.hT
  obtain ⟨he, hn, -⟩ := WB_e g.q.1
  refine ⟨x, x1, fun hh w la => ?_⟩
  obtain ⟨U, hU⟩ : ∃ U, U = m_X4_ahead x S := ⟨_, rfl⟩
  have gU : DG B T n e h m s U w0 := by rw [hU]; exact g
  rw [← hU] at x2 ⊢
  obtain ⟨h', w', a1, a2, a3⟩ := dg_loop (ι := Unit) (κ := Unit) (m := m) (w0 := w0) (fun _ nn h k => s_X4_withThings_l5 F U nn h k) (fun _ mm w h k => s_X5_digest_l98 F mm w h k) (fun _ h => some h) (fun _ w h => s_X5_digest_l203 F w F h 0) n
    (fun _ nn h => by
      show s_X4_withThings_l5 F U (nn + 1) h (nI n) = _
      rw [e_X4_withThings_l5, gU.q.1.1.2.2.2.1, if_pos (Int32.le_refl _)])
    (fun _ mm w h la => by
      show s_X5_digest_l98 F (mm + 1) w h (nI n) = _
      rw [e_X5_digest_l98, show a_X5_state w (1 : Int32).toNatClampNeg = nI n from (g.qw la).1.1.2.2.2.2.1, if_pos (Int32.le_refl _)])
    (fun k hk w h la => by
      obtain ⟨h1, w1, la1, p1, p2⟩ := d_props hF gU hk h w la
      obtain ⟨h2, w2, la2, r1, r2⟩ := d_slots hF gU hk h1 w1 la1
      obtain ⟨z3, w3, s1, s2, s3⟩ := x_ring (F := F) (by omega) (gU.qw la2) hk
      obtain ⟨z4, w4, t1, t2, t3⟩ := x2 k w3 hk (LA_tr la2 (LK_LA s3))
      refine ⟨31 * (31 * h2 + z3.toInt64) + z4.toInt64, w4, t3, fun _ nn => ?_, fun _ mm => ?_⟩
      · show s_X4_withThings_l5 F U (nn + 1) h (nI k) = s_X4_withThings_l5 F U nn _ _
        rw [e_X4_withThings_l5, gU.q.1.1.2.2.2.1, if_neg (fun z => by have := (ni_le (by omega) (by omega)).mp z; omega), if_neg (il_nle (show k < 24 by omega) (by decide)), p1, r1]
        unfold s_X4_withThings_b95
        rw [s1, Option.bind_some, mx_b, t1, Option.bind_some, mx_b, ni_1]
      · show s_X5_digest_l98 F (mm + 1) w h (nI k) = s_X5_digest_l98 F mm _ _ _
        rw [e_X5_digest_l98, show a_X5_state w (1 : Int32).toNatClampNeg = nI n from (g.qw la).1.1.2.2.2.2.1, if_neg (fun z => by have := (ni_le (by omega) (by omega)).mp z; omega), p2, r2]
        unfold s_X5_digest_b169
        rw [s2, Option.bind_some, t2, Option.bind_some, ni_1]) hh w la
  exact ⟨h', w', a1, a2 () F (by omega), a3 () F (by omega)⟩
end DG
