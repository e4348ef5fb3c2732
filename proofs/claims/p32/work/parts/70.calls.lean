/-! the calls that change the state -/
def OUT (c : Nat) (S : S_X6) (w : S_X5) (a : Option (Int32 × S_X6)) (ex : Option Nat) (b : Option (Int32 × S_X5)) : Prop :=
  ∃ z w', b = some (z, w') ∧ ((a_X5_thrown w' = 0 ∧ ∃ S', a = some (z, S') ∧ REL (c + 1) S' w') ∨ ∃ k, a_X5_thrown w' = nI k ∧ 1 ≤ k ∧ k ≤ 3 ∧ ex = some k ∧ REL (c + 1) S w')
theorem OUT.thr {c : Nat} {S : S_X6} {w : S_X5} {a : Option (Int32 × S_X6)} {ex : Option Nat} {b : Option (Int32 × S_X5)} (q : REL c S w) (hc : c < 512) (k : Nat) (h1 : 1 ≤ k) (h3 : k ≤ 3) (hb : b = some (0, m_X5_thrown (nI k) w)) (hx : ex = some k) : OUT c S w a ex b := ⟨0, _, hb, Or.inr ⟨k, rfl, h1, h3, hx, (q.more hc).thr _⟩⟩
theorem OUT.ok {c : Nat} {S : S_X6} {w : S_X5} {a : Option (Int32 × S_X6)} {ex : Option Nat} {b : Option (Int32 × S_X5)} {z : Int32} {S' : S_X6} {w' : S_X5} (hr : REL (c + 1) S' w') (h0 : a_X5_thrown w' = 0) (hb : b = some (z, w')) (ha : a = some (z, S')) : OUT c S w a ex b := ⟨z, w', hb, Or.inl ⟨h0, S', ha, hr⟩⟩
theorem sv_go {F : Nat} (hF : 6400 < F) {c : Nat} {S : S_X6} {w : S_X5} (q : REL c S w) : ∃ T n e h m s L ch S' w1, L ≤ 2 * c ∧ RX (2 * c - L) T n e h m s L ch S' w1 ∧ s_X4_save_6 F S = some S' ∧ s_X5_save F (m_X5_thrown 0 w) = some w1 ∧ a_X4_now S'.1 = a_X4_now S.1 ∧ a_X5_state w1 = a_X5_state w ∧ a_X5_thrown w1 = 0 ∧ a_X4_text S'.1 = a_X4_text S.1 ∧ a_X5_text w1 = a_X5_text w ∧ a_X5_textLength w1 = a_X5_textLength w := by
  obtain ⟨T, n, e, h, m, s, L, ch, hL, r⟩ := q
  obtain ⟨S', w1, h1, h2, h3, h4, h5, h6, h7, h8, h9⟩ := x_save hF (r.thr 0)
  exact ⟨T, n, e, h, m, _, L, ch, S', w1, hL, h3, h1, h2, h4, h6, h7, h5, h8, h9⟩
theorem REL.op {c T n e h m s L T' n' e' h' m' B' : Nat} {ch : Nat → Nat} {S : S_X6} {w w' : S_X5} {x : S_X3} (r : RX (2 * c - L) T n e h m s L ch S w) (hL : L ≤ 2 * c) (hc : c < 512) (hT : T' ≤ 5000) (hx : WX G0 B' T' n' e' h' m' x (a_X5_state w')) (hB : 2 * c - L ≤ B') (hB' : B' ≤ 2 * c - L + 2) (nd : ND T' m' (a_X5_state w')) (fr : FR w w') : REL (c + 1) (m_X6_g (m_X4_now x S.1) S) w' :=
  ⟨T', n', e', h', m', s, L, ch, by omega, (r.op hT hx nd hB fr).more (by omega) (by omega)⟩
theorem p_add {F : Nat} (hF : 6400 < F) {c : Nat} (hc : c < 512) {S : S_X6} {w : S_X5} (q : REL c S w) (v1 : Int32) : OUT c S w (s_X4_add_6 F S v1) (s_X4_add_e F S.1 v1) (s_X5_add F w v1) := by
  obtain ⟨T, n, e, h, m, s, L, ch, S', w1, hL, r, s1, s2, s3, s4, s5, -⟩ := sv_go hF q
  have rx := r.2.2.1
  have hs1 : a_X5_state w (1 : Int32).toNatClampNeg = nI n := by rw [← s4]; exact rx.1.1.2.2.2.2.1
  have hth : a_X3_things (a_X4_now S.1) = nI n := by rw [← s3]; exact rx.1.1.2.2.2.1
  have hn := (WB_e rx.1).2.1
  by_cases hr : (0 : Int32) ≤ v1 ∧ v1 ≤ 9
  · by_cases h24 : n = 24
    · refine OUT.thr q hc 2 (by omega) (by omega) ?_ ?_
      · unfold s_X5_add s_X5_whyNotAdded
        rw [m_within, decide_eq_true hr, Option.bind_some, if_pos rfl, hs1, h24, if_pos (show (nI 24 : Int32) = 24 from rfl), Option.bind_some, if_neg (by decide)]
        rfl
      · unfold s_X4_add_e
        rw [if_neg (Int32.not_lt.mpr hr.1), if_pos hr.2, hth, h24, if_neg (by decide)]
    · obtain ⟨d, hd, rfl⟩ : ∃ d, d ≤ 9 ∧ v1 = nI d := by
        rcases i32_case v1 with z | ⟨k, k1, rfl⟩
        · exact absurd z (Int32.not_lt.mpr hr.1)
        · exact ⟨k, (ni_le (b := 9) k1 (by omega)).mp hr.2, rfl⟩
      obtain ⟨x, v', r1, r2, r3, r4⟩ := x_bring (F := F) (by omega) rx (by omega) hd
      refine OUT.ok (z := nI n) (REL.op (w' := m_X5_state v' w1) r hL hc r.1 r3 (Nat.le_refl _) (by omega) (ND_v r.2.2.2.1 fun k h1 _ => r4 k h1) (FR.sf (SF.st w1 v'))) s5 ?_ ?_
      · unfold s_X5_add s_X5_whyNotAdded
        rw [m_within, decide_eq_true hr, Option.bind_some, if_pos rfl, hs1, if_neg (show ¬ nI n = 24 from fun z => h24 ((ni_eq (b := 24) (by omega) (by omega)).mp z)), Option.bind_some, if_pos (by decide), s2, Option.bind_some, r2, Option.bind_some]
      · unfold s_X4_add_6
        rw [if_neg (Int32.not_lt.mpr hr.1), if_pos hr.2, hth, if_pos (show nI n < 24 from (ni_lt (b := 24) (by omega) (by omega)).mpr (by omega)), s1, Option.bind_some, r1, Option.bind_some]
  · refine OUT.thr q hc 1 (by omega) (by omega) ?_ ?_
    · unfold s_X5_add s_X5_whyNotAdded
      rw [m_within, decide_eq_false hr, Option.bind_some, if_neg Bool.false_ne_true, Option.bind_some, if_neg (by decide)]
      rfl
    · unfold s_X4_add_e
      by_cases h0 : v1 < 0
      · rw [if_pos h0]
      · rw [if_neg h0, if_neg fun z => hr ⟨Int32.not_lt.mp h0, z⟩]
theorem p_take {F : Nat} (hF : 6400 < F) {c : Nat} (hc : c < 512) {S : S_X6} {w : S_X5} (q : REL c S w) (v1 v2 : Int32) : OUT c S w (s_X4_take_6 F S v1 v2) (s_X4_take_e F S.1 v1 v2) (s_X5_take F w v1 v2) := by
  obtain ⟨T, n, e, h, m, s, L, ch, S', w1, hL, r, s1, s2, s3, s4, s5, -⟩ := sv_go hF q
  have rx := r.2.2.1
  have rxb := rx.1
  have hth : a_X3_things (a_X4_now S.1) = nI n := by rw [← s3]; exact rx.1.1.2.2.2.1
  have hn := (WB_e rx.1).2.1
  have hwb : WB (2 * c - L) T n e h m (a_X4_now S.1) (a_X5_state w) := by rw [← s3, ← s4]; exact rxb
  have hwhy := m_taken F hwb v1 v2
  cases g1 : tT 4 v1 with
  | false =>
    refine OUT.thr q hc 1 (by omega) (by omega) ?_ ?_
    · unfold s_X5_take
      rw [hwhy, g1, Bool.false_and, if_neg Bool.false_ne_true, Option.bind_some, if_neg (by decide)]
      rfl
    · unfold s_X4_take_e
      rw [c_isHand, Option.bind_some, g1, if_neg Bool.false_ne_true]
  | true =>
    cases g2 : ((v2 == -1) || tT n v2) with
    | false =>
      refine OUT.thr q hc 1 (by omega) (by omega) ?_ ?_
      · unfold s_X5_take
        rw [hwhy, g1, g2, Bool.and_false, if_neg Bool.false_ne_true, Option.bind_some, if_neg (by decide)]
        rfl
      · unfold s_X4_take_e
        rw [c_isHand, Option.bind_some, g1, if_pos rfl, c_isThingOrNone F hth, Option.bind_some, g2, if_neg Bool.false_ne_true]
    | true =>
      cases g3 : tH (a_X4_now S.1) v2 with
      | false =>
        refine OUT.thr q hc 2 (by omega) (by omega) ?_ ?_
        · unfold s_X5_take
          rw [hwhy, g1, g2, g3, Bool.and_true, if_pos rfl, if_neg Bool.false_ne_true, Option.bind_some, if_neg (by decide)]
          rfl
        · unfold s_X4_take_e
          rw [c_isHand, Option.bind_some, g1, if_pos rfl, c_isThingOrNone F hth, Option.bind_some, g2, if_pos rfl, c_mayBeHeld, Option.bind_some, g3, if_neg Bool.false_ne_true]
      | true =>
        obtain ⟨d, hd, rfl⟩ := (tT_iff (by omega)).mp g1
        have hy := tH_iff.mp g3
        rw [← s3] at hy
        obtain ⟨e', h', m', x, v', z, r1, r2, r3, r4, -⟩ := x_change (F := F) (by omega) rx (by omega) (k := d) (by omega) (fun h4 => by omega) (y := v2) (by
          rcases hy with z | ⟨k, z1, z2, z3⟩
          · exact Or.inl z
          · exact Or.inr ⟨k, z2, z3⟩)
        refine OUT.ok (z := z) (REL.op (w' := m_X5_state v' w1) r hL hc r.1 r3 (by omega) (by omega) r4 (FR.sf (SF.st w1 v'))) s5 ?_ ?_
        · unfold s_X5_take
          have hmp : mp d = 13 + d := by unfold mp; rw [if_pos (by omega)]
          rw [hwhy, g1, g2, g3, Bool.and_true, if_pos rfl, if_pos rfl, Option.bind_some, if_pos (by decide), s2, Option.bind_some, ni_13, ← hmp, r2, Option.bind_some]
        · unfold s_X4_take_6
          rw [c_isHand, Option.bind_some, g1, if_pos rfl, c_isThingOrNone F (u := a_X6_g S) hth, Option.bind_some, g2, if_pos rfl, c_mayBeHeld, Option.bind_some, g3, if_pos rfl, s1, Option.bind_some, r1, Option.bind_some]
theorem p_put {F : Nat} (hF : 6400 < F) {c : Nat} (hc : c < 512) {S : S_X6} {w : S_X5} (q : REL c S w) (v1 v2 v3 : Int32) : OUT c S w (s_X4_put_6 F S v1 v2 v3) (s_X4_put_e F S.1 v1 v2 v3) (s_X5_put F w v1 v2 v3) := by
  obtain ⟨T, n, e, h, m, s, L, ch, S', w1, hL, r, s1, s2, s3, s4, s5, -⟩ := sv_go hF q
  have rx := r.2.2.1
  have hth : a_X3_things (a_X4_now S.1) = nI n := by rw [← s3]; exact rx.1.1.2.2.2.1
  have hn := (WB_e rx.1).2.1
  have hwb : WB (2 * c - L) T n e h m (a_X4_now S.1) (a_X5_state w) := by rw [← s3, ← s4]; exact rx.1
  have hwhy := m_put F hwb v1 v2 v3
  have t1 : ∀ k : Nat, 1 ≤ k → k ≤ 3 → s_X5_whyNotPut F w v1 v2 v3 = some (nI k) → s_X5_put F w v1 v2 v3 = some (0, m_X5_thrown (nI k) w) := fun k h1 h3 hk => by
    unfold s_X5_put
    rw [hk, Option.bind_some, if_neg (show ¬ nI k ≤ 0 from fun z => by have := (ni_le (b := 0) (by omega) (by omega)).mp z; omega)]
  cases g1 : tT n v1 with
  | false =>
    refine OUT.thr q hc 1 (by omega) (by omega) (t1 1 (by omega) (by omega) (by rw [hwhy, g1, Bool.false_and, Bool.false_and, if_neg Bool.false_ne_true]; rfl)) ?_
    unfold s_X4_put_e
    rw [c_isThing F hth, Option.bind_some, g1, if_neg Bool.false_ne_true]
  | true =>
    cases g2 : tT 4 v2 with
    | false =>
      refine OUT.thr q hc 1 (by omega) (by omega) (t1 1 (by omega) (by omega) (by rw [hwhy, g2, Bool.and_false, Bool.false_and, if_neg Bool.false_ne_true]; rfl)) ?_
      unfold s_X4_put_e
      rw [c_isThing F hth, Option.bind_some, g1, if_pos rfl, c_isSlot, Option.bind_some, g2, if_neg Bool.false_ne_true]
    | true =>
      cases g3 : ((v3 == -1) || tT n v3) with
      | false =>
        refine OUT.thr q hc 1 (by omega) (by omega) (t1 1 (by omega) (by omega) (by rw [hwhy, g3, Bool.and_false, if_neg Bool.false_ne_true]; rfl)) ?_
        unfold s_X4_put_e
        rw [c_isThing F hth, Option.bind_some, g1, if_pos rfl, c_isSlot, Option.bind_some, g2, if_pos rfl, c_isThingOrNone F hth, Option.bind_some, g3, if_neg Bool.false_ne_true]
      | true =>
        cases g4 : tL (a_X4_now S.1) v1 with
        | false =>
          refine OUT.thr q hc 2 (by omega) (by omega) (t1 2 (by omega) (by omega) (by rw [hwhy, g1, g2, g3, g4]; rfl)) ?_
          unfold s_X4_put_e
          rw [c_isThing F hth, Option.bind_some, g1, if_pos rfl, c_isSlot, Option.bind_some, g2, if_pos rfl, c_isThingOrNone F hth, Option.bind_some, g3, if_pos rfl, c_lives, Option.bind_some, g4, if_neg Bool.false_ne_true]
        | true =>
          cases g5 : tH (a_X4_now S.1) v3 with
          | false =>
            refine OUT.thr q hc 2 (by omega) (by omega) (t1 2 (by omega) (by omega) (by rw [hwhy, g1, g2, g3, g4, g5]; rfl)) ?_
            unfold s_X4_put_e
            rw [c_isThing F hth, Option.bind_some, g1, if_pos rfl, c_isSlot, Option.bind_some, g2, if_pos rfl, c_isThingOrNone F hth, Option.bind_some, g3, if_pos rfl, c_lives, Option.bind_some, g4, if_pos rfl, c_mayBeHeld, Option.bind_some, g5, if_neg Bool.false_ne_true]
          | true =>
            obtain ⟨sl, hsl, rfl⟩ := (tT_iff (by omega)).mp g2
            obtain ⟨d, hd, rfl, hld⟩ := tL_iff.mp g4
            rw [← s3] at hld
            have hy := tH_iff.mp g5
            rw [← s3] at hy
            obtain ⟨e', h', m', x, v', z, r1, r2, r3, r4, -⟩ := x_change (F := F) (by omega) rx (by omega) (k := 4 + 4 * d + sl) (by omega) (fun h4 => by rw [show (4 + 4 * d + sl - 4) / 4 = d by omega]; exact hld) (y := v3) (by
              rcases hy with z | ⟨k, z1, z2, z3⟩
              · exact Or.inl z
              · exact Or.inr ⟨k, z2, z3⟩)
            refine OUT.ok (z := z) (REL.op (w' := m_X5_state v' w1) r hL hc r.1 r3 (by omega) (by omega) r4 (FR.sf (SF.st w1 v'))) s5 ?_ ?_
            · unfold s_X5_put
              have hmp : mp (4 + 4 * d + sl) = 257 + 4 * d + sl := by unfold mp; rw [if_neg (by omega)]; omega
              have hw0 : s_X5_whyNotPut F w (nI d) (nI sl) v3 = some 0 := by rw [hwhy, g1, g2, g3, g4, g5]; rfl
              rw [hw0, Option.bind_some, if_pos (by decide), s2, Option.bind_some, ix_slot, ← hmp, r2, Option.bind_some]
            · unfold s_X4_put_6
              rw [c_isThing F (u := a_X6_g S) hth, Option.bind_some, g1, if_pos rfl, c_isSlot, Option.bind_some, g2, if_pos rfl, c_isThingOrNone F (u := a_X6_g S) hth, Option.bind_some, g3, if_pos rfl, c_lives, Option.bind_some, g4, if_pos rfl, c_mayBeHeld, Option.bind_some, g5, if_pos rfl, s1, Option.bind_some, ni_plk, r1, Option.bind_some]
