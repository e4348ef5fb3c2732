/-! the looks -/
theorem LK_LA {m : Nat} {w w' : S_X5} (k : LK w w') : LA m w w' := ⟨SF1.of k.1, fun j _ => congrFun k.2 j⟩
theorem REL.look {c T n e h m s L : Nat} {ch : Nat → Nat} {S : S_X6} {w w' : S_X5} {u' : S_X4} (r : RX (2 * c - L) T n e h m s L ch S w) (hL : L ≤ 2 * c) (hc : c < 512) (fx : FX S.1 u') (la : LA m (m_X5_thrown 0 w) w') : REL (c + 1) (m_X6_g u' S) w' := by
  have r0 := r.thr 0
  have q1 : WX G0 (2 * c - L) T n e h m (a_X4_now u') (a_X5_state w') := by rw [fx.1]; exact LA_q r0.2.2.1 la
  exact ⟨T, n, e, h, m, s, L, ch, by omega, (r0.g r0.1 q1 (LA_nd r0.2.2.2.1 la) (Nat.le_refl _) (FR.of la.1) fx.2.1 fx.2.2).more (by omega) (by omega)⟩
theorem REL.look0 {c T n e h m s L : Nat} {ch : Nat → Nat} {S : S_X6} {w w' : S_X5} (r : RX (2 * c - L) T n e h m s L ch S w) (hL : L ≤ 2 * c) (hc : c < 512) (la : LA m (m_X5_thrown 0 w) w') : REL (c + 1) S w' := REL.look (u' := S.1) r hL hc (FX.rf S.1) la
theorem rg_nat {v : Int32} (h : (0 : Int32) ≤ v) : ∃ p, p < 2147483648 ∧ v = nI p := by
  rcases i32_case v with z | z
  · exact absurd z (Int32.not_lt.mpr h)
  · exact z
theorem p_thing {F : Nat} (hF : 6400 < F) {c : Nat} (hc : c < 512) {S : S_X6} {w : S_X5} (q : REL c S w) (v1 v2 : Int32) : OUT c S w (on0 S (s_X4_thing F S.1 v1 v2)) (s_X4_thing_e F S.1 v1 v2) (s_X5_thing F w v1 v2) := by
  obtain ⟨T, n, e, h, m, s, L, ch, hL, r⟩ := id q
  have rx := r.2.2.1
  have hth := rx.1.1.2.2.2.1
  have hs1 : a_X5_state w 1 = nI n := rx.1.1.2.2.2.2.1
  have hn := (WB_e rx.1).2.1
  cases g1 : tT n v1 with
  | false =>
    refine OUT.thr q hc 1 (by omega) (by omega) ?_ ?_
    · unfold s_X5_thing
      rw [m_isThing F (by omega) hs1, Option.bind_some, g1, if_neg Bool.false_ne_true]
      unfold s_X5_thing_b28
      rw [if_neg (by decide)]; rfl
    · unfold s_X4_thing_e
      rw [c_isThing F hth, Option.bind_some, g1, if_neg Bool.false_ne_true]
  | true =>
    by_cases hr : (0 : Int32) ≤ v2 ∧ v2 ≤ 12
    · obtain ⟨p, hp, rfl⟩ := rg_nat hr.1
      have hp12 : p ≤ 12 := (ni_le (b := 12) hp (by omega)).mp hr.2
      obtain ⟨d, hd, rfl⟩ := (tT_iff (by omega)).mp g1
      obtain ⟨z, w', z1, z2, z3⟩ := x_prop (F := F) (by omega) (w := m_X5_thrown 0 w) rx hd p (by omega)
      refine OUT.ok (z := z) (S' := S) (w' := w') (REL.look0 r hL hc (LK_LA z3)) z3.1.1 ?_ ?_
      · unfold s_X5_thing
        rw [m_isThing F (by omega) hs1, Option.bind_some, g1, if_pos rfl, m_within, decide_eq_true hr, Option.bind_some, if_pos rfl]
        unfold s_X5_thing_b28
        rw [if_pos (by decide), z2, Option.bind_some]
      · unfold s_X4_thing
        rw [c_isThing F hth, Option.bind_some, g1, if_pos rfl, if_neg (Int32.not_lt.mpr hr.1), if_pos (show nI p < 13 from (ni_lt (b := 13) hp (by omega)).mpr (by omega)), z1]
        rfl
    · refine OUT.thr q hc 2 (by omega) (by omega) ?_ ?_
      · unfold s_X5_thing
        rw [m_isThing F (by omega) hs1, Option.bind_some, g1, if_pos rfl, m_within, decide_eq_false hr, Option.bind_some, if_neg Bool.false_ne_true]
        unfold s_X5_thing_b28
        rw [if_neg (by decide)]; rfl
      · unfold s_X4_thing_e
        rw [c_isThing F hth, Option.bind_some, g1, if_pos rfl]
        by_cases h0 : v2 < 0
        · rw [if_pos h0]
        · obtain ⟨p, hp, rfl⟩ := rg_nat (Int32.not_lt.mp h0)
          rw [if_neg h0, if_neg (fun z : nI p < 13 => hr ⟨Int32.not_lt.mp h0, (ni_le (b := 12) hp (by omega)).mpr (by have := (ni_lt (b := 13) hp (by omega)).mp z; omega)⟩)]
theorem p_slot {F : Nat} {c : Nat} (hc : c < 512) {S : S_X6} {w : S_X5} (q : REL c S w) (v1 v2 : Int32) : OUT c S w (on0 S (s_X4_slot F S.1 v1 v2)) (s_X4_slot_e F S.1 v1 v2) (s_X5_slot F w v1 v2) := by
  obtain ⟨T, n, e, h, m, s, L, ch, hL, r⟩ := id q
  have rx := r.2.2.1
  have hth := rx.1.1.2.2.2.1
  have hs1 : a_X5_state w 1 = nI n := rx.1.1.2.2.2.2.1
  have hn := (WB_e rx.1).2.1
  cases g1 : tT n v1 with
  | false =>
    refine OUT.thr q hc 1 (by omega) (by omega) ?_ ?_
    · unfold s_X5_slot
      rw [m_isThing F (by omega) hs1, Option.bind_some, g1, if_neg Bool.false_ne_true]
      unfold s_X5_slot_b23
      rw [if_neg (by decide)]; rfl
    · unfold s_X4_slot_e
      rw [c_isThing F hth, Option.bind_some, g1, if_neg Bool.false_ne_true]
  | true =>
    cases g2 : tT 4 v2 with
    | false =>
      refine OUT.thr q hc 1 (by omega) (by omega) ?_ ?_
      · unfold s_X5_slot
        rw [m_isThing F (by omega) hs1, Option.bind_some, g1, if_pos rfl, m_four, Option.bind_some, g2, if_neg Bool.false_ne_true]
        unfold s_X5_slot_b23
        rw [if_neg (by decide)]; rfl
      · unfold s_X4_slot_e
        rw [c_isThing F hth, Option.bind_some, g1, if_pos rfl, c_isSlot, Option.bind_some, g2, if_neg Bool.false_ne_true]
    | true =>
      obtain ⟨d, hd, rfl⟩ := (tT_iff (by omega)).mp g1
      obtain ⟨k, hk, rfl⟩ := (tT_iff (by omega)).mp g2
      have hv : a_X5_state w (257 + 4 * d + k) = a_X3_hold (a_X4_now S.1) (4 + 4 * d + k) := by
        rcases rx.2.2.1 d hd k hk with z | z
        · exact z
        · exact absurd z.1 Bool.false_ne_true
      refine OUT.ok (z := a_X3_hold (a_X4_now S.1) (4 + 4 * d + k)) (S' := S) (w' := m_X5_thrown 0 w) (REL.look0 r hL hc (LK_LA (LK.rf _))) rfl ?_ ?_
      · unfold s_X5_slot
        rw [m_isThing F (by omega) hs1, Option.bind_some, g1, if_pos rfl, m_four, Option.bind_some, g2, if_pos rfl]
        unfold s_X5_slot_b23
        rw [if_pos (by decide), x5_slotOf F (m_X5_thrown 0 w) (t := d) (k := k) (by omega), Option.bind_some]
        exact congrArg (fun z => some (z, m_X5_thrown 0 w)) hv
      · unfold s_X4_slot
        rw [c_isThing F hth, Option.bind_some, g1, if_pos rfl, c_isSlot, Option.bind_some, g2, if_pos rfl, ni_plk, x0_at F _ (by omega)]
        rfl
theorem p_hand {F : Nat} {c : Nat} (hc : c < 512) {S : S_X6} {w : S_X5} (q : REL c S w) (v1 : Int32) : OUT c S w (on0 S (s_X4_hand F S.1 v1)) (s_X4_hand_e F S.1 v1) (s_X5_hand F w v1) := by
  obtain ⟨T, n, e, h, m, s, L, ch, hL, r⟩ := id q
  have rx := r.2.2.1
  cases g2 : tT 4 v1 with
  | false =>
    refine OUT.thr q hc 1 (by omega) (by omega) ?_ ?_
    · unfold s_X5_hand
      rw [m_four, Option.bind_some, g2, if_neg Bool.false_ne_true]
      unfold s_X5_hand_b15
      rw [if_neg (by decide)]; rfl
    · unfold s_X4_hand_e
      rw [c_isHand, Option.bind_some, g2, if_neg Bool.false_ne_true]
  | true =>
    obtain ⟨k, hk, rfl⟩ := (tT_iff (by omega)).mp g2
    have hv : a_X5_state w (13 + k) = a_X3_hold (a_X4_now S.1) k := rx.2.1 k hk
    refine OUT.ok (z := a_X3_hold (a_X4_now S.1) k) (S' := S) (w' := m_X5_thrown 0 w) (REL.look0 r hL hc (LK_LA (LK.rf _))) rfl ?_ ?_
    · unfold s_X5_hand
      rw [m_four, Option.bind_some, g2, if_pos rfl]
      unfold s_X5_hand_b15
      rw [if_pos (by decide), ni_13, if_pos (ni_lx (by omega) (by omega)), ni_nat (by omega), hv]
    · unfold s_X4_hand
      rw [c_isHand, Option.bind_some, g2, if_pos rfl, x0_at F _ (by omega)]
      rfl
theorem p_report {F : Nat} (hF : 6400 < F) {c : Nat} (hc : c < 512) {S : S_X6} {w : S_X5} (q : REL c S w) (v1 v2 : Int32) : OUT c S w (on0 S (s_X4_report F S.1 v1 v2)) (s_X4_report_e F S.1 v1 v2) (s_X5_report F w v1 v2) := by
  obtain ⟨T, n, e, h, m, s, L, ch, hL, r⟩ := id q
  have rx := r.2.2.1
  have hm := (WB_e rx.1).2.2
  have h3 : a_X5_state w (3 : Int32).toNatClampNeg = nI m := rx.1.1.2.2.2.2.2.2.2.1
  have hu : s_X1_underWay F (a_X3_rep (a_X4_now S.1)) = some (nI m) := x1_under rx.1.2.2.2.2.2.1.1
  have hcl : ∀ {α : Type} (A B : Option α), (if v1 < 0 then A else ((s_X1_underWay F (a_X3_rep (a_X4_now S.1))).bind fun y1 => if v1 < y1 then B else A)) = if tT m v1 then B else A := fun A B => by
    rw [hu, Option.bind_some]
    by_cases h0 : v1 < 0
    · rw [if_pos h0, if_neg fun z => by obtain ⟨k, hk, rfl⟩ := (tT_iff (by omega)).mp z; exact ni_nneg (by omega) h0]
    · obtain ⟨p, hp, rfl⟩ := rg_nat (Int32.not_lt.mp h0)
      rw [if_neg h0]
      by_cases h1 : p < m
      · rw [if_pos ((ni_lt hp (by omega)).mpr h1), tT_in (by omega) h1, if_pos rfl]
      · rw [if_neg fun z => h1 ((ni_lt hp (by omega)).mp z), if_neg fun z => by obtain ⟨k, hk, hz⟩ := (tT_iff (by omega)).mp z; have := (ni_eq hp (by omega)).mp hz; omega]
  cases g1 : tT m v1 with
  | false =>
    refine OUT.thr q hc 1 (by omega) (by omega) ?_ ?_
    · unfold s_X5_report
      rw [h3, m_below F (by omega), Option.bind_some, g1, if_neg Bool.false_ne_true]
      unfold s_X5_report_b35
      rw [if_neg (by decide)]; rfl
    · unfold s_X4_report_e
      rw [hcl, g1, if_neg Bool.false_ne_true]
  | true =>
    by_cases hr : (0 : Int32) ≤ v2 ∧ v2 ≤ 4
    · obtain ⟨p, hp, rfl⟩ := rg_nat hr.1
      have hp4 : p ≤ 4 := (ni_le (b := 4) hp (by omega)).mp hr.2
      obtain ⟨d, hd, rfl⟩ := (tT_iff (by omega)).mp g1
      obtain ⟨i, i1, i2, i3⟩ := x_report (F := F) (by omega) (w := m_X5_thrown 0 w) rx.1 hd
      obtain ⟨z, z1, z2⟩ := i3 p (by omega)
      refine OUT.ok (z := z) (S' := S) (w' := m_X5_thrown 0 w) (REL.look0 r hL hc (LK_LA (LK.rf _))) rfl ?_ ?_
      · unfold s_X5_report
        rw [h3, m_below F (by omega), Option.bind_some, g1, if_pos rfl, m_within, decide_eq_true hr, Option.bind_some, if_pos rfl]
        unfold s_X5_report_b35
        rw [if_pos (by decide), i2, Option.bind_some, z2, Option.bind_some]
      · unfold s_X4_report
        rw [hcl, g1, if_pos rfl, if_neg (Int32.not_lt.mpr hr.1), if_pos (show nI p < 5 from (ni_lt (b := 5) hp (by omega)).mpr (by omega)), z1]
        rfl
    · refine OUT.thr q hc 2 (by omega) (by omega) ?_ ?_
      · unfold s_X5_report
        rw [h3, m_below F (by omega), Option.bind_some, g1, if_pos rfl, m_within, decide_eq_false hr, Option.bind_some, if_neg Bool.false_ne_true]
        unfold s_X5_report_b35
        rw [if_neg (by decide)]; rfl
      · unfold s_X4_report_e
        have e2 : ∀ {α : Type} (A B : Option α), ¬ ((0 : Int32) ≤ v2 ∧ v2 ≤ 4) → (if v2 < 0 then A else if v2 < 5 then B else A) = A := fun A B hr => by
          by_cases h0 : v2 < 0
          · rw [if_pos h0]
          · obtain ⟨p, hp, rfl⟩ := rg_nat (Int32.not_lt.mp h0)
            rw [if_neg h0, if_neg (fun z : nI p < 5 => hr ⟨Int32.not_lt.mp h0, (ni_le (b := 4) hp (by omega)).mpr (by have := (ni_lt (b := 5) hp (by omega)).mp z; omega)⟩)]
        rw [hu, Option.bind_some, e2 _ _ hr]
        have := hcl (some 1) (some 2)
        rw [hu, Option.bind_some, g1, if_pos rfl] at this
        exact this
