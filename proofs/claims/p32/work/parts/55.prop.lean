/-! counts and properties, on both sides -/
theorem x_wrong {F : Nat} (hF : 6100 < F) {B T n e h m : Nat} {u : S_X3} {w : S_X5} (q : WX G0 B T n e h m u (a_X5_state w)) : ∃ z, s_X3_wrongCounts F u = some z ∧ s_X5_mistaken F w = some z := by
  obtain ⟨he, hn, hhm⟩ := WB_e q.1
  have h1 : a_X5_state w (1 : Int32).toNatClampNeg = nI n := q.1.1.2.2.2.2.1
  obtain ⟨p, hp⟩ : ∃ p : Nat → Bool, p = fun k => mb (a_X3_living u) k && !decide (a_X3_counts u k + sm (fun j => if rof (RV (a_X5_state w) j) == nI k then rby (RV (a_X5_state w) j) else 0) m = nI (cn (fun j => a_X3_hold u j == nI k) 100)) := ⟨_, rfl⟩
  have hwr : ∀ k, k < 24 → s_X3_isWrong F u (nI k) = some (!decide (a_X3_counts u k + sm (fun j => if rof (RV (a_X5_state w) j) == nI k then rby (RV (a_X5_state w) j) else 0) m = nI (cn (fun j => a_X3_hold u j == nI k) 100))) := fun k hk => by
    have sm2 := x1_sumFor (F := F) q.1.2.2.2.2.2.1.1 hk
    have ctr := x0_truthOf (F := F) (by omega) (a_X3_hold u) (nI k)
    unfold s_X3_isWrong
    rw [if_pos (ni_lx hk (by decide)), ni_nat (by omega), sm2, Option.bind_some, ctr, Option.bind_some]
    split
    · next hc => rw [decide_eq_true hc]; rfl
    · next hc => rw [decide_eq_false hc]; rfl
  have cl := lf_cnt (fun nn k c => s_X3_wrongCounts_l4 F u nn c (nI k)) 24 (fun c => some c) p 0 (n := F) (by omega) (fun nn c => by
      show s_X3_wrongCounts_l4 F u (nn + 1) c (nI 24) = _
      rw [e_X3_wrongCounts_l4, if_pos (by decide)]) (fun nn k c hk => by
    rw [e_X3_wrongCounts_l4, if_neg (il_nle hk (by decide)), x3_lives F u hk, Option.bind_some, ni_1, hwr k hk, hp]
    show _ = s_X3_wrongCounts_l4 F u nn (if (mb (a_X3_living u) k && _) then c + 1 else c) (nI (k + 1))
    cases mb (a_X3_living u) k with
    | false => rw [if_neg Bool.false_ne_true, Bool.false_and, if_neg Bool.false_ne_true]
    | true => rw [if_pos rfl, Option.bind_some, Bool.true_and]; split <;> rfl)
  have md := lf_cnt (fun nn k c => s_X5_mistaken_l4 F w nn c (nI k)) n (fun c => some c) p 0 (n := F) (by omega) (fun nn c => by rw [e_X5_mistaken_l4, h1, if_pos (Int32.le_refl _)]) (fun nn k c hk => by
    rw [e_X5_mistaken_l4, h1, if_neg (ni_nle hk (by omega)), x5_lives F w (by omega), Option.bind_some, WX_lv q.1 hk, ni_1, hp]
    show _ = s_X5_mistaken_l4 F w nn (if (mb (a_X3_living u) k && _) then c + 1 else c) (nI (k + 1))
    have tr := x5_truth (F := F) (by omega) q hk
    have sm1 := x5_sumUnderWay (F := F) (by omega) w (m := m) (by omega) q.1.1.2.2.2.2.2.2.2.1 (nI k)
    have hpt : s_X5_part F w (nI k) 2 = some (a_X3_counts u k) := by
      have h2 := x5_part F w (t := k) (p := 2) (by omega)
      rw [(q.1.2.2.1.1 k hk).2.2.1] at h2
      exact h2
    cases hl : mb (a_X3_living u) k with
    | false => rw [if_neg Bool.false_ne_true, Bool.false_and, if_neg Bool.false_ne_true, Int32.add_zero]
    | true =>
      rw [hl, if_pos rfl] at tr
      rw [if_pos rfl, hpt, Option.bind_some, sm1, Option.bind_some, tr, Option.bind_some, Bool.true_and]
      split
      · next hc => rw [decide_eq_true hc, if_neg (by decide), Int32.add_zero]
      · next hc => rw [decide_eq_false hc, if_pos (by decide)])
  have all : cn p 24 = cn p n := by
    have a1 := cn_add p n (24 - n)
    rw [show n + (24 - n) = 24 by omega, cn_zero (24 - n) fun k hk => by
      rw [hp]
      show (mb (a_X3_living u) (n + k) && _) = false
      have : mb (a_X3_living u) (n + k) = false := by
        cases hl : mb (a_X3_living u) (n + k) with
        | false => rfl
        | true => have := q.1.2.2.2.1.1 _ hl; omega
      rw [this, Bool.false_and]] at a1
    omega
  refine ⟨nI (0 + cn p 24), cl, ?_⟩
  rw [all]; exact md
theorem x3_trials {F : Nat} (hF : 100 < F) {B T n e h m : Nat} {u : S_X3} {v : Nat → Int32} (q : WB B T n e h m u v) : s_X3_endsInTrials F u = some (v 5) := by
  obtain ⟨he, hn, -⟩ := WB_e q
  have key := lf_cnt (fun nn k c => s_X3_endsInTrials_l4 F u nn c (nI k)) n (fun c => some c) (fun t => a_X3_endKinds u t == 2) 0 (n := F) (by omega) (fun nn c => by rw [e_X3_endsInTrials_l4, q.1.2.2.2.1, if_pos (Int32.le_refl _)]) (fun nn k c hk => by
    rw [e_X3_endsInTrials_l4, q.1.2.2.2.1, if_neg (ni_nle hk (by omega)), if_neg (il_nle (show k < 24 by omega) (by decide)), if_pos (ni_lx (show k < 24 by omega) (by decide)), ni_nat (by omega), ni_1]
    show _ = s_X3_endsInTrials_l4 F u nn (if (a_X3_endKinds u k == 2) then c + 1 else c) (nI (k + 1))
    by_cases hc : a_X3_endKinds u k = 2
    · rw [if_pos hc, if_pos (by simpa using hc)]
    · rw [if_neg hc, if_neg (by simpa using hc)])
  rw [Nat.zero_add] at key
  have key' : s_X3_endsInTrials F u = some (nI (cn (fun t => a_X3_endKinds u t == 2) n)) := key
  rw [key', q.1.2.2.2.2.2.2.2.2.2.2.2.1]
theorem x1_under {F : Nat} {r : S_X1} {h m : Nat} {R : Nat → rw5} (q : RR r h m R) : s_X1_underWay F r = some (nI m) := by
  unfold s_X1_underWay
  rw [q.1, q.2.1, ni_sub (by omega), show h + m - h = m by omega]
/-- what a look leaves of the model -/
def LK (w w' : S_X5) : Prop := SF w w' ∧ a_X5_state w' = a_X5_state w
theorem LK.rf (w : S_X5) : LK w w := ⟨SF.rf w, rfl⟩
theorem LK.re (w : S_X5) (g : Nat → Int32) : LK w (m_X5_isReached g w) := ⟨SF.re w g, rfl⟩
theorem LK.se (w : S_X5) (g : Nat → Int32) : LK w (m_X5_isInSet g w) := ⟨SF.se w g, rfl⟩
theorem LK.tr {a b c : S_X5} (h1 : LK a b) (h2 : LK b c) : LK a c := ⟨h1.1.tr h2.1, h2.2.trans h1.2⟩
set_option maxHeartbeats 1000000 in
theorem x_total {F : Nat} (hF : 6100 < F) {B T n e h m : Nat} {u : S_X3} {w : S_X5} (q : WX G0 B T n e h m u (a_X5_state w)) : ∀ p, p < 13 → ∃ z w', s_X3_total F u (nI p) = some z ∧ s_X5_countOf F w (nI p) = some (z, w') ∧ LK w w' := by
  obtain ⟨⟨s1, s2, s3, s4, s5, s6, s7, s8, s9, s10, s11, s12, s13, s14⟩, -⟩ := q.1
  obtain ⟨he, hn, hhm⟩ := WB_e q.1
  intro p hp
  match p, hp with
  | 0, _ =>
    refine ⟨a_X3_time u, w, ?_, ?_, LK.rf w⟩
    · show s_X3_total F u 0 = _
      unfold s_X3_total
      rw [if_pos (show (0 : Int32) = 0 from rfl)]
    · show s_X5_countOf F w 0 = _
      unfold s_X5_countOf
      rw [if_pos (show (0 : Int32) = 0 from rfl), show a_X5_state w (0 : Int32).toNatClampNeg = a_X5_state w 0 from rfl, s2, s1]
  | 1, _ =>
    refine ⟨a_X3_things u, w, ?_, ?_, LK.rf w⟩
    · show s_X3_total F u 1 = _
      unfold s_X3_total
      rw [if_neg (show ¬ (1 : Int32) = 0 from by decide), if_pos (show (1 : Int32) = 1 from rfl)]
    · show s_X5_countOf F w 1 = _
      unfold s_X5_countOf
      rw [if_neg (show ¬ (1 : Int32) = 0 from by decide), if_pos (show (1 : Int32) = 1 from rfl), show a_X5_state w (1 : Int32).toNatClampNeg = a_X5_state w 1 from rfl, s5, s4]
  | 2, _ =>
    refine ⟨jd_bc (a_X3_living u), w, ?_, ?_, LK.rf w⟩
    · show s_X3_total F u 2 = _
      unfold s_X3_total
      rw [if_neg (show ¬ (2 : Int32) = 0 from by decide), if_neg (show ¬ (2 : Int32) = 1 from by decide), if_pos (show (2 : Int32) = 2 from rfl)]
    · show s_X5_countOf F w 2 = _
      unfold s_X5_countOf
      rw [if_neg (show ¬ (2 : Int32) = 0 from by decide), if_neg (show ¬ (2 : Int32) = 1 from by decide), if_pos (show (2 : Int32) = 2 from rfl), x5_living (by omega) q.1, Option.bind_some]
  | 3, _ =>
    obtain ⟨r, g, k1, k2, k3, -⟩ := x5_reached hF q
    refine ⟨jd_bc r, m_X5_isReached g w, ?_, ?_, LK.re w g⟩
    · show s_X3_total F u 3 = _
      unfold s_X3_total
      rw [if_neg (show ¬ (3 : Int32) = 0 from by decide), if_neg (show ¬ (3 : Int32) = 1 from by decide), if_neg (show ¬ (3 : Int32) = 2 from by decide), if_pos (show (3 : Int32) = 3 from rfl), k1, Option.bind_some]
    · show s_X5_countOf F w 3 = _
      unfold s_X5_countOf
      rw [if_neg (show ¬ (3 : Int32) = 0 from by decide), if_neg (show ¬ (3 : Int32) = 1 from by decide), if_neg (show ¬ (3 : Int32) = 2 from by decide), if_pos (show (3 : Int32) = 3 from rfl), k3, Option.bind_some]
  | 4, _ =>
    refine ⟨jd_bc (a_X3_suspects u), w, ?_, ?_, LK.rf w⟩
    · show s_X3_total F u 4 = _
      unfold s_X3_total
      rw [if_neg (show ¬ (4 : Int32) = 0 from by decide), if_neg (show ¬ (4 : Int32) = 1 from by decide), if_neg (show ¬ (4 : Int32) = 2 from by decide), if_neg (show ¬ (4 : Int32) = 3 from by decide), if_pos (show (4 : Int32) = 4 from rfl)]
    · show s_X5_countOf F w 4 = _
      unfold s_X5_countOf
      rw [if_neg (show ¬ (4 : Int32) = 0 from by decide), if_neg (show ¬ (4 : Int32) = 1 from by decide), if_neg (show ¬ (4 : Int32) = 2 from by decide), if_neg (show ¬ (4 : Int32) = 3 from by decide), if_pos (show (4 : Int32) = 4 from rfl), x5_suspects (by omega) q.1, Option.bind_some]
  | 5, _ =>
    refine ⟨nI m, w, ?_, ?_, LK.rf w⟩
    · show s_X3_total F u 5 = _
      unfold s_X3_total
      rw [if_neg (show ¬ (5 : Int32) = 0 from by decide), if_neg (show ¬ (5 : Int32) = 1 from by decide), if_neg (show ¬ (5 : Int32) = 2 from by decide), if_neg (show ¬ (5 : Int32) = 3 from by decide), if_neg (show ¬ (5 : Int32) = 4 from by decide), if_pos (show (5 : Int32) = 5 from rfl), x1_under q.1.2.2.2.2.2.1.1, Option.bind_some]
    · show s_X5_countOf F w 5 = _
      unfold s_X5_countOf
      rw [if_neg (show ¬ (5 : Int32) = 0 from by decide), if_neg (show ¬ (5 : Int32) = 1 from by decide), if_neg (show ¬ (5 : Int32) = 2 from by decide), if_neg (show ¬ (5 : Int32) = 3 from by decide), if_neg (show ¬ (5 : Int32) = 4 from by decide), if_pos (show (5 : Int32) = 5 from rfl), show a_X5_state w (3 : Int32).toNatClampNeg = a_X5_state w 3 from rfl, s8]
  | 6, _ =>
    refine ⟨nI (h + m), w, ?_, ?_, LK.rf w⟩
    · show s_X3_total F u 6 = _
      unfold s_X3_total
      rw [if_neg (show ¬ (6 : Int32) = 0 from by decide), if_neg (show ¬ (6 : Int32) = 1 from by decide), if_neg (show ¬ (6 : Int32) = 2 from by decide), if_neg (show ¬ (6 : Int32) = 3 from by decide), if_neg (show ¬ (6 : Int32) = 4 from by decide), if_neg (show ¬ (6 : Int32) = 5 from by decide), if_pos (show (6 : Int32) = 6 from rfl), q.1.2.2.2.2.2.1.1.2.1]
    · show s_X5_countOf F w 6 = _
      unfold s_X5_countOf
      rw [if_neg (show ¬ (6 : Int32) = 0 from by decide), if_neg (show ¬ (6 : Int32) = 1 from by decide), if_neg (show ¬ (6 : Int32) = 2 from by decide), if_neg (show ¬ (6 : Int32) = 3 from by decide), if_neg (show ¬ (6 : Int32) = 4 from by decide), if_neg (show ¬ (6 : Int32) = 5 from by decide), if_pos (show (6 : Int32) = 6 from rfl), show a_X5_state w (2 : Int32).toNatClampNeg = a_X5_state w 2 from rfl, s7]
  | 7, _ =>
    refine ⟨a_X3_ends u, w, ?_, ?_, LK.rf w⟩
    · show s_X3_total F u 7 = _
      unfold s_X3_total
      rw [if_neg (show ¬ (7 : Int32) = 0 from by decide), if_neg (show ¬ (7 : Int32) = 1 from by decide), if_neg (show ¬ (7 : Int32) = 2 from by decide), if_neg (show ¬ (7 : Int32) = 3 from by decide), if_neg (show ¬ (7 : Int32) = 4 from by decide), if_neg (show ¬ (7 : Int32) = 5 from by decide), if_neg (show ¬ (7 : Int32) = 6 from by decide), if_pos (show (7 : Int32) = 7 from rfl)]
    · show s_X5_countOf F w 7 = _
      unfold s_X5_countOf
      rw [if_neg (show ¬ (7 : Int32) = 0 from by decide), if_neg (show ¬ (7 : Int32) = 1 from by decide), if_neg (show ¬ (7 : Int32) = 2 from by decide), if_neg (show ¬ (7 : Int32) = 3 from by decide), if_neg (show ¬ (7 : Int32) = 4 from by decide), if_neg (show ¬ (7 : Int32) = 5 from by decide), if_neg (show ¬ (7 : Int32) = 6 from by decide), if_pos (show (7 : Int32) = 7 from rfl), show a_X5_state w (4 : Int32).toNatClampNeg = a_X5_state w 4 from rfl, s10, s9]
  | 8, _ =>
    refine ⟨a_X5_state w 5, w, ?_, ?_, LK.rf w⟩
    · show s_X3_total F u 8 = _
      unfold s_X3_total
      rw [if_neg (show ¬ (8 : Int32) = 0 from by decide), if_neg (show ¬ (8 : Int32) = 1 from by decide), if_neg (show ¬ (8 : Int32) = 2 from by decide), if_neg (show ¬ (8 : Int32) = 3 from by decide), if_neg (show ¬ (8 : Int32) = 4 from by decide), if_neg (show ¬ (8 : Int32) = 5 from by decide), if_neg (show ¬ (8 : Int32) = 6 from by decide), if_neg (show ¬ (8 : Int32) = 7 from by decide), if_pos (show (8 : Int32) = 8 from rfl), x3_trials (by omega) q.1, Option.bind_some]
    · show s_X5_countOf F w 8 = _
      unfold s_X5_countOf
      rw [if_neg (show ¬ (8 : Int32) = 0 from by decide), if_neg (show ¬ (8 : Int32) = 1 from by decide), if_neg (show ¬ (8 : Int32) = 2 from by decide), if_neg (show ¬ (8 : Int32) = 3 from by decide), if_neg (show ¬ (8 : Int32) = 4 from by decide), if_neg (show ¬ (8 : Int32) = 5 from by decide), if_neg (show ¬ (8 : Int32) = 6 from by decide), if_neg (show ¬ (8 : Int32) = 7 from by decide), if_pos (show (8 : Int32) = 8 from rfl), show a_X5_state w (5 : Int32).toNatClampNeg = a_X5_state w 5 from rfl]
  | 9, _ =>
    refine ⟨jd_bc (a_X3_wronged u), w, ?_, ?_, LK.rf w⟩
    · show s_X3_total F u 9 = _
      unfold s_X3_total
      rw [if_neg (show ¬ (9 : Int32) = 0 from by decide), if_neg (show ¬ (9 : Int32) = 1 from by decide), if_neg (show ¬ (9 : Int32) = 2 from by decide), if_neg (show ¬ (9 : Int32) = 3 from by decide), if_neg (show ¬ (9 : Int32) = 4 from by decide), if_neg (show ¬ (9 : Int32) = 5 from by decide), if_neg (show ¬ (9 : Int32) = 6 from by decide), if_neg (show ¬ (9 : Int32) = 7 from by decide), if_neg (show ¬ (9 : Int32) = 8 from by decide), if_pos (show (9 : Int32) = 9 from rfl)]
    · show s_X5_countOf F w 9 = _
      unfold s_X5_countOf
      rw [if_neg (show ¬ (9 : Int32) = 0 from by decide), if_neg (show ¬ (9 : Int32) = 1 from by decide), if_neg (show ¬ (9 : Int32) = 2 from by decide), if_neg (show ¬ (9 : Int32) = 3 from by decide), if_neg (show ¬ (9 : Int32) = 4 from by decide), if_neg (show ¬ (9 : Int32) = 5 from by decide), if_neg (show ¬ (9 : Int32) = 6 from by decide), if_neg (show ¬ (9 : Int32) = 7 from by decide), if_neg (show ¬ (9 : Int32) = 8 from by decide), if_pos (show (9 : Int32) = 9 from rfl), show a_X5_state w (6 : Int32).toNatClampNeg = a_X5_state w 6 from rfl, s13, bc24 (fun t ht => by have := (q.1.2.2.2.1.2.2.1 t ht).1; omega)]
  | 10, _ =>
    refine ⟨a_X3_slanderFound u, w, ?_, ?_, LK.rf w⟩
    · show s_X3_total F u 10 = _
      unfold s_X3_total
      rw [if_neg (show ¬ (10 : Int32) = 0 from by decide), if_neg (show ¬ (10 : Int32) = 1 from by decide), if_neg (show ¬ (10 : Int32) = 2 from by decide), if_neg (show ¬ (10 : Int32) = 3 from by decide), if_neg (show ¬ (10 : Int32) = 4 from by decide), if_neg (show ¬ (10 : Int32) = 5 from by decide), if_neg (show ¬ (10 : Int32) = 6 from by decide), if_neg (show ¬ (10 : Int32) = 7 from by decide), if_neg (show ¬ (10 : Int32) = 8 from by decide), if_neg (show ¬ (10 : Int32) = 9 from by decide), if_pos (show (10 : Int32) = 10 from rfl)]
    · show s_X5_countOf F w 10 = _
      unfold s_X5_countOf
      rw [if_neg (show ¬ (10 : Int32) = 0 from by decide), if_neg (show ¬ (10 : Int32) = 1 from by decide), if_neg (show ¬ (10 : Int32) = 2 from by decide), if_neg (show ¬ (10 : Int32) = 3 from by decide), if_neg (show ¬ (10 : Int32) = 4 from by decide), if_neg (show ¬ (10 : Int32) = 5 from by decide), if_neg (show ¬ (10 : Int32) = 6 from by decide), if_neg (show ¬ (10 : Int32) = 7 from by decide), if_neg (show ¬ (10 : Int32) = 8 from by decide), if_neg (show ¬ (10 : Int32) = 9 from by decide), if_pos (show (10 : Int32) = 10 from rfl), show a_X5_state w (7 : Int32).toNatClampNeg = a_X5_state w 7 from rfl, s14]
  | 11, _ =>
    obtain ⟨z, k1, k2⟩ := x5_holding (F := F) (by omega) q
    refine ⟨z, w, ?_, ?_, LK.rf w⟩
    · show s_X3_total F u 11 = _
      unfold s_X3_total
      rw [if_neg (show ¬ (11 : Int32) = 0 from by decide), if_neg (show ¬ (11 : Int32) = 1 from by decide), if_neg (show ¬ (11 : Int32) = 2 from by decide), if_neg (show ¬ (11 : Int32) = 3 from by decide), if_neg (show ¬ (11 : Int32) = 4 from by decide), if_neg (show ¬ (11 : Int32) = 5 from by decide), if_neg (show ¬ (11 : Int32) = 6 from by decide), if_neg (show ¬ (11 : Int32) = 7 from by decide), if_neg (show ¬ (11 : Int32) = 8 from by decide), if_neg (show ¬ (11 : Int32) = 9 from by decide), if_neg (show ¬ (11 : Int32) = 10 from by decide), if_pos (show (11 : Int32) = 11 from rfl), k1, Option.bind_some]
    · show s_X5_countOf F w 11 = _
      unfold s_X5_countOf
      rw [if_neg (show ¬ (11 : Int32) = 0 from by decide), if_neg (show ¬ (11 : Int32) = 1 from by decide), if_neg (show ¬ (11 : Int32) = 2 from by decide), if_neg (show ¬ (11 : Int32) = 3 from by decide), if_neg (show ¬ (11 : Int32) = 4 from by decide), if_neg (show ¬ (11 : Int32) = 5 from by decide), if_neg (show ¬ (11 : Int32) = 6 from by decide), if_neg (show ¬ (11 : Int32) = 7 from by decide), if_neg (show ¬ (11 : Int32) = 8 from by decide), if_neg (show ¬ (11 : Int32) = 9 from by decide), if_neg (show ¬ (11 : Int32) = 10 from by decide), if_pos (show (11 : Int32) = 11 from rfl), k2, Option.bind_some]
  | 12, _ =>
    obtain ⟨z, k1, k2⟩ := x_wrong hF q
    refine ⟨z, w, ?_, ?_, LK.rf w⟩
    · show s_X3_total F u 12 = _
      unfold s_X3_total
      rw [if_neg (show ¬ (12 : Int32) = 0 from by decide), if_neg (show ¬ (12 : Int32) = 1 from by decide), if_neg (show ¬ (12 : Int32) = 2 from by decide), if_neg (show ¬ (12 : Int32) = 3 from by decide), if_neg (show ¬ (12 : Int32) = 4 from by decide), if_neg (show ¬ (12 : Int32) = 5 from by decide), if_neg (show ¬ (12 : Int32) = 6 from by decide), if_neg (show ¬ (12 : Int32) = 7 from by decide), if_neg (show ¬ (12 : Int32) = 8 from by decide), if_neg (show ¬ (12 : Int32) = 9 from by decide), if_neg (show ¬ (12 : Int32) = 10 from by decide), if_neg (show ¬ (12 : Int32) = 11 from by decide), k1, Option.bind_some]
    · show s_X5_countOf F w 12 = _
      unfold s_X5_countOf
      rw [if_neg (show ¬ (12 : Int32) = 0 from by decide), if_neg (show ¬ (12 : Int32) = 1 from by decide), if_neg (show ¬ (12 : Int32) = 2 from by decide), if_neg (show ¬ (12 : Int32) = 3 from by decide), if_neg (show ¬ (12 : Int32) = 4 from by decide), if_neg (show ¬ (12 : Int32) = 5 from by decide), if_neg (show ¬ (12 : Int32) = 6 from by decide), if_neg (show ¬ (12 : Int32) = 7 from by decide), if_neg (show ¬ (12 : Int32) = 8 from by decide), if_neg (show ¬ (12 : Int32) = 9 from by decide), if_neg (show ¬ (12 : Int32) = 10 from by decide), if_neg (show ¬ (12 : Int32) = 11 from by decide), if_pos (show (12 : Int32) = 12 from rfl), k2, Option.bind_some]
theorem sr_bv (s : Int32) {t : Nat} (ht : t < 32) : (s >>> (nI t &&& 31)) &&& 1 = bv s t := mb_bit s ht
set_option maxHeartbeats 1000000 in
theorem x_prop {F : Nat} (hF : 6100 < F) {B T n e h m : Nat} {u : S_X3} {w : S_X5} (q : WX G0 B T n e h m u (a_X5_state w)) {t : Nat} (ht : t < n) : ∀ p, p < 13 → ∃ z w', s_X3_property F u (nI t) (nI p) = some z ∧ s_X5_thingPart F w (nI t) (nI p) = some (z, w') ∧ LK w w' := by
  obtain ⟨he, hn, hhm⟩ := WB_e q.1
  obtain ⟨p0, p1, p2, p3, p4, p5, p6, p7, p8⟩ := q.1.2.2.1.1 t ht
  have ht24 : t < 24 := by omega
  have hpart : ∀ j, j < 10 → s_X5_part F w (nI t) (nI j) = some (a_X5_state w (17 + 10 * t + j)) := fun j hj => x5_part F w (by omega)
  intro p hp
  match p, hp with
  | 0, _ =>
    refine ⟨bv (a_X3_living u) t, w, ?_, ?_, LK.rf w⟩
    · show s_X3_property F u (nI t) 0 = _
      unfold s_X3_property
      have hlt : nI t < 24 := (ni_lt (b := 24) (by omega) (by omega)).mpr ht24
      rw [if_neg (ni_nneg (show t < 2147483648 by omega)), if_pos hlt, if_pos (show (0 : Int32) = 0 from rfl), sr_bv _ (by omega)]
    · show s_X5_thingPart F w (nI t) 0 = _
      unfold s_X5_thingPart
      rw [if_pos (show (0 : Int32) = 0 from rfl), show s_X5_part F w (nI t) 0 = some (a_X5_state w (17 + 10 * t + 0)) from hpart 0 (by omega), Option.bind_some, show a_X5_state w (17 + 10 * t + 0) = a_X5_state w (17 + 10 * t) from rfl, p0]
  | 1, _ =>
    refine ⟨a_X3_ranks u t, w, ?_, ?_, LK.rf w⟩
    · show s_X3_property F u (nI t) 1 = _
      unfold s_X3_property
      have hlt : nI t < 24 := (ni_lt (b := 24) (by omega) (by omega)).mpr ht24
      rw [if_neg (ni_nneg (show t < 2147483648 by omega)), if_pos hlt, if_neg (show ¬ (1 : Int32) = 0 from by decide), if_pos (show (1 : Int32) = 1 from rfl), if_pos (ni_lx ht24 (by decide)), ni_nat (by omega)]
    · show s_X5_thingPart F w (nI t) 1 = _
      unfold s_X5_thingPart
      rw [if_neg (show ¬ (1 : Int32) = 0 from by decide), if_pos (show (1 : Int32) = 1 from rfl), show s_X5_part F w (nI t) 1 = some (a_X5_state w (17 + 10 * t + 1)) from hpart 1 (by omega), Option.bind_some, p1.1]
  | 2, _ =>
    refine ⟨a_X3_counts u t, w, ?_, ?_, LK.rf w⟩
    · show s_X3_property F u (nI t) 2 = _
      unfold s_X3_property
      have hlt : nI t < 24 := (ni_lt (b := 24) (by omega) (by omega)).mpr ht24
      rw [if_neg (ni_nneg (show t < 2147483648 by omega)), if_pos hlt, if_neg (show ¬ (2 : Int32) = 0 from by decide), if_neg (show ¬ (2 : Int32) = 1 from by decide), if_pos (show (2 : Int32) = 2 from rfl), if_pos (ni_lx ht24 (by decide)), ni_nat (by omega)]
    · show s_X5_thingPart F w (nI t) 2 = _
      unfold s_X5_thingPart
      rw [if_neg (show ¬ (2 : Int32) = 0 from by decide), if_neg (show ¬ (2 : Int32) = 1 from by decide), if_pos (show (2 : Int32) = 2 from rfl), show s_X5_part F w (nI t) 2 = some (a_X5_state w (17 + 10 * t + 2)) from hpart 2 (by omega), Option.bind_some, p2]
  | 3, _ =>
    have ctr := x0_truthOf (F := F) (by omega) (a_X3_hold u) (nI t)
    have tr := x5_truth (F := F) (by omega) q ht
    obtain ⟨tv, htv⟩ : ∃ tv, tv = nI (cn (fun k => a_X3_hold u k == nI t) 100) := ⟨_, rfl⟩
    rw [← htv] at tr ctr
    have e1 : (if mb (a_X3_living u) t then tv else 0) = tv := by
      cases hl : mb (a_X3_living u) t with
      | true => rw [if_pos rfl]
      | false =>
        rw [if_neg Bool.false_ne_true, htv, cn_zero 100 fun k hk => by
          rcases q.2.2.2.1 k hk with z | ⟨s, z1, z2, z3⟩
          · rw [z]; exact beq_eq_false_iff_ne.mpr fun c => nI_ne (by omega) c.symm
          · rw [z2]; exact beq_eq_false_iff_ne.mpr fun c => by
              rw [(ni_eq (by omega) (by omega)).mp c, hl] at z3; cases z3]
        rfl
    rw [e1] at tr
    refine ⟨tv, w, ?_, ?_, LK.rf w⟩
    · show s_X3_property F u (nI t) 3 = _
      unfold s_X3_property
      have hlt : nI t < 24 := (ni_lt (b := 24) (by omega) (by omega)).mpr ht24
      rw [if_neg (ni_nneg (show t < 2147483648 by omega)), if_pos hlt, if_neg (show ¬ (3 : Int32) = 0 from by decide), if_neg (show ¬ (3 : Int32) = 1 from by decide), if_neg (show ¬ (3 : Int32) = 2 from by decide), if_pos (show (3 : Int32) = 3 from rfl), ctr, Option.bind_some]
    · show s_X5_thingPart F w (nI t) 3 = _
      unfold s_X5_thingPart
      rw [if_neg (show ¬ (3 : Int32) = 0 from by decide), if_neg (show ¬ (3 : Int32) = 1 from by decide), if_neg (show ¬ (3 : Int32) = 2 from by decide), if_pos (show (3 : Int32) = 3 from rfl), tr, Option.bind_some]
  | 4, _ =>
    refine ⟨nI (cn (fun j => rof (RV (a_X5_state w) j) == nI t) m), w, ?_, ?_, LK.rf w⟩
    · show s_X3_property F u (nI t) 4 = _
      unfold s_X3_property
      have hlt : nI t < 24 := (ni_lt (b := 24) (by omega) (by omega)).mpr ht24
      rw [if_neg (ni_nneg (show t < 2147483648 by omega)), if_pos hlt, if_neg (show ¬ (4 : Int32) = 0 from by decide), if_neg (show ¬ (4 : Int32) = 1 from by decide), if_neg (show ¬ (4 : Int32) = 2 from by decide), if_neg (show ¬ (4 : Int32) = 3 from by decide), if_pos (show (4 : Int32) = 4 from rfl), x1_numberFor q.1.2.2.2.2.2.1.1 ht24, Option.bind_some]
    · show s_X5_thingPart F w (nI t) 4 = _
      unfold s_X5_thingPart
      rw [if_neg (show ¬ (4 : Int32) = 0 from by decide), if_neg (show ¬ (4 : Int32) = 1 from by decide), if_neg (show ¬ (4 : Int32) = 2 from by decide), if_neg (show ¬ (4 : Int32) = 3 from by decide), if_pos (show (4 : Int32) = 4 from rfl), x5_underWay (by omega) w (m := m) (by omega) q.1.1.2.2.2.2.2.2.2.1, Option.bind_some]
  | 5, _ =>
    refine ⟨sm (fun j => if rof (RV (a_X5_state w) j) == nI t then rby (RV (a_X5_state w) j) else 0) m, w, ?_, ?_, LK.rf w⟩
    · show s_X3_property F u (nI t) 5 = _
      unfold s_X3_property
      have hlt : nI t < 24 := (ni_lt (b := 24) (by omega) (by omega)).mpr ht24
      rw [if_neg (ni_nneg (show t < 2147483648 by omega)), if_pos hlt, if_neg (show ¬ (5 : Int32) = 0 from by decide), if_neg (show ¬ (5 : Int32) = 1 from by decide), if_neg (show ¬ (5 : Int32) = 2 from by decide), if_neg (show ¬ (5 : Int32) = 3 from by decide), if_neg (show ¬ (5 : Int32) = 4 from by decide), if_pos (show (5 : Int32) = 5 from rfl), x1_sumFor q.1.2.2.2.2.2.1.1 ht24, Option.bind_some]
    · show s_X5_thingPart F w (nI t) 5 = _
      unfold s_X5_thingPart
      rw [if_neg (show ¬ (5 : Int32) = 0 from by decide), if_neg (show ¬ (5 : Int32) = 1 from by decide), if_neg (show ¬ (5 : Int32) = 2 from by decide), if_neg (show ¬ (5 : Int32) = 3 from by decide), if_neg (show ¬ (5 : Int32) = 4 from by decide), if_pos (show (5 : Int32) = 5 from rfl), x5_sumUnderWay (by omega) w (m := m) (by omega) q.1.1.2.2.2.2.2.2.2.1, Option.bind_some]
  | 6, _ =>
    refine ⟨bv (a_X3_suspects u) t, w, ?_, ?_, LK.rf w⟩
    · show s_X3_property F u (nI t) 6 = _
      unfold s_X3_property
      have hlt : nI t < 24 := (ni_lt (b := 24) (by omega) (by omega)).mpr ht24
      rw [if_neg (ni_nneg (show t < 2147483648 by omega)), if_pos hlt, if_neg (show ¬ (6 : Int32) = 0 from by decide), if_neg (show ¬ (6 : Int32) = 1 from by decide), if_neg (show ¬ (6 : Int32) = 2 from by decide), if_neg (show ¬ (6 : Int32) = 3 from by decide), if_neg (show ¬ (6 : Int32) = 4 from by decide), if_neg (show ¬ (6 : Int32) = 5 from by decide), if_pos (show (6 : Int32) = 6 from rfl), sr_bv _ (by omega)]
    · show s_X5_thingPart F w (nI t) 6 = _
      unfold s_X5_thingPart
      rw [if_neg (show ¬ (6 : Int32) = 0 from by decide), if_neg (show ¬ (6 : Int32) = 1 from by decide), if_neg (show ¬ (6 : Int32) = 2 from by decide), if_neg (show ¬ (6 : Int32) = 3 from by decide), if_neg (show ¬ (6 : Int32) = 4 from by decide), if_neg (show ¬ (6 : Int32) = 5 from by decide), if_pos (show (6 : Int32) = 6 from rfl), show s_X5_part F w (nI t) 3 = some (a_X5_state w (17 + 10 * t + 3)) from hpart 3 (by omega), Option.bind_some, p3]
  | 7, _ =>
    obtain ⟨r, g, k1, k2, k3, k4, -⟩ := x5_reached hF q
    refine ⟨bv r t, m_X5_isReached g w, ?_, ?_, LK.re w g⟩
    · show s_X3_property F u (nI t) 7 = _
      unfold s_X3_property
      have hlt : nI t < 24 := (ni_lt (b := 24) (by omega) (by omega)).mpr ht24
      rw [if_neg (ni_nneg (show t < 2147483648 by omega)), if_pos hlt, if_neg (show ¬ (7 : Int32) = 0 from by decide), if_neg (show ¬ (7 : Int32) = 1 from by decide), if_neg (show ¬ (7 : Int32) = 2 from by decide), if_neg (show ¬ (7 : Int32) = 3 from by decide), if_neg (show ¬ (7 : Int32) = 4 from by decide), if_neg (show ¬ (7 : Int32) = 5 from by decide), if_neg (show ¬ (7 : Int32) = 6 from by decide), if_pos (show (7 : Int32) = 7 from rfl), k1, Option.bind_some, sr_bv _ (by omega)]
    · show s_X5_thingPart F w (nI t) 7 = _
      unfold s_X5_thingPart
      rw [if_neg (show ¬ (7 : Int32) = 0 from by decide), if_neg (show ¬ (7 : Int32) = 1 from by decide), if_neg (show ¬ (7 : Int32) = 2 from by decide), if_neg (show ¬ (7 : Int32) = 3 from by decide), if_neg (show ¬ (7 : Int32) = 4 from by decide), if_neg (show ¬ (7 : Int32) = 5 from by decide), if_neg (show ¬ (7 : Int32) = 6 from by decide), if_pos (show (7 : Int32) = 7 from rfl), k3, Option.bind_some, if_pos (ni_lx ht24 (by decide)), ni_nat (by omega), show a_X5_isReached (m_X5_isReached g w) t = bv r t from k4 t ht24]
  | 8, _ =>
    refine ⟨a_X3_came u t, w, ?_, ?_, LK.rf w⟩
    · show s_X3_property F u (nI t) 8 = _
      unfold s_X3_property
      have hlt : nI t < 24 := (ni_lt (b := 24) (by omega) (by omega)).mpr ht24
      rw [if_neg (ni_nneg (show t < 2147483648 by omega)), if_pos hlt, if_neg (show ¬ (8 : Int32) = 0 from by decide), if_neg (show ¬ (8 : Int32) = 1 from by decide), if_neg (show ¬ (8 : Int32) = 2 from by decide), if_neg (show ¬ (8 : Int32) = 3 from by decide), if_neg (show ¬ (8 : Int32) = 4 from by decide), if_neg (show ¬ (8 : Int32) = 5 from by decide), if_neg (show ¬ (8 : Int32) = 6 from by decide), if_neg (show ¬ (8 : Int32) = 7 from by decide), if_pos (show (8 : Int32) = 8 from rfl), if_pos (ni_lx ht24 (by decide)), ni_nat (by omega)]
    · show s_X5_thingPart F w (nI t) 8 = _
      unfold s_X5_thingPart
      rw [if_neg (show ¬ (8 : Int32) = 0 from by decide), if_neg (show ¬ (8 : Int32) = 1 from by decide), if_neg (show ¬ (8 : Int32) = 2 from by decide), if_neg (show ¬ (8 : Int32) = 3 from by decide), if_neg (show ¬ (8 : Int32) = 4 from by decide), if_neg (show ¬ (8 : Int32) = 5 from by decide), if_neg (show ¬ (8 : Int32) = 6 from by decide), if_neg (show ¬ (8 : Int32) = 7 from by decide), show (8 : Int32) - 4 = 4 from by decide, show s_X5_part F w (nI t) 4 = some (a_X5_state w (17 + 10 * t + 4)) from hpart 4 (by omega), Option.bind_some, p4]
  | 9, _ =>
    refine ⟨a_X3_endNumbers u t, w, ?_, ?_, LK.rf w⟩
    · show s_X3_property F u (nI t) 9 = _
      unfold s_X3_property
      have hlt : nI t < 24 := (ni_lt (b := 24) (by omega) (by omega)).mpr ht24
      rw [if_neg (ni_nneg (show t < 2147483648 by omega)), if_pos hlt, if_neg (show ¬ (9 : Int32) = 0 from by decide), if_neg (show ¬ (9 : Int32) = 1 from by decide), if_neg (show ¬ (9 : Int32) = 2 from by decide), if_neg (show ¬ (9 : Int32) = 3 from by decide), if_neg (show ¬ (9 : Int32) = 4 from by decide), if_neg (show ¬ (9 : Int32) = 5 from by decide), if_neg (show ¬ (9 : Int32) = 6 from by decide), if_neg (show ¬ (9 : Int32) = 7 from by decide), if_neg (show ¬ (9 : Int32) = 8 from by decide), if_pos (show (9 : Int32) = 9 from rfl), if_pos (ni_lx ht24 (by decide)), ni_nat (by omega)]
    · show s_X5_thingPart F w (nI t) 9 = _
      unfold s_X5_thingPart
      rw [if_neg (show ¬ (9 : Int32) = 0 from by decide), if_neg (show ¬ (9 : Int32) = 1 from by decide), if_neg (show ¬ (9 : Int32) = 2 from by decide), if_neg (show ¬ (9 : Int32) = 3 from by decide), if_neg (show ¬ (9 : Int32) = 4 from by decide), if_neg (show ¬ (9 : Int32) = 5 from by decide), if_neg (show ¬ (9 : Int32) = 6 from by decide), if_neg (show ¬ (9 : Int32) = 7 from by decide), show (9 : Int32) - 4 = 5 from by decide, show s_X5_part F w (nI t) 5 = some (a_X5_state w (17 + 10 * t + 5)) from hpart 5 (by omega), Option.bind_some, p5]
  | 10, _ =>
    refine ⟨a_X3_endTimes u t, w, ?_, ?_, LK.rf w⟩
    · show s_X3_property F u (nI t) 10 = _
      unfold s_X3_property
      have hlt : nI t < 24 := (ni_lt (b := 24) (by omega) (by omega)).mpr ht24
      rw [if_neg (ni_nneg (show t < 2147483648 by omega)), if_pos hlt, if_neg (show ¬ (10 : Int32) = 0 from by decide), if_neg (show ¬ (10 : Int32) = 1 from by decide), if_neg (show ¬ (10 : Int32) = 2 from by decide), if_neg (show ¬ (10 : Int32) = 3 from by decide), if_neg (show ¬ (10 : Int32) = 4 from by decide), if_neg (show ¬ (10 : Int32) = 5 from by decide), if_neg (show ¬ (10 : Int32) = 6 from by decide), if_neg (show ¬ (10 : Int32) = 7 from by decide), if_neg (show ¬ (10 : Int32) = 8 from by decide), if_neg (show ¬ (10 : Int32) = 9 from by decide), if_pos (show (10 : Int32) = 10 from rfl), if_pos (ni_lx ht24 (by decide)), ni_nat (by omega)]
    · show s_X5_thingPart F w (nI t) 10 = _
      unfold s_X5_thingPart
      rw [if_neg (show ¬ (10 : Int32) = 0 from by decide), if_neg (show ¬ (10 : Int32) = 1 from by decide), if_neg (show ¬ (10 : Int32) = 2 from by decide), if_neg (show ¬ (10 : Int32) = 3 from by decide), if_neg (show ¬ (10 : Int32) = 4 from by decide), if_neg (show ¬ (10 : Int32) = 5 from by decide), if_neg (show ¬ (10 : Int32) = 6 from by decide), if_neg (show ¬ (10 : Int32) = 7 from by decide), show (10 : Int32) - 4 = 6 from by decide, show s_X5_part F w (nI t) 6 = some (a_X5_state w (17 + 10 * t + 6)) from hpart 6 (by omega), Option.bind_some, p6]
  | 11, _ =>
    refine ⟨a_X3_endKinds u t, w, ?_, ?_, LK.rf w⟩
    · show s_X3_property F u (nI t) 11 = _
      unfold s_X3_property
      have hlt : nI t < 24 := (ni_lt (b := 24) (by omega) (by omega)).mpr ht24
      rw [if_neg (ni_nneg (show t < 2147483648 by omega)), if_pos hlt, if_neg (show ¬ (11 : Int32) = 0 from by decide), if_neg (show ¬ (11 : Int32) = 1 from by decide), if_neg (show ¬ (11 : Int32) = 2 from by decide), if_neg (show ¬ (11 : Int32) = 3 from by decide), if_neg (show ¬ (11 : Int32) = 4 from by decide), if_neg (show ¬ (11 : Int32) = 5 from by decide), if_neg (show ¬ (11 : Int32) = 6 from by decide), if_neg (show ¬ (11 : Int32) = 7 from by decide), if_neg (show ¬ (11 : Int32) = 8 from by decide), if_neg (show ¬ (11 : Int32) = 9 from by decide), if_neg (show ¬ (11 : Int32) = 10 from by decide), if_pos (show (11 : Int32) = 11 from rfl), if_pos (ni_lx ht24 (by decide)), ni_nat (by omega)]
    · show s_X5_thingPart F w (nI t) 11 = _
      unfold s_X5_thingPart
      rw [if_neg (show ¬ (11 : Int32) = 0 from by decide), if_neg (show ¬ (11 : Int32) = 1 from by decide), if_neg (show ¬ (11 : Int32) = 2 from by decide), if_neg (show ¬ (11 : Int32) = 3 from by decide), if_neg (show ¬ (11 : Int32) = 4 from by decide), if_neg (show ¬ (11 : Int32) = 5 from by decide), if_neg (show ¬ (11 : Int32) = 6 from by decide), if_neg (show ¬ (11 : Int32) = 7 from by decide), show (11 : Int32) - 4 = 7 from by decide, show s_X5_part F w (nI t) 7 = some (a_X5_state w (17 + 10 * t + 7)) from hpart 7 (by omega), Option.bind_some, p7]
  | 12, _ =>
    refine ⟨bv (a_X3_wronged u) t, w, ?_, ?_, LK.rf w⟩
    · show s_X3_property F u (nI t) 12 = _
      unfold s_X3_property
      have hlt : nI t < 24 := (ni_lt (b := 24) (by omega) (by omega)).mpr ht24
      rw [if_neg (ni_nneg (show t < 2147483648 by omega)), if_pos hlt, if_neg (show ¬ (12 : Int32) = 0 from by decide), if_neg (show ¬ (12 : Int32) = 1 from by decide), if_neg (show ¬ (12 : Int32) = 2 from by decide), if_neg (show ¬ (12 : Int32) = 3 from by decide), if_neg (show ¬ (12 : Int32) = 4 from by decide), if_neg (show ¬ (12 : Int32) = 5 from by decide), if_neg (show ¬ (12 : Int32) = 6 from by decide), if_neg (show ¬ (12 : Int32) = 7 from by decide), if_neg (show ¬ (12 : Int32) = 8 from by decide), if_neg (show ¬ (12 : Int32) = 9 from by decide), if_neg (show ¬ (12 : Int32) = 10 from by decide), if_neg (show ¬ (12 : Int32) = 11 from by decide), sr_bv _ (by omega)]
    · show s_X5_thingPart F w (nI t) 12 = _
      unfold s_X5_thingPart
      rw [if_neg (show ¬ (12 : Int32) = 0 from by decide), if_neg (show ¬ (12 : Int32) = 1 from by decide), if_neg (show ¬ (12 : Int32) = 2 from by decide), if_neg (show ¬ (12 : Int32) = 3 from by decide), if_neg (show ¬ (12 : Int32) = 4 from by decide), if_neg (show ¬ (12 : Int32) = 5 from by decide), if_neg (show ¬ (12 : Int32) = 6 from by decide), if_neg (show ¬ (12 : Int32) = 7 from by decide), show (12 : Int32) - 4 = 8 from by decide, show s_X5_part F w (nI t) 8 = some (a_X5_state w (17 + 10 * t + 8)) from hpart 8 (by omega), Option.bind_some, p8]
