/-! a program run, on both sides -/
theorem TX_TC {L : Nat} {c : Nat → Nat} {t : S_X2} {w : S_X5} (q : TX L c t w) : TC L c t := ⟨q.1, q.2.1, fun k hk => ⟨(q.2.2.2 k hk).1, (q.2.2.2 k hk).2.1, (q.2.2.2 k hk).2.2.1⟩⟩
theorem TX_MT {L : Nat} {c : Nat → Nat} {t : S_X2} {w : S_X5} (q : TX L c t w) : MT L c w := ⟨q.1, q.2.2.1, fun k hk => ⟨(q.2.2.2 k hk).1, (q.2.2.2 k hk).2.1, (q.2.2.2 k hk).2.2.2⟩⟩
theorem TX_of {L : Nat} {c : Nat → Nat} {t : S_X2} {w : S_X5} (q : TC L c t) (r : MT L c w) : TX L c t w := ⟨q.1, q.2.1, r.2.1, fun k hk => ⟨(q.2.2 k hk).1, (q.2.2 k hk).2.1, (q.2.2 k hk).2.2, (r.2.2 k hk).2.2⟩⟩
theorem RX.text {B T n e h m s L : Nat} {ch : Nat → Nat} {S : S_X6} {w : S_X5} (q : RX B T n e h m s L ch S w) {t : S_X2} (ht : TC L ch t) : RX B T n e h m s L ch (m_X6_g (m_X4_text t S.1) S) w := ⟨q.1, q.2.1, q.2.2.1, q.2.2.2.1, q.2.2.2.2.1, q.2.2.2.2.2.1, q.2.2.2.2.2.2.1, TX_of ht (TX_MT q.2.2.2.2.2.2.2.1), q.2.2.2.2.2.2.2.2⟩
theorem RX.fr {B T n e h m s L : Nat} {ch : Nat → Nat} {S : S_X6} {w w' : S_X5} (q : RX B T n e h m s L ch S w) (h1 : a_X5_state w' = a_X5_state w) (fr : FR w w') : RX B T n e h m s L ch S w' := by
  obtain ⟨p1, p2, p3, p4, p5, p6, p7, p8, p9⟩ := q
  refine ⟨p1, p2, by rw [h1]; exact p3, by rw [h1]; exact p4, p5, fr.2.1.trans p6, by rw [fr.2.2.2.1]; exact p7, p8.fr fr.2.2.1 fr.2.2.2.2, p9⟩
theorem RX.g {B B' T n e h m s L T' n' e' h' m' : Nat} {ch : Nat → Nat} {S : S_X6} {w w' : S_X5} {u : S_X4} (q : RX B T n e h m s L ch S w) (hT : T' ≤ 5000) (hx : WX G0 B' T' n' e' h' m' (a_X4_now u) (a_X5_state w')) (nd : ND T' m' (a_X5_state w')) (hB : B ≤ B') (fr : FR w w') (hs : a_X4_savedStates u = a_X4_savedStates S.1) (ht : a_X4_text u = a_X4_text S.1) : RX B' T' n' e' h' m' s L ch (m_X6_g u S) w' := by
  obtain ⟨-, q2, -, -, q5, q6, q7, q8, q9⟩ := q
  have hB' : B' + 96 ≤ 1200 := hx.1.2.2.2.2.2.2.2
  refine ⟨hT, q2, hx, nd, hs.trans q5, fr.2.1.trans q6, ?_, ?_, q9⟩
  · rw [fr.2.2.2.1]
    exact RS_mono q7 hB hB'
  · show TX L ch (a_X4_text u) w'
    rw [ht]
    exact q8.fr fr.2.2.1 fr.2.2.2.2
theorem RX.clear {B T n e h m s L : Nat} {ch : Nat → Nat} {S : S_X6} {w : S_X5} (q : RX B T n e h m s L ch S w) : RX B T n e h m s 0 ch (m_X6_g (m_X4_text (m_X2_length 0 (a_X4_text S.1)) S.1) S) (m_X5_textLength 0 w) := ⟨q.1, q.2.1, q.2.2.1, q.2.2.2.1, q.2.2.2.2.1, q.2.2.2.2.2.1, q.2.2.2.2.2.2.1, ⟨by omega, rfl, rfl, fun k hk => absurd hk (by omega)⟩, q.2.2.2.2.2.2.2.2⟩
set_option maxHeartbeats 1000000 in
theorem x_prog {F : Nat} (hF : 6400 < F) {L C : Nat} {c g : Nat → Nat} (hg : ∀ k, k < L → nx (g k) (c k) = some (g (k + 1))) (ha : acc (g L) = true) (hC : C + L + 2 + 96 ≤ 1200) : ∀ (j a nn mm v : Nat) (S : S_X6) (w : S_X5) (T n e h m s : Nat), L + 1 - a ≤ j → a ≤ L + 1 → (a ≤ L → g a = 0) → 2 * v ≤ a → j < nn → L + 2 - a < mm → RX (C + a) T n e h m s L c S w → a_X2_at (a_X4_text S.1) = nI a →
    ∃ z S' w' T' n' e' h' m', s_X4_run_6_l33 F nn S (nI v) = some (z, S') ∧ s_X5_run_l38 F mm w (nI v) 0 1 (nI a) = some (z, w') ∧ RX (C + L + 2) T' n' e' h' m' s 0 c S' w' ∧ a_X5_thrown w' = a_X5_thrown w := by
  intro j
  induction j with
  | zero =>
    intro a nn mm v S w T n e h m s hj ha1 hga hv hnn hmm r hat
    obtain rfl : a = L + 1 := by omega
    obtain ⟨nn, rfl⟩ : ∃ k, nn = k + 1 := ⟨nn - 1, by omega⟩
    obtain ⟨mm, rfl⟩ : ∃ k, mm = k + 1 := ⟨mm - 1, by omega⟩
    have htx := r.2.2.2.2.2.2.2.1
    have hL60 := htx.1
    have hread : s_X2_readStep F (a_X4_text S.1) = some (false, a_X4_text S.1) := by
      unfold s_X2_readStep s_X2_hasMore
      rw [hat, if_neg (ni_nneg (by omega)), htx.2.1, if_pos ((ni_le (by omega) (by omega)).mpr (by omega)), Option.bind_some, if_neg Bool.false_ne_true]
    refine ⟨nI v, _, _, T, n, e, h, m, ?_, ?_, (r.clear).more (by omega) (by omega), rfl⟩
    · rw [e_X4_run_6_l33, if_neg (il_nle (show v < 60 by omega) (by decide)), hread, Option.bind_some, if_neg Bool.false_ne_true]
    · rw [e_X5_run_l38, htx.2.2.1, if_pos ((ni_lt (by omega) (by omega)).mpr (by omega))]
  | succ j ih =>
    intro a nn mm v S w T n e h m s hj ha1 hga hv hnn hmm r hat
    by_cases haL : a = L + 1
    · obtain ⟨nn, rfl⟩ : ∃ k, nn = k + 1 := ⟨nn - 1, by omega⟩
      obtain ⟨mm, rfl⟩ : ∃ k, mm = k + 1 := ⟨mm - 1, by omega⟩
      have htx := r.2.2.2.2.2.2.2.1
      have hL60 := htx.1
      have hread : s_X2_readStep F (a_X4_text S.1) = some (false, a_X4_text S.1) := by
        unfold s_X2_readStep s_X2_hasMore
        rw [hat, if_neg (ni_nneg (by omega)), htx.2.1, if_pos ((ni_le (by omega) (by omega)).mpr (by omega)), Option.bind_some, if_neg Bool.false_ne_true]
      refine ⟨nI v, _, _, T, n, e, h, m, ?_, ?_, (r.clear).more (by omega) (by omega), rfl⟩
      · rw [e_X4_run_6_l33, if_neg (il_nle (show v < 60 by omega) (by decide)), hread, Option.bind_some, if_neg Bool.false_ne_true]
      · rw [e_X5_run_l38, htx.2.2.1, if_pos ((ni_lt (by omega) (by omega)).mpr (by omega))]
    · obtain ⟨nn, rfl⟩ : ∃ k, nn = k + 1 := ⟨nn - 1, by omega⟩
      have htx := r.2.2.2.2.2.2.2.1
      have hL60 := htx.1
      obtain ⟨b, s', t', b1, b2, b3, b4, b5, b6, b7⟩ := x_read hF hg ha (show a ≤ L by omega) (hga (by omega)) (TX_TC htx) hat (TX_MT htx)
      obtain ⟨mm', hmm'⟩ : ∃ k, mm = (k + 1) + (b - a) := ⟨mm - (b - a) - 1, by omega⟩
      obtain ⟨w1, d1, d2, d3⟩ := b7 (mm' + 1) (nI v)
      have fr1 : FR w w1 := ⟨d2.1, d2.2.1, d2.2.2.1, d2.2.2.2.2.2.1, d2.2.2.2.2.2.2⟩
      have r1 := (r.fr d2.2.2.2.1 fr1).text b5
      have hmd := md_over (F := F) (n := mm') (s := s') (TX_MT r1.2.2.2.2.2.2.2.1) b2 (fun hb => (b3 hb).1) (nI v)
      obtain ⟨ok, u', w2, T', n', e', h', m', x1, x2, x3, x4, x5, x6, x7, x8⟩ := x_do hF (u := m_X4_text t' S.1) r1.2.2.1 r1.2.2.2.1 r1.1 (by omega) d3
      have r2 := r1.g x5 x3 x4 (by omega) (FR.of x8) x6 x7
      have hcl : s_X4_run_6_l33 F (nn + 1) S (nI v) = if ok then s_X4_run_6_l33 F nn (m_X6_g u' S) (nI v + 1) else some (nI v, m_X6_g (m_X4_text (m_X2_length 0 (a_X4_text u')) u') S) := by
        rw [e_X4_run_6_l33, if_neg (il_nle (show v < 60 by omega) (by decide)), b4, Option.bind_some, if_pos rfl, x1, Option.bind_some]
      have hml : s_X5_run_l38 F mm w (nI v) 0 1 (nI a) = if ok then s_X5_run_l38 F mm' w2 (nI v + 1) 0 (ev_b ok) (nI (b + 1)) else s_X5_run_l38 F mm' w2 (nI v + 0) 0 (ev_b ok) (nI (b + 1)) := by
        rw [hmm', d1, hmd, x2, Option.bind_some]
      cases ok with
      | true =>
        rw [if_pos rfl] at hcl hml
        obtain ⟨z, S3, w3, T3, n3, e3, h3, m3, y1, y2, y3, y4⟩ := ih (b + 1) nn mm' (v + 1) (m_X6_g u' S) w2 T' n' e' h' m' s (by omega) (by omega) (fun hb => (b3 (by omega)).2) (by omega) (by omega) (by omega) (r2.more (by omega) (by omega)) (by
          show a_X2_at (a_X4_text u') = _
          rw [x7]
          exact b6)
        refine ⟨z, S3, w3, T3, n3, e3, h3, m3, ?_, ?_, y3, y4.trans (x8.1.trans d2.1)⟩
        · rw [hcl, ni_1]; exact y1
        · rw [hml, ni_1]; exact y2
      | false =>
        rw [if_neg Bool.false_ne_true] at hcl hml
        obtain ⟨mm', rfl⟩ : ∃ k, mm' = k + 1 := ⟨mm' - 1, by omega⟩
        refine ⟨nI v, _, m_X5_textLength 0 w2, T', n', e', h', m', hcl, ?_, (r2.clear).more (by omega) (by omega), x8.1.trans d2.1⟩
        have e0 : nI v + 0 = nI v := by rw [show (0 : Int32) = nI 0 from rfl, ni_add]; rfl
        rw [hml, e0, e_X5_run_l38]
        split
        · rfl
        · rw [if_pos ev_bf]
theorem p_run {F : Nat} (hF : 6400 < F) {c : Nat} (hc : c < 512) {S : S_X6} {w : S_X5} (q : REL c S w) : OUT c S w (s_X4_run_6 F S) (s_X4_run_e F S.1) (s_X5_run F w) := by
  obtain ⟨T0, n0, e0, h0, m0, s0, L0, ch0, hL0, r0⟩ := id q
  obtain ⟨b, b1, b2, b3⟩ := x_isProgram (F := F) (by omega) r0.2.2.2.2.2.2.2.1
  cases b with
  | false =>
    refine OUT.thr q hc 1 (by omega) (by omega) ?_ ?_
    · unfold s_X5_run
      rw [b2, Option.bind_some, if_neg Bool.false_ne_true]
      unfold s_X5_run_b13
      rw [if_neg (by decide)]
      rfl
    · unfold s_X4_run_e
      rw [b1, Option.bind_some, if_neg Bool.false_ne_true]
  | true =>
    obtain ⟨g, g0, g1, -, g3⟩ := b3 rfl
    obtain ⟨S', w1, s1, s2, r, s3, s4, s5, s6, s7, s8⟩ := x_save hF (r0.thr 0)
    have hat : TC L0 ch0 (m_X2_at 0 (a_X4_text S'.1)) := TX_TC r.2.2.2.2.2.2.2.1
    have hL60 := hat.1
    have r1 := r.text hat
    obtain ⟨z, S3, w3, T3, n3, e3, h3, m3, y1, y2, y3, y4⟩ := x_prog hF (C := 2 * c - L0) g1 g3 (by omega) (L0 + 1) 0 F F 0 _ w1 T0 n0 e0 h0 m0 _ (by omega) (by omega) (fun _ => g0) (by omega) (by omega) (by omega) r1 rfl
    refine OUT.ok (z := z) (S' := S3) (w' := w3) ⟨T3, n3, e3, h3, m3, _, 0, ch0, by omega, y3.more (by omega) (by omega)⟩ (y4.trans s6) ?_ ?_
    · unfold s_X5_run
      rw [b2, Option.bind_some, if_pos rfl]
      unfold s_X5_run_b13
      rw [if_pos (by decide), s2, Option.bind_some]
      exact y2
    · unfold s_X4_run_6
      rw [b1, Option.bind_some, if_pos rfl, s1, Option.bind_some]
      unfold s_X2_toBegin
      rw [Option.bind_some]
      exact y1
