/-! what would be, on both sides -/
def SF1 (w w' : S_X5) : Prop := a_X5_thrown w' = a_X5_thrown w ∧ a_X5_savedMany w' = a_X5_savedMany w ∧ a_X5_textLength w' = a_X5_textLength w ∧ a_X5_kind w' = a_X5_kind w ∧ a_X5_first w' = a_X5_first w ∧ a_X5_second w' = a_X5_second w ∧ a_X5_held w' = a_X5_held w ∧ a_X5_saved w' = a_X5_saved w ∧ a_X5_text w' = a_X5_text w
theorem SF1.of {w w' : S_X5} (h : SF w w') : SF1 w w' := ⟨h.1, h.2.1, h.2.2.1, h.2.2.2.1, h.2.2.2.2.1, h.2.2.2.2.2.1, h.2.2.2.2.2.2.1, h.2.2.2.2.2.2.2.2.1, h.2.2.2.2.2.2.2.2.2⟩
theorem SF1.tr {a b c : S_X5} (h1 : SF1 a b) (h2 : SF1 b c) : SF1 a c := by
  obtain ⟨p0, p1, p2, p3, p4, p5, p6, p7, p8⟩ := h1
  obtain ⟨q0, q1, q2, q3, q4, q5, q6, q7, q8⟩ := h2
  exact ⟨q0.trans p0, q1.trans p1, q2.trans p2, q3.trans p3, q4.trans p4, q5.trans p5, q6.trans p6, q7.trans p7, q8.trans p8⟩
theorem SF1.ke (w : S_X5) (v : Nat → Int32) : SF1 w (m_X5_kept v w) := ⟨rfl, rfl, rfl, rfl, rfl, rfl, rfl, rfl, rfl⟩
/-- what a look ahead leaves of the model -/
def LA (m : Nat) (w w' : S_X5) : Prop := SF1 w w' ∧ ∀ k, k < 377 + 5 * m → a_X5_state w' k = a_X5_state w k
theorem LA.rf (m : Nat) (w : S_X5) : LA m w w := ⟨SF1.of (SF.rf w), fun _ _ => rfl⟩
theorem LA.tr {m : Nat} {a b c : S_X5} (h1 : LA m a b) (h2 : LA m b c) : LA m a c := ⟨h1.1.tr h2.1, fun k hk => (h2.2 k hk).trans (h1.2 k hk)⟩
theorem LA.of {m : Nat} {w w' : S_X5} (h : LK w w') : LA m w w' := ⟨SF1.of h.1, fun _ _ => by rw [h.2]⟩
theorem LA_q {B T n e h m : Nat} {u : S_X3} {w w' : S_X5} (q : WX G0 B T n e h m u (a_X5_state w)) (la : LA m w w') : WX G0 B T n e h m u (a_X5_state w') := WX_blk q la.2
theorem LA_nd {T m : Nat} {w w' : S_X5} (nd : ND T m (a_X5_state w)) (la : LA m w w') : ND T m (a_X5_state w') := ND_v nd fun k _ h2 => la.2 k h2
/-- the state is kept, and comes back -/
theorem lk_start {F : Nat} (hF : 6400 < F) {B T n e h m : Nat} {u : S_X3} {w : S_X5} (q : WX G0 B T n e h m u (a_X5_state w)) :
    ∃ K, s_X5_copy F 20377 20377 (a_X5_state w) (a_X5_kept w) 0 0 = some K ∧ (∀ k, k < 377 + 5 * m → K k = a_X5_state w k) ∧ ∀ g : Nat → Int32, ∃ y, s_X5_copy F 20377 20377 K g 0 0 = some y ∧ ∀ k, k < 377 + 5 * m → y k = a_X5_state w k := by
  obtain ⟨he, hn, hhm⟩ := WB_e q.1
  have h3 : a_X5_state w (0 + 3) = nI m := q.1.1.2.2.2.2.2.2.2.1
  obtain ⟨K, hK⟩ : ∃ K : Nat → Int32, K = fun k => if 0 ≤ k ∧ k < 0 + (377 + 5 * m) then a_X5_state w (0 + (k - 0)) else a_X5_kept w k := ⟨_, rfl⟩
  have hc := x5_copy (n0 := 20377) (n1 := 20377) (a := 0) (b := 0) hF (f := a_X5_state w) (a_X5_kept w) (m := m) (by omega) h3 (by omega) (by omega) (by omega) (by omega)
  rw [← hK] at hc
  have hKv : ∀ k, k < 377 + 5 * m → K k = a_X5_state w k := fun k hk => by
    rw [hK]
    show (if _ then _ else _) = _
    rw [if_pos (by omega), show 0 + (k - 0) = k by omega]
  refine ⟨K, hc, hKv, fun g => ?_⟩
  have hc2 := x5_copy (n0 := 20377) (n1 := 20377) (a := 0) (b := 0) hF (f := K) g (m := m) (by omega) ((hKv (0 + 3) (by omega)).trans h3) (by omega) (by omega) (by omega) (by omega)
  refine ⟨_, hc2, fun k hk => ?_⟩
  show (if _ then _ else _) = _
  rw [if_pos (by omega), show 0 + (k - 0) = k by omega]
  exact hKv k hk
theorem cn_minus {s r : Int32} (h : ∀ t, mb r t = true → mb s t = true) (n : Nat) (hn : n ≤ 32) : cn (mb s) n = cn (mb (s &&& (r ^^^ (-1)))) n + cn (mb r) n := by
  induction n with
  | zero => rfl
  | succ n ih =>
    have := ih (by omega)
    show cn (mb s) n + (if mb s n then 1 else 0) = (cn (mb (s &&& (r ^^^ (-1)))) n + (if mb (s &&& (r ^^^ (-1))) n then 1 else 0)) + (cn (mb r) n + (if mb r n then 1 else 0))
    rw [mb_and, mb_not _ (by omega)]
    generalize cn (mb (s &&& (r ^^^ (-1)))) n = A at this ⊢
    cases hr : mb r n with
    | true => rw [h n hr]; simp; omega
    | false => cases hs : mb s n <;> simp <;> omega
theorem bc_minus {s r : Int32} (hs : ∀ t, mb s t = true → t < 24) (h : ∀ t, mb r t = true → mb s t = true) : jd_bc (s &&& (r ^^^ (-1))) = jd_bc s - jd_bc r := by
  rw [bc24 hs, bc24 (fun t ht => hs t (h t ht)), bc24 (fun t ht => hs t (by rw [mb_and, Bool.and_eq_true] at ht; exact ht.1)), cn_minus h 24 (by omega), ← ni_add, Int32.add_sub_cancel]
theorem AG_ew {T T' : Nat} {u x y : S_X3} (a : AG u x) (z : EW T T' x y) : ∀ t, t < 24 → (mb (a_X3_living u) t = false → mb (a_X3_living y) t = false) ∧ (mb (a_X3_living u) t = true → mb (a_X3_living y) t = false → ∃ D, T < D ∧ D ≤ T' ∧ a_X3_endTimes y t = nI D) := fun t ht => by
  obtain ⟨z1, z2⟩ := z t
  rw [a.1.2.2.1] at z1 z2
  exact ⟨fun h => (z1 h).1, z2⟩
/-- ticks -/
theorem x_wouldPass {F : Nat} (hF : 6400 < F) {B T n e h m c : Nat} {u : S_X4} {w : S_X5} (q : WX G0 B T n e h m (a_X4_now u) (a_X5_state w)) (nd : ND T m (a_X5_state w)) (hT : T ≤ 5000) (hc : c ≤ 200) :
    ∃ x, s_X4_foresee F u (nI c) = some (m_X4_ahead x u) ∧ ∀ p, p < 4 → ∃ z w', s_X4_passedPart F (m_X4_ahead x u) (nI p) = some z ∧ s_X5_wouldPass F w (nI c) (nI p) = some (z, w') ∧ LA m w w' := by
  obtain ⟨x0, c1, c2, c3⟩ := x3_copyFrom (F := F) (a_X4_ahead u) q
  obtain ⟨K, k1, k2, k3⟩ := lk_start hF q
  obtain ⟨e', h', m', x, w2, p1, p2, p3, p4, p5, p6, p7⟩ := x_pass (F := F) (by omega) (w := m_X5_kept K w) hc (by omega) c3 nd
  obtain ⟨r, g, r1, r2, r3, r4, r5, -⟩ := x5_reached (F := F) (by omega) p3
  have hliv := x5_living (F := F) (by omega) p3.1
  have hkept : a_X5_kept w2 = K := p6.2.2.2.2.2.2.2.1
  obtain ⟨y, y1, y2⟩ := k3 (a_X5_state (m_X5_isReached g w2))
  have hx3 : a_X4_ahead (m_X4_ahead x u) = x := rfl
  have hn3 : a_X4_now (m_X4_ahead x u) = a_X4_now u := rfl
  have hmd : ∀ v2, s_X5_wouldPass F w (nI c) v2 = (if v2 = 0 then (some (nI e' - nI e, m_X5_state y (m_X5_isReached g w2))) else (if v2 = 1 then (some (((a_X5_state w2) (6 : Int32).toNatClampNeg) - ((a_X5_kept w2) (6 : Int32).toNatClampNeg), m_X5_state y (m_X5_isReached g w2))) else (if v2 = 2 then (some ((a_X5_state w2) (3 : Int32).toNatClampNeg, m_X5_state y (m_X5_isReached g w2))) else (some (jd_bc (a_X3_living x) - jd_bc r, m_X5_state y (m_X5_isReached g w2)))))) := fun v2 => by
    unfold s_X5_wouldPass
    have y1' : s_X5_copy F 20377 20377 (a_X5_kept (m_X5_isReached g w2)) (a_X5_state (m_X5_isReached g w2)) 0 0 = some y := by
      rw [show a_X5_kept (m_X5_isReached g w2) = K from hkept]; exact y1
    rw [k1, Option.bind_some, p2, Option.bind_some, hliv, Option.bind_some, r3, Option.bind_some, y1', Option.bind_some]
  have hla : LA m w (m_X5_state y (m_X5_isReached g w2)) := ⟨((SF1.ke w K).tr (SF1.of p6)).tr (SF1.of ((SF.re w2 g).tr (SF.st _ y))), y2⟩
  refine ⟨x, ?_, fun p hp => ?_⟩
  · unfold s_X4_foresee
    rw [c1, Option.bind_some, p1, Option.bind_some]
  · have i6 : a_X5_state w2 (6 : Int32).toNatClampNeg = jd_bc (a_X3_wronged x) := by
      rw [bc24 (fun t ht => by have := (p3.1.2.2.2.1.2.2.1 t ht).1; have := (WB_e p3.1).2.1; omega)]
      exact p3.1.1.2.2.2.2.2.2.2.2.2.2.2.2.1
    have i6k : a_X5_kept w2 (6 : Int32).toNatClampNeg = jd_bc (a_X3_wronged (a_X4_now u)) := by
      rw [hkept, bc24 (fun t ht => by have := (q.1.2.2.2.1.2.2.1 t ht).1; have := (WB_e q.1).2.1; omega)]
      exact (k2 6 (by omega)).trans q.1.1.2.2.2.2.2.2.2.2.2.2.2.2.1
    have i3 : a_X5_state w2 (3 : Int32).toNatClampNeg = nI m' := p3.1.1.2.2.2.2.2.2.2.1
    match p, hp with
    | 0, _ =>
      refine ⟨nI e' - nI e, _, ?_, (hmd 0).trans (if_pos rfl), hla⟩
      show s_X4_passedPart F _ 0 = _
      unfold s_X4_passedPart
      rw [if_pos rfl, hx3, hn3, p3.1.1.2.2.2.2.2.2.2.2.1, q.1.1.2.2.2.2.2.2.2.2.1]
    | 1, _ =>
      refine ⟨jd_bc (a_X3_wronged x) - jd_bc (a_X3_wronged (a_X4_now u)), _, ?_, (hmd 1).trans ((if_neg (by decide)).trans ((if_pos rfl).trans (by rw [i6, i6k]))), hla⟩
      show s_X4_passedPart F _ 1 = _
      unfold s_X4_passedPart
      rw [if_neg (by decide), if_pos rfl]
    | 2, _ =>
      refine ⟨nI m', _, ?_, (hmd 2).trans ((if_neg (by decide)).trans ((if_neg (by decide)).trans ((if_pos rfl).trans (by rw [i3])))), hla⟩
      show s_X4_passedPart F _ 2 = _
      unfold s_X4_passedPart
      rw [if_neg (by decide), if_neg (by decide), if_pos rfl, hx3, x1_under p3.1.2.2.2.2.2.1.1, Option.bind_some]
    | 3, _ =>
      refine ⟨jd_bc (a_X3_living x) - jd_bc r, _, ?_, (hmd 3).trans ((if_neg (by decide)).trans ((if_neg (by decide)).trans (if_neg (by decide)))), hla⟩
      show s_X4_passedPart F _ 3 = _
      unfold s_X4_passedPart
      rw [if_neg (by decide), if_neg (by decide), if_neg (by decide), hx3, r1, Option.bind_some, bc_minus (fun t ht => by have := p3.1.2.2.2.1.1 t ht; have := (WB_e p3.1).2.1; omega) r5]
/-- a trial -/
theorem x_wouldTry {F : Nat} (hF : 6400 < F) {B T n e h m : Nat} {u : S_X4} {w : S_X5} (q : WX G0 B T n e h m (a_X4_now u) (a_X5_state w)) (nd : ND T m (a_X5_state w)) :
    ∃ x, s_X4_foreseeTrial F u = some (m_X4_ahead x u) ∧ ∀ p, p < 3 → ∃ z w', s_X4_triedPart F (m_X4_ahead x u) (nI p) = some z ∧ s_X5_wouldTry F w (nI p) = some (z, w') ∧ LA m w w' := by
  obtain ⟨x0, c1, c2, c3⟩ := x3_copyFrom (F := F) (a_X4_ahead u) q
  obtain ⟨K, k1, k2, k3⟩ := lk_start hF q
  obtain ⟨e', h', m', x, w2, p1, p2, p3, p4, p5, p6, p7⟩ := x_holdTrial (F := F) (by omega) (w := m_X5_kept K w) c3 nd
  have hkept : a_X5_kept w2 = K := p6.2.2.2.2.2.2.2.1
  obtain ⟨y, y1, y2⟩ := k3 (a_X5_state w2)
  rw [← hkept] at y1
  have hx3 : a_X4_ahead (m_X4_ahead x u) = x := rfl
  have hn3 : a_X4_now (m_X4_ahead x u) = a_X4_now u := rfl
  have h64 : ∀ z, s_X5_wouldTry_b64 F w2 z = some (z, m_X5_state y w2) := fun z => by
    unfold s_X5_wouldTry_b64
    rw [y1, Option.bind_some]
  have hmd : ∀ v, s_X5_wouldTry F w v = (if v = 0 then some (((a_X5_state w2) (4 : Int32).toNatClampNeg) - ((a_X5_kept w2) (4 : Int32).toNatClampNeg), m_X5_state y w2) else (if v = 1 then some (jd_bc (a_X3_suspects x), m_X5_state y w2) else some (((a_X5_state w2) (6 : Int32).toNatClampNeg) - ((a_X5_kept w2) (6 : Int32).toNatClampNeg), m_X5_state y w2))) := fun v => by
    unfold s_X5_wouldTry
    rw [k1, Option.bind_some, p2, Option.bind_some, x5_suspects (F := F) (by omega) p3.1, Option.bind_some, h64, h64, h64]
  have hla : LA m w (m_X5_state y w2) := ⟨((SF1.ke w K).tr (SF1.of p6)).tr (SF1.of (SF.st _ y)), y2⟩
  refine ⟨x, ?_, fun p hp => ?_⟩
  · unfold s_X4_foreseeTrial
    rw [c1, Option.bind_some, p1, Option.bind_some]
  · have i4 : a_X5_state w2 (4 : Int32).toNatClampNeg = a_X3_ends x := p3.1.1.2.2.2.2.2.2.2.2.2.1.trans p3.1.1.2.2.2.2.2.2.2.2.1.symm
    have i4k : a_X5_kept w2 (4 : Int32).toNatClampNeg = a_X3_ends (a_X4_now u) := by
      rw [hkept]
      exact (k2 4 (by omega)).trans (q.1.1.2.2.2.2.2.2.2.2.2.1.trans q.1.1.2.2.2.2.2.2.2.2.1.symm)
    have i6 : a_X5_state w2 (6 : Int32).toNatClampNeg = jd_bc (a_X3_wronged x) := by
      rw [bc24 (fun t ht => by have := (p3.1.2.2.2.1.2.2.1 t ht).1; have := (WB_e p3.1).2.1; omega)]
      exact p3.1.1.2.2.2.2.2.2.2.2.2.2.2.2.1
    have i6k : a_X5_kept w2 (6 : Int32).toNatClampNeg = jd_bc (a_X3_wronged (a_X4_now u)) := by
      rw [hkept, bc24 (fun t ht => by have := (q.1.2.2.2.1.2.2.1 t ht).1; have := (WB_e q.1).2.1; omega)]
      exact (k2 6 (by omega)).trans q.1.1.2.2.2.2.2.2.2.2.2.2.2.2.1
    rw [i4, i4k, i6, i6k] at hmd
    match p, hp with
    | 0, _ =>
      refine ⟨_, _, ?_, (hmd 0).trans (if_pos rfl), hla⟩
      show s_X4_triedPart F _ 0 = _
      unfold s_X4_triedPart
      rw [if_pos rfl]
    | 1, _ =>
      refine ⟨_, _, ?_, (hmd 1).trans ((if_neg (by decide)).trans (if_pos rfl)), hla⟩
      show s_X4_triedPart F _ 1 = _
      unfold s_X4_triedPart
      rw [if_neg (by decide), if_pos rfl]
    | 2, _ =>
      refine ⟨_, _, ?_, (hmd 2).trans ((if_neg (by decide)).trans (if_neg (by decide))), hla⟩
      show s_X4_triedPart F _ 2 = _
      unfold s_X4_triedPart
      rw [if_neg (by decide), if_neg (by decide)]
/-- an end -/
theorem x_endLoop {F : Nat} (hF : 6400 < F) {B n t T0 : Nat} (ht : t < n) {v2 : Int32} : ∀ d k e h m u w nn mm, k + d = 200 → d < nn → d + 2 < mm → T0 + 201 ≤ 5600 → WX G0 B (T0 + k) n e h m u (a_X5_state w) → ND (T0 + k) m (a_X5_state w) → mb (a_X3_living u) t = true →
    ∃ j u' z w', s_X3_passTicks_l7 F (nI 200) v2 nn u (nI k) = some (z, u') ∧ s_X5_wouldEnd_l15 F (nI t) mm w (nI k) = s_X5_wouldEnd_b40 F w' (nI j) ∧ SF w w' ∧ ((mb (a_X3_living u') t = true ∧ j = 201) ∨ (mb (a_X3_living u') t = false ∧ j ≤ 200 ∧ a_X3_endTimes u' t = nI (T0 + j))) := by
  intro d
  induction d with
  | zero =>
    intro k e h m u w nn mm hk hnn hmm hT q nd hl
    obtain ⟨nn, rfl⟩ : ∃ j, nn = j + 1 := ⟨nn - 1, by omega⟩
    obtain ⟨mm, rfl⟩ : ∃ j, mm = j + 2 := ⟨mm - 2, by omega⟩
    obtain rfl : k = 200 := by omega
    obtain ⟨he, hn, -⟩ := WB_e q.1
    obtain ⟨e1, h1, m1, u1, w1, k1, k2, k3, k4, k5, k6, k7⟩ := x_tick (F := F) (by omega) q (by omega)
    refine ⟨201, u, a_X3_ends u - v2, w1, ?_, ?_, k6, Or.inl ⟨hl, rfl⟩⟩
    · rw [e_X3_passTicks_l7, if_pos (Int32.le_refl _)]
    · have hlv := WX_lv q.1 ht
      rw [e_X5_wouldEnd_l15, x5_lives F w (by omega), Option.bind_some, hlv, hl, if_pos rfl, if_neg (show ¬ (200 : Int32) < nI 200 by decide), k2, Option.bind_some, e_X5_wouldEnd_l15, x5_lives F w1 (by omega), Option.bind_some, show nI 200 + 1 = nI 201 from rfl, if_pos (show (200 : Int32) < nI 201 by decide)]
      cases (a_X5_state w1 (17 + 10 * t) == 1) <;> rfl
  | succ d ih =>
    intro k e h m u w nn mm hk hnn hmm hT q nd hl
    obtain ⟨nn, rfl⟩ : ∃ j, nn = j + 1 := ⟨nn - 1, by omega⟩
    obtain ⟨mm, rfl⟩ : ∃ j, mm = j + 1 := ⟨mm - 1, by omega⟩
    obtain ⟨he, hn, -⟩ := WB_e q.1
    obtain ⟨e1, h1, m1, u1, w1, k1, k2, k3, k4, k5, k6, k7⟩ := x_tick (F := F) (by omega) q (by omega)
    rw [show T0 + k + 1 = T0 + (k + 1) by omega] at k3 k4 k7
    have hlv := WX_lv q.1 ht
    have hcl := k1 nn (nI 200) v2 k (ni_nle (show k < 200 by omega) (by omega))
    have hmd : s_X5_wouldEnd_l15 F (nI t) (mm + 1) w (nI k) = s_X5_wouldEnd_l15 F (nI t) mm w1 (nI (k + 1)) := by
      rw [e_X5_wouldEnd_l15, x5_lives F w (by omega), Option.bind_some, hlv, hl, if_pos rfl, if_neg (show ¬ (200 : Int32) < nI k from ni_nlt (N := k) (k := 200) (by omega) (by omega)), k2, Option.bind_some, ni_1]
    rw [hcl, hmd]
    cases hl1 : mb (a_X3_living u1) t with
    | true =>
      obtain ⟨j, u', z, w', p1, p2, p3, p4⟩ := ih (k + 1) e1 h1 m1 u1 w1 nn mm (by omega) (by omega) (by omega) hT k3 k4 hl1
      exact ⟨j, u', z, w', p1, p2, k6.tr p3, p4⟩
    | false =>
      obtain ⟨e2, h2, m2, u2, w2, p1, p2, p3, p4, p5, p6, p7⟩ := x_passLoop (F := F) (by omega) (c := 200) (by omega) (v2 := v2) (v2' := 0) d (k + 1) (T0 + (k + 1)) e1 h1 m1 u1 w1 nn F (by omega) (by omega) (by omega) (by omega) k3 k4
      have hew := (p7 (T0 + (k + 1)) u1 (Nat.le_refl _) (EW.rf _ _) t).1 hl1
      obtain ⟨mm, rfl⟩ : ∃ j, mm = j + 1 := ⟨mm - 1, by omega⟩
      have hlv1 := WX_lv k3.1 ht
      refine ⟨k + 1, u2, _, w1, p1, ?_, k6, Or.inr ⟨hew.1, by omega, ?_⟩⟩
      · rw [e_X5_wouldEnd_l15, x5_lives F w1 (by omega), Option.bind_some, hlv1, hl1, if_neg Bool.false_ne_true]
      · rw [hew.2]; exact (k7 t).2 hl hl1
theorem x_wouldEnd {F : Nat} (hF : 6400 < F) {B T n e h m : Nat} {u : S_X4} {w : S_X5} (q : WX G0 B T n e h m (a_X4_now u) (a_X5_state w)) (nd : ND T m (a_X5_state w)) (hT : T ≤ 5000) :
    ∃ x, s_X4_foresee F u 200 = some (m_X4_ahead x u) ∧ ∀ (t : Nat) (w1 : S_X5), t < n → LA m w w1 → ∃ z w', s_X4_foreseenEnd F (m_X4_ahead x u) (nI t) = some z ∧ s_X5_wouldEnd F w1 (nI t) = some (z, w') ∧ LA m w w' := by
  obtain ⟨he, hn, -⟩ := WB_e q.1
  obtain ⟨x0, c1, c2, c3⟩ := x3_copyFrom (F := F) (a_X4_ahead u) q
  obtain ⟨e', h', m', x, w2, p1, p2, p3, p4, p5, p6, p7⟩ := x_pass (F := F) (by omega) (w := w) (c := 200) (by omega) (by omega) c3 nd
  have p1' : s_X3_passTicks F x0 200 = _ := p1
  refine ⟨x, ?_, fun t w1 ht la => ?_⟩
  · unfold s_X4_foresee
    rw [c1, Option.bind_some, p1', Option.bind_some]
  · have q1 := LA_q q la
    have nd1 := LA_nd nd la
    obtain ⟨K, k1, k2, k3⟩ := lk_start hF q1
    obtain ⟨w3, hw3⟩ : ∃ w3, w3 = m_X5_kept K w1 := ⟨_, rfl⟩
    have est : a_X5_state w3 = a_X5_state w1 := by rw [hw3]
    have hhead : s_X5_wouldEnd F w1 (nI t) = s_X5_wouldEnd_l15 F (nI t) F w3 0 := by
      unfold s_X5_wouldEnd
      rw [k1, Option.bind_some, hw3]
    have hx3 : a_X4_ahead (m_X4_ahead x u) = x := rfl
    have hn3 : a_X4_now (m_X4_ahead x u) = a_X4_now u := rfl
    have fin : ∀ w4 (j : Nat), SF w3 w4 → j ≤ 201 → ∃ w', s_X5_wouldEnd_b40 F w4 (nI j) = some (if j = 201 then -1 else nI j, w') ∧ LA m w w' := by
      intro w4 j sf hj
      have hk4 : a_X5_kept w4 = K := by rw [sf.2.2.2.2.2.2.2.1, hw3]
      obtain ⟨y, y1, y2⟩ := k3 (a_X5_state w4)
      refine ⟨m_X5_state y w4, ?_, la.tr ⟨?_, y2⟩⟩
      · unfold s_X5_wouldEnd_b40
        rw [hk4, y1, Option.bind_some]
        by_cases h201 : j = 201
        · rw [h201, if_pos (show (200 : Int32) < nI 201 by decide), if_pos rfl]
        · rw [if_neg (show ¬ (200 : Int32) < nI j from ni_nlt (N := j) (k := 200) (by omega) (by omega)), if_neg h201]
      · have a1 : SF1 w1 w3 := by rw [hw3]; exact SF1.ke w1 K
        exact (a1.tr (SF1.of sf)).tr (SF1.of (SF.st _ _))
    cases hl : mb (a_X3_living (a_X4_now u)) t with
    | false =>
      obtain ⟨w5, f1, f2⟩ := fin w3 0 (SF.rf w3) (by omega)
      refine ⟨0, _, ?_, ?_, f2⟩
      · unfold s_X4_foreseenEnd
        rw [hn3, x3_lives F _ (by omega), Option.bind_some, hl, if_neg Bool.false_ne_true]
      · obtain ⟨F', rfl⟩ : ∃ F', F = F' + 1 := ⟨F - 1, by omega⟩
        have hlv := WX_lv q1.1 ht
        have h0 : s_X5_wouldEnd_l15 (F' + 1) (nI t) (F' + 1) w3 0 = _ := e_X5_wouldEnd_l15 (F' + 1) (nI t) F' w3 0
        rw [hhead, h0, x5_lives _ _ (by omega), Option.bind_some, est, hlv, hl, if_neg Bool.false_ne_true]
        rw [if_neg (by omega)] at f1
        exact f1
    | true =>
      have hl0 : mb (a_X3_living x0) t = true := by rw [c2.1.2.2.1]; exact hl
      obtain ⟨j, u', z, w4, g1, g2, g3, g4⟩ := x_endLoop hF (T0 := T) ht (v2 := a_X3_ends x0) 200 0 e h m x0 w3 F F (by omega) (by omega) (by omega) (by omega) (by rw [est, Nat.add_zero]; exact WX_blk c3 la.2) (by rw [est, Nat.add_zero]; exact nd1) hl0
      have g1' : s_X3_passTicks F x0 200 = some (z, u') := g1
      rw [p1'] at g1'
      have hxu : x = u' := (Prod.ext_iff.mp (Option.some.inj g1')).2
      rw [← hxu] at g4
      have g2' : s_X5_wouldEnd_l15 F (nI t) F w3 0 = s_X5_wouldEnd_b40 F w4 (nI j) := g2
      rcases g4 with ⟨g4, g5⟩ | ⟨g4, g5, g6⟩
      · obtain ⟨w5, f1, f2⟩ := fin w4 j g3 (by omega)
        rw [if_pos g5] at f1
        refine ⟨-1, _, ?_, hhead.trans (g2'.trans f1), f2⟩
        unfold s_X4_foreseenEnd
        rw [hn3, hx3, x3_lives F _ (by omega), Option.bind_some, hl, if_pos rfl, x3_lives F _ (by omega), Option.bind_some, g4, if_pos rfl]
      · obtain ⟨w5, f1, f2⟩ := fin w4 j g3 (by omega)
        rw [if_neg (by omega)] at f1
        refine ⟨nI j, _, ?_, hhead.trans (g2'.trans f1), f2⟩
        unfold s_X4_foreseenEnd
        rw [hn3, hx3, x3_lives F _ (by omega), Option.bind_some, hl, if_pos rfl, x3_lives F _ (by omega), Option.bind_some, g4, if_neg Bool.false_ne_true, if_pos (ni_lx (show t < 24 by omega) (by decide)), ni_nat (by omega), g6, q.1.1.1, ni_sub (by omega), show T + j - T = j by omega]
