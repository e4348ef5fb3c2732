/-! the class and the model between two calls -/
theorem RS_congr {C s : Nat} {sv sv' : Nat → S_X3} {f : Nat → Int32} (q : RS C s sv f) (h : ∀ j, j < s → sv' j = sv j) : RS C s sv' f := fun j hj => by
  rw [h j hj]
  exact q j hj
def PM (pi : Nat → Nat) : Prop := pi_ok pi ∧ ∀ i, i < 6 → ∀ j, j < 6 → pi i = pi j → i = j
theorem PM_r {pi : Nat → Nat} (h : PM pi) : PM (pi_r pi) := by
  have ha := pi_ok_all h.1
  have e5 : pi_r pi 5 = pi 0 := rfl
  have e : ∀ j, j < 5 → pi_r pi j = pi (j + 1) := fun j hj => by
    unfold pi_r va_up pi_k
    rw [if_neg (by omega), if_pos (by omega)]
  refine ⟨⟨ha 1 (by omega), ha 2 (by omega), ha 3 (by omega), ha 4 (by omega), ha 5 (by omega), ha 0 (by omega)⟩, fun i hi j hj q => ?_⟩
  by_cases h1 : i = 5
  · by_cases h2 : j = 5
    · omega
    · rw [h1, e5, e j (by omega)] at q
      have := h.2 0 (by omega) (j + 1) (by omega) q
      omega
  · by_cases h2 : j = 5
    · rw [h2, e5, e i (by omega)] at q
      have := h.2 (i + 1) (by omega) 0 (by omega) q
      omega
    · rw [e i (by omega), e j (by omega)] at q
      have := h.2 (i + 1) (by omega) (j + 1) (by omega) q
      omega
/-- what a call of the model leaves alone -/
def FR (w w' : S_X5) : Prop := a_X5_thrown w' = a_X5_thrown w ∧ a_X5_savedMany w' = a_X5_savedMany w ∧ a_X5_textLength w' = a_X5_textLength w ∧ a_X5_saved w' = a_X5_saved w ∧ a_X5_text w' = a_X5_text w
theorem FR.of {w w' : S_X5} (h : SF1 w w') : FR w w' := ⟨h.1, h.2.1, h.2.2.1, h.2.2.2.2.2.2.2.1, h.2.2.2.2.2.2.2.2⟩
theorem FR.sf {w w' : S_X5} (h : SF w w') : FR w w' := FR.of (SF1.of h)
theorem FR.rf (w : S_X5) : FR w w := ⟨rfl, rfl, rfl, rfl, rfl⟩
theorem FR.tr {a b c : S_X5} (h1 : FR a b) (h2 : FR b c) : FR a c := ⟨h2.1.trans h1.1, h2.2.1.trans h1.2.1, h2.2.2.1.trans h1.2.2.1, h2.2.2.2.1.trans h1.2.2.2.1, h2.2.2.2.2.trans h1.2.2.2.2⟩
def RX (B T n e h m s L : Nat) (ch : Nat → Nat) (S : S_X6) (w : S_X5) : Prop :=
  T ≤ 5000 ∧ s ≤ 6 ∧ WX G0 B T n e h m (a_X4_now S.1) (a_X5_state w) ∧ ND T m (a_X5_state w) ∧ a_X4_savedStates S.1 = nI s ∧ a_X5_savedMany w = nI s ∧ RS B s (fun p => S.2.1 (S.2.2 p)) (a_X5_saved w) ∧ TX L ch (a_X4_text S.1) w ∧ PM S.2.2
def REL (c : Nat) (S : S_X6) (w : S_X5) : Prop := ∃ T n e h m s L ch, L ≤ 2 * c ∧ RX (2 * c - L) T n e h m s L ch S w
theorem TX.fr {L : Nat} {ch : Nat → Nat} {t : S_X2} {w w' : S_X5} (q : TX L ch t w) (h1 : a_X5_textLength w' = a_X5_textLength w) (h2 : a_X5_text w' = a_X5_text w) : TX L ch t w' := ⟨q.1, q.2.1, h1.trans q.2.2.1, fun k hk => by rw [h2]; exact q.2.2.2 k hk⟩
theorem RX.thr {B T n e h m s L : Nat} {ch : Nat → Nat} {S : S_X6} {w : S_X5} (q : RX B T n e h m s L ch S w) (y : Int32) : RX B T n e h m s L ch S (m_X5_thrown y w) := q
theorem RX.more {B B' T n e h m s L : Nat} {ch : Nat → Nat} {S : S_X6} {w : S_X5} (q : RX B T n e h m s L ch S w) (h1 : B ≤ B') (h2 : B' + 96 ≤ 1200) : RX B' T n e h m s L ch S w := ⟨q.1, q.2.1, WX_mono q.2.2.1 h1 h2, q.2.2.2.1, q.2.2.2.2.1, q.2.2.2.2.2.1, RS_mono q.2.2.2.2.2.2.1 h1 h2, q.2.2.2.2.2.2.2⟩
theorem REL.thr {c : Nat} {S : S_X6} {w : S_X5} (q : REL c S w) (y : Int32) : REL c S (m_X5_thrown y w) := q
theorem REL.more {c : Nat} {S : S_X6} {w : S_X5} (q : REL c S w) (hc : c < 512) : REL (c + 1) S w := by
  obtain ⟨T, n, e, h, m, s, L, ch, h1, h2⟩ := q
  exact ⟨T, n, e, h, m, s, L, ch, by omega, h2.more (by omega) (by omega)⟩
/-- an operation on the world now -/
theorem RX.op {B B' T n e h m s L T' n' e' h' m' : Nat} {ch : Nat → Nat} {S : S_X6} {w w' : S_X5} {x : S_X3} (q : RX B T n e h m s L ch S w) (hT : T' ≤ 5000) (hx : WX G0 B' T' n' e' h' m' x (a_X5_state w')) (nd : ND T' m' (a_X5_state w')) (hB : B ≤ B') (fr : FR w w') : RX B' T' n' e' h' m' s L ch (m_X6_g (m_X4_now x S.1) S) w' := by
  obtain ⟨-, q2, -, -, q5, q6, q7, q8, q9⟩ := q
  have hB' : B' + 96 ≤ 1200 := hx.1.2.2.2.2.2.2.2
  refine ⟨hT, q2, hx, nd, q5, fr.2.1.trans q6, ?_, q8.fr fr.2.2.1 fr.2.2.2.2, q9⟩
  rw [fr.2.2.2.1]
  exact RS_mono q7 hB hB'
set_option maxHeartbeats 1000000 in
theorem x_save {F : Nat} (hF : 6400 < F) {B T n e h m s L : Nat} {ch : Nat → Nat} {S : S_X6} {w : S_X5} (q : RX B T n e h m s L ch S w) :
    ∃ S' w', s_X4_save_6 F S = some S' ∧ s_X5_save F w = some w' ∧ RX B T n e h m (if s = 6 then 6 else s + 1) L ch S' w' ∧ a_X4_now S'.1 = a_X4_now S.1 ∧ a_X4_text S'.1 = a_X4_text S.1 ∧ a_X5_state w' = a_X5_state w ∧ a_X5_thrown w' = a_X5_thrown w ∧ a_X5_text w' = a_X5_text w ∧ a_X5_textLength w' = a_X5_textLength w := by
  obtain ⟨q1, q2, q3, q4, q5, q6, q7, q8, q9⟩ := q
  obtain ⟨f', r1, r2⟩ := x5_save hF q2 q6 q7 q1 q3 q4
  obtain ⟨g, sv, pi⟩ := S
  dsimp only at q3 q5 q7 q8 q9 r2
  have hpi := pi_ok_all q9.1
  by_cases h6 : s = 6
  · subst h6
    have hr5 : pi_r pi 5 = pi 0 := rfl
    obtain ⟨y, y1, -, y3⟩ := x3_copyFrom (F := F) (sv (pi 0)) q3
    have hs : s_X4_save_6 F (g, sv, pi) = some (m_X4_savedStates (nI 6) g, va_up sv (pi 0) y, pi_r pi) := by
      unfold s_X4_save_6
      rw [if_neg (show ¬ a_X4_savedStates g < 6 by rw [q5]; decide), if_pos q9.1]
      unfold s6_put
      have h0 := hpi 0 (by omega)
      rw [if_pos (show lf_ix (5 : Int32) 6 by decide)]
      show (if pi_r pi 5 < 6 then (s_X3_copyFrom F (sv (pi_r pi 5)) (a_X4_now g)).bind (fun y => some (m_X4_savedStates (5 + 1) g, va_up sv (pi_r pi 5) y, pi_r pi)) else none) = _
      rw [hr5, if_pos h0, y1, Option.bind_some]
      rfl
    refine ⟨_, _, hs, r1, ⟨q1, by rw [if_pos rfl]; omega, q3, q4, rfl, rfl, ?_, q8, PM_r q9⟩, rfl, rfl, rfl, rfl, rfl, rfl⟩
    have := r2 y y3
    rw [if_pos rfl] at this ⊢
    refine RS_congr this fun j hj => ?_
    rw [if_pos rfl]
    show va_up sv (pi 0) y (pi_r pi j) = _
    by_cases h5 : j = 5
    · rw [h5, if_pos rfl, hr5]
      unfold va_up
      rw [if_pos rfl]
    · rw [if_neg h5]
      have e : pi_r pi j = pi (j + 1) := by
        unfold pi_r va_up pi_k
        rw [if_neg (by omega), if_pos (by omega)]
      rw [e]
      unfold va_up
      rw [if_neg fun z => by have := q9.2 _ (by omega) 0 (by omega) z; omega]
  · obtain ⟨y, y1, -, y3⟩ := x3_copyFrom (F := F) (sv (pi s)) q3
    have hs : s_X4_save_6 F (g, sv, pi) = some (m_X4_savedStates (nI (s + 1)) g, va_up sv (pi s) y, pi) := by
      unfold s_X4_save_6
      rw [if_pos (show a_X4_savedStates g < 6 by rw [q5]; exact (ni_lt (b := 6) (by omega) (by omega)).mpr (by omega))]
      unfold s6_put
      show (if lf_ix (a_X4_savedStates g) 6 then (if pi (a_X4_savedStates g).toNatClampNeg < 6 then (s_X3_copyFrom F (sv (pi (a_X4_savedStates g).toNatClampNeg)) (a_X4_now g)).bind (fun y => some (m_X4_savedStates (a_X4_savedStates g + 1) g, va_up sv (pi (a_X4_savedStates g).toNatClampNeg) y, pi)) else none) else none) = _
      rw [q5, if_pos (ni_lx (by omega) (by omega)), ni_nat (by omega), if_pos (hpi s (by omega)), y1, Option.bind_some, ni_1]
    refine ⟨_, _, hs, r1, ⟨q1, by rw [if_neg h6]; omega, q3, q4, by rw [if_neg h6], rfl, ?_, q8, q9⟩, rfl, rfl, rfl, rfl, rfl, rfl⟩
    have := r2 y y3
    rw [if_neg h6] at this ⊢
    refine RS_congr this fun j hj => ?_
    rw [if_neg h6]
    show va_up sv (pi s) y (pi j) = _
    unfold va_up
    by_cases hjs : j = s
    · rw [if_pos hjs, if_pos (by rw [hjs])]
    · rw [if_neg hjs, if_neg fun z => hjs (q9.2 _ (by omega) _ (by omega) z)]
