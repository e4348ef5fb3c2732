/-! a thing ends, on both sides -/
theorem x5_setPart (F : Nat) (u : S_X5) {t p : Nat} (h : 17 + 10 * t + p < 20377) (c : Int32) : s_X5_setPart F u (nI t) (nI p) c = some (m_X5_state (upd (a_X5_state u) (17 + 10 * t + p) c) u) := by
  unfold s_X5_setPart
  rw [ix_part, if_pos (ni_lx h (by decide)), ni_nat (by omega)]
theorem upd_id (f : Nat → Int32) (k : Nat) : upd f k (f k) = f := by
  funext j
  by_cases h : j = k
  · subst h; rw [upd_at]
  · rw [upd_ne _ _ h]
theorem ev_bt : ev_b true = 1 := rfl
theorem ev_bf : ev_b false = 0 := rfl
theorem ni_plk (t k : Nat) : st_pl (nI t) (nI k) = nI (4 + 4 * t + k) := by
  unfold st_pl
  rw [show (4 : Int32) = nI 4 from rfl, ni_mul, ni_add, ni_add]
theorem ni_own2 {k : Nat} (h : ¬ k < 4) (hk : k < 100) : (nI k - 4) / 4 = nI ((k - 4) / 4) := by
  have := ni_own (k - 4) (by omega)
  rw [show 4 + (k - 4) = k by omega] at this
  exact this
theorem x0_letGo {F : Nat} (hF : 100 < F) (f : S_X0) (t o : Int32) : ∃ b, s_X0_letGo F f t o = some (b, fun k => if k < 100 ∧ f k = t then -1 else f k) ∧ (b = true ↔ ∃ k, k < 100 ∧ f k = t ∧ (k < 4 ∨ mb o ((k - 4) / 4) = false)) := by
  let g : Nat → Bool × S_X0 → Bool × S_X0 := fun k a => if a.2 k = t then (a.1 || decide (k < 4) || !mb o ((k - 4) / 4), upd a.2 k (-1)) else a
  let P : Nat → Bool × S_X0 → Prop := fun k a => (∀ j, a.2 j = if j < k ∧ f j = t then -1 else f j) ∧ (a.1 = true ↔ ∃ j, j < k ∧ f j = t ∧ (j < 4 ∨ mb o ((j - 4) / 4) = false))
  have key := lf_for (fun n k (a : Bool × S_X0) => s_X0_letGo_l5 F t o n a.2 (ev_b a.1) (nI k)) 100 (fun a => some a) g P
    (fun n a _ => by
      obtain ⟨b, f1⟩ := a
      show s_X0_letGo_l5 F t o (n + 1) f1 (ev_b b) (nI 100) = some (b, f1)
      rw [e_X0_letGo_l5, if_pos (by decide)]
      cases b <;> rfl)
    (fun n k a hk hp => by
      obtain ⟨b, f1⟩ := a
      obtain ⟨hp1, hp2⟩ := hp
      have hk1 : f1 k = f k := by
        have := hp1 k
        rw [if_neg (by omega)] at this
        exact this
      by_cases hft : f1 k = t
      · have hg : g k (b, f1) = (b || decide (k < 4) || !mb o ((k - 4) / 4), upd f1 k (-1)) := if_pos hft
        rw [hg]
        refine ⟨?_, fun j => ?_, ?_⟩
        · show s_X0_letGo_l5 F t o (n + 1) f1 (ev_b b) (nI k) = s_X0_letGo_l5 F t o n (upd f1 k (-1)) (ev_b (b || decide (k < 4) || !mb o ((k - 4) / 4))) (nI (k + 1))
          rw [e_X0_letGo_l5, if_neg (il_nle hk (by decide)), if_pos (ni_lx hk (by decide)), if_pos (ni_lx hk (by decide)), ni_nat (by omega), if_pos (show a_X0_held f1 k = t from hft), ni_1]
          cases b with
          | true => rw [if_neg (by decide), Bool.true_or, Bool.true_or]; rfl
          | false =>
            rw [if_pos ev_bf]
            by_cases h4 : k < 4
            · rw [if_pos (show nI k < 4 from (ni_lt (b := 4) (by omega) (by omega)).mpr h4), decide_eq_true h4, Bool.false_or, Bool.true_or]; rfl
            · rw [if_neg (show ¬ nI k < 4 from fun q => h4 ((ni_lt (b := 4) (by omega) (by omega)).mp q)), decide_eq_false h4, ni_own2 h4 hk, st_in_mb o (by omega), Bool.false_or, Bool.false_or]
              cases mb o ((k - 4) / 4) <;> rfl
        · show upd f1 k (-1) j = _
          by_cases hjk : j = k
          · subst hjk
            rw [upd_at, if_pos ⟨by omega, by rw [← hk1]; exact hft⟩]
          · rw [upd_ne _ _ hjk, show f1 j = _ from hp1 j]
            by_cases hc : j < k ∧ f j = t
            · rw [if_pos hc, if_pos ⟨by omega, hc.2⟩]
            · rw [if_neg hc, if_neg (fun q => hc ⟨by omega, q.2⟩)]
        · show (b || decide (k < 4) || !mb o ((k - 4) / 4)) = true ↔ _
          have hp2' : b = true ↔ _ := hp2
          rw [Bool.or_eq_true, Bool.or_eq_true, hp2', decide_eq_true_eq, Bool.not_eq_true']
          constructor
          · rintro ((⟨j, h1, h2⟩ | h1) | h1)
            · exact ⟨j, by omega, h2⟩
            · exact ⟨k, by omega, by rw [← hk1]; exact hft, Or.inl h1⟩
            · exact ⟨k, by omega, by rw [← hk1]; exact hft, Or.inr h1⟩
          · rintro ⟨j, h1, h2, h3⟩
            by_cases hjk : j = k
            · subst hjk
              rcases h3 with h3 | h3
              · exact Or.inl (Or.inr h3)
              · exact Or.inr h3
            · exact Or.inl (Or.inl ⟨j, by omega, h2, h3⟩)
      · have hg : g k (b, f1) = (b, f1) := if_neg hft
        rw [hg]
        refine ⟨?_, fun j => ?_, ?_⟩
        · show s_X0_letGo_l5 F t o (n + 1) f1 (ev_b b) (nI k) = s_X0_letGo_l5 F t o n f1 (ev_b b) (nI (k + 1))
          rw [e_X0_letGo_l5, if_neg (il_nle hk (by decide)), if_pos (ni_lx hk (by decide)), if_pos (ni_lx hk (by decide)), ni_nat (by omega), if_neg (show ¬ a_X0_held f1 k = t from hft), ni_1]
        · rw [show (b, f1).2 j = _ from hp1 j]
          by_cases hc : j < k ∧ f j = t
          · rw [if_pos hc, if_pos ⟨by omega, hc.2⟩]
          · rw [if_neg hc, if_neg (fun q => hc ⟨by
              rcases Nat.lt_succ_iff_lt_or_eq.mp q.1 with h | h
              · exact h
              · subst h; rw [hk1] at hft; exact absurd q.2 hft, q.2⟩)]
        · have hp2' : b = true ↔ _ := hp2
          show b = true ↔ _
          rw [hp2']
          constructor
          · rintro ⟨j, h1, h2⟩; exact ⟨j, by omega, h2⟩
          · rintro ⟨j, h1, h2, h3⟩
            refine ⟨j, ?_, h2, h3⟩
            rcases Nat.lt_succ_iff_lt_or_eq.mp h1 with h | h
            · exact h
            · subst h; rw [hk1] at hft; exact absurd h2 hft)
    100 0 (false, f) F rfl hF ⟨fun j => by rw [if_neg (by omega)], by
      constructor
      · intro q; cases q
      · rintro ⟨j, h1, -⟩; omega⟩
  obtain ⟨r, hr⟩ : ∃ r, r = fr g 0 100 (false, f) := ⟨_, rfl⟩
  rw [← hr] at key
  obtain ⟨k1, k2, k3⟩ := key
  refine ⟨r.1, ?_, k3⟩
  have k1' : s_X0_letGo F f t o = some r := k1
  rw [k1']
  refine congrArg some (Prod.ext rfl ?_)
  funext j
  exact k2 j
/-! the model's side -/
def SQ (w w0 : S_X5) : Prop := m_X5_state (a_X5_state w0) w = w0
theorem SQ.rf (w : S_X5) : SQ w w := rfl
theorem SQ.st {w w0 : S_X5} (q : SQ w w0) (v : Nat → Int32) : SQ (m_X5_state v w) w0 := q
theorem SQ.tr {a b c : S_X5} (h1 : SQ a b) (h2 : SQ b c) : SQ a c := by
  unfold SQ at h1 h2 ⊢
  have h3 : m_X5_state (a_X5_state c) (m_X5_state (a_X5_state b) a) = c := by rw [h1]; exact h2
  exact h3
theorem SQ.eq {a b : S_X5} (h : SQ a b) : a = m_X5_state (a_X5_state a) b := by
  have h1 : m_X5_state (a_X5_state b) a = b := h
  have h2 : m_X5_state (a_X5_state a) (m_X5_state (a_X5_state b) a) = a := rfl
  rw [h1] at h2
  exact h2.symm
def zt (u : S_X5) (how : Int32) (o : Nat) : Bool := (how == 2) && (a_X5_isInSet u o == 1) && (a_X5_isInnocent u o == 0)
theorem zt_sq {w w0 : S_X5} (q : SQ w w0) (how : Int32) (o : Nat) : zt w how o = zt w0 how o := by
  have h : zt (m_X5_state (a_X5_state w0) w) how o = zt w0 how o := by rw [show m_X5_state (a_X5_state w0) w = w0 from q]
  exact h
theorem x5_endsToo (F : Nat) (u : S_X5) {o : Nat} (ho : o < 24) (how : Int32) : s_X5_endsToo F u (nI o) how = some (zt u how o) := by
  unfold s_X5_endsToo zt
  rw [if_pos (ni_lx ho (by decide)), if_pos (ni_lx ho (by decide)), ni_nat (by omega)]
  by_cases h1 : how = 2
  · rw [if_pos h1]
    by_cases h2 : a_X5_isInSet u o = 1
    · rw [if_pos h2]
      by_cases h3 : a_X5_isInnocent u o = 0
      · rw [if_pos h3]; simp [h1, h2, h3]
      · rw [if_neg h3]; simp [h3]
    · rw [if_neg h2]; simp [h2]
  · rw [if_neg h1]; simp [h1]
theorem ni_13 (k : Nat) : 13 + nI k = nI (13 + k) := by rw [show (13 : Int32) = nI 13 from rfl, ni_add]
theorem md_hands {F : Nat} (hF : 100 < F) (w : S_X5) (t : Nat) (how : Int32) (v : Nat → Int32) :
    ∃ b, s_X5_ends_l164 F (nI t) how F (m_X5_state v w) 0 0 = s_X5_ends_l241 F (nI t) how F (m_X5_state (fun j => if 13 ≤ j ∧ j < 17 ∧ v j = nI t then -1 else v j) w) (ev_b b) 0 ∧ (b = true ↔ ∃ k, k < 4 ∧ v (13 + k) = nI t) := by
  let g : Nat → Bool × (Nat → Int32) → Bool × (Nat → Int32) := fun k a => if a.2 (13 + k) = nI t then (true, upd a.2 (13 + k) (-1)) else a
  let P : Nat → Bool × (Nat → Int32) → Prop := fun k a => (∀ j, a.2 j = if 13 ≤ j ∧ j < 13 + k ∧ v j = nI t then -1 else v j) ∧ (a.1 = true ↔ ∃ j, j < k ∧ v (13 + j) = nI t)
  have key := lf_for (fun n k (a : Bool × (Nat → Int32)) => s_X5_ends_l164 F (nI t) how n (m_X5_state a.2 w) (ev_b a.1) (nI k)) 4 (fun a => s_X5_ends_l241 F (nI t) how F (m_X5_state a.2 w) (ev_b a.1) 0) g P
    (fun n a _ => by
      obtain ⟨b, f1⟩ := a
      show s_X5_ends_l164 F (nI t) how (n + 1) (m_X5_state f1 w) (ev_b b) (nI 4) = _
      rw [e_X5_ends_l164, if_pos (by decide)])
    (fun n k a hk hp => by
      obtain ⟨b, f1⟩ := a
      obtain ⟨hp1, hp2⟩ := hp
      have hk1 : f1 (13 + k) = v (13 + k) := by
        have := hp1 (13 + k)
        rw [if_neg (by omega)] at this
        exact this
      have hix : lf_ix (13 + nI k) 20377 := by rw [ni_13]; exact ni_lx (show 13 + k < 20377 by omega) (by decide)
      have h193 : ∀ p : Bool, s_X5_ends_b193 F (s_X5_ends_l164 F (nI t) how n) (m_X5_state f1 w) (nI t) how (nI k) (ev_b p) = if f1 (13 + k) = nI t then s_X5_ends_l164 F (nI t) how n (m_X5_state (upd f1 (13 + k) (-1)) w) (ev_b p) (nI (k + 1)) else s_X5_ends_l164 F (nI t) how n (m_X5_state f1 w) (ev_b p) (nI (k + 1)) := by
        intro p
        unfold s_X5_ends_b193
        rw [if_pos hix, if_pos hix, if_pos hix, if_pos hix, ni_13, ni_nat (by omega), ni_1]
        have e : m_X5_state (upd (a_X5_state (m_X5_state f1 w)) (13 + k) (a_X5_state (m_X5_state f1 w) (13 + k))) (m_X5_state f1 w) = m_X5_state f1 w := by
          rw [upd_id]
        rw [e]
      by_cases hft : f1 (13 + k) = nI t
      · have hg : g k (b, f1) = (true, upd f1 (13 + k) (-1)) := if_pos hft
        rw [hg]
        refine ⟨?_, fun j => ?_, ?_⟩
        · show s_X5_ends_l164 F (nI t) how (n + 1) (m_X5_state f1 w) (ev_b b) (nI k) = s_X5_ends_l164 F (nI t) how n (m_X5_state (upd f1 (13 + k) (-1)) w) (ev_b true) (nI (k + 1))
          have h1 := h193 true
          rw [if_pos hft] at h1
          rw [← h1, e_X5_ends_l164, if_neg (il_nle hk (by decide)), if_pos hix, ni_13, ni_nat (by omega), if_pos (show a_X5_state (m_X5_state f1 w) (13 + k) = nI t from hft)]
          cases b
          · rw [if_pos ev_bf]; rfl
          · rw [if_neg (by decide)]; rfl
        · show upd f1 (13 + k) (-1) j = _
          by_cases hjk : j = 13 + k
          · subst hjk
            rw [upd_at, if_pos ⟨by omega, by omega, by rw [← hk1]; exact hft⟩]
          · rw [upd_ne _ _ hjk, show f1 j = _ from hp1 j]
            by_cases hc : 13 ≤ j ∧ j < 13 + k ∧ v j = nI t
            · rw [if_pos hc, if_pos ⟨hc.1, by omega, hc.2.2⟩]
            · rw [if_neg hc, if_neg (fun q => hc ⟨q.1, by omega, q.2.2⟩)]
        · show true = true ↔ _
          exact ⟨fun _ => ⟨k, by omega, by rw [← hk1]; exact hft⟩, fun _ => rfl⟩
      · have hg : g k (b, f1) = (b, f1) := if_neg hft
        rw [hg]
        refine ⟨?_, fun j => ?_, ?_⟩
        · show s_X5_ends_l164 F (nI t) how (n + 1) (m_X5_state f1 w) (ev_b b) (nI k) = s_X5_ends_l164 F (nI t) how n (m_X5_state f1 w) (ev_b b) (nI (k + 1))
          have h1 := h193 b
          rw [if_neg hft] at h1
          rw [← h1, e_X5_ends_l164, if_neg (il_nle hk (by decide)), if_pos hix, ni_13, ni_nat (by omega), if_neg (show ¬ a_X5_state (m_X5_state f1 w) (13 + k) = nI t from hft)]
          cases b
          · rw [if_pos ev_bf]; rfl
          · rw [if_neg (by decide)]; rfl
        · rw [show (b, f1).2 j = _ from hp1 j]
          by_cases hc : 13 ≤ j ∧ j < 13 + k ∧ v j = nI t
          · rw [if_pos hc, if_pos ⟨hc.1, by omega, hc.2.2⟩]
          · rw [if_neg hc, if_neg (fun q => hc ⟨q.1, by
              have h1 := q.2.1
              by_cases hjk : j = 13 + k
              · rw [hk1] at hft; rw [hjk] at q; exact absurd q.2.2 hft
              · omega, q.2.2⟩)]
        · have hp2' : b = true ↔ _ := hp2
          show b = true ↔ _
          rw [hp2']
          constructor
          · rintro ⟨j, h1, h2⟩; exact ⟨j, by omega, h2⟩
          · rintro ⟨j, h1, h2⟩
            refine ⟨j, ?_, h2⟩
            by_cases hjk : j = k
            · rw [hk1] at hft; rw [hjk] at h2; exact absurd h2 hft
            · omega)
    4 0 (false, v) F rfl (by omega) ⟨fun j => by rw [if_neg (by omega)], by
      constructor
      · intro q; cases q
      · rintro ⟨j, h1, -⟩; omega⟩
  obtain ⟨k1, k2, k3⟩ := key
  refine ⟨(fr g 0 4 (false, v)).1, ?_, k3⟩
  have e : (fr g 0 4 (false, v)).2 = fun j => if 13 ≤ j ∧ j < 17 ∧ v j = nI t then -1 else v j := by
    funext j
    exact k2 j
  rw [← e]
  exact k1
/-- the slots of one owner -/
theorem md_owner {F : Nat} (hF : 100 < F) (w : S_X5) (t : Nat) (how : Int32) {o : Nat} (ho : o < 24) (kk : S_X5 → Int32 → Int32 → Option S_X5) (v : Nat → Int32) (b : Bool) :
    ∃ b', s_X5_ends_l255 F (nI t) how (nI o) kk F (m_X5_state v w) (ev_b b) 0 = kk (m_X5_state (fun j => if (v (17 + 10 * o) = 1 ∧ zt w how o = false) ∧ 257 + 4 * o ≤ j ∧ j < 257 + 4 * o + 4 ∧ v j = nI t then -1 else v j) w) (ev_b b') (nI (o + 1)) ∧ (b' = true ↔ (b = true ∨ ((v (17 + 10 * o) = 1 ∧ zt w how o = false) ∧ ∃ k, k < 4 ∧ v (257 + 4 * o + k) = nI t))) := by
  by_cases hc : v (17 + 10 * o) = 1 ∧ zt w how o = false
  · let g : Nat → Bool × (Nat → Int32) → Bool × (Nat → Int32) := fun k a => if a.2 (257 + 4 * o + k) = nI t then (true, upd a.2 (257 + 4 * o + k) (-1)) else a
    let P : Nat → Bool × (Nat → Int32) → Prop := fun k a => (∀ j, a.2 j = if 257 + 4 * o ≤ j ∧ j < 257 + 4 * o + k ∧ v j = nI t then -1 else v j) ∧ (a.1 = true ↔ (b = true ∨ ∃ j, j < k ∧ v (257 + 4 * o + j) = nI t))
    have key := lf_for (fun n k (a : Bool × (Nat → Int32)) => s_X5_ends_l255 F (nI t) how (nI o) kk n (m_X5_state a.2 w) (ev_b a.1) (nI k)) 4 (fun a => kk (m_X5_state a.2 w) (ev_b a.1) (nI (o + 1))) g P
      (fun n a _ => by
        obtain ⟨b1, f1⟩ := a
        show s_X5_ends_l255 F (nI t) how (nI o) kk (n + 1) (m_X5_state f1 w) (ev_b b1) (nI 4) = _
        rw [e_X5_ends_l255, if_pos (by decide), ni_1])
      (fun n k a hk hp => by
        obtain ⟨b1, f1⟩ := a
        obtain ⟨hp1, hp2⟩ := hp
        have hk1 : f1 (257 + 4 * o + k) = v (257 + 4 * o + k) := by
          have := hp1 (257 + 4 * o + k)
          rw [if_neg (by omega)] at this
          exact this
        have hl1 : f1 (17 + 10 * o) = 1 := by
          have := hp1 (17 + 10 * o)
          rw [if_neg (by omega)] at this
          exact this.trans hc.1
        have hstep : s_X5_ends_l255 F (nI t) how (nI o) kk (n + 1) (m_X5_state f1 w) (ev_b b1) (nI k) = if f1 (257 + 4 * o + k) = nI t then s_X5_ends_l255 F (nI t) how (nI o) kk n (m_X5_state (upd f1 (257 + 4 * o + k) (-1)) w) (ev_b true) (nI (k + 1)) else s_X5_ends_l255 F (nI t) how (nI o) kk n (m_X5_state f1 w) (ev_b b1) (nI (k + 1)) := by
          rw [e_X5_ends_l255, if_neg (il_nle hk (by decide)), x5_lives F _ ho, Option.bind_some, if_pos (show ((a_X5_state (m_X5_state f1 w) (17 + 10 * o)) == 1) = true from by show (f1 (17 + 10 * o) == 1) = true; rw [hl1]; rfl), x5_endsToo F _ ho, Option.bind_some, if_neg (show ¬ zt (m_X5_state f1 w) how o = true from by show ¬ zt w how o = true; rw [hc.2]; decide), x5_slotOf F _ (show 257 + 4 * o + k < 20377 by omega), Option.bind_some, ix_slot, if_pos (ni_lx (show 257 + 4 * o + k < 20377 by omega) (by decide)), ni_nat (by omega), ni_1]
          rfl
        by_cases hft : f1 (257 + 4 * o + k) = nI t
        · have hg : g k (b1, f1) = (true, upd f1 (257 + 4 * o + k) (-1)) := if_pos hft
          rw [hg]
          rw [if_pos hft] at hstep
          refine ⟨hstep, fun j => ?_, ?_⟩
          · show upd f1 (257 + 4 * o + k) (-1) j = _
            by_cases hjk : j = 257 + 4 * o + k
            · subst hjk
              rw [upd_at, if_pos ⟨by omega, by omega, by rw [← hk1]; exact hft⟩]
            · rw [upd_ne _ _ hjk, show f1 j = _ from hp1 j]
              by_cases hc : 257 + 4 * o ≤ j ∧ j < 257 + 4 * o + k ∧ v j = nI t
              · rw [if_pos hc, if_pos ⟨hc.1, by omega, hc.2.2⟩]
              · rw [if_neg hc, if_neg (fun q => hc ⟨q.1, by omega, q.2.2⟩)]
          · show true = true ↔ _
            exact ⟨fun _ => Or.inr ⟨k, by omega, by rw [← hk1]; exact hft⟩, fun _ => rfl⟩
        · have hg : g k (b1, f1) = (b1, f1) := if_neg hft
          rw [hg]
          rw [if_neg hft] at hstep
          refine ⟨hstep, fun j => ?_, ?_⟩
          · rw [show (b1, f1).2 j = _ from hp1 j]
            by_cases hc : 257 + 4 * o ≤ j ∧ j < 257 + 4 * o + k ∧ v j = nI t
            · rw [if_pos hc, if_pos ⟨hc.1, by omega, hc.2.2⟩]
            · rw [if_neg hc, if_neg (fun q => hc ⟨q.1, by
                have h1 := q.2.1
                by_cases hjk : j = 257 + 4 * o + k
                · rw [hk1] at hft; rw [hjk] at q; exact absurd q.2.2 hft
                · omega, q.2.2⟩)]
          · have hp2' : b1 = true ↔ _ := hp2
            show b1 = true ↔ _
            rw [hp2']
            constructor
            · rintro (h | ⟨j, h1, h2⟩)
              · exact Or.inl h
              · exact Or.inr ⟨j, by omega, h2⟩
            · rintro (h | ⟨j, h1, h2⟩)
              · exact Or.inl h
              · refine Or.inr ⟨j, ?_, h2⟩
                by_cases hjk : j = k
                · rw [hk1] at hft; rw [hjk] at h2; exact absurd h2 hft
                · omega)
      4 0 (b, v) F rfl (by omega) ⟨fun j => by rw [if_neg (by omega)], by
        constructor
        · intro q; exact Or.inl q
        · rintro (q | ⟨j, h1, -⟩)
          · exact q
          · omega⟩
    obtain ⟨k1, k2, k3⟩ := key
    refine ⟨(fr g 0 4 (b, v)).1, ?_, ?_⟩
    · have e : (fr g 0 4 (b, v)).2 = fun j => if (v (17 + 10 * o) = 1 ∧ zt w how o = false) ∧ 257 + 4 * o ≤ j ∧ j < 257 + 4 * o + 4 ∧ v j = nI t then -1 else v j := by
        funext j
        rw [k2 j]
        by_cases h : 257 + 4 * o ≤ j ∧ j < 257 + 4 * o + 4 ∧ v j = nI t
        · rw [if_pos h, if_pos ⟨hc, h⟩]
        · rw [if_neg h, if_neg (fun q => h q.2)]
      rw [← e]
      exact k1
    · rw [k3]
      constructor
      · rintro (h | h)
        · exact Or.inl h
        · exact Or.inr ⟨hc, h⟩
      · rintro (h | h)
        · exact Or.inl h
        · exact Or.inr h.2
  · refine ⟨b, ?_, ⟨fun h => Or.inl h, fun h => h.elim id fun h => absurd h.1 hc⟩⟩
    have e : (fun j => if (v (17 + 10 * o) = 1 ∧ zt w how o = false) ∧ 257 + 4 * o ≤ j ∧ j < 257 + 4 * o + 4 ∧ v j = nI t then -1 else v j) = v := by
      funext j
      rw [if_neg (fun q => hc q.1)]
    rw [e]
    obtain ⟨F', rfl⟩ : ∃ F', F = F' + 1 := ⟨F - 1, by omega⟩
    have h0 : s_X5_ends_l255 (F' + 1) (nI t) how (nI o) kk (F' + 1) (m_X5_state v w) (ev_b b) 0 = _ := e_X5_ends_l255 (F' + 1) (nI t) how (nI o) kk F' (m_X5_state v w) (ev_b b) 0
    rw [h0, if_neg (by decide), x5_lives _ _ ho, Option.bind_some]
    by_cases h1 : v (17 + 10 * o) = 1
    · have h2 : zt w how o = true := by
        cases h : zt w how o with
        | true => rfl
        | false => exact absurd ⟨h1, h⟩ hc
      rw [if_pos (show ((a_X5_state (m_X5_state v w) (17 + 10 * o)) == 1) = true from by show (v (17 + 10 * o) == 1) = true; rw [h1]; rfl), x5_endsToo _ _ ho, Option.bind_some, if_pos (show zt (m_X5_state v w) how o = true from h2), ni_1]
    · rw [if_neg (show ¬ ((a_X5_state (m_X5_state v w) (17 + 10 * o)) == 1) = true from by show ¬ (v (17 + 10 * o) == 1) = true; simpa using h1), ni_1]
theorem md_owners {F : Nat} (hF : 100 < F) (w : S_X5) (t : Nat) (how : Int32) {n : Nat} (hn : n ≤ 24) (v : Nat → Int32) (hv : v 1 = nI n) (b : Bool) :
    ∃ b', s_X5_ends_l241 F (nI t) how F (m_X5_state v w) (ev_b b) 0 = s_X5_ends_b323 F (m_X5_state (fun j => if 257 ≤ j ∧ (j - 257) / 4 < n ∧ v (17 + 10 * ((j - 257) / 4)) = 1 ∧ zt w how ((j - 257) / 4) = false ∧ v j = nI t then -1 else v j) w) (nI t) (ev_b b') ∧ (b' = true ↔ (b = true ∨ ∃ o k, o < n ∧ k < 4 ∧ v (17 + 10 * o) = 1 ∧ zt w how o = false ∧ v (257 + 4 * o + k) = nI t)) := by
  let V : Nat → Nat → Int32 := fun o j => if 257 ≤ j ∧ (j - 257) / 4 < o ∧ v (17 + 10 * ((j - 257) / 4)) = 1 ∧ zt w how ((j - 257) / 4) = false ∧ v j = nI t then -1 else v j
  have key : ∀ d o nn b1, o + d = n → d < nn → ∃ b', s_X5_ends_l241 F (nI t) how nn (m_X5_state (V o) w) (ev_b b1) (nI o) = s_X5_ends_b323 F (m_X5_state (V n) w) (nI t) (ev_b b') ∧ (b' = true ↔ (b1 = true ∨ ∃ o' k, o ≤ o' ∧ o' < n ∧ k < 4 ∧ v (17 + 10 * o') = 1 ∧ zt w how o' = false ∧ v (257 + 4 * o' + k) = nI t)) := by
    intro d
    induction d with
    | zero =>
      intro o nn b1 ho hnn
      obtain ⟨nn, rfl⟩ : ∃ j, nn = j + 1 := ⟨nn - 1, by omega⟩
      obtain rfl : o = n := by omega
      refine ⟨b1, ?_, ⟨fun h => Or.inl h, fun h => h.elim id fun ⟨o', k, h1, h2, _⟩ => by omega⟩⟩
      have e : a_X5_state (m_X5_state (V o) w) (1 : Int32).toNatClampNeg = nI o := by
        show V o 1 = _
        show (if 257 ≤ 1 ∧ _ then _ else _) = _
        rw [if_neg (by omega), hv]
      rw [e_X5_ends_l241, e, if_pos (Int32.le_refl _)]
    | succ d ih =>
      intro o nn b1 ho hnn
      obtain ⟨nn, rfl⟩ : ∃ j, nn = j + 1 := ⟨nn - 1, by omega⟩
      have e : a_X5_state (m_X5_state (V o) w) (1 : Int32).toNatClampNeg = nI n := by
        show V o 1 = _
        show (if 257 ≤ 1 ∧ _ then _ else _) = _
        rw [if_neg (by omega), hv]
      rw [e_X5_ends_l241, e, if_neg (ni_nle (show o < n by omega) (by omega))]
      obtain ⟨b2, h1, h2⟩ := md_owner hF w t how (show o < 24 by omega) (s_X5_ends_l241 F (nI t) how nn) (V o) b1
      rw [h1]
      have hVl : V o (17 + 10 * o) = v (17 + 10 * o) := by
        show (if 257 ≤ 17 + 10 * o ∧ _ then _ else _) = _
        by_cases hc : 257 ≤ 17 + 10 * o ∧ (17 + 10 * o - 257) / 4 < o ∧ v (17 + 10 * ((17 + 10 * o - 257) / 4)) = 1 ∧ zt w how ((17 + 10 * o - 257) / 4) = false ∧ v (17 + 10 * o) = nI t
        · omega
        · rw [if_neg hc]
      have hVs : ∀ j, 257 + 4 * o ≤ j → V o j = v j := by
        intro j hj
        show (if 257 ≤ j ∧ _ then _ else _) = _
        rw [if_neg (by omega)]
      have hV : (fun j => if (V o (17 + 10 * o) = 1 ∧ zt w how o = false) ∧ 257 + 4 * o ≤ j ∧ j < 257 + 4 * o + 4 ∧ V o j = nI t then -1 else V o j) = V (o + 1) := by
        funext j
        rw [hVl]
        by_cases hj : 257 + 4 * o ≤ j ∧ j < 257 + 4 * o + 4
        · have hjo : (j - 257) / 4 = o := by omega
          rw [hVs j hj.1]
          show _ = (if 257 ≤ j ∧ (j - 257) / 4 < o + 1 ∧ v (17 + 10 * ((j - 257) / 4)) = 1 ∧ zt w how ((j - 257) / 4) = false ∧ v j = nI t then -1 else v j)
          rw [hjo]
          by_cases hc : (v (17 + 10 * o) = 1 ∧ zt w how o = false) ∧ 257 + 4 * o ≤ j ∧ j < 257 + 4 * o + 4 ∧ v j = nI t
          · rw [if_pos hc, if_pos ⟨by omega, by omega, hc.1.1, hc.1.2, hc.2.2.2⟩]
          · rw [if_neg hc, if_neg (fun q => hc ⟨⟨q.2.2.1, q.2.2.2.1⟩, hj.1, hj.2, q.2.2.2.2⟩)]
        · rw [if_neg (fun q => hj ⟨q.2.1, q.2.2.1⟩)]
          show (if 257 ≤ j ∧ (j - 257) / 4 < o ∧ v (17 + 10 * ((j - 257) / 4)) = 1 ∧ zt w how ((j - 257) / 4) = false ∧ v j = nI t then -1 else v j) = (if 257 ≤ j ∧ (j - 257) / 4 < o + 1 ∧ v (17 + 10 * ((j - 257) / 4)) = 1 ∧ zt w how ((j - 257) / 4) = false ∧ v j = nI t then -1 else v j)
          by_cases hc : 257 ≤ j ∧ (j - 257) / 4 < o ∧ v (17 + 10 * ((j - 257) / 4)) = 1 ∧ zt w how ((j - 257) / 4) = false ∧ v j = nI t
          · rw [if_pos hc, if_pos ⟨hc.1, by omega, hc.2.2⟩]
          · rw [if_neg hc, if_neg (fun q => hc ⟨q.1, by omega, q.2.2⟩)]
      rw [hV]
      obtain ⟨b3, h3, h4⟩ := ih (o + 1) nn b2 (by omega) (by omega)
      refine ⟨b3, h3, ?_⟩
      rw [h4, h2, hVl]
      constructor
      · rintro ((h | ⟨hc, k, hk, hk2⟩) | ⟨o', k, p1, p2⟩)
        · exact Or.inl h
        · rw [hVs _ (by omega)] at hk2
          exact Or.inr ⟨o, k, Nat.le_refl _, by omega, hk, hc.1, hc.2, hk2⟩
        · exact Or.inr ⟨o', k, by omega, p2⟩
      · rintro (h | ⟨o', k, p1, p2, p3, p4, p5, p6⟩)
        · exact Or.inl (Or.inl h)
        · by_cases hoo : o' = o
          · subst hoo
            exact Or.inl (Or.inr ⟨⟨p4, p5⟩, k, p3, by rw [hVs _ (by omega)]; exact p6⟩)
          · exact Or.inr ⟨o', k, by omega, p2, p3, p4, p5, p6⟩
  obtain ⟨b', h1, h2⟩ := key n 0 F b (by omega) (by omega)
  have e0 : V 0 = v := by
    funext j
    show (if 257 ≤ j ∧ (j - 257) / 4 < 0 ∧ _ then _ else _) = _
    rw [if_neg (by omega)]
  rw [e0] at h1
  refine ⟨b', h1, ?_⟩
  rw [h2]
  constructor
  · rintro (h | ⟨o, k, -, h⟩)
    · exact Or.inl h
    · exact Or.inr ⟨o, k, h⟩
  · rintro (h | ⟨o, k, h⟩)
    · exact Or.inl h
    · exact Or.inr ⟨o, k, Nat.zero_le _, h⟩
theorem md_flag (F : Nat) (w : S_X5) {t : Nat} (ht : t < 24) (v : Nat → Int32) (b : Bool) : s_X5_ends_b323 F (m_X5_state v w) (nI t) (ev_b b) = some (m_X5_state (upd (upd v (17 + 10 * t + 8) (ev_b b)) 6 (v 6 + ev_b b)) w) := by
  have h6 : ∀ c : Int32, upd v (17 + 10 * t + 8) c 6 = v 6 := fun c => upd_ne _ _ (by omega)
  unfold s_X5_ends_b323
  cases b
  · rw [if_pos ev_bf]
    unfold s_X5_ends_b336
    have h := x5_setPart F (m_X5_state v w) (t := t) (p := 8) (by omega) 0
    have h' : s_X5_setPart F (m_X5_state v w) (nI t) 8 0 = _ := h
    rw [h', Option.bind_some, if_pos ev_bf]
    show some (m_X5_state (upd (upd v (17 + 10 * t + 8) 0) 6 (upd v (17 + 10 * t + 8) 0 6 + 0)) w) = _
    rw [h6]; rfl
  · rw [if_neg (by decide)]
    unfold s_X5_ends_b336
    have h := x5_setPart F (m_X5_state v w) (t := t) (p := 8) (by omega) 1
    have h' : s_X5_setPart F (m_X5_state v w) (nI t) 8 1 = _ := h
    rw [h', Option.bind_some, if_neg (by decide)]
    show some (m_X5_state (upd (upd v (17 + 10 * t + 8) 1) 6 (upd v (17 + 10 * t + 8) 1 6 + 1)) w) = _
    rw [h6]; rfl
