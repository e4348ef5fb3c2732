/-! an end, in the engine and the model: the rest -/
theorem EM.hold {m : Nat} {v v' sl' : Nat → Int32} {E : S_XE} (em : EM 6 m v E) (lo : ∀ k, ¬ ((13 ≤ k ∧ k < 17) ∨ (257 ≤ k ∧ k < 353)) → v' k = v k) (h1 : ∀ k, k < 24 → sl' k = v' (257 + k)) (h2 : ∀ k, k < 4 → sl' (24 + k) = v' (13 + k)) : EM 6 m v' (E.1, E.2.1, sl', E.2.2.2) := by
  obtain ⟨⟨⟨a0, a1, a2, a3, a4, a5, a6⟩, a7⟩, b, c, d1, d2, d3⟩ := em
  have row : ∀ i, i < m → RV v' i = RV v i := fun i hi => RV_v (m := m) (fun k h1 _ => lo k (by omega)) hi
  refine ⟨⟨⟨?_, ?_, ?_, ?_, ?_, ?_, ?_⟩, fun i hi => ?_⟩, fun s hs => ?_, ⟨h1, h2⟩, fun i hi => ?_, fun i i' hij hi => ?_, fun i hi => ?_⟩
  · rw [lo _ (by omega)]; exact a0
  · rw [lo _ (by omega)]; exact a1
  · rw [lo _ (by omega)]; exact a2
  · rw [lo _ (by omega)]; exact a3
  · rw [lo _ (by omega)]; exact a4
  · rw [lo _ (by omega)]; exact a5
  · rw [lo _ (by omega)]; exact a6
  · rw [lo _ (by omega)]; exact a7 i hi
  · have := b s hs
    rw [lo _ (by omega), lo _ (by omega), lo _ (by omega), lo (17 + 10 * s + 3) (by omega), lo (17 + 10 * s + 5) (by omega), lo (17 + 10 * s + 6) (by omega), lo (17 + 10 * s + 7) (by omega), lo (17 + 10 * s + 8) (by omega)]
    exact this
  · rw [row i hi]; exact d1 i hi
  · rw [row i (by omega), row i' hi]; exact d2 i i' hij hi
  · rw [row i hi, lo _ (by omega)]; exact d3 i hi
def clC (th : Nat → Int32) (mask : Int32) (k : Nat) : Bool := decide (24 ≤ k) || ((th (8 * (k / 4)) == 1) && !mb mask (k / 4))
theorem e_clear {F : Nat} (hF : 6400 < F) (E : S_XE) (mask : Int32) (t : Nat) :
    ∃ b, s_L_end_l145 F (nI t) mask F E 0 0 = s_L_end_b209 F (E.1, E.2.1, fun k => if k < 28 ∧ clC E.2.1 mask k = true ∧ E.2.2.1 k = nI t then -1 else E.2.2.1 k, E.2.2.2) (nI t) (ev_b b) ∧ (b = true ↔ ∃ k, k < 28 ∧ clC E.2.1 mask k = true ∧ E.2.2.1 k = nI t) := by
  obtain ⟨eq, th, sl, re⟩ := E
  show ∃ b, s_L_end_l145 F (nI t) mask F (eq, th, sl, re) 0 0 = s_L_end_b209 F (eq, th, fun k => if k < 28 ∧ clC th mask k = true ∧ sl k = nI t then -1 else sl k, re) (nI t) (ev_b b) ∧ (b = true ↔ ∃ k, k < 28 ∧ clC th mask k = true ∧ sl k = nI t)
  let g : Nat → Bool × (Nat → Int32) → Bool × (Nat → Int32) := fun k a => if clC th mask k = true ∧ a.2 k = nI t then (true, upd a.2 k (-1)) else a
  let P : Nat → Bool × (Nat → Int32) → Prop := fun k a => (∀ j, a.2 j = if j < k ∧ clC th mask j = true ∧ sl j = nI t then -1 else sl j) ∧ (a.1 = true ↔ ∃ j, j < k ∧ clC th mask j = true ∧ sl j = nI t)
  have key := lf_for (fun n k (a : Bool × (Nat → Int32)) => s_L_end_l145 F (nI t) mask n (eq, th, a.2, re) (ev_b a.1) (nI k)) 28 (fun a => s_L_end_b209 F (eq, th, a.2, re) (nI t) (ev_b a.1)) g P
    (fun n a _ => by
      obtain ⟨b, f1⟩ := a
      show s_L_end_l145 F (nI t) mask (n + 1) (eq, th, f1, re) (ev_b b) (nI 28) = _
      rw [e_L_end_l145, if_pos (by decide)])
    (fun n k a hk hp => by
      obtain ⟨b, f1⟩ := a
      obtain ⟨hp1, hp2⟩ := hp
      have hk1 : f1 k = sl k := by
        have := hp1 k
        rw [if_neg (by omega)] at this
        exact this
      have hstep : s_L_end_l145 F (nI t) mask (n + 1) (eq, th, f1, re) (ev_b b) (nI k) = if clC th mask k = true ∧ f1 k = nI t then s_L_end_l145 F (nI t) mask n (eq, th, upd f1 k (-1), re) (ev_b true) (nI (k + 1)) else s_L_end_l145 F (nI t) mask n (eq, th, f1, re) (ev_b b) (nI (k + 1)) := by
        have hkn : (nI k).toNatClampNeg = k := ni_nat (by omega)
        have hup : m_XE_sl (upd (a_XE_sl (eq, th, f1, re)) (nI k).toNatClampNeg (-1)) (eq, th, f1, re) = (eq, th, upd f1 k (-1), re) := by rw [hkn]
        rw [e_L_end_l145, if_neg (il_nle hk (by decide)), if_pos (ni_lx hk (by decide)), ni_1]
        by_cases hc : f1 k = nI t
        · rw [if_pos (show a_XE_sl (eq, th, f1, re) (nI k).toNatClampNeg = nI t by rw [hkn]; exact hc)]
          by_cases h24 : 24 ≤ k
          · rw [if_pos (show (24 : Int32) ≤ nI k from (ni_le (a := 24) (by omega) (by omega)).mpr h24), if_pos (ni_lx hk (by decide)), if_pos ⟨by unfold clC; rw [decide_eq_true h24]; rfl, hc⟩, hup]
            rfl
          · rw [if_neg (show ¬ (24 : Int32) ≤ nI k from fun z => h24 ((ni_le (a := 24) (by omega) (by omega)).mp z)), ni_d4 k hk, e_lives F _ (by omega), Option.bind_some]
            have hcl : clC th mask k = ((th (8 * (k / 4)) == 1) && !mb mask (k / 4)) := by unfold clC; rw [decide_eq_false h24, Bool.false_or]
            rw [hcl]
            show (if (th (8 * (k / 4)) == 1) then _ else _) = _
            cases hl : (th (8 * (k / 4)) == 1) with
            | false => rw [if_neg Bool.false_ne_true, if_neg (fun z => by cases z.1)]
            | true =>
              rw [if_pos rfl]
              cases hm : mb mask (k / 4) with
              | true => rw [if_pos ((bit1 mask (by omega)).mpr hm), if_neg (fun z => by cases z.1)]
              | false =>
                rw [if_neg (fun z => by rw [(bit1 mask (by omega)).mp z] at hm; cases hm), if_pos (ni_lx hk (by decide)), if_pos ⟨rfl, hc⟩, hup]
                rfl
        · rw [if_neg (show ¬ a_XE_sl (eq, th, f1, re) (nI k).toNatClampNeg = nI t by rw [hkn]; exact hc), if_neg (fun z => hc z.2)]
      by_cases hft : clC th mask k = true ∧ f1 k = nI t
      · have hg : g k (b, f1) = (true, upd f1 k (-1)) := if_pos hft
        rw [hg]
        refine ⟨?_, fun j => ?_, ?_⟩
        · show s_L_end_l145 F (nI t) mask (n + 1) (eq, th, f1, re) (ev_b b) (nI k) = _
          rw [hstep, if_pos hft]
        · show upd f1 k (-1) j = _
          by_cases hjk : j = k
          · subst hjk
            rw [upd_at, if_pos ⟨by omega, hft.1, by rw [← hk1]; exact hft.2⟩]
          · rw [upd_ne _ _ hjk, show f1 j = _ from hp1 j]
            by_cases hc : j < k ∧ clC th mask j = true ∧ sl j = nI t
            · rw [if_pos hc, if_pos ⟨by omega, hc.2⟩]
            · rw [if_neg hc, if_neg (fun z => hc ⟨by omega, z.2⟩)]
        · show true = true ↔ _
          exact ⟨fun _ => ⟨k, by omega, hft.1, by rw [← hk1]; exact hft.2⟩, fun _ => rfl⟩
      · have hg : g k (b, f1) = (b, f1) := if_neg hft
        rw [hg]
        refine ⟨?_, fun j => ?_, ?_⟩
        · show s_L_end_l145 F (nI t) mask (n + 1) (eq, th, f1, re) (ev_b b) (nI k) = _
          rw [hstep, if_neg hft]
        · rw [show (b, f1).2 j = _ from hp1 j]
          by_cases hc : j < k ∧ clC th mask j = true ∧ sl j = nI t
          · rw [if_pos hc, if_pos ⟨by omega, hc.2⟩]
          · rw [if_neg hc, if_neg (fun z => hc ⟨by
              have h1 := z.1
              by_cases hjk : j = k
              · subst hjk; rw [hk1] at hft; exact absurd z.2 hft
              · omega, z.2⟩)]
        · have hp2' : b = true ↔ _ := hp2
          show b = true ↔ _
          rw [hp2']
          constructor
          · rintro ⟨j, h1, h2⟩; exact ⟨j, by omega, h2⟩
          · rintro ⟨j, h1, h2⟩
            refine ⟨j, ?_, h2⟩
            by_cases hjk : j = k
            · subst hjk; rw [hk1] at hft; exact absurd h2 hft
            · omega)
    28 0 (false, sl) F rfl (by omega) ⟨fun j => by rw [if_neg (by omega)], by
      constructor
      · intro q; cases q
      · rintro ⟨j, h1, -⟩; omega⟩
  obtain ⟨k1, k2, k3⟩ := key
  refine ⟨(fr g 0 28 (false, sl)).1, ?_, k3⟩
  have e : (fr g 0 28 (false, sl)).2 = fun k => if k < 28 ∧ clC th mask k = true ∧ sl k = nI t then -1 else sl k := by
    funext j
    exact k2 j
  rw [← e]
  exact k1
theorem ni_8t (t : Nat) : 8 * nI t = nI (8 * t) := by rw [show (8 : Int32) = nI 8 from rfl, ni_mul]
theorem ni_8tp (t p : Nat) : 8 * nI t + nI p = nI (8 * t + p) := by rw [ni_8t, ni_add]
theorem e_flag (F : Nat) (E : S_XE) {t : Nat} (ht : t < 6) (b : Bool) : s_L_end_b209 F E (nI t) (ev_b b) = some (upd E.1 5 (E.1 5 + ev_b b), upd E.2.1 (8 * t + 6) (ev_b b), E.2.2.1, E.2.2.2) := by
  have e6 : 8 * nI t + 6 = nI (8 * t + 6) := ni_8tp t 6
  unfold s_L_end_b209 s_L_end_b227
  cases b
  · rw [if_pos ev_bf, e6, if_pos (ni_lx (show 8 * t + 6 < 48 by omega) (by decide)), if_pos ev_bf, ni_nat (by omega), i_5]; rfl
  · rw [if_neg (by decide), e6, if_pos (ni_lx (show 8 * t + 6 < 48 by omega) (by decide)), if_neg (by decide), ni_nat (by omega), i_5]; rfl
theorem EM.flag {m : Nat} {v : Nat → Int32} {E : S_XE} (em : EM 6 m v E) {t : Nat} (ht : t < 6) (c : Int32) : EM 6 m (upd (upd v (17 + 10 * t + 8) c) 6 (v 6 + c)) (upd E.1 5 (E.1 5 + c), upd E.2.1 (8 * t + 6) c, E.2.2.1, E.2.2.2) := by
  obtain ⟨⟨⟨a0, a1, a2, a3, a4, a5, a6⟩, a7⟩, b, c', d1, d2, d3⟩ := em
  obtain ⟨v', hv'⟩ : ∃ v', v' = upd (upd v (17 + 10 * t + 8) c) 6 (v 6 + c) := ⟨_, rfl⟩
  have lo : ∀ k, k ≠ 6 → k ≠ 17 + 10 * t + 8 → v' k = v k := fun k h1 h2 => by rw [hv', upd_ne _ _ h1, upd_ne _ _ h2]
  have v6 : v' 6 = v 6 + c := by rw [hv', upd_at]
  have v8 : v' (17 + 10 * t + 8) = c := by rw [hv', upd_ne _ _ (by omega), upd_at]
  obtain ⟨Q, hQ⟩ : ∃ Q, Q = upd E.1 5 (E.1 5 + c) := ⟨_, rfl⟩
  obtain ⟨H, hH⟩ : ∃ H, H = upd E.2.1 (8 * t + 6) c := ⟨_, rfl⟩
  have Qlo : ∀ k, k ≠ 5 → Q k = E.1 k := fun k h1 => by rw [hQ, upd_ne _ _ h1]
  have Q5 : Q 5 = E.1 5 + c := by rw [hQ, upd_at]
  have Hlo : ∀ k, k ≠ 8 * t + 6 → H k = E.2.1 k := fun k h1 => by rw [hH, upd_ne _ _ h1]
  have H6 : H (8 * t + 6) = c := by rw [hH, upd_at]
  have row : ∀ i, i < m → RV v' i = RV v i := fun i hi => RV_v (m := m) (fun k h1 _ => lo k (by omega) (by omega)) hi
  rw [← hv', ← hQ, ← hH]
  refine ⟨⟨⟨?_, ?_, ?_, ?_, ?_, ?_, ?_⟩, fun i hi => ?_⟩, fun s hs => ?_, ⟨fun k hk => ?_, fun k hk => ?_⟩, fun i hi => ?_, fun i i' hij hi => ?_, fun i hi => ?_⟩
  · show Q 0 = _
    rw [Qlo _ (by omega), lo _ (by omega) (by omega)]; exact a0
  · show Q 1 = _
    rw [Qlo _ (by omega), lo _ (by omega) (by omega)]; exact a1
  · show Q 2 = _
    rw [Qlo _ (by omega), lo _ (by omega) (by omega)]; exact a2
  · show Q 3 = _
    rw [Qlo _ (by omega), lo _ (by omega) (by omega)]; exact a3
  · show Q 4 = _
    rw [Qlo _ (by omega), lo _ (by omega) (by omega)]; exact a4
  · show Q 5 = _
    rw [Q5, v6, a5]
  · show Q 6 = _
    rw [Qlo _ (by omega), lo _ (by omega) (by omega)]; exact a6
  · show Q (7 + i) = _
    rw [Qlo _ (by omega), lo _ (by omega) (by omega)]; exact a7 i hi
  · obtain ⟨b0, b1, b2, b3, b4, b5, b6⟩ := b s hs
    show H (8 * s) = _ ∧ H (8 * s + 1) = _ ∧ H (8 * s + 2) = _ ∧ H (8 * s + 3) = _ ∧ ((_ → _ ∧ _) ∧ (_ → H (8 * s + 4) = _ ∧ H (8 * s + 7) = _)) ∧ H (8 * s + 5) = _ ∧ H (8 * s + 6) = _
    rw [Hlo (8 * s) (by omega), Hlo (8 * s + 1) (by omega), Hlo (8 * s + 2) (by omega), Hlo (8 * s + 3) (by omega), Hlo (8 * s + 4) (by omega), Hlo (8 * s + 7) (by omega), Hlo (8 * s + 5) (by omega), lo (17 + 10 * s) (by omega) (by omega), lo (17 + 10 * s + 1) (by omega) (by omega), lo (17 + 10 * s + 2) (by omega) (by omega), lo (17 + 10 * s + 3) (by omega) (by omega), lo (17 + 10 * s + 5) (by omega) (by omega), lo (17 + 10 * s + 6) (by omega) (by omega), lo (17 + 10 * s + 7) (by omega) (by omega)]
    refine ⟨b0, b1, b2, b3, b4, b5, ?_⟩
    by_cases hst : s = t
    · subst hst; rw [H6, v8]
    · rw [Hlo _ (by omega), lo _ (by omega) (by omega)]; exact b6
  · rw [lo _ (by omega) (by omega)]; exact c'.1 k hk
  · rw [lo _ (by omega) (by omega)]; exact c'.2 k hk
  · rw [row i hi]; exact d1 i hi
  · rw [row i (by omega), row i' hi]; exact d2 i i' hij hi
  · rw [row i hi, lo _ (by omega) (by omega)]; exact d3 i hi
