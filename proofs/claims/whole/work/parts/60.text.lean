/-! texts, on both sides -/
def nx (s c : Nat) : Option Nat := match s with
  | 0 => if c = 110 then some 1 else if c = 104 then some 2 else if c = 115 then some 5 else if c = 116 then some 8 else if c = 106 then some 9 else none
  | 1 => if 48 ≤ c ∧ c ≤ 57 then some 9 else none
  | 2 => if 48 ≤ c ∧ c ≤ 51 then some 3 else none
  | 3 => if c = 61 then some 4 else none
  | 4 => if c = 45 then some 9 else if c = 49 then some 10 else if c = 50 then some 11 else if 48 ≤ c ∧ c ≤ 57 then some 9 else none
  | 5 => if c = 49 then some 12 else if c = 50 then some 13 else if 48 ≤ c ∧ c ≤ 57 then some 6 else none
  | 6 => if c = 46 then some 7 else none
  | 7 => if 48 ≤ c ∧ c ≤ 51 then some 3 else none
  | 8 => if 49 ≤ c ∧ c ≤ 57 then some 14 else none
  | 10 => if 48 ≤ c ∧ c ≤ 57 then some 9 else if c = 59 then some 0 else none
  | 11 => if 48 ≤ c ∧ c ≤ 51 then some 9 else if c = 59 then some 0 else none
  | 12 => if 48 ≤ c ∧ c ≤ 57 then some 6 else if c = 46 then some 7 else none
  | 13 => if 48 ≤ c ∧ c ≤ 51 then some 6 else if c = 46 then some 7 else none
  | 14 => if 48 ≤ c ∧ c ≤ 57 then some 9 else if c = 59 then some 0 else none
  | _ => if c = 59 then some 0 else none
def psi (s : Nat) : Nat := match s with
  | 0 => 0
  | 1 => 1
  | 2 => 2
  | 3 => 4
  | 4 => 5
  | 5 => 8
  | 6 => 11
  | 7 => 3
  | 8 => 12
  | 9 => 14
  | 10 => 6
  | 11 => 7
  | 12 => 9
  | 13 => 10
  | _ => 13
def enx : Option Nat → Int32
  | none => -1
  | some t => nI t
def enp : Option Nat → Int32
  | none => -1
  | some t => nI (psi t)
set_option maxRecDepth 100000 in
theorem nx5_0 : ∀ s, s < 15 → ∀ c, c < 127 → s_X5_next 0 (nI s) (nI c) = some (enx (nx s c)) := by decide +kernel
set_option maxRecDepth 100000 in
theorem nx2_0 : ∀ s, s < 15 → ∀ c, c < 127 → s_X2_next 0 (nI (psi s)) (nI c) = some (enp (nx s c)) := by decide +kernel
set_option maxRecDepth 100000 in
theorem nx_lt : ∀ s, s < 15 → ∀ c, c < 127 → (match nx s c with | none => true | some t => decide (t < 15)) = true := by decide +kernel
theorem nx2_w : ∀ c, c < 127 → s_X2_next 0 (-1) (nI c) = some (-1) := by decide +kernel
theorem nx5 (F : Nat) {s c : Nat} (hs : s < 15) (hc : c < 127) : s_X5_next F (nI s) (nI c) = some (enx (nx s c)) := (show s_X5_next F (nI s) (nI c) = s_X5_next 0 (nI s) (nI c) from rfl).trans (nx5_0 s hs c hc)
theorem nx2 (F : Nat) {s c : Nat} (hs : s < 15) (hc : c < 127) : s_X2_next F (nI (psi s)) (nI c) = some (enp (nx s c)) := (show s_X2_next F (nI (psi s)) (nI c) = s_X2_next 0 (nI (psi s)) (nI c) from rfl).trans (nx2_0 s hs c hc)
theorem nx2w (F : Nat) {c : Nat} (hc : c < 127) : s_X2_next F (-1) (nI c) = some (-1) := (show s_X2_next F (-1) (nI c) = s_X2_next 0 (-1) (nI c) from rfl).trans (nx2_w c hc)
theorem nx_some {s c t : Nat} (hs : s < 15) (hc : c < 127) (h : nx s c = some t) : t < 15 := by
  have := nx_lt s hs c hc
  rw [h] at this
  exact of_decide_eq_true this
/-- the two buffers -/
def TX (L : Nat) (c : Nat → Nat) (t : S_X2) (w : S_X5) : Prop := L ≤ 60 ∧ a_X2_length t = nI L ∧ a_X5_textLength w = nI L ∧ ∀ k, k < L → c k < 127 ∧ 33 ≤ c k ∧ a_X2_codes t k = nI (c k) ∧ a_X5_text w k = nI (c k)
theorem psi_ne (s : Nat) : ¬ nI (psi s) = -1 := by
  have : psi s < 15 := by unfold psi; split <;> omega
  exact nI_ne (by omega)
theorem x_firstError {F : Nat} (hF : 100 < F) {L : Nat} {c : Nat → Nat} {t : S_X2} {w : S_X5} (q : TX L c t w) : ∃ z, s_X2_errorAt F t = some z ∧ s_X5_firstError_l9 F w F 0 0 = some (z, w) := by
  obtain ⟨hL, h1, h2, h3⟩ := q
  have loop : ∀ d k s nn mm, k + d = L → d < nn → d < mm → s < 15 → ∃ z, s_X2_errorAt_l4 F t nn (nI (psi s)) (nI k) = some z ∧ s_X5_firstError_l9 F w mm (nI s) (nI k) = some (z, w) := by
    intro d
    induction d with
    | zero =>
      intro k s nn mm hk hnn hmm hs
      obtain ⟨nn, rfl⟩ : ∃ j, nn = j + 1 := ⟨nn - 1, by omega⟩
      obtain ⟨mm, rfl⟩ : ∃ j, mm = j + 1 := ⟨mm - 1, by omega⟩
      obtain rfl : k = L := by omega
      refine ⟨nI k, ?_, ?_⟩
      · rw [e_X2_errorAt_l4, h1, if_pos (Int32.le_refl _)]
      · rw [e_X5_firstError_l9, h2, if_pos (Int32.le_refl _)]
    | succ d ih =>
      intro k s nn mm hk hnn hmm hs
      obtain ⟨nn, rfl⟩ : ∃ j, nn = j + 1 := ⟨nn - 1, by omega⟩
      obtain ⟨mm, rfl⟩ : ∃ j, mm = j + 1 := ⟨mm - 1, by omega⟩
      have hkL : k < L := by omega
      obtain ⟨c1, c2, c3, c4⟩ := h3 k hkL
      rw [e_X2_errorAt_l4, h1, if_neg (ni_nle hkL (by omega)), if_neg (il_nle (show k < 60 by omega) (by decide)), if_pos (ni_lx (show k < 60 by omega) (by decide)), ni_nat (by omega), c3, nx2 F hs c1, Option.bind_some]
      rw [e_X5_firstError_l9, h2, if_neg (ni_nle hkL (by omega)), if_pos (ni_lx (show k < 60 by omega) (by decide)), ni_nat (by omega), c4, nx5 F hs c1, Option.bind_some]
      cases hn : nx s (c k) with
      | none => exact ⟨nI k, by rw [if_pos (show enp none = -1 from rfl)], by rw [if_pos (show enx none = -1 from rfl)]⟩
      | some t' =>
        have ht := nx_some hs c1 hn
        rw [if_neg (show ¬ enp (some t') = -1 from psi_ne t'), if_neg (show ¬ enx (some t') = -1 from nI_ne (by omega)), ni_1]
        exact ih (k + 1) t' nn mm (by omega) (by omega) (by omega) ht
  exact loop L 0 0 F F (by omega) (by omega) (by omega) (by omega)
def acc (s : Nat) : Bool := decide (s = 9 ∨ s = 10 ∨ s = 11 ∨ s = 14)
theorem acc5 : ∀ s, s < 15 → s_X5_isStepOver 0 (nI s) = some (acc s) := by decide
theorem acc2 : ∀ s, s < 15 → ∀ u : S_X2, s_X2_isProgram_b35 0 u (nI (psi s)) = some (acc s) := by
  intro s hs u
  match s, hs with
  | 0, _ => rfl
  | 1, _ => rfl
  | 2, _ => rfl
  | 3, _ => rfl
  | 4, _ => rfl
  | 5, _ => rfl
  | 6, _ => rfl
  | 7, _ => rfl
  | 8, _ => rfl
  | 9, _ => rfl
  | 10, _ => rfl
  | 11, _ => rfl
  | 12, _ => rfl
  | 13, _ => rfl
  | 14, _ => rfl
/-- the states of the reading -/
def ST (L : Nat) (c : Nat → Nat) (g : Nat → Nat) : Prop := g 0 = 0 ∧ (∀ k, k < L → nx (g k) (c k) = some (g (k + 1))) ∧ (∀ k, k ≤ L → g k < 15) ∧ acc (g L) = true
theorem x_isProgram {F : Nat} (hF : 100 < F) {L : Nat} {c : Nat → Nat} {t : S_X2} {w : S_X5} (q : TX L c t w) : ∃ b, s_X2_isProgram F t = some b ∧ s_X5_isProgram F w = some b ∧ (b = true → ∃ g, ST L c g) := by
  obtain ⟨hL, h1, h2, h3⟩ := q
  have tail : ∀ d k nn, k + d = L → d < nn → s_X2_isProgram_l4 F t nn (-1) (nI k) = some false := by
    intro d
    induction d with
    | zero =>
      intro k nn hk hnn
      obtain ⟨nn, rfl⟩ : ∃ j, nn = j + 1 := ⟨nn - 1, by omega⟩
      obtain rfl : k = L := by omega
      rw [e_X2_isProgram_l4, h1, if_pos (Int32.le_refl _)]
      rfl
    | succ d ih =>
      intro k nn hk hnn
      obtain ⟨nn, rfl⟩ : ∃ j, nn = j + 1 := ⟨nn - 1, by omega⟩
      have hkL : k < L := by omega
      obtain ⟨c1, c2, c3, c4⟩ := h3 k hkL
      rw [e_X2_isProgram_l4, h1, if_neg (ni_nle hkL (by omega)), if_neg (il_nle (show k < 60 by omega) (by decide)), if_pos (ni_lx (show k < 60 by omega) (by decide)), ni_nat (by omega), c3, nx2w F c1, Option.bind_some, ni_1]
      exact ih (k + 1) nn (by omega) (by omega)
  have loop : ∀ d k s nn mm (g0 : Nat → Nat), k + d = L → d < nn → d < mm → s < 15 → g0 0 = 0 → g0 k = s → (∀ j, j < k → nx (g0 j) (c j) = some (g0 (j + 1))) → (∀ j, j ≤ k → g0 j < 15) → ∃ b, s_X2_isProgram_l4 F t nn (nI (psi s)) (nI k) = some b ∧ s_X5_isProgram_l4 F w mm (nI s) (nI k) = some b ∧ (b = true → ∃ g, ST L c g) := by
    intro d
    induction d with
    | zero =>
      intro k s nn mm g0 hk hnn hmm hs g1 g2 g3 g4
      obtain ⟨nn, rfl⟩ : ∃ j, nn = j + 1 := ⟨nn - 1, by omega⟩
      obtain ⟨mm, rfl⟩ : ∃ j, mm = j + 1 := ⟨mm - 1, by omega⟩
      obtain rfl : k = L := by omega
      refine ⟨acc s, ?_, ?_, fun hb => ⟨g0, g1, g3, g4, by rw [g2]; exact hb⟩⟩
      · rw [e_X2_isProgram_l4, h1, if_pos (Int32.le_refl _)]
        exact acc2 s hs t
      · rw [e_X5_isProgram_l4, h2, if_pos (Int32.le_refl _)]
        show (s_X5_isStepOver 0 (nI s)).bind _ = _
        rw [acc5 s hs]
        rfl
    | succ d ih =>
      intro k s nn mm g0 hk hnn hmm hs g1 g2 g3 g4
      obtain ⟨nn, rfl⟩ : ∃ j, nn = j + 1 := ⟨nn - 1, by omega⟩
      obtain ⟨mm, rfl⟩ : ∃ j, mm = j + 1 := ⟨mm - 1, by omega⟩
      have hkL : k < L := by omega
      obtain ⟨c1, c2, c3, c4⟩ := h3 k hkL
      rw [e_X2_isProgram_l4, h1, if_neg (ni_nle hkL (by omega)), if_neg (il_nle (show k < 60 by omega) (by decide)), if_pos (ni_lx (show k < 60 by omega) (by decide)), ni_nat (by omega), c3, nx2 F hs c1, Option.bind_some, ni_1]
      rw [e_X5_isProgram_l4, h2, if_neg (ni_nle hkL (by omega)), if_neg (nI_ne (by omega)), if_pos (ni_lx (show k < 60 by omega) (by decide)), ni_nat (by omega), c4, nx5 F hs c1, Option.bind_some, ni_1]
      cases hn : nx s (c k) with
      | none =>
        refine ⟨false, tail d (k + 1) nn (by omega) (by omega), ?_, fun hb => by cases hb⟩
        obtain ⟨mm, rfl⟩ : ∃ j, mm = j + 1 := ⟨mm - 1, by omega⟩
        rw [e_X5_isProgram_l4]
        show (if a_X5_textLength w ≤ nI (k + 1) then s_X5_isProgram_b34 F w (-1) else if (-1 : Int32) = -1 then s_X5_isProgram_b34 F w (-1) else _) = some false
        rw [if_pos rfl]
        by_cases hc : a_X5_textLength w ≤ nI (k + 1)
        · rw [if_pos hc]; rfl
        · rw [if_neg hc]; rfl
      | some s' =>
        have hs' := nx_some hs c1 hn
        refine ih (k + 1) s' nn mm (fun j => if j ≤ k then g0 j else s') (by omega) (by omega) (by omega) hs' (by show (if 0 ≤ k then g0 0 else s') = 0; rw [if_pos (by omega)]; exact g1) (by show (if k + 1 ≤ k then g0 (k + 1) else s') = s'; rw [if_neg (by omega)]) (fun j hj => ?_) (fun j hj => ?_)
        · show nx (if j ≤ k then g0 j else s') (c j) = some (if j + 1 ≤ k then g0 (j + 1) else s')
          rw [if_pos (by omega)]
          by_cases hjk : j = k
          · rw [hjk, if_neg (by omega), g2]; exact hn
          · rw [if_pos (by omega)]; exact g3 j (by omega)
        · show (if j ≤ k then g0 j else s') < 15
          by_cases hjk : j ≤ k
          · rw [if_pos hjk]; exact g4 j hjk
          · rw [if_neg hjk]; exact hs'
  exact loop L 0 0 F F (fun _ => 0) (by omega) (by omega) (by omega) (by omega) rfl rfl (fun j hj => by omega) (fun j hj => by show 0 < 15; omega)
