/-! the model reads a step -/
def SN (u u' : S_X5) : Prop := a_X5_thrown u' = a_X5_thrown u ∧ a_X5_savedMany u' = a_X5_savedMany u ∧ a_X5_textLength u' = a_X5_textLength u ∧ a_X5_state u' = a_X5_state u ∧ a_X5_kept u' = a_X5_kept u ∧ a_X5_saved u' = a_X5_saved u ∧ a_X5_text u' = a_X5_text u
theorem SN.rf (u : S_X5) : SN u u := ⟨rfl, rfl, rfl, rfl, rfl, rfl, rfl⟩
theorem SN.tr {a b c : S_X5} (h1 : SN a b) (h2 : SN b c) : SN a c := by
  obtain ⟨p0, p1, p2, p3, p4, p5, p6⟩ := h1
  obtain ⟨q0, q1, q2, q3, q4, q5, q6⟩ := h2
  exact ⟨q0.trans p0, q1.trans p1, q2.trans p2, q3.trans p3, q4.trans p4, q5.trans p5, q6.trans p6⟩
theorem SN.k (u : S_X5) (x : Int32) : SN u (m_X5_kind x u) := ⟨rfl, rfl, rfl, rfl, rfl, rfl, rfl⟩
theorem SN.f (u : S_X5) (x : Int32) : SN u (m_X5_first x u) := ⟨rfl, rfl, rfl, rfl, rfl, rfl, rfl⟩
theorem SN.s (u : S_X5) (x : Int32) : SN u (m_X5_second x u) := ⟨rfl, rfl, rfl, rfl, rfl, rfl, rfl⟩
theorem SN.h (u : S_X5) (x : Int32) : SN u (m_X5_held x u) := ⟨rfl, rfl, rfl, rfl, rfl, rfl, rfl⟩
abbrev Q4 : Type := Int32 × Int32 × Int32 × Int32
def qd (u : S_X5) : Q4 := (a_X5_kind u, a_X5_first u, a_X5_second u, a_X5_held u)
def isdg (c : Nat) : Bool := decide (48 ≤ c ∧ c ≤ 57)
def nf (s c : Nat) (x : Q4) : Q4 := match s with
  | 0 => (nI c, x.2.1, x.2.2.1, x.2.2.2)
  | 1 => (x.1, nI c - 48, x.2.2.1, x.2.2.2)
  | 2 => (x.1, nI c - 48, x.2.2.1, x.2.2.2)
  | 4 => (x.1, x.2.1, x.2.2.1, if nI c = 45 then -1 else nI c - 48)
  | 5 => (x.1, nI c - 48, x.2.2.1, x.2.2.2)
  | 7 => (x.1, x.2.1, nI c - 48, x.2.2.2)
  | 8 => (x.1, nI c - 48, x.2.2.1, x.2.2.2)
  | 10 => (x.1, x.2.1, x.2.2.1, 10 * x.2.2.2 + (nI c - 48))
  | 11 => (x.1, x.2.1, x.2.2.1, 10 * x.2.2.2 + (nI c - 48))
  | 12 => (x.1, if isdg c then 10 * x.2.1 + (nI c - 48) else x.2.1, x.2.2.1, x.2.2.2)
  | 13 => (x.1, if isdg c then 10 * x.2.1 + (nI c - 48) else x.2.1, x.2.2.1, x.2.2.2)
  | 14 => (x.1, if isdg c then 10 * x.2.1 + (nI c - 48) else x.2.1, x.2.2.1, x.2.2.2)
  | _ => x
theorem dgw0 : ∀ c, c < 127 → s_X5_within 0 (nI c - 48) 0 9 = some (isdg c) := by decide +kernel
theorem b96_ok (F : Nat) (u : S_X5) {c : Nat} (hc : c < 127) : ∃ u1, s_X5_note_b96 F u (nI c - 48) = some u1 ∧ SN u u1 ∧ qd u1 = (a_X5_kind u, if isdg c then 10 * a_X5_first u + (nI c - 48) else a_X5_first u, a_X5_second u, a_X5_held u) := by
  unfold s_X5_note_b96
  rw [show s_X5_within F (nI c - 48) 0 9 = s_X5_within 0 (nI c - 48) 0 9 from rfl, dgw0 c hc, Option.bind_some]
  cases isdg c with
  | true => exact ⟨_, if_pos rfl, SN.f _ _, rfl⟩
  | false => exact ⟨_, if_neg Bool.false_ne_true, SN.f _ _, rfl⟩
theorem note_ok (F : Nat) (u : S_X5) : ∀ s, s < 15 → ∀ c, c < 127 → ∃ u1, s_X5_note F u (nI s) (nI c) = some u1 ∧ SN u u1 ∧ qd u1 = nf s c (qd u) := by
  intro s hs c hc
  match s, hs with
  | 0, _ => exact ⟨m_X5_kind (nI c) u, rfl, SN.k _ _, rfl⟩
  | 1, _ => exact ⟨m_X5_first (nI c - 48) u, rfl, SN.f _ _, rfl⟩
  | 2, _ => exact ⟨m_X5_first (nI c - 48) u, rfl, SN.f _ _, rfl⟩
  | 3, _ => exact ⟨u, rfl, SN.rf _, rfl⟩
  | 4, _ =>
    by_cases h : nI c = 45
    · refine ⟨m_X5_held (-1) u, ?_, SN.h _ _, ?_⟩
      · show (if nI c = 45 then _ else _) = _
        rw [if_pos h]
      · show _ = (a_X5_kind u, a_X5_first u, a_X5_second u, if nI c = 45 then -1 else nI c - 48)
        rw [if_pos h]; rfl
    · refine ⟨m_X5_held (nI c - 48) u, ?_, SN.h _ _, ?_⟩
      · show (if nI c = 45 then _ else _) = _
        rw [if_neg h]
      · show _ = (a_X5_kind u, a_X5_first u, a_X5_second u, if nI c = 45 then -1 else nI c - 48)
        rw [if_neg h]; rfl
  | 5, _ => exact ⟨m_X5_first (nI c - 48) u, rfl, SN.f _ _, rfl⟩
  | 6, _ => exact ⟨u, rfl, SN.rf _, rfl⟩
  | 7, _ => exact ⟨m_X5_second (nI c - 48) u, rfl, SN.s _ _, rfl⟩
  | 8, _ => exact ⟨m_X5_first (nI c - 48) u, rfl, SN.f _ _, rfl⟩
  | 9, _ => exact ⟨u, rfl, SN.rf _, rfl⟩
  | 10, _ => exact ⟨m_X5_held (10 * a_X5_held u + (nI c - 48)) u, rfl, SN.h _ _, rfl⟩
  | 11, _ => exact ⟨m_X5_held (10 * a_X5_held u + (nI c - 48)) u, rfl, SN.h _ _, rfl⟩
  | 12, _ => exact b96_ok F u hc
  | 13, _ => exact b96_ok F u hc
  | 14, _ => exact b96_ok F u hc
def MT (L : Nat) (c : Nat → Nat) (u : S_X5) : Prop := L ≤ 60 ∧ a_X5_textLength u = nI L ∧ ∀ k, k < L → c k < 127 ∧ 33 ≤ c k ∧ a_X5_text u k = nI (c k)
theorem MT.sn {L : Nat} {c : Nat → Nat} {u u' : S_X5} (q : MT L c u) (h : SN u u') : MT L c u' := ⟨q.1, h.2.2.1.trans q.2.1, fun k hk => by rw [h.2.2.2.2.2.2]; exact q.2.2 k hk⟩
/-- a stretch of characters without a step's end -/
def SG (F L : Nat) (c : Nat → Nat) (p q s s' : Nat) (f : Q4 → Q4) : Prop := ∀ n u v1, MT L c u → ∃ u1, s_X5_run_l38 F (n + (q - p)) u v1 (nI s) 1 (nI p) = s_X5_run_l38 F n u1 v1 (nI s') 1 (nI q) ∧ SN u u1 ∧ qd u1 = f (qd u)
theorem SG.tr {F L : Nat} {c : Nat → Nat} {p q r s s' s'' : Nat} {f g : Q4 → Q4} (h1 : SG F L c p q s s' f) (h2 : SG F L c q r s' s'' g) (hpq : p ≤ q) (hqr : q ≤ r) : SG F L c p r s s'' (fun x => g (f x)) := by
  intro n u v1 hm
  obtain ⟨u1, a1, a2, a3⟩ := h1 (n + (r - q)) u v1 hm
  obtain ⟨u2, b1, b2, b3⟩ := h2 n u1 v1 (hm.sn a2)
  refine ⟨u2, ?_, a2.tr b2, by rw [b3, a3]⟩
  rw [show n + (r - p) = n + (r - q) + (q - p) by omega, a1, b1]
theorem SG.rf {F L : Nat} {c : Nat → Nat} {p s : Nat} : SG F L c p p s s (fun x => x) := fun n u v1 _ => ⟨u, by rw [Nat.sub_self, Nat.add_zero], SN.rf u, rfl⟩
theorem SG.ch {F L : Nat} {c : Nat → Nat} {k s s' : Nat} (hs : s < 15) (hk : k < L) (h59 : c k ≠ 59) (hn : nx s (c k) = some s') : SG F L c k (k + 1) s s' (nf s (c k)) := by
  intro n u v1 hm
  obtain ⟨hL, h1, h2⟩ := hm
  obtain ⟨c1, c2, c3⟩ := h2 k hk
  obtain ⟨u1, a1, a2, a3⟩ := note_ok F u s hs (c k) c1
  refine ⟨u1, ?_, a2, a3⟩
  have hnx := nx5 F hs c1
  rw [hn] at hnx
  have hnx' : s_X5_next F (nI s) (nI (c k)) = some (nI s') := hnx
  rw [show n + (k + 1 - k) = n + 1 by omega, e_X5_run_l38, h1, if_neg (ni_nlt (N := k) (k := L) (by omega) (by omega)), if_neg (by decide), if_neg (fun z => by have := (ni_eq (by omega) (by omega)).mp z; omega), if_pos (ni_lx (show k < 60 by omega) (by decide)), ni_nat (by omega), c3, if_neg (show ¬ nI (c k) = 59 from fun z => h59 ((ni_eq (b := 59) (by omega) (by omega)).mp z))]
  unfold s_X5_run_b77
  simp only [if_pos (show lf_ix (nI k) 60 from ni_lx (show k < 60 by omega) (by decide))]
  rw [if_pos trivial, ni_nat (by omega), c3, a1, Option.bind_some, show a_X5_text u1 k = nI (c k) by rw [a2.2.2.2.2.2.2]; exact c3, hnx', Option.bind_some, ni_1]
/-- at a step's end -/
theorem md_over {F L k n s : Nat} {c : Nat → Nat} {u : S_X5} (hm : MT L c u) (hk : k ≤ L) (h : k < L → c k = 59) (v1 : Int32) : s_X5_run_l38 F (n + 1) u v1 (nI s) 1 (nI k) = (s_X5_does F u).bind fun y3 => (if y3.1 then (s_X5_run_l38 F n y3.2 (v1 + 1) 0 (ev_b y3.1) (nI (k + 1))) else (s_X5_run_l38 F n y3.2 (v1 + 0) 0 (ev_b y3.1) (nI (k + 1)))) := by
  obtain ⟨hL, h1, h2⟩ := hm
  have hb : s_X5_run_b77 F (s_X5_run_l38 F n) u v1 (nI s) 1 (nI k) 1 = (s_X5_does F u).bind fun y3 => (if y3.1 then (s_X5_run_l38 F n y3.2 (v1 + 1) 0 (ev_b y3.1) (nI (k + 1))) else (s_X5_run_l38 F n y3.2 (v1 + 0) 0 (ev_b y3.1) (nI (k + 1)))) := by
    unfold s_X5_run_b77
    rw [if_neg (by decide), ni_1]
  rw [e_X5_run_l38, h1, if_neg (ni_nlt (N := k) (k := L) (by omega) (by omega)), if_neg (by decide)]
  by_cases hkL : k = L
  · rw [if_pos (by rw [hkL])]; exact hb
  · obtain ⟨c1, c2, c3⟩ := h2 k (by omega)
    rw [if_neg (fun z => hkL ((ni_eq (by omega) (by omega)).mp z)), if_pos (ni_lx (show k < 60 by omega) (by decide)), ni_nat (by omega), c3, if_pos (by rw [h (by omega)]; rfl)]
    exact hb
/-! where the states lead -/
theorem acc_ne {s : Nat} (h : acc s = true) : s = 9 ∨ s = 10 ∨ s = 11 ∨ s = 14 := of_decide_eq_true h
section SEG
variable {F L : Nat} {c g : Nat → Nat}
theorem nx9 {k : Nat} (h : nx 9 (c k) = some (g (k + 1))) : c k = 59 ∧ g (k + 1) = 0 := by
  by_cases hc : c k = 59
  · rw [hc] at h; exact ⟨hc, (Option.some.inj h).symm⟩
  · rw [show nx 9 (c k) = if c k = 59 then some 0 else none from rfl, if_neg hc] at h; cases h
theorem sub48 {a : Nat} (h : 48 ≤ a) : nI a - 48 = nI (a - 48) := by rw [show (48 : Int32) = nI 48 from rfl, ni_sub h]
/-- what is held, from the state 4 on -/
theorem seg_held (hg : ∀ k, k < L → nx (g k) (c k) = some (g (k + 1))) (ha : acc (g L) = true) {p : Nat} (hp : p ≤ L) (h4 : g p = 4) :
    ∃ q v, thg c p q v ∧ (v = -1 ∨ ∃ d, d < 24 ∧ v = nI d) ∧ q ≤ L ∧ (q < L → c q = 59 ∧ g (q + 1) = 0) ∧ c p ≠ 59 ∧ p < q ∧ ∃ s, SG F L c p q 4 s (fun x => (x.1, x.2.1, x.2.2.1, v)) := by
  have hpL : p < L := by
    by_cases h : p = L
    · rw [← h, h4] at ha; cases ha
    · omega
  have h0 := hg p hpL
  rw [h4] at h0
  rw [show nx 4 (c p) = (if c p = 45 then some 9 else if c p = 49 then some 10 else if c p = 50 then some 11 else if 48 ≤ c p ∧ c p ≤ 57 then some 9 else none) from rfl] at h0
  by_cases c45 : c p = 45
  · rw [if_pos c45] at h0
    have g9 : g (p + 1) = 9 := (Option.some.inj h0).symm
    refine ⟨p + 1, -1, Or.inl ⟨rfl, c45, rfl⟩, Or.inl rfl, by omega, fun h => ?_, by omega, by omega, 9, ?_⟩
    · have := hg (p + 1) h; rw [g9] at this; exact nx9 this
    · have := SG.ch (F := F) (s := 4) (s' := 9) (by omega) hpL (by omega) (show nx 4 (c p) = some 9 by rw [c45]; rfl)
      rw [show nf 4 (c p) = fun x => (x.1, x.2.1, x.2.2.1, -1) from by rw [c45]; rfl] at this
      exact this
  · rw [if_neg c45] at h0
    have hv : ∀ x : Q4, 48 ≤ c p → nf 4 (c p) x = (x.1, x.2.1, x.2.2.1, nI (c p - 48)) := fun x h48 => by
      show (x.1, x.2.1, x.2.2.1, if nI (c p) = 45 then -1 else nI (c p) - 48) = _
      by_cases hbig : c p < 127
      · rw [if_neg (show ¬ nI (c p) = 45 from fun z => c45 ((ni_eq (b := 45) (by omega) (by omega)).mp z)), sub48 h48]
      · by_cases hz : nI (c p) = 45
        · exfalso
          rcases (show c p = 49 ∨ c p = 50 ∨ (48 ≤ c p ∧ c p ≤ 57) by
            by_cases e1 : c p = 49
            · exact Or.inl e1
            · by_cases e2 : c p = 50
              · exact Or.inr (Or.inl e2)
              · rw [if_neg e1, if_neg e2] at h0
                by_cases e3 : 48 ≤ c p ∧ c p ≤ 57
                · exact Or.inr (Or.inr e3)
                · rw [if_neg e3] at h0; cases h0) with e | e | e <;> omega
        · rw [if_neg hz, sub48 h48]
    have one : ∀ s', nx 4 (c p) = some s' → 48 ≤ c p → c p ≤ 57 → SG F L c p (p + 1) 4 s' (fun x => (x.1, x.2.1, x.2.2.1, nI (c p - 48))) := fun s' hn h48 h57 => by
      have := SG.ch (F := F) (s := 4) (s' := s') (by omega) hpL (by omega) hn
      rw [show nf 4 (c p) = fun x => (x.1, x.2.1, x.2.2.1, nI (c p - 48)) from funext fun x => hv x h48] at this
      exact this
    -- a second digit, or none
    have two : ∀ s1 hi, (s1 = 10 ∧ hi = 57) ∨ (s1 = 11 ∧ hi = 51) → g (p + 1) = s1 → nx 4 (c p) = some s1 → 49 ≤ c p → c p ≤ 50 → (10 * (c p - 48) + (hi - 48) < 24) →
        ∃ q v, thg c p q v ∧ (v = -1 ∨ ∃ d, d < 24 ∧ v = nI d) ∧ q ≤ L ∧ (q < L → c q = 59 ∧ g (q + 1) = 0) ∧ c p ≠ 59 ∧ p < q ∧ ∃ s, SG F L c p q 4 s (fun x => (x.1, x.2.1, x.2.2.1, v)) := by
      intro s1 hi hs1 g1 hn h49 h50 hsm
      have o := one s1 hn (by omega) (by omega)
      have hs15 : s1 < 15 := by omega
      by_cases hend : p + 1 = L
      · exact ⟨p + 1, nI (c p - 48), Or.inr (Or.inl ⟨rfl, by omega, by omega, rfl⟩), Or.inr ⟨c p - 48, by omega, rfl⟩, by omega, fun h => by omega, by omega, by omega, s1, o⟩
      · have h2 := hg (p + 1) (by omega)
        rw [g1] at h2
        have hsh : nx s1 (c (p + 1)) = if 48 ≤ c (p + 1) ∧ c (p + 1) ≤ hi then some 9 else if c (p + 1) = 59 then some 0 else none := by
          rcases hs1 with ⟨e1, e2⟩ | ⟨e1, e2⟩ <;> rw [e1, e2] <;> rfl
        by_cases hd : 48 ≤ c (p + 1) ∧ c (p + 1) ≤ hi
        · have hh : hi ≤ 57 := by omega
          have h2' := h2
          rw [hsh, if_pos hd] at h2'
          have g9 : g (p + 1 + 1) = 9 := (Option.some.inj h2').symm
          have o2 := SG.ch (F := F) (c := c) (k := p + 1) (s := s1) (s' := 9) hs15 (show p + 1 < L by omega) (by omega) (by rw [hsh, if_pos hd])
          have hnf : nf s1 (c (p + 1)) = fun x => (x.1, x.2.1, x.2.2.1, 10 * x.2.2.2 + (nI (c (p + 1)) - 48)) := by
            rcases hs1 with ⟨e1, -⟩ | ⟨e1, -⟩ <;> rw [e1] <;> rfl
          rw [hnf] at o2
          have o3 := o.tr o2 (by omega) (by omega)
          refine ⟨p + 2, nI (10 * (c p - 48) + (c (p + 1) - 48)), Or.inr (Or.inr ⟨rfl, h49, by omega, hd.1, by omega, rfl⟩), Or.inr ⟨_, by omega, rfl⟩, by omega, fun h => ?_, by omega, by omega, 9, ?_⟩
          · have := hg (p + 2) h
            rw [show p + 2 = p + 1 + 1 from rfl, g9] at this
            exact nx9 this
          · have e : (10 : Int32) * nI (c p - 48) + (nI (c (p + 1)) - 48) = nI (10 * (c p - 48) + (c (p + 1) - 48)) := by
              rw [sub48 hd.1, show (10 : Int32) = nI 10 from rfl, ni_mul, ni_add]
            dsimp only at o3
            rw [e] at o3
            exact o3
        · rw [hsh, if_neg hd] at h2
          by_cases h59 : c (p + 1) = 59
          · rw [if_pos h59] at h2
            exact ⟨p + 1, nI (c p - 48), Or.inr (Or.inl ⟨rfl, by omega, by omega, rfl⟩), Or.inr ⟨c p - 48, by omega, rfl⟩, by omega, fun _ => ⟨h59, (Option.some.inj h2).symm⟩, by omega, by omega, s1, o⟩
          · rw [if_neg h59] at h2; cases h2
    by_cases e1 : c p = 49
    · rw [if_pos e1] at h0
      exact two 10 57 (Or.inl ⟨rfl, rfl⟩) (Option.some.inj h0).symm (by rw [e1]; rfl) (by omega) (by omega) (by omega)
    · rw [if_neg e1] at h0
      by_cases e2 : c p = 50
      · rw [if_pos e2] at h0
        exact two 11 51 (Or.inr ⟨rfl, rfl⟩) (Option.some.inj h0).symm (by rw [e2]; rfl) (by omega) (by omega) (by omega)
      · rw [if_neg e2] at h0
        by_cases e3 : 48 ≤ c p ∧ c p ≤ 57
        · rw [if_pos e3] at h0
          have g9 : g (p + 1) = 9 := (Option.some.inj h0).symm
          refine ⟨p + 1, nI (c p - 48), Or.inr (Or.inl ⟨rfl, e3.1, e3.2, rfl⟩), Or.inr ⟨c p - 48, by omega, rfl⟩, by omega, fun h => ?_, by omega, by omega, 9, one 9 ?_ e3.1 e3.2⟩
          · have := hg (p + 1) h; rw [g9] at this; exact nx9 this
          · rw [show nx 4 (c p) = (if c p = 45 then some 9 else if c p = 49 then some 10 else if c p = 50 then some 11 else if 48 ≤ c p ∧ c p ≤ 57 then some 9 else none) from rfl, if_neg c45, if_neg e1, if_neg e2, if_pos e3]
        · rw [if_neg e3] at h0; cases h0
/-- the owner of a slot with its dot, from the state 5 on -/
theorem seg_owner (hg : ∀ k, k < L → nx (g k) (c k) = some (g (k + 1))) (ha : acc (g L) = true) {p : Nat} (hp : p ≤ L) (h5 : g p = 5) :
    ∃ q d, thg c p q (nI d) ∧ d < 24 ∧ q < L ∧ c q = 46 ∧ g (q + 1) = 7 ∧ c p ≠ 59 ∧ p < q ∧ SG F L c p (q + 1) 5 7 (fun x => (x.1, nI d, x.2.2.1, x.2.2.2)) := by
  have hpL : p < L := by
    by_cases h : p = L
    · rw [← h, h5] at ha; cases ha
    · omega
  have h0 := hg p hpL
  rw [h5] at h0
  have hsh5 : nx 5 (c p) = (if c p = 49 then some 12 else if c p = 50 then some 13 else if 48 ≤ c p ∧ c p ≤ 57 then some 6 else none) := rfl
  have one : ∀ s', nx 5 (c p) = some s' → 48 ≤ c p → c p ≤ 57 → SG F L c p (p + 1) 5 s' (fun x => (x.1, nI (c p - 48), x.2.2.1, x.2.2.2)) := fun s' hn h48 h57 => by
    have := SG.ch (F := F) (s := 5) (s' := s') (by omega) hpL (by omega) hn
    rw [show nf 5 (c p) = fun x => (x.1, nI (c p - 48), x.2.2.1, x.2.2.2) from funext fun x => by rw [← sub48 h48]; rfl] at this
    exact this
  have dot : ∀ q, q ≤ L → g q = 6 → q < L ∧ c q = 46 ∧ g (q + 1) = 7 ∧ SG F L c q (q + 1) 6 7 (fun x => x) := fun q hq h6 => by
    have hqL : q < L := by
      by_cases h : q = L
      · rw [← h, h6] at ha; cases ha
      · omega
    have h1 := hg q hqL
    rw [h6] at h1
    have hsh6 : nx 6 (c q) = if c q = 46 then some 7 else none := rfl
    by_cases hc : c q = 46
    · have h1' := h1
      rw [hsh6, if_pos hc] at h1'
      exact ⟨hqL, hc, (Option.some.inj h1').symm, SG.ch (F := F) (by omega) hqL (by omega) (by rw [hsh6, if_pos hc])⟩
    · rw [hsh6, if_neg hc] at h1; cases h1
  have two : ∀ s1 hi, (s1 = 12 ∧ hi = 57) ∨ (s1 = 13 ∧ hi = 51) → g (p + 1) = s1 → nx 5 (c p) = some s1 → 49 ≤ c p → c p ≤ 50 → (10 * (c p - 48) + (hi - 48) < 24) →
      ∃ q d, thg c p q (nI d) ∧ d < 24 ∧ q < L ∧ c q = 46 ∧ g (q + 1) = 7 ∧ c p ≠ 59 ∧ p < q ∧ SG F L c p (q + 1) 5 7 (fun x => (x.1, nI d, x.2.2.1, x.2.2.2)) := by
    intro s1 hi hs1 g1 hn h49 h50 hsm
    have o := one s1 hn (by omega) (by omega)
    have hs15 : s1 < 15 := by omega
    have hp1 : p + 1 < L := by
      by_cases h : p + 1 = L
      · rw [← h, g1] at ha
        rcases acc_ne ha with e | e | e | e <;> omega
      · omega
    have h2 := hg (p + 1) hp1
    rw [g1] at h2
    have hsh : nx s1 (c (p + 1)) = if 48 ≤ c (p + 1) ∧ c (p + 1) ≤ hi then some 6 else if c (p + 1) = 46 then some 7 else none := by
      rcases hs1 with ⟨e1, e2⟩ | ⟨e1, e2⟩ <;> rw [e1, e2] <;> rfl
    have hnf : nf s1 (c (p + 1)) = fun x => (x.1, if isdg (c (p + 1)) then 10 * x.2.1 + (nI (c (p + 1)) - 48) else x.2.1, x.2.2.1, x.2.2.2) := by
      rcases hs1 with ⟨e1, -⟩ | ⟨e1, -⟩ <;> rw [e1] <;> rfl
    by_cases hd : 48 ≤ c (p + 1) ∧ c (p + 1) ≤ hi
    · have hh : hi ≤ 57 := by omega
      have h2' := h2
      rw [hsh, if_pos hd] at h2'
      have g6 : g (p + 1 + 1) = 6 := (Option.some.inj h2').symm
      have o2 := SG.ch (F := F) (c := c) (k := p + 1) (s := s1) (s' := 6) hs15 hp1 (by omega) (by rw [hsh, if_pos hd])
      rw [hnf] at o2
      obtain ⟨d1, d2, d3, d4⟩ := dot (p + 1 + 1) (by omega) g6
      have o3 := (o.tr o2 (by omega) (by omega)).tr d4 (by omega) (by omega)
      refine ⟨p + 2, 10 * (c p - 48) + (c (p + 1) - 48), Or.inr (Or.inr ⟨rfl, h49, by omega, hd.1, by omega, rfl⟩), by omega, d1, d2, d3, by omega, by omega, ?_⟩
      have e : (10 : Int32) * nI (c p - 48) + (nI (c (p + 1)) - 48) = nI (10 * (c p - 48) + (c (p + 1) - 48)) := by
        rw [sub48 hd.1, show (10 : Int32) = nI 10 from rfl, ni_mul, ni_add]
      have ed : isdg (c (p + 1)) = true := decide_eq_true ⟨hd.1, by omega⟩
      dsimp only at o3
      rw [ed, if_pos rfl, e] at o3
      exact o3
    · have h2' := h2
      rw [hsh, if_neg hd] at h2'
      by_cases h46 : c (p + 1) = 46
      · rw [if_pos h46] at h2'
        have o2 := SG.ch (F := F) (c := c) (k := p + 1) (s := s1) (s' := 7) hs15 hp1 (by omega) (by rw [hsh, if_neg hd, if_pos h46])
        rw [hnf] at o2
        have o3 := o.tr o2 (by omega) (by omega)
        refine ⟨p + 1, c p - 48, Or.inr (Or.inl ⟨rfl, by omega, by omega, rfl⟩), by omega, hp1, h46, (Option.some.inj h2').symm, by omega, by omega, ?_⟩
        have ed : isdg (c (p + 1)) = false := decide_eq_false (by omega)
        dsimp only at o3
        rw [ed, if_neg Bool.false_ne_true] at o3
        exact o3
      · rw [if_neg h46] at h2'; cases h2'
  by_cases e1 : c p = 49
  · rw [hsh5, if_pos e1] at h0
    exact two 12 57 (Or.inl ⟨rfl, rfl⟩) (Option.some.inj h0).symm (by rw [hsh5, if_pos e1]) (by omega) (by omega) (by omega)
  · by_cases e2 : c p = 50
    · rw [hsh5, if_neg e1, if_pos e2] at h0
      exact two 13 51 (Or.inr ⟨rfl, rfl⟩) (Option.some.inj h0).symm (by rw [hsh5, if_neg e1, if_pos e2]) (by omega) (by omega) (by omega)
    · by_cases e3 : 48 ≤ c p ∧ c p ≤ 57
      · rw [hsh5, if_neg e1, if_neg e2, if_pos e3] at h0
        obtain ⟨d1, d2, d3, d4⟩ := dot (p + 1) (by omega) (Option.some.inj h0).symm
        have o := one 6 (by rw [hsh5, if_neg e1, if_neg e2, if_pos e3]) e3.1 e3.2
        exact ⟨p + 1, c p - 48, Or.inr (Or.inl ⟨rfl, e3.1, e3.2, rfl⟩), by omega, d1, d2, d3, by omega, by omega, o.tr d4 (by omega) (by omega)⟩
      · rw [hsh5, if_neg e1, if_neg e2, if_neg e3] at h0; cases h0
/-- a number of ticks, from the state 8 on -/
theorem seg_ticks (hg : ∀ k, k < L → nx (g k) (c k) = some (g (k + 1))) (ha : acc (g L) = true) {p : Nat} (hp : p ≤ L) (h8 : g p = 8) :
    ∃ q d, thg c p q (nI d) ∧ 1 ≤ d ∧ d ≤ 99 ∧ q ≤ L ∧ (q < L → c q = 59 ∧ g (q + 1) = 0) ∧ c p ≠ 59 ∧ p < q ∧ ∃ s, SG F L c p q 8 s (fun x => (x.1, nI d, x.2.2.1, x.2.2.2)) := by
  have hpL : p < L := by
    by_cases h : p = L
    · rw [← h, h8] at ha; cases ha
    · omega
  have h0 := hg p hpL
  rw [h8] at h0
  have hsh8 : nx 8 (c p) = if 49 ≤ c p ∧ c p ≤ 57 then some 14 else none := rfl
  by_cases e1 : 49 ≤ c p ∧ c p ≤ 57
  · have h0' := h0
    rw [hsh8, if_pos e1] at h0'
    have g14 : g (p + 1) = 14 := (Option.some.inj h0').symm
    have o := SG.ch (F := F) (s := 8) (s' := 14) (by omega) hpL (by omega) (show nx 8 (c p) = some 14 by rw [hsh8, if_pos e1])
    rw [show nf 8 (c p) = fun x => (x.1, nI (c p - 48), x.2.2.1, x.2.2.2) from funext fun x => by rw [← sub48 (by omega)]; rfl] at o
    by_cases hend : p + 1 = L
    · exact ⟨p + 1, c p - 48, Or.inr (Or.inl ⟨rfl, by omega, by omega, rfl⟩), by omega, by omega, by omega, fun h => by omega, by omega, by omega, 14, o⟩
    · have h2 := hg (p + 1) (by omega)
      rw [g14] at h2
      have hsh : nx 14 (c (p + 1)) = if 48 ≤ c (p + 1) ∧ c (p + 1) ≤ 57 then some 9 else if c (p + 1) = 59 then some 0 else none := rfl
      by_cases hd : 48 ≤ c (p + 1) ∧ c (p + 1) ≤ 57
      · have h2' := h2
        rw [hsh, if_pos hd] at h2'
        have g9 : g (p + 1 + 1) = 9 := (Option.some.inj h2').symm
        have o2 := SG.ch (F := F) (c := c) (k := p + 1) (s := 14) (s' := 9) (by omega) (show p + 1 < L by omega) (by omega) (by rw [hsh, if_pos hd])
        have hnf : nf 14 (c (p + 1)) = fun x => (x.1, if isdg (c (p + 1)) then 10 * x.2.1 + (nI (c (p + 1)) - 48) else x.2.1, x.2.2.1, x.2.2.2) := rfl
        rw [hnf] at o2
        have o3 := o.tr o2 (by omega) (by omega)
        refine ⟨p + 2, 10 * (c p - 48) + (c (p + 1) - 48), Or.inr (Or.inr ⟨rfl, e1.1, e1.2, hd.1, hd.2, rfl⟩), by omega, by omega, by omega, fun h => ?_, by omega, by omega, 9, ?_⟩
        · have := hg (p + 2) h
          rw [show p + 2 = p + 1 + 1 from rfl, g9] at this
          exact nx9 this
        · have e : (10 : Int32) * nI (c p - 48) + (nI (c (p + 1)) - 48) = nI (10 * (c p - 48) + (c (p + 1) - 48)) := by
            rw [sub48 hd.1, show (10 : Int32) = nI 10 from rfl, ni_mul, ni_add]
          have ed : isdg (c (p + 1)) = true := decide_eq_true hd
          dsimp only at o3
          rw [ed, if_pos rfl, e] at o3
          exact o3
      · rw [hsh, if_neg hd] at h2
        by_cases h59 : c (p + 1) = 59
        · rw [if_pos h59] at h2
          exact ⟨p + 1, c p - 48, Or.inr (Or.inl ⟨rfl, by omega, by omega, rfl⟩), by omega, by omega, by omega, fun _ => ⟨h59, (Option.some.inj h2).symm⟩, by omega, by omega, 14, o⟩
        · rw [if_neg h59] at h2; cases h2
  · rw [hsh8, if_neg e1] at h0; cases h0
end SEG
