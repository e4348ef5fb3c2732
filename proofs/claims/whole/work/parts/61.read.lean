/-! a step read, on both sides -/
/-- a thing, or nothing, as it is written -/
def thg (c : Nat → Nat) (p q : Nat) (v : Int32) : Prop :=
  (q = p + 1 ∧ c p = 45 ∧ v = -1) ∨ (q = p + 1 ∧ 48 ≤ c p ∧ c p ≤ 57 ∧ v = nI (c p - 48)) ∨ (q = p + 2 ∧ 49 ≤ c p ∧ c p ≤ 57 ∧ 48 ≤ c (p + 1) ∧ c (p + 1) ≤ 57 ∧ v = nI (10 * (c p - 48) + (c (p + 1) - 48)))
def ndg (L : Nat) (c : Nat → Nat) (q : Nat) : Prop := q < L → ¬ (48 ≤ c q ∧ c q ≤ 57)
/-- the class's buffer -/
def TC (L : Nat) (c : Nat → Nat) (t : S_X2) : Prop := L ≤ 60 ∧ a_X2_length t = nI L ∧ ∀ k, k < L → c k < 127 ∧ 33 ≤ c k ∧ a_X2_codes t k = nI (c k)
theorem TC.at {L : Nat} {c : Nat → Nat} {t : S_X2} (q : TC L c t) (x : Int32) : TC L c (m_X2_at x t) := q
theorem TC.nu {L : Nat} {c : Nat → Nat} {t : S_X2} (q : TC L c t) (x : Nat → Int32) : TC L c (m_X2_numbers x t) := q
theorem TC.le {L : Nat} {c : Nat → Nat} {t : S_X2} (q : TC L c t) (x : Int32) : TC L c (m_X2_letter x t) := q
theorem cl_more {F L p : Nat} {c : Nat → Nat} {t : S_X2} (q : TC L c t) (hat : a_X2_at t = nI p) (hp : p ≤ L) : s_X2_hasMore F t = some (decide (p < L)) := by
  unfold s_X2_hasMore
  rw [hat, q.2.1, if_neg (ni_nneg (by have := q.1; omega))]
  have := q.1
  by_cases h : p < L
  · rw [if_neg (ni_nle h (by omega)), if_neg (il_nle (show p < 60 by omega) (by decide)), decide_eq_true h]
  · rw [if_pos ((ni_le (by omega) (by omega)).mpr (by omega)), decide_eq_false h]
theorem dig0 : ∀ x, x < 127 → s_X2_isDigit 0 (nI x) 0 9 = some (decide (48 ≤ x ∧ x ≤ 57)) := by decide +kernel
theorem dig (F : Nat) {x : Nat} (h : x < 127) : s_X2_isDigit F (nI x) 0 9 = some (decide (48 ≤ x ∧ x ≤ 57)) := (show s_X2_isDigit F (nI x) 0 9 = s_X2_isDigit 0 (nI x) 0 9 from rfl).trans (dig0 x h)
/-- no digit more -/
theorem cl_numStop {F L p i n : Nat} {c : Nat → Nat} {t : S_X2} (q : TC L c t) (hat : a_X2_at t = nI p) (hp : p ≤ L) (hn : ndg L c p) (v : Int32) : s_X2_readNumber_l37 F (n + 1) t v (nI i) = some (v, t) := by
  have hL := q.1
  rw [e_X2_readNumber_l37, cl_more q hat hp, Option.bind_some]
  by_cases h60 : (60 : Int32) ≤ nI i
  · rw [if_pos h60]
  · rw [if_neg h60]
    by_cases h : p < L
    · obtain ⟨c1, c2, c3⟩ := q.2.2 p h
      rw [decide_eq_true h, if_pos rfl, hat, if_pos (ni_lx (show p < 60 by omega) (by decide)), if_pos (ni_lx (show p < 60 by omega) (by decide)), ni_nat (by omega), c3, dig F c1, Option.bind_some, decide_eq_false (hn h), if_neg Bool.false_ne_true]
    · rw [decide_eq_false h, if_neg Bool.false_ne_true]
/-- a digit -/
theorem cl_numGo {F L p i n : Nat} {c : Nat → Nat} {t : S_X2} (q : TC L c t) (hat : a_X2_at t = nI p) (hp : p < L) (hd : 48 ≤ c p ∧ c p ≤ 57) (hi : i < 60) (v : Int32) : s_X2_readNumber_l37 F (n + 1) t v (nI i) = s_X2_readNumber_l37 F n (m_X2_at (nI (p + 1)) t) (10 * v + nI (c p) - 48) (nI (i + 1)) := by
  have hL := q.1
  obtain ⟨c1, c2, c3⟩ := q.2.2 p hp
  rw [e_X2_readNumber_l37, if_neg (il_nle hi (by decide)), cl_more q hat (by omega), Option.bind_some, decide_eq_true hp, if_pos rfl, hat, if_pos (ni_lx (show p < 60 by omega) (by decide)), if_pos (ni_lx (show p < 60 by omega) (by decide)), ni_nat (by omega), c3, dig F c1, Option.bind_some, decide_eq_true hd, if_pos rfl, ni_1, ni_1]
theorem num1 {a : Nat} (h : 48 ≤ a) : 10 * 0 + nI a - 48 = nI (a - 48) := by
  rw [show (10 : Int32) * 0 = 0 from rfl, Int32.zero_add, show (48 : Int32) = nI 48 from rfl, ni_sub h]
theorem num2 {a b : Nat} (h : 48 ≤ b) : 10 * nI a + nI b - 48 = nI (10 * a + (b - 48)) := by
  rw [show (10 : Int32) = nI 10 from rfl, ni_mul, ni_add, show (48 : Int32) = nI 48 from rfl, ni_sub (by omega)]
  congr 1
  omega
theorem cl_num {F L p r : Nat} (hF : 100 < F) {c : Nat → Nat} {t : S_X2} (q : TC L c t) (hat : a_X2_at t = nI p) {v : Int32} (ht : thg c p r v) (hr : r ≤ L) (hn : ndg L c r) : s_X2_readNumber F t = some (v, m_X2_at (nI r) t) := by
  have hL := q.1
  have hp : p < L := by rcases ht with ⟨h, -⟩ | ⟨h, -⟩ | ⟨h, -⟩ <;> omega
  obtain ⟨c1, c2, c3⟩ := q.2.2 p hp
  obtain ⟨F', rfl⟩ : ∃ F', F = F' + 3 := ⟨F - 3, by omega⟩
  unfold s_X2_readNumber
  rw [cl_more q hat (by omega), Option.bind_some, decide_eq_true hp, if_pos rfl, hat, if_pos (ni_lx (show p < 60 by omega) (by decide)), ni_nat (by omega), c3]
  rcases ht with ⟨h1, h2, h3⟩ | ⟨h1, h2, h3, h4⟩ | ⟨h1, h2, h3, h4, h5, h6⟩
  · rw [if_pos (by rw [h2]; rfl), h3, ni_1, h1]
  · rw [if_neg (show ¬ nI (c p) = 45 from fun z => by have := (ni_eq (b := 45) (by omega) (by omega)).mp z; omega)]
    have g1 := cl_numGo (F := F' + 3) (n := F' + 2) (i := 0) q hat hp ⟨h2, h3⟩ (by omega) 0
    have g1' : s_X2_readNumber_l37 (F' + 3) (F' + 3) t 0 0 = _ := g1
    rw [g1', num1 h2, ← h1]
    rw [cl_numStop (p := r) (q.at (nI r)) rfl hr hn, h4]
  · rw [if_neg (show ¬ nI (c p) = 45 from fun z => by have := (ni_eq (b := 45) (by omega) (by omega)).mp z; omega)]
    have g1 := cl_numGo (F := F' + 3) (n := F' + 2) (i := 0) q hat hp ⟨by omega, h3⟩ (by omega) 0
    have g1' : s_X2_readNumber_l37 (F' + 3) (F' + 3) t 0 0 = _ := g1
    rw [g1', num1 (by omega), cl_numGo (F := F' + 3) (n := F' + 1) (i := 0 + 1) (p := p + 1) (q.at (nI (p + 1))) rfl (by omega) ⟨h4, h5⟩ (by omega), num2 h4, ← h6, show p + 1 + 1 = r by omega]
    rw [cl_numStop (p := r) ((q.at (nI (p + 1))).at (nI r)) rfl hr hn]
/-- one number of a step, with the sign behind it -/
theorem cl_iter {F L p r i n : Nat} (hF : 100 < F) {c : Nat → Nat} {t : S_X2} (q : TC L c t) (hat : a_X2_at t = nI p) (hi : i < 3) {v : Int32} (ht : thg c p r v) (hr : r < L) (hn : c r = 46 ∨ c r = 61) (h59 : c p ≠ 59) :
    s_X2_readStep_l34 F (n + 1) t (nI i) = s_X2_readStep_l34 F n (m_X2_at (nI (r + 1)) (m_X2_numbers (upd (a_X2_numbers t) i v) (m_X2_at (nI r) t))) (nI (i + 1)) := by
  have hL := q.1
  have hp : p < L := by rcases ht with ⟨h, -⟩ | ⟨h, -⟩ | ⟨h, -⟩ <;> omega
  obtain ⟨c1, c2, c3⟩ := q.2.2 p hp
  obtain ⟨d1, d2, d3⟩ := q.2.2 r hr
  have hnum := cl_num hF q hat ht (by omega) (fun _ z => by rcases hn with h | h <;> omega)
  obtain ⟨t1, ht1⟩ : ∃ t1, t1 = m_X2_at (nI r) t := ⟨_, rfl⟩
  have hat1 : a_X2_at t1 = nI r := by rw [ht1]
  have hnu1 : a_X2_numbers t1 = a_X2_numbers t := by rw [ht1]
  have hco1 : a_X2_codes t1 r = nI (c r) := by rw [ht1]; exact d3
  have q1 : TC L c t1 := by rw [ht1]; exact q
  rw [e_X2_readStep_l34, if_neg (il_nle hi (by decide)), cl_more q hat (by omega), Option.bind_some, decide_eq_true hp, if_pos rfl, hat, if_pos (ni_lx (show p < 60 by omega) (by decide)), ni_nat (by omega), c3, if_neg (show ¬ nI (c p) = 59 from fun z => h59 ((ni_eq (b := 59) (by omega) (by omega)).mp z)), hnum, Option.bind_some, ← ht1, if_pos (ni_lx hi (by decide)), ni_nat (by omega), hnu1, cl_more (q1.nu _) (show a_X2_at (m_X2_numbers (upd (a_X2_numbers t) i v) t1) = nI r from hat1) (by omega), Option.bind_some, decide_eq_true hr, if_pos rfl, hat1, if_pos (ni_lx (show r < 60 by omega) (by decide)), if_pos (ni_lx (show r < 60 by omega) (by decide)), ni_nat (by omega), hco1, ni_1, ni_1]
  rcases hn with h | h
  · rw [if_pos (by rw [h]; rfl)]
  · rw [if_neg (show ¬ nI (c r) = 46 from fun z => by have := (ni_eq (b := 46) (by omega) (by omega)).mp z; omega), if_pos (by rw [h]; rfl)]
theorem cl_last {F L p r i n : Nat} (hF : 100 < F) {c : Nat → Nat} {t : S_X2} (q : TC L c t) (hat : a_X2_at t = nI p) (hi : i < 3) {v : Int32} (ht : thg c p r v) (hr : r ≤ L) (hn : r < L → c r = 59) (h59 : c p ≠ 59) :
    s_X2_readStep_l34 F (n + 2) t (nI i) = some (true, m_X2_at (nI (r + 1)) (m_X2_numbers (upd (a_X2_numbers t) i v) (m_X2_at (nI r) t))) := by
  have hL := q.1
  have hp : p < L := by rcases ht with ⟨h, -⟩ | ⟨h, -⟩ | ⟨h, -⟩ <;> omega
  obtain ⟨c1, c2, c3⟩ := q.2.2 p hp
  have hnum := cl_num hF q hat ht hr (fun h z => by have := hn h; omega)
  obtain ⟨t1, ht1⟩ : ∃ t1, t1 = m_X2_at (nI r) t := ⟨_, rfl⟩
  have hat1 : a_X2_at t1 = nI r := by rw [ht1]
  have hnu1 : a_X2_numbers t1 = a_X2_numbers t := by rw [ht1]
  have q1 : TC L c t1 := by rw [ht1]; exact q
  obtain ⟨t2, ht2⟩ : ∃ t2, t2 = m_X2_numbers (upd (a_X2_numbers t) i v) t1 := ⟨_, rfl⟩
  have hat2 : a_X2_at t2 = nI r := by rw [ht2]; exact hat1
  have hco : a_X2_codes t2 = a_X2_codes t1 := by rw [ht2]
  have q2 : TC L c t2 := by rw [ht2]; exact q1
  have hstop : s_X2_readStep_l34 F (n + 1) t2 (nI (i + 1)) = some (true, m_X2_at (nI (r + 1)) t2) := by
    rw [e_X2_readStep_l34, cl_more q2 hat2 hr, Option.bind_some, hat2, ni_1]
    by_cases h3 : (3 : Int32) ≤ nI (i + 1)
    · rw [if_pos h3]
    · rw [if_neg h3]
      by_cases hrL : r < L
      · obtain ⟨e1, e2, e3⟩ := q2.2.2 r hrL
        rw [decide_eq_true hrL, if_pos rfl, if_pos (ni_lx (show r < 60 by omega) (by decide)), ni_nat (by omega), e3, if_pos (by rw [hn hrL]; rfl)]
      · rw [decide_eq_false hrL, if_neg Bool.false_ne_true]
  rw [e_X2_readStep_l34, if_neg (il_nle hi (by decide)), cl_more q hat (by omega), Option.bind_some, decide_eq_true hp, if_pos rfl, hat, if_pos (ni_lx (show p < 60 by omega) (by decide)), ni_nat (by omega), c3, if_neg (show ¬ nI (c p) = 59 from fun z => h59 ((ni_eq (b := 59) (by omega) (by omega)).mp z)), hnum, Option.bind_some, ← ht1, if_pos (ni_lx hi (by decide)), ni_nat (by omega), hnu1, ← ht2, cl_more q2 hat2 hr, Option.bind_some, hat1, ni_1, ni_1]
  by_cases hrL : r < L
  · obtain ⟨e1, e2, e3⟩ := q1.2.2 r hrL
    rw [decide_eq_true hrL, if_pos rfl, if_pos (ni_lx (show r < 60 by omega) (by decide)), if_pos (ni_lx (show r < 60 by omega) (by decide)), ni_nat (by omega), e3, hn hrL, if_neg (by decide), if_neg (by decide)]
    exact hstop
  · rw [decide_eq_false hrL, if_neg Bool.false_ne_true]
    exact hstop
theorem cl_none {F L p n : Nat} {c : Nat → Nat} {t : S_X2} (q : TC L c t) (hat : a_X2_at t = nI p) (hp : p ≤ L) (hn : p < L → c p = 59) : s_X2_readStep_l34 F (n + 1) t 0 = some (true, m_X2_at (nI (p + 1)) t) := by
  have hL := q.1
  rw [e_X2_readStep_l34, if_neg (by decide), cl_more q hat hp, Option.bind_some, hat, ni_1]
  by_cases h : p < L
  · obtain ⟨e1, e2, e3⟩ := q.2.2 p h
    rw [decide_eq_true h, if_pos rfl, if_pos (ni_lx (show p < 60 by omega) (by decide)), ni_nat (by omega), e3, if_pos (by rw [hn h]; rfl)]
  · rw [decide_eq_false h, if_neg Bool.false_ne_true]
theorem cl_head {F L a : Nat} {c : Nat → Nat} {t : S_X2} (q : TC L c t) (hat : a_X2_at t = nI a) (ha : a < L) : s_X2_readStep F t = s_X2_readStep_l34 F F (m_X2_at (nI (a + 1)) (m_X2_letter (nI (c a)) t)) 0 := by
  have hL := q.1
  obtain ⟨e1, e2, e3⟩ := q.2.2 a ha
  unfold s_X2_readStep
  rw [cl_more q hat (by omega), Option.bind_some, decide_eq_true ha, if_pos rfl, hat, if_pos (ni_lx (show a < 60 by omega) (by decide)), ni_nat (by omega), e3, ni_1]
