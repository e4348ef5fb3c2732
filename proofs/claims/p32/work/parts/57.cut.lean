/-! the best cut; a report at its place; on both sides -/
def cutL (F : Nat) (f : S_X0) (k : Nat) : Int32 := if f k = -1 then 0 else match s_X0_lostWithout F f (nI k) with
  | some x => x
  | none => 0
def cutF (L : Nat → Int32) : Nat → Int32 × Int32
  | 0 => (-1, 0)
  | k + 1 => if L k ≤ (cutF L k).2 then cutF L k else (nI k, L k)
theorem cutF_ok {L : Nat → Int32} (k : Nat) : (0 : Int32) ≤ (cutF L k).2 ∧ ((cutF L k = (-1, 0)) ∨ ∃ j, j < k ∧ cutF L k = (nI j, L j) ∧ ¬ L j ≤ 0) := by
  induction k with
  | zero => exact ⟨Int32.le_refl _, Or.inl rfl⟩
  | succ k ih =>
    obtain ⟨h1, h2⟩ := ih
    unfold cutF
    by_cases hc : L k ≤ (cutF L k).2
    · rw [if_pos hc]
      refine ⟨h1, ?_⟩
      rcases h2 with h2 | ⟨j, h3, h4⟩
      · exact Or.inl h2
      · exact Or.inr ⟨j, by omega, h4⟩
    · rw [if_neg hc]
      have hlt : (cutF L k).2 < L k := Int32.not_le.mp hc
      have h0 : ¬ L k ≤ 0 := fun z => hc (Int32.le_trans z h1)
      exact ⟨Int32.le_of_lt (Int32.not_le.mp h0), Or.inr ⟨k, by omega, rfl, h0⟩⟩
theorem cutF_skip {L : Nat → Int32} {k : Nat} (h : L k = 0) : cutF L (k + 1) = cutF L k := by
  show (if L k ≤ (cutF L k).2 then cutF L k else (nI k, L k)) = _
  rw [h, if_pos (cutF_ok k).1]
theorem cutF_more {L : Nat → Int32} (a d : Nat) (h : ∀ k, a ≤ k → k < a + d → L k = 0) : cutF L (a + d) = cutF L a := by
  induction d with
  | zero => rfl
  | succ d ih =>
    have := cutF_skip (h (a + d) (by omega) (by omega))
    rw [show a + (d + 1) = a + d + 1 by omega, this, ih (fun k h1 h2 => h k h1 (by omega))]
theorem x0_lost {F : Nat} (hF : 100 < F) {f : S_X0} (hf : hOK f 24) {k : Nat} (hk : k < 100) : ∃ r rk, s_X0_reached F f = some r ∧ s_X0_reachedWithout F f (nI k) = some rk ∧ (∀ t, mb r t = true ↔ hTop f (-1) t) ∧ (∀ t, mb rk t = true ↔ hTop f (nI k) t) ∧ s_X0_lostWithout F f (nI k) = some (jd_bc r - jd_bc rk) := by
  obtain ⟨r, r1, r2, r3⟩ := x0_reached hF hf
  obtain ⟨rk, k1, k2, k3⟩ := x0_without hF hf (nI k)
  refine ⟨r, rk, r1, k1, r3, k3, ?_⟩
  unfold s_X0_lostWithout
  rw [r1, Option.bind_some, k1, Option.bind_some]
theorem x0_cut {F : Nat} (hF : 100 < F) {f : S_X0} (hf : hOK f 24) : s_X0_cutWithMostLost F f = some (cutF (cutL F f) 100).1 := by
  have key := lf_for (fun nn k (a : Int32 × Int32) => s_X0_cutWithMostLost_l6 F f nn a.1 a.2 (nI k)) 100 (fun a => some a.1) (fun k _ => cutF (cutL F f) (k + 1)) (fun k a => a = cutF (cutL F f) k)
    (fun nn a _ => by
      show s_X0_cutWithMostLost_l6 F f (nn + 1) a.1 a.2 (nI 100) = _
      rw [e_X0_cutWithMostLost_l6, if_pos (by decide)])
    (fun nn k a hk ha => by
      refine ⟨?_, rfl⟩
      have h31 : ∀ p, s_X0_cutWithMostLost_b31 F (s_X0_cutWithMostLost_l6 F f nn) f (cutF (cutL F f) k).1 (cutF (cutL F f) k).2 (nI k) p = if p ≤ (cutF (cutL F f) k).2 then s_X0_cutWithMostLost_l6 F f nn (cutF (cutL F f) k).1 (cutF (cutL F f) k).2 (nI (k + 1)) else s_X0_cutWithMostLost_l6 F f nn (nI k) p (nI (k + 1)) := fun p => by
        unfold s_X0_cutWithMostLost_b31
        rw [ni_1]
      have hst : s_X0_cutWithMostLost_l6 F f (nn + 1) (cutF (cutL F f) k).1 (cutF (cutL F f) k).2 (nI k) = s_X0_cutWithMostLost_b31 F (s_X0_cutWithMostLost_l6 F f nn) f (cutF (cutL F f) k).1 (cutF (cutL F f) k).2 (nI k) (cutL F f k) := by
        obtain ⟨r, rk, r1, k1, r3, k3, k4⟩ := x0_lost hF hf hk
        rw [e_X0_cutWithMostLost_l6, if_neg (il_nle hk (by decide)), if_pos (ni_lx hk (by decide)), ni_nat (by omega)]
        unfold cutL
        by_cases hc : f k = -1
        · rw [if_pos hc, if_pos hc]
        · rw [if_neg hc, if_neg hc, k4, Option.bind_some]
      rw [ha, hst, h31]
      show _ = s_X0_cutWithMostLost_l6 F f nn (if cutL F f k ≤ (cutF (cutL F f) k).2 then cutF (cutL F f) k else (nI k, cutL F f k)).1 (if cutL F f k ≤ (cutF (cutL F f) k).2 then cutF (cutL F f) k else (nI k, cutL F f k)).2 (nI (k + 1))
      by_cases hc : cutL F f k ≤ (cutF (cutL F f) k).2
      · rw [if_pos hc, if_pos hc]
      · rw [if_neg hc, if_neg hc])
    100 0 (-1, 0) F rfl hF rfl
  obtain ⟨a, ha⟩ : ∃ a, a = fr (fun k (_ : Int32 × Int32) => cutF (cutL F f) (k + 1)) 0 100 (-1, 0) := ⟨_, rfl⟩
  rw [← ha] at key
  obtain ⟨k1, k2⟩ := key
  have k1' : s_X0_cutWithMostLost F f = some a.1 := k1
  rw [k1', k2]
theorem LK_q {B T n e h m : Nat} {u : S_X3} {w w' : S_X5} (q : WX G0 B T n e h m u (a_X5_state w)) (lk : LK w w') : WX G0 B T n e h m u (a_X5_state w') := by rw [lk.2]; exact q
theorem x_cut {F : Nat} (hF : 6100 < F) {B T n e h m : Nat} {u : S_X3} {w : S_X5} (q : WX G0 B T n e h m u (a_X5_state w)) (what : Int32) :
    ∃ w', s_X5_cut F w what = some (if what = 0 then (cutF (cutL F (a_X3_hold u)) 100).1 else (cutF (cutL F (a_X3_hold u)) 100).2, w') ∧ LK w w' := by
  obtain ⟨he, hn, -⟩ := WB_e q.1
  obtain ⟨f, hf⟩ : ∃ f, f = a_X3_hold u := ⟨_, rfl⟩
  have hOKf : hOK f 24 := by rw [hf]; exact WX_hOK q
  rw [← hf]
  obtain ⟨r, g, r1, r2, r3, r4, r5, r6⟩ := x5_reached hF q
  rw [← hf] at r1 r6
  obtain ⟨w1, hw1⟩ : ∃ w1, w1 = m_X5_isReached g w := ⟨_, rfl⟩
  have lk1 : LK w w1 := by rw [hw1]; exact LK.re w g
  have loop : ∀ d k w2 nn, k + d = 4 + 4 * n → d < nn → LK w w2 → ∃ w', s_X5_cut_l13 F what (jd_bc r) nn w2 (cutF (cutL F f) k).1 (cutF (cutL F f) k).2 (nI k) = some (if what = 0 then (cutF (cutL F f) (4 + 4 * n)).1 else (cutF (cutL F f) (4 + 4 * n)).2, w') ∧ LK w w' := by
    intro d
    induction d with
    | zero =>
      intro k w2 nn hk hnn lk
      obtain ⟨nn, rfl⟩ : ∃ j, nn = j + 1 := ⟨nn - 1, by omega⟩
      obtain rfl : k = 4 + 4 * n := by omega
      have q2 := LK_q q lk
      have h2 : 4 + 4 * a_X5_state w2 (1 : Int32).toNatClampNeg = nI (4 + 4 * n) := by
        rw [show a_X5_state w2 (1 : Int32).toNatClampNeg = nI n from q2.1.1.2.2.2.2.1, show (4 : Int32) = nI 4 from rfl, ni_mul, ni_add]
      refine ⟨w2, ?_, lk⟩
      rw [e_X5_cut_l13, h2, if_pos (Int32.le_refl _)]
      unfold s_X5_cut_b128
      by_cases hc : what = 0
      · rw [if_pos hc, if_pos hc]
      · rw [if_neg hc, if_neg hc]
    | succ d ih =>
      intro k w2 nn hk hnn lk
      obtain ⟨nn, rfl⟩ : ∃ j, nn = j + 1 := ⟨nn - 1, by omega⟩
      have q2 := LK_q q lk
      have hk100 : k < 100 := by omega
      have h2 : 4 + 4 * a_X5_state w2 (1 : Int32).toNatClampNeg = nI (4 + 4 * n) := by
        rw [show a_X5_state w2 (1 : Int32).toNatClampNeg = nI n from q2.1.1.2.2.2.2.1, show (4 : Int32) = nI 4 from rfl, ni_mul, ni_add]
      have hmp : mp k < 353 := by unfold mp; split <;> omega
      have hzm : a_X5_state w2 (mp k) = f k := by
        unfold mp
        by_cases h4 : k < 4
        · rw [if_pos h4, q2.2.1 k h4, hf]
        · rw [if_neg h4]
          have := WH0 q2.2 (show (k - 4) / 4 < n by omega) (show (k - 4) % 4 < 4 by omega)
          rw [show 257 + 4 * ((k - 4) / 4) + (k - 4) % 4 = 253 + k by omega, show 4 + 4 * ((k - 4) / 4) + (k - 4) % 4 = k by omega] at this
          rw [this, hf]
      obtain ⟨C, hC⟩ : ∃ C, C = cutF (cutL F f) k := ⟨_, rfl⟩
      have hhead : s_X5_cut_l13 F what (jd_bc r) (nn + 1) w2 C.1 C.2 (nI k) = s_X5_cut_b50 F (s_X5_cut_l13 F what (jd_bc r) nn) w2 what (jd_bc r) C.1 C.2 (nI k) (nI (mp k)) := by
        rw [e_X5_cut_l13, h2, if_neg (ni_nle (show k < 4 + 4 * n by omega) (by omega))]
        unfold mp
        by_cases h4 : k < 4
        · rw [if_neg (il_nle h4 (by decide)), if_pos h4, ni_13]
        · rw [if_pos (show (4 : Int32) ≤ nI k from (ni_le (a := 4) (by omega) (by omega)).mpr (by omega)), if_neg h4, show (257 : Int32) = nI 257 from rfl, ni_add, show (4 : Int32) = nI 4 from rfl, ni_sub (by omega), show 257 + k - 4 = 253 + k by omega]
      rw [← hC, hhead]
      unfold s_X5_cut_b50
      simp only [if_pos (show lf_ix (nI (mp k)) 20377 from ni_lx (show mp k < 20377 by omega) (by decide))]
      rw [ni_nat (by omega), hzm, ni_1]
      have hnext : cutF (cutL F f) (k + 1) = if cutL F f k ≤ C.2 then C else (nI k, cutL F f k) := by rw [hC]; rfl
      by_cases hc : f k = -1
      · have hL : cutL F f k = 0 := by unfold cutL; rw [if_pos hc]
        rw [if_pos hc]
        have := ih (k + 1) w2 nn (by omega) (by omega) lk
        rw [cutF_skip hL, ← hC] at this
        exact this
      · rw [if_neg hc]
        obtain ⟨w3, hw3⟩ : ∃ w3, w3 = m_X5_state (upd (a_X5_state w2) (mp k) (-1)) w2 := ⟨_, rfl⟩
        have est3 : a_X5_state w3 = upd (a_X5_state w2) (mp k) (-1) := by rw [hw3]
        have q3 := WX_empty q2 hk100
        rw [← est3] at q3
        obtain ⟨r', g', p1, p2, p3, p4, p5, p6⟩ := x5_reached hF q3
        obtain ⟨ra, rk, s1, s2, s3, s4, s5⟩ := x0_lost (F := F) (by omega) hOKf hk100
        have e1 : ra = r := bits_eq s3 r6
        have e2 : r' = rk := bits_eq (P := hTop f (nI k)) (fun t => by
          rw [p6 t]
          show hTop (upd (a_X3_hold u) k (-1)) (-1) t ↔ _
          rw [← hf]
          exact hTop_upd hk100 t) s4
        have hL : cutL F f k = jd_bc r - jd_bc r' := by
          unfold cutL
          rw [if_neg hc, s5, e1, e2]
        obtain ⟨w4, hw4⟩ : ∃ w4, w4 = m_X5_isReached g' w2 := ⟨_, rfl⟩
        have lk4 : LK w w4 := by rw [hw4]; exact lk.tr (LK.re w2 g')
        have hback : m_X5_state (upd (a_X5_state (m_X5_isReached g' w3)) (mp k) (f k)) (m_X5_isReached g' w3) = w4 := by
          have e3 : upd (a_X5_state (m_X5_isReached g' w3)) (mp k) (f k) = a_X5_state w2 := by
            have e4 : a_X5_state (m_X5_isReached g' w3) = upd (a_X5_state w2) (mp k) (-1) := est3
            rw [e4]
            funext j
            by_cases hj : j = mp k
            · rw [hj, upd_at]; exact hzm.symm
            · rw [upd_ne _ _ hj, upd_ne _ _ hj]
          rw [e3, hw4, hw3]
        rw [← hw3, p3, Option.bind_some, hback, ← hL]
        have nxt := ih (k + 1) w4 nn (by omega) (by omega) lk4
        rw [hnext] at nxt
        by_cases hle : cutL F f k ≤ C.2
        · rw [if_pos hle] at nxt ⊢
          unfold s_X5_cut_b105
          rw [if_pos hle, ni_1]
          exact nxt
        · rw [if_neg hle] at nxt ⊢
          unfold s_X5_cut_b105
          rw [if_neg hle, ni_1]
          exact nxt
  obtain ⟨w', l1, l2⟩ := loop (4 + 4 * n) 0 w1 F (by omega) (by omega) lk1
  have hmore := cutF_more (L := cutL F f) (4 + 4 * n) (96 - 4 * n) (fun k h1 h2 => by
    unfold cutL
    have hlv : mb (a_X3_living u) ((k - 4) / 4) = false := by
      cases hl : mb (a_X3_living u) ((k - 4) / 4) with
      | false => rfl
      | true => have := q.1.2.2.2.1.1 _ hl; omega
    have := q.2.2.2.2 ((k - 4) / 4) (by omega) hlv ((k - 4) % 4) (by omega)
    rw [show 4 + 4 * ((k - 4) / 4) + (k - 4) % 4 = k by omega, ← hf] at this
    rw [if_pos this])
  rw [show 4 + 4 * n + (96 - 4 * n) = 100 by omega] at hmore
  rw [hmore]
  refine ⟨w', ?_, l2⟩
  unfold s_X5_cut
  rw [r3, ← hw1, Option.bind_some]
  exact l1
/-- the class's two answers -/
theorem x0_cut1 {F : Nat} (hF : 100 < F) {f : S_X0} (hf : hOK f 24) : (cutF (cutL F f) 100).1 = -1 ∧ (cutF (cutL F f) 100).2 = 0 ∨ ¬ (cutF (cutL F f) 100).1 = -1 ∧ s_X0_lostWithout F f (cutF (cutL F f) 100).1 = some (cutF (cutL F f) 100).2 := by
  rcases (cutF_ok (L := cutL F f) 100).2 with z | ⟨j, h1, h2, h3⟩
  · rw [z]; exact Or.inl ⟨rfl, rfl⟩
  · rw [h2]
    refine Or.inr ⟨nI_ne (by omega), ?_⟩
    obtain ⟨r, rk, r1, k1, r3, k3, k4⟩ := x0_lost hF hf h1
    show s_X0_lostWithout F f (nI j) = some (cutL F f j)
    unfold cutL at h3 ⊢
    by_cases hc : f j = -1
    · rw [if_pos hc] at h3; exact absurd (Int32.le_refl _) h3
    · rw [if_neg hc, k4]
/-! the order of reports -/
def rk (R : Nat → rw5) (m i : Nat) : Nat := cn (fun j => decide (du (R j) < du (R i)) || (decide (du (R j) = du (R i)) && decide (j < i))) m
theorem cn_lt_of {p q : Nat → Bool} {n i : Nat} (hi : i < n) (h : ∀ k, k < n → p k = true → q k = true) (h1 : p i = false) (h2 : q i = true) : cn p n < cn q n := by
  have e := cn_one (p := p) (q := fun k => if k = i then true else p k) n hi h1 (by simp) (fun k _ hk => by simp [hk])
  have := cn_mono (p := fun k => if k = i then true else p k) (q := q) n (fun k hk hp => by
    by_cases hki : k = i
    · rw [hki]; exact h2
    · simp [hki] at hp; exact h k hk hp)
  omega
theorem rk_last (R : Nat → rw5) (m : Nat) : rk R (m + 1) m = cn (fun j => decide (du (R j) ≤ du (R m))) m := by
  show cn (fun j => decide (du (R j) < du (R m)) || (decide (du (R j) = du (R m)) && decide (j < m))) m + (if (decide (du (R m) < du (R m)) || (decide (du (R m) = du (R m)) && decide (m < m))) then 1 else 0) = _
  rw [if_neg (by simp), Nat.add_zero]
  refine cn_congr m fun k hk => ?_
  rw [decide_eq_true hk, Bool.and_true]
  by_cases h1 : du (R k) < du (R m)
  · rw [decide_eq_true h1, decide_eq_true (show du (R k) ≤ du (R m) by omega)]; rfl
  · by_cases h2 : du (R k) = du (R m)
    · rw [decide_eq_true h2, decide_eq_true (show du (R k) ≤ du (R m) by omega)]; simp
    · rw [decide_eq_false h1, decide_eq_false h2, decide_eq_false (show ¬ du (R k) ≤ du (R m) by omega)]; rfl
theorem ins_place (R : Nat → rw5) (m : Nat) : ∀ j, (srt R (m + 1))[j]? = if j < rk R (m + 1) m then (srt R m)[j]? else if j = rk R (m + 1) m then some (R m) else (srt R m)[j - 1]? := by
  have hrk := rk_last R m
  -- a sorted list is cut at the number of those that are not later
  have hcut : ∀ (L : List rw5) (d : Int), ordR L → (∀ j x, j < (L.filter fun y => decide (du y ≤ d)).length → L[j]? = some x → du x ≤ d) ∧ (∀ j x, (L.filter fun y => decide (du y ≤ d)).length ≤ j → L[j]? = some x → d < du x) := by
    intro L d
    induction L with
    | nil => intro _; exact ⟨fun j x _ h => by simp at h, fun j x _ h => by simp at h⟩
    | cons c C ih =>
      intro ho
      have ho2 := List.pairwise_cons.mp ho
      obtain ⟨i1, i2⟩ := ih ho2.2
      by_cases hc : du c ≤ d
      · have e : (c :: C).filter (fun y => decide (du y ≤ d)) = c :: C.filter (fun y => decide (du y ≤ d)) := by rw [List.filter_cons, decide_eq_true hc, if_pos rfl]
        rw [e, List.length_cons]
        refine ⟨fun j x hj hx => ?_, fun j x hj hx => ?_⟩
        · cases j with
          | zero => simp at hx; rw [← hx]; exact hc
          | succ j => exact i1 j x (by omega) (by simpa using hx)
        · cases j with
          | zero => omega
          | succ j => exact i2 j x (by omega) (by simpa using hx)
      · have e : (c :: C).filter (fun y => decide (du y ≤ d)) = C.filter (fun y => decide (du y ≤ d)) := by rw [List.filter_cons, decide_eq_false hc, if_neg Bool.false_ne_true]
        have e0 : C.filter (fun y => decide (du y ≤ d)) = [] := List.filter_eq_nil_iff.mpr fun y hy => by
          have := ho2.1 y hy
          simp; omega
        rw [e, e0]
        refine ⟨fun j x hj hx => by simp at hj, fun j x hj hx => ?_⟩
        cases j with
        | zero => simp at hx; rw [← hx]; omega
        | succ j =>
          have hx' : C[j]? = some x := by simpa using hx
          have := ho2.1 x (List.mem_of_getElem? hx')
          omega
  have hlen : ∀ k, ((srt R k).filter fun y => decide (du y ≤ du (R m))).length = cn (fun j => decide (du (R j) ≤ du (R m))) k := by
    have hins : ∀ (r : rw5) (L : List rw5) (d : Int), ((insR r L).filter fun y => decide (du y ≤ d)).length = (L.filter fun y => decide (du y ≤ d)).length + (if du r ≤ d then 1 else 0) := by
      intro r L d
      induction L with
      | nil =>
        unfold insR
        rw [List.filter_cons]
        by_cases h : du r ≤ d
        · rw [decide_eq_true h, if_pos rfl, if_pos h]; rfl
        · rw [decide_eq_false h, if_neg Bool.false_ne_true, if_neg h]; rfl
      | cons c C ih =>
        unfold insR
        by_cases hrc : du r < du c
        · rw [if_pos hrc, List.filter_cons]
          by_cases h : du r ≤ d
          · rw [decide_eq_true h, if_pos rfl, if_pos h]; rfl
          · rw [decide_eq_false h, if_neg Bool.false_ne_true, if_neg h]; rfl
        · rw [if_neg hrc, List.filter_cons, List.filter_cons]
          by_cases h : du c ≤ d
          · rw [decide_eq_true h, if_pos rfl, if_pos rfl, List.length_cons, List.length_cons, ih]; omega
          · rw [decide_eq_false h, if_neg Bool.false_ne_true, if_neg Bool.false_ne_true, ih]
    intro k
    induction k with
    | zero => rfl
    | succ k ih =>
      show ((insR (R k) (srt R k)).filter _).length = cn _ k + (if decide (du (R k) ≤ du (R m)) then 1 else 0)
      rw [hins, ih]
      by_cases h : du (R k) ≤ du (R m)
      · rw [if_pos h, decide_eq_true h, if_pos rfl]
      · rw [if_neg h, decide_eq_false h, if_neg Bool.false_ne_true]
  obtain ⟨c1, c2⟩ := hcut (srt R m) (du (R m)) (srt_ord R m)
  rw [hlen m] at c1 c2
  rw [hrk]
  exact insR_at (srt R m) (cn (fun j => decide (du (R j) ≤ du (R m))) m) (by rw [srt_len]; exact cn_le _ _) c1 c2
theorem rk_step (R : Nat → rw5) {m i : Nat} (hi : i < m) : rk R (m + 1) i = rk R m i + (if du (R m) < du (R i) then 1 else 0) := by
  show cn _ m + _ = _
  congr 1
  show (if (decide (du (R m) < du (R i)) || (decide (du (R m) = du (R i)) && decide (m < i))) then 1 else 0) = _
  rw [decide_eq_false (show ¬ m < i by omega), Bool.and_false, Bool.or_false]
  by_cases h : du (R m) < du (R i)
  · rw [decide_eq_true h, if_pos rfl, if_pos h]
  · rw [decide_eq_false h, if_neg Bool.false_ne_true, if_neg h]
theorem rk_lt (R : Nat → rw5) {m i : Nat} (hi : i < m) : rk R m i < rk R (m + 1) m ↔ du (R i) ≤ du (R m) := by
  rw [rk_last]
  constructor
  · intro h
    apply Classical.byContradiction
    intro hc
    have : cn (fun j => decide (du (R j) ≤ du (R m))) m ≤ rk R m i := cn_mono m fun k hk hp => by
      have : du (R k) ≤ du (R m) := by simpa using hp
      rw [decide_eq_true (show du (R k) < du (R i) by omega)]; rfl
    omega
  · intro h
    refine cn_lt_of hi (fun k hk hp => ?_) (by simp) (decide_eq_true h)
    rw [Bool.or_eq_true, Bool.and_eq_true] at hp
    rcases hp with hp | hp
    · have : du (R k) < du (R i) := by simpa using hp
      exact decide_eq_true (by omega)
    · have : du (R k) = du (R i) := by simpa using hp.1
      exact decide_eq_true (by omega)
theorem rk_srt (R : Nat → rw5) : ∀ m i, i < m → (srt R m)[rk R m i]? = some (R i) := by
  intro m
  induction m with
  | zero => intro i hi; omega
  | succ m ih =>
    intro i hi
    rw [ins_place]
    by_cases him : i = m
    · rw [him, if_neg (by omega), if_pos rfl]
    · have hi2 : i < m := by omega
      rw [rk_step R hi2]
      by_cases hd : du (R m) < du (R i)
      · have : ¬ rk R m i < rk R (m + 1) m := fun z => by have := (rk_lt R hi2).mp z; omega
        rw [if_pos hd, if_neg (by omega), if_neg (by omega), Nat.add_sub_cancel]
        exact ih i hi2
      · have : rk R m i < rk R (m + 1) m := (rk_lt R hi2).mpr (by omega)
        rw [if_neg hd, Nat.add_zero, if_pos this]
        exact ih i hi2
theorem rk_ex (R : Nat → rw5) : ∀ m p, p < m → ∃ i, i < m ∧ rk R m i = p := by
  intro m
  induction m with
  | zero => intro p hp; omega
  | succ m ih =>
    intro p hp
    have hle : rk R (m + 1) m ≤ m := by rw [rk_last]; exact cn_le _ _
    by_cases h1 : p = rk R (m + 1) m
    · exact ⟨m, by omega, h1.symm⟩
    · by_cases h2 : p < rk R (m + 1) m
      · obtain ⟨i, i1, i2⟩ := ih p (by omega)
        have := (rk_lt R i1).mp (by omega)
        exact ⟨i, by omega, by rw [rk_step R i1, if_neg (by omega)]; exact i2⟩
      · obtain ⟨i, i1, i2⟩ := ih (p - 1) (by omega)
        have : ¬ du (R i) ≤ du (R m) := fun z => by have := (rk_lt R i1).mpr z; omega
        exact ⟨i, by omega, by rw [rk_step R i1, if_pos (by omega)]; omega⟩
theorem x5_atPlace {F : Nat} (hF : 6100 < F) {B T n e h m : Nat} {u : S_X3} {w : S_X5} (q : WB B T n e h m u (a_X5_state w)) {p : Nat} (hp : p < m) :
    ∃ i, i < m ∧ s_X5_atPlace F w (nI p) = some (nI i) ∧ (srt (RV (a_X5_state w)) m)[p]? = some (RV (a_X5_state w) i) := by
  obtain ⟨he, hn, hhm⟩ := WB_e q
  have h3 : a_X5_state w (3 : Int32).toNatClampNeg = nI m := q.1.2.2.2.2.2.2.2.1
  obtain ⟨R, hR⟩ : ∃ R, R = RV (a_X5_state w) := ⟨_, rfl⟩
  have hdu := q.2.2.2.2.2.1.2.2.1
  rw [← hR] at hdu ⊢
  have hrep : ∀ j, j < m → s_X5_reportPart F w (nI j) 3 = some (rpt (R j) 3) := fun j hj => by
    have := x5_rep F w (j := j) (p := 3) (by omega) (by omega)
    rw [← hR] at this
    exact this
  have inner : ∀ i (kk : Int32 → Int32 → Option Int32), i < m → s_X5_atPlace_l25 F w (nI p) (nI i) kk F 0 0 = s_X5_atPlace_b84 F kk w (nI p) (nI i) (nI (rk R m i)) := by
    intro i kk hi
    have key := lf_cnt (fun nn k c => s_X5_atPlace_l25 F w (nI p) (nI i) kk nn c (nI k)) m (fun c => s_X5_atPlace_b84 F kk w (nI p) (nI i) c) (fun j => decide (du (R j) < du (R i)) || (decide (du (R j) = du (R i)) && decide (j < i))) 0 (n := F) (by omega) (fun nn c => by rw [e_X5_atPlace_l25, h3, if_pos (Int32.le_refl _)]) (fun nn k c hk => by
      rw [e_X5_atPlace_l25, h3, if_neg (ni_nle hk (by omega)), hrep k hk, Option.bind_some, hrep i hi, Option.bind_some, ni_1]
      have d1 := hdu k hk
      have d2 := hdu i hi
      have hs : (rpt (R k) 3 - rpt (R i) 3).toInt = du (R k) - du (R i) := by
        rw [Int32.toInt_sub]
        exact Int.bmod_eq_of_le (by show _ ≤ du (R k) - du (R i); omega) (by show du (R k) - du (R i) < _; omega)
      have hz : (0 : Int32).toInt = 0 := rfl
      by_cases c1 : du (R k) < du (R i)
      · rw [if_pos (Int32.lt_iff_toInt_lt.mpr (by rw [hs, hz]; omega)), decide_eq_true c1, Bool.true_or, if_pos rfl]
      · rw [if_neg (fun z => by have := Int32.lt_iff_toInt_lt.mp z; rw [hs, hz] at this; omega), decide_eq_false c1, Bool.false_or]
        by_cases c2 : du (R k) = du (R i)
        · rw [if_pos (Int32.toInt_inj.mp (by rw [hs, hz]; omega)), decide_eq_true c2, Bool.true_and]
          by_cases c3 : k < i
          · rw [if_neg (ni_nle c3 (by omega)), decide_eq_true c3, if_pos rfl]
          · rw [if_pos ((ni_le (by omega) (by omega)).mpr (by omega)), decide_eq_false c3, if_neg Bool.false_ne_true, Int32.add_zero]
        · rw [if_neg (fun z => by have := congrArg Int32.toInt z; rw [hs, hz] at this; omega), decide_eq_false c2, Bool.false_and, if_neg Bool.false_ne_true, Int32.add_zero])
    rw [Nat.zero_add] at key
    exact key
  have outer : ∀ d k nn, k + d = m → d < nn → (∃ i, k ≤ i ∧ i < m ∧ rk R m i = p) → ∃ i, i < m ∧ s_X5_atPlace_l4 F w (nI p) nn (-1) (nI k) = some (nI i) ∧ rk R m i = p := by
    intro d
    induction d with
    | zero => intro k nn hk hnn ⟨i, h1, h2, _⟩; omega
    | succ d ih =>
      intro k nn hk hnn hex
      obtain ⟨nn, rfl⟩ : ∃ j, nn = j + 1 := ⟨nn - 1, by omega⟩
      have hkm : k < m := by omega
      rw [e_X5_atPlace_l4, h3, if_neg (ni_nle hkm (by omega)), if_pos rfl, inner k _ hkm]
      unfold s_X5_atPlace_b84
      rw [ni_1]
      have hrl : rk R m k ≤ m := cn_le _ _
      by_cases hrp : rk R m k = p
      · rw [if_pos (by rw [hrp])]
        refine ⟨k, hkm, ?_, hrp⟩
        obtain ⟨nn, rfl⟩ : ∃ j, nn = j + 1 := ⟨nn - 1, by omega⟩
        rw [e_X5_atPlace_l4, h3]
        by_cases hend : nI m ≤ nI (k + 1)
        · rw [if_pos hend]
        · rw [if_neg hend, if_neg (nI_ne (by omega))]
      · rw [if_neg (fun z => hrp ((ni_eq (by omega) (by omega)).mp z))]
        refine ih (k + 1) nn (by omega) (by omega) ?_
        obtain ⟨i, h1, h2, h4⟩ := hex
        refine ⟨i, ?_, h2, h4⟩
        by_cases hik : i = k
        · rw [hik] at h4; exact absurd h4 hrp
        · omega
  obtain ⟨i0, a1, a2⟩ := rk_ex R m p hp
  obtain ⟨i, o1, o2, o3⟩ := outer m 0 F (by omega) (by omega) ⟨i0, Nat.zero_le _, a1, a2⟩
  refine ⟨i, o1, o2, ?_⟩
  rw [← o3]
  exact rk_srt R m i o1
theorem x_report {F : Nat} (hF : 6100 < F) {B T n e h m : Nat} {u : S_X3} {w : S_X5} (q : WB B T n e h m u (a_X5_state w)) {p : Nat} (hp : p < m) :
    ∃ i, i < m ∧ s_X5_atPlace F w (nI p) = some (nI i) ∧ ∀ j, j < 5 → ∃ z, s_X1_part F (a_X3_rep u) (nI p) (nI j) = some z ∧ s_X5_reportPart F w (nI i) (nI j) = some z := by
  obtain ⟨i, i1, i2, i3⟩ := x5_atPlace hF q hp
  refine ⟨i, i1, i2, fun j hj => ⟨_, x1_rpt q.2.2.2.2.2.1.1 i3 hp hj, x5_rep F w (by have := (WB_e q).2.2; omega) hj⟩⟩
