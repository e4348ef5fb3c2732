/-! who ends first; a suspect is tried, on both sides -/
def hi (p : Nat → Bool) (r : Nat → Int32) : Nat → Option Nat
  | 0 => none
  | k + 1 => if p k then (match hi p r k with
    | none => some k
    | some b => if r b < r k then some k else some b) else hi p r k
theorem hi_congr {p q : Nat → Bool} {r : Nat → Int32} (n : Nat) (h : ∀ k, k < n → p k = q k) : hi p r n = hi q r n := by
  induction n with
  | zero => rfl
  | succ n ih => unfold hi; rw [h n (by omega), ih (fun k hk => h k (by omega))]
theorem hi_more {p : Nat → Bool} {r : Nat → Int32} (n d : Nat) (h : ∀ k, n ≤ k → k < n + d → p k = false) : hi p r (n + d) = hi p r n := by
  induction d with
  | zero => rfl
  | succ d ih =>
    show (if p (n + d) then _ else hi p r (n + d)) = _
    rw [h (n + d) (by omega) (by omega), if_neg Bool.false_ne_true, ih (fun k h1 h2 => h k h1 (by omega))]
theorem hi_some {p : Nat → Bool} {r : Nat → Int32} (n : Nat) : ∀ b, hi p r n = some b → b < n ∧ p b = true := by
  induction n with
  | zero => intro b h; cases h
  | succ n ih =>
    intro b h
    unfold hi at h
    cases hp : p n with
    | false =>
      rw [hp, if_neg Bool.false_ne_true] at h
      have := ih b h
      exact ⟨by omega, this.2⟩
    | true =>
      rw [hp, if_pos rfl] at h
      cases hn : hi p r n with
      | none => rw [hn] at h; cases h; exact ⟨by omega, hp⟩
      | some c =>
        rw [hn] at h
        have hc := ih c hn
        dsimp only at h
        split at h
        · cases h; exact ⟨by omega, hp⟩
        · cases h; exact ⟨by omega, hc.2⟩
theorem hi_none {p : Nat → Bool} {r : Nat → Int32} (n : Nat) : hi p r n = none → ∀ k, k < n → p k = false := by
  induction n with
  | zero => intro _ k hk; omega
  | succ n ih =>
    intro h k hk
    unfold hi at h
    cases hp : p n with
    | false =>
      rw [hp, if_neg Bool.false_ne_true] at h
      by_cases hkn : k = n
      · rw [hkn]; exact hp
      · exact ih h k (by omega)
    | true =>
      rw [hp, if_pos rfl] at h
      cases hn : hi p r n with
      | none => rw [hn] at h; cases h
      | some c =>
        rw [hn] at h
        dsimp only at h
        split at h <;> cases h
def enC (r : Nat → Int32) : Option Nat → Int32 × Int32
  | none => (0, -1)
  | some b => (nI b, r b)
def enM : Option Nat → Int32
  | none => -1
  | some b => nI b
theorem x3_highestOf {F : Nat} (hF : 100 < F) (u : S_X3) (left : Int32) (hr : ∀ t, t < 24 → mb left t = true → ¬ a_X3_ranks u t ≤ -1) : s_X3_highestOf F u left = some (enC (a_X3_ranks u) (hi (mb left) (a_X3_ranks u) 24)).1 := by
  obtain ⟨R, hR⟩ : ∃ R, R = a_X3_ranks u := ⟨_, rfl⟩
  rw [← hR] at hr ⊢
  have key := lf_for (fun n k (a : Int32 × Int32) => s_X3_highestOf_l7 F u left n a.1 a.2 (nI k)) 24 (fun a => some a.1) (fun k _ => enC R (hi (mb left) R (k + 1))) (fun k a => a = enC R (hi (mb left) R k))
    (fun n a _ => by
      show s_X3_highestOf_l7 F u left (n + 1) a.1 a.2 (nI 24) = _
      rw [e_X3_highestOf_l7, if_pos (by decide)])
    (fun n k a hk hp => by
      refine ⟨?_, rfl⟩
      rw [hp, e_X3_highestOf_l7, if_neg (il_nle hk (by decide)), st_in_mb left (by omega), if_pos (ni_lx hk (by decide)), if_pos (ni_lx hk (by decide)), ni_nat (by omega), ni_1, ← hR]
      cases hl : mb left k with
      | false =>
        rw [if_neg Bool.false_ne_true]
        have : hi (mb left) R (k + 1) = hi (mb left) R k := by
          show (if mb left k then _ else _) = _
          rw [hl, if_neg Bool.false_ne_true]
        rw [this]
      | true =>
        rw [if_pos rfl]
        have : hi (mb left) R (k + 1) = (match hi (mb left) R k with | none => some k | some b => if R b < R k then some k else some b) := by
          show (if mb left k then _ else _) = _
          rw [hl, if_pos rfl]
        rw [this]
        cases hh : hi (mb left) R k with
        | none =>
          show (if R k ≤ -1 then _ else _) = _
          rw [if_neg (hr k hk hl)]
          rfl
        | some b =>
          show (if R k ≤ R b then _ else _) = s_X3_highestOf_l7 F u left n (enC R (if R b < R k then some k else some b)).1 (enC R (if R b < R k then some k else some b)).2 (nI (k + 1))
          by_cases hc : R k ≤ R b
          · rw [if_pos hc, if_neg (Int32.not_lt.mpr hc)]
          · rw [if_neg hc, if_pos (Int32.not_le.mp hc)]
            rfl)
    24 0 (0, -1) F rfl (by omega) rfl
  obtain ⟨a, ha⟩ : ∃ a, a = fr (fun k (_ : Int32 × Int32) => enC R (hi (mb left) R (k + 1))) 0 24 (0, -1) := ⟨_, rfl⟩
  rw [← ha] at key
  obtain ⟨k1, k2⟩ := key
  have k1' : s_X3_highestOf F u left = some a.1 := k1
  rw [k1', k2]
theorem x5_nextToEnd {F : Nat} (hF : 100 < F) {B T n e h m : Nat} {u : S_X3} {w : S_X5} (q : WB B T n e h m u (a_X5_state w)) : s_X5_nextToEnd F w = some (enM (hi (fun t => zt w 2 t && mb (a_X3_living u) t) (a_X3_ranks u) n)) := by
  obtain ⟨he, hn, -⟩ := WB_e q
  obtain ⟨p, hp⟩ : ∃ p : Nat → Bool, p = fun t => zt w 2 t && mb (a_X3_living u) t := ⟨_, rfl⟩
  obtain ⟨R, hR⟩ : ∃ R, R = a_X3_ranks u := ⟨_, rfl⟩
  rw [← hp, ← hR]
  have h1 : a_X5_state w (1 : Int32).toNatClampNeg = nI n := q.1.2.2.2.2.1
  have hrank : ∀ t, t < n → s_X5_part F w (nI t) 1 = some (R t) := fun t ht => by
    have h1 := x5_part F w (t := t) (p := 1) (by omega)
    rw [(q.2.2.1.1 t ht).2.1.1, ← hR] at h1
    exact h1
  have key := lf_for (fun nn k (a : Int32) => s_X5_nextToEnd_l4 F w nn a (nI k)) n (fun a => some a) (fun k _ => enM (hi p R (k + 1))) (fun k a => a = enM (hi p R k))
    (fun nn a _ => by rw [e_X5_nextToEnd_l4, h1, if_pos (Int32.le_refl _)])
    (fun nn k a hk ha => by
      refine ⟨?_, rfl⟩
      rw [ha, e_X5_nextToEnd_l4, h1, if_neg (ni_nle hk (by omega)), if_pos (ni_lx (show k < 24 by omega) (by decide)), if_pos (ni_lx (show k < 24 by omega) (by decide)), ni_nat (by omega), x5_lives F _ (by omega), Option.bind_some, WX_lv q hk]
      have hno : p k = false → s_X5_nextToEnd_b46 F (s_X5_nextToEnd_l4 F w nn) w (enM (hi p R k)) (nI k) 0 = s_X5_nextToEnd_l4 F w nn (enM (hi p R (k + 1))) (nI (k + 1)) := by
        intro hpk
        have : hi p R (k + 1) = hi p R k := by
          show (if p k then _ else _) = _
          rw [hpk, if_neg Bool.false_ne_true]
        unfold s_X5_nextToEnd_b46
        rw [if_pos rfl, this, ni_1]
      have hpk : p k = ((a_X5_isInSet w k == 1) && (a_X5_isInnocent w k == 0) && mb (a_X3_living u) k) := by
        rw [hp]
        show ((((2 : Int32) == 2) && (a_X5_isInSet w k == 1) && (a_X5_isInnocent w k == 0)) && mb (a_X3_living u) k) = _
        rw [show ((2 : Int32) == 2) = true from by decide, Bool.true_and]
      by_cases c1 : a_X5_isInSet w k = 1
      · rw [if_pos c1]
        by_cases c2 : a_X5_isInnocent w k = 0
        · rw [if_pos c2]
          cases hl : mb (a_X3_living u) k with
          | false => rw [if_neg Bool.false_ne_true]; exact hno (by rw [hpk, hl, Bool.and_false])
          | true =>
            rw [if_pos rfl]
            have hpt : p k = true := by rw [hpk, hl, c1, c2]; rfl
            have : hi p R (k + 1) = (match hi p R k with | none => some k | some b => if R b < R k then some k else some b) := by
              show (if p k then _ else _) = _
              rw [hpt, if_pos rfl]
            rw [this]
            unfold s_X5_nextToEnd_b46
            rw [if_neg (by decide), ni_1]
            cases hh : hi p R k with
            | none => rfl
            | some b =>
              have hb := (hi_some k b hh).1
              show (if nI b = -1 then _ else (s_X5_part F w (nI k) 1).bind fun y1 => ((s_X5_part F w (nI b) 1).bind fun y2 => (if y1 ≤ y2 then (s_X5_nextToEnd_l4 F w nn (nI b) (nI (k + 1))) else (s_X5_nextToEnd_l4 F w nn (nI k) (nI (k + 1)))))) = s_X5_nextToEnd_l4 F w nn (enM (if R b < R k then some k else some b)) (nI (k + 1))
              rw [if_neg (nI_ne (by omega)), hrank k hk, Option.bind_some, hrank b (by omega), Option.bind_some]
              by_cases hc : R k ≤ R b
              · rw [if_pos hc, if_neg (Int32.not_lt.mpr hc)]
                rfl
              · rw [if_neg hc, if_pos (Int32.not_le.mp hc)]
                rfl
        · rw [if_neg c2]
          exact hno (by rw [hpk, beq_eq_false_iff_ne.mpr c2, Bool.and_false, Bool.false_and])
      · rw [if_neg c1]
        exact hno (by rw [hpk, beq_eq_false_iff_ne.mpr c1, Bool.false_and, Bool.false_and]))
    n 0 (-1) F (by omega) (by omega) rfl
  obtain ⟨a, ha⟩ : ∃ a, a = fr (fun k (_ : Int32) => enM (hi p R (k + 1))) 0 n (-1) := ⟨_, rfl⟩
  rw [← ha] at key
  obtain ⟨k1, k2⟩ := key
  have k1' : s_X5_nextToEnd F w = some a := k1
  rw [k1', k2]
theorem WX_rank {B T n e h m : Nat} {u : S_X3} {v : Nat → Int32} (q : WB B T n e h m u v) {t : Nat} (ht : t < n) : ¬ a_X3_ranks u t ≤ -1 := by
  obtain ⟨r, h1, h2⟩ := (q.2.2.1.1 t ht).2.1.2
  rw [h2, i32_le, ni_int (by omega), i32_m1]
  omega
theorem x_judgeLoop {F : Nat} (hF : 6100 < F) {g : Int32} (w0 : S_X5) (hz : ∀ o, o < 24 → zt w0 2 o = mb g o) : ∀ d c e m u v left nn mm r B T n h, WX (mb g) B T n e h m u v → (∀ t, mb left t = (mb g t && mb (a_X3_living u) t)) → cn (mb left) 24 = d → c + d ≤ 24 → d < nn → d < mm → s_X5_nextToEnd F (m_X5_state v w0) = some r →
    ∃ e' m' u' v', s_X3_judge_l63 F g nn u left (nI c) = some u' ∧ s_X5_tries_l25 F mm (m_X5_state v w0) r = s_X5_tries_b44 F (m_X5_state v' w0) ∧ WX G0 B T n e' h m' u' v' ∧ e ≤ e' ∧ EV T u u' := by
  intro d
  induction d with
  | zero =>
    intro c e m u v left nn mm r B T n h q hleft hd hc hnn hmm hr
    obtain ⟨nn, rfl⟩ : ∃ j, nn = j + 1 := ⟨nn - 1, by omega⟩
    obtain ⟨mm, rfl⟩ : ∃ j, mm = j + 1 := ⟨mm - 1, by omega⟩
    obtain ⟨he, hn, -⟩ := WB_e q.1
    have hl0 : ∀ t, mb left t = false := fun t => by
      cases hb : mb left t with
      | false => rfl
      | true =>
        have h1 : mb (a_X3_living u) t = true := by
          have := hleft t
          rw [hb] at this
          exact (Bool.and_eq_true _ _ ▸ this.symm).2
        have h2 := q.1.2.2.2.1.1 t h1
        have := cn_of0 24 hd t (by omega)
        rw [hb] at this; cases this
    have hleft0 : left = 0 := mb_eq0.mpr fun t _ => hl0 t
    have hdead : ∀ t, mb g t = true → mb (a_X3_living u) t = false := fun t ht => by
      have := hleft t
      rw [hl0 t, ht, Bool.true_and] at this
      exact this.symm
    have hr2 := x5_nextToEnd (F := F) (by omega) (w := m_X5_state v w0) q.1
    rw [hr] at hr2
    have hno : hi (fun t => zt (m_X5_state v w0) 2 t && mb (a_X3_living u) t) (a_X3_ranks u) n = none := by
      cases hh : hi (fun t => zt (m_X5_state v w0) 2 t && mb (a_X3_living u) t) (a_X3_ranks u) n with
      | none => rfl
      | some b =>
        obtain ⟨z1, z2⟩ := hi_some n b hh
        have z3 : (zt w0 2 b && mb (a_X3_living u) b) = true := z2
        rw [hz b (by omega), ← hleft b, hl0 b] at z3
        cases z3
    rw [hno] at hr2
    have hrm : r = -1 := Option.some.inj hr2
    refine ⟨e, m, u, v, ?_, ?_, ⟨q.1, q.2.1, fun o ho k hk => ?_, q.2.2.2⟩, Nat.le_refl _, EV.of rfl rfl⟩
    · rw [e_X3_judge_l63, hleft0]
      by_cases h24 : (24 : Int32) ≤ nI c
      · rw [if_pos h24]
      · rw [if_neg h24, if_pos rfl]
    · rw [e_X5_tries_l25, hrm, if_pos rfl]
    · rcases q.2.2.1 o ho k hk with z | ⟨z1, z2, -⟩
      · exact Or.inl z
      · rw [hdead o z1] at z2; cases z2
  | succ d ih =>
    intro c e m u v left nn mm r B T n h q hleft hd hc hnn hmm hr
    obtain ⟨nn, rfl⟩ : ∃ j, nn = j + 1 := ⟨nn - 1, by omega⟩
    obtain ⟨mm, rfl⟩ : ∃ j, mm = j + 1 := ⟨mm - 1, by omega⟩
    obtain ⟨he, hn, -⟩ := WB_e q.1
    have hll : ∀ t, mb left t = true → mb g t = true ∧ mb (a_X3_living u) t = true := fun t ht => by
      have := hleft t
      rw [ht] at this
      exact Bool.and_eq_true _ _ ▸ this.symm
    have hln : ∀ t, mb left t = true → t < n := fun t ht => q.1.2.2.2.1.1 t (hll t ht).2
    have hr2 := x5_nextToEnd (F := F) (by omega) (w := m_X5_state v w0) q.1
    rw [hr] at hr2
    have hhi : hi (fun t => zt (m_X5_state v w0) 2 t && mb (a_X3_living u) t) (a_X3_ranks u) n = hi (mb left) (a_X3_ranks u) 24 := by
      have e1 := hi_more (p := mb left) (r := a_X3_ranks u) n (24 - n) (fun k h1 h2 => by
        cases hb : mb left k with
        | false => rfl
        | true => have := hln k hb; omega)
      rw [show n + (24 - n) = 24 by omega] at e1
      rw [e1]
      refine hi_congr n fun k hk => ?_
      show (zt w0 2 k && mb (a_X3_living u) k) = _
      rw [hz k (by omega), hleft k]
    rw [hhi] at hr2
    have hcl := x3_highestOf (F := F) (by omega) u left (fun t _ ht => WX_rank q.1 (hln t ht))
    cases hh : hi (mb left) (a_X3_ranks u) 24 with
    | none =>
      have := cn_zero 24 (hi_none 24 hh)
      omega
    | some b =>
      obtain ⟨b1, b2⟩ := hi_some 24 b hh
      obtain ⟨b3, b4⟩ := hll b b2
      have b5 := hln b b2
      rw [hh] at hr2 hcl
      have hrb : r = nI b := Option.some.inj hr2
      have hcl' : s_X3_highestOf F u left = some (nI b) := hcl
      have hln0 : ¬ left = 0 := fun z => by rw [z, mb_0] at b2; cases b2
      obtain ⟨m', u', v', k1, k2, k3, k4, -, k5⟩ := x_ends hF (w := m_X5_state v w0) (Gd := mb g) q b5 b4 (g := g) (how := 2) (Or.inr rfl) (fun o ho => hz o ho) (fun o ho => by
        by_cases hob : o = b
        · rw [hob, b3]; rfl
        · rw [decide_eq_false hob, Bool.or_false]) (Or.inl b3)
      obtain ⟨l', hl'⟩ : ∃ l', l' = left &&& ((1 <<< (nI b &&& 31)) ^^^ (-1)) := ⟨_, rfl⟩
      have hlb : ∀ j, mb l' j = (mb left j && !decide (j = b)) := fun j => by rw [hl']; exact mb_clear _ (by omega) j
      have hcnt := cn_one (p := mb l') (q := mb left) 24 b1 (by rw [hlb b]; simp) b2 (fun k hk hkb => by rw [hlb k, decide_eq_false hkb]; simp)
      have hr3 := x5_nextToEnd (F := F) (by omega) (w := m_X5_state v' w0) k3.1
      obtain ⟨e2, m2, u2, v2, p1, p2, p3, p4, p5⟩ := ih (c + 1) (e + 1) m' u' v' l' nn mm _ B T n h k3 (fun t => by rw [hlb t, k4 t, hleft t, Bool.and_assoc]) (by omega) (by omega) (by omega) (by omega) hr3
      refine ⟨e2, m2, u2, v2, ?_, ?_, p3, by omega, k5.tr p5⟩
      · rw [e_X3_judge_l63, if_neg (il_nle (show c < 24 by omega) (by decide)), if_neg hln0, hcl', Option.bind_some, k1, Option.bind_some, ← hl', ni_1]
        exact p1
      · rw [e_X5_tries_l25, hrb, if_neg (nI_ne (by omega)), k2, Option.bind_some]
        have hr3' : s_X5_nextToEnd F (m_X5_state v' (m_X5_state v w0)) = _ := hr3
        rw [hr3', Option.bind_some]
        exact p2
/-- with nothing due, nothing is heard -/
theorem x3_hearDue_nd {F : Nat} (hF : 6100 < F) {B T n e h m : Nat} {u : S_X3} {v : Nat → Int32} (q : WB B T n e h m u v) (nd : ND T m v) : s_X3_hearDue F u = some u := by
  have hany : s_X1_anyDue F (a_X3_rep u) (a_X3_time u) = some false := by
    cases m with
    | zero => exact x1_anyDue0 q.2.2.2.2.2.1.1 _
    | succ m =>
      obtain ⟨i, hi⟩ := fm_ex (RV v) m
      rw [x1_anyDue q.2.2.2.2.2.1.1 hi, q.1.1, ni_int (by have := q.1.2.2.1; omega)]
      have := nd i hi.1
      rw [decide_eq_false]
      intro hle
      omega
  obtain ⟨F', rfl⟩ : ∃ F', F = F' + 1 := ⟨F - 1, by omega⟩
  have h0 : s_X3_hearDue (F' + 1) u = _ := e_X3_hearDue_l2 (F' + 1) F' u 0
  rw [h0, if_neg (by decide), hany, Option.bind_some, if_neg Bool.false_ne_true]
theorem ND_v {T m : Nat} {v v' : Nat → Int32} (nd : ND T m v) (lo : ∀ k, 377 ≤ k → k < 377 + 5 * m → v' k = v k) : ND T m v' := fun j hj => by rw [RV_v lo hj]; exact nd j hj
theorem x_try {F : Nat} (hF : 6100 < F) {B T n e h m : Nat} {u : S_X3} {w : S_X5} (q : WX G0 B T n e h m u (a_X5_state w)) (nd : ND T m (a_X5_state w)) {s : Nat} (hs : mb (a_X3_suspects u) s = true) :
    ∃ e' h' m' u1 u' w', s_X3_judge F u (nI s) = some u1 ∧ s_X3_hearDue F u1 = some u' ∧ s_X5_tries F w (nI s) = some w' ∧ WX G0 B T n e' h' m' u' (a_X5_state w') ∧ ND T m' (a_X5_state w') ∧ e ≤ e' ∧ SF w w' ∧ a_X5_isSuspect w' = a_X5_isSuspect w ∧ EV T u u' := by
  obtain ⟨he, hn, -⟩ := WB_e q.1
  have hl := q.1.2.2.2.1.2.1 s hs
  have hsn := q.1.2.2.2.1.1 s hl
  obtain ⟨r, b, g, r1, b1, f1, g1, g2, g3⟩ := x_set hF q hl
  obtain ⟨set, hset⟩ : ∃ set, set = r ||| (1 <<< (nI s &&& 31)) := ⟨_, rfl⟩
  rw [← hset] at b1 g2 g3
  cases hb : b with
  | true =>
    rw [hb] at b1 f1
    refine ⟨e, h, m, u, u, m_X5_isInSet g w, ?_, x3_hearDue_nd hF q.1 nd, ?_, q, nd, Nat.le_refl _, SF.se w g, rfl, EV.of rfl rfl⟩
    · unfold s_X3_judge
      rw [r1, Option.bind_some, ← hset, b1, Option.bind_some, if_pos rfl]
    · unfold s_X5_tries
      rw [f1, Option.bind_some, if_pos rfl]
  | false =>
    rw [hb] at b1 f1
    obtain ⟨s', hs'⟩ : ∃ s', s' = a_X3_suspects u &&& ((1 <<< (nI s &&& 31)) ^^^ (-1)) := ⟨_, rfl⟩
    obtain ⟨v2, hv2⟩ : ∃ f, f = upd (a_X5_state w) (17 + 10 * s + 3) 0 := ⟨_, rfl⟩
    obtain ⟨w2, hw2⟩ : ∃ w2, w2 = m_X5_state v2 (m_X5_isInSet g w) := ⟨_, rfl⟩
    obtain ⟨u1, hu1⟩ : ∃ u1, u1 = m_X3_suspects s' u := ⟨_, rfl⟩
    have est : a_X5_state w2 = v2 := by rw [hw2]
    have ese : a_X5_isInSet w2 = g := by rw [hw2]
    have el : a_X3_living u1 = a_X3_living u := by rw [hu1]
    have eh : a_X3_hold u1 = a_X3_hold u := by rw [hu1]
    have qB2 : WB B T n e h m u1 v2 := by
      have := WB_susp q.1 hsn (b := false) (fun z => by cases z) (s' := s') (fun j => by
        rw [hs', mb_clear _ (by omega) j]
        by_cases hj : j = s
        · rw [if_pos hj, decide_eq_true hj]; simp
        · rw [if_neg hj, decide_eq_false hj]; simp)
      rw [hu1, hv2]; exact this
    have qH2 : WH G0 n u1 v2 := by
      have : WH G0 n u v2 := WH_v hn q.2 fun k hk => by rw [hv2, upd_ne _ _ (by omega)]
      rw [hu1]; exact this
    obtain ⟨wr, i, gi, i1, i2, i3, i4, i5⟩ := x_innocent hF (u := u1) (w := w2) (by rw [est]; exact ⟨qB2, qH2⟩) (set := set) (by rw [ese]; exact g2) (by rw [el]; exact g3)
    obtain ⟨gu, hgu⟩ : ∃ gu, gu = set &&& (i ^^^ (-1)) := ⟨_, rfl⟩
    have hgub : ∀ t, t < 32 → mb gu t = (mb set t && !mb i t) := fun t ht => by rw [hgu, mb_and, mb_not _ ht]
    obtain ⟨w3, hw3⟩ : ∃ w3, w3 = m_X5_isInnocent gi w2 := ⟨_, rfl⟩
    have est3 : a_X5_state w3 = v2 := by rw [hw3]; exact est
    have hz : ∀ o, o < 24 → zt w3 2 o = mb gu o := by
      intro o ho
      have e1 : zt w3 2 o = (((2 : Int32) == 2) && (g o == 1) && (gi o == 0)) := by
        rw [hw3]
        show (((2 : Int32) == 2) && (a_X5_isInSet w2 o == 1) && (gi o == 0)) = _
        rw [ese]
      rw [e1, hgub o (by omega), show ((2 : Int32) == 2) = true from by decide, Bool.true_and]
      congr 1
      · rw [Bool.eq_iff_iff, ← g2 o ho]; simp
      · have h5 := i5 o ho
        rcases i4 o ho with z | z
        · rw [z] at h5 ⊢
          cases hi' : mb i o with
          | false => rfl
          | true => exact absurd (h5.mpr hi') (by decide)
        · rw [z] at h5 ⊢
          rw [h5.mp rfl]; rfl
    have q3 : WX (mb gu) B T n e h m u1 v2 := ⟨qB2, qH2.1, fun o ho k hk => Or.inl (WH0 qH2 ho hk), qH2.2.2⟩
    have hgl : ∀ t, mb gu t = (mb gu t && mb (a_X3_living u1) t) := by
      intro t
      cases hb : mb gu t with
      | false => rfl
      | true =>
        rw [hgub t (mb_lt32 hb), Bool.and_eq_true] at hb
        rw [el, g3 t hb.1]; rfl
    have hr := x5_nextToEnd (F := F) (by omega) (w := w3) (u := u1) (by rw [est3]; exact qB2)
    have e3 : m_X5_state v2 w3 = w3 := by rw [← est3]
    obtain ⟨e1, m1, u2, v3, p1, p2, p3, p4, p5⟩ := x_judgeLoop hF (g := gu) w3 hz _ 0 e m u1 v2 gu F F _ B T n h q3 hgl rfl (by have := cn_le (mb gu) 24; omega) (by have := cn_le (mb gu) 24; omega) (by have := cn_le (mb gu) 24; omega) (by rw [e3]; exact hr)
    rw [e3] at p2
    obtain ⟨e2, h2, m2, u3, v4, k1, k2, k3, k4, k5, k6⟩ := x_hearDue hF (w := m_X5_state v3 w3) p3
    refine ⟨e2, h2, m2, u2, u3, m_X5_state v4 (m_X5_state v3 w3), ?_, k1, ?_, k3, k4, by omega, ?_, ?_, (EV.of (by rw [hu1]) (by rw [hu1]) : EV T u u1).tr (p5.tr k6)⟩
    · unfold s_X3_judge
      have p1' : s_X3_judge_l63 F gu F u1 gu 0 = some u2 := p1
      rw [r1, Option.bind_some, ← hset, b1, Option.bind_some, if_neg Bool.false_ne_true, ← hs', ← hu1, i1, Option.bind_some, ← eh, i2, Option.bind_some, ← hgu]
      exact p1'
    · have hsp : s_X5_setPart F (m_X5_isInSet g w) (nI s) 3 0 = some w2 := by
        have h1 := x5_setPart F (m_X5_isInSet g w) (t := s) (p := 3) (by omega) 0
        rw [hw2, hv2]; exact h1
      unfold s_X5_tries
      rw [f1, Option.bind_some, if_neg Bool.false_ne_true, hsp, Option.bind_some, i3, ← hw3, Option.bind_some, hr, Option.bind_some, p2]
      unfold s_X5_tries_b44
      rw [k2, Option.bind_some]
    · have a1 : SF w w2 := by rw [hw2]; exact (SF.se w g).tr (SF.st _ v2)
      have a2 : SF w2 w3 := by rw [hw3]; exact SF.inn w2 gi
      exact ((a1.tr a2).tr (SF.st _ v3)).tr (SF.st _ v4)
    · have a1 : a_X5_isSuspect w2 = a_X5_isSuspect w := by rw [hw2]
      have a2 : a_X5_isSuspect w3 = a_X5_isSuspect w2 := by rw [hw3]
      exact a2.trans a1
