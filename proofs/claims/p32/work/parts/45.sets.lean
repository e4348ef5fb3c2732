/-! the sets of a trial, on both sides -/
theorem x5_clear {F : Nat} (hF : 100 < F) (f : Nat → Int32) : s_X5_clear F 24 f = some (fun k => if k < 24 then 0 else f k) := by
  have key := lf_for (fun n k (a : Nat → Int32) => s_X5_clear_l2 F 24 n a (nI k)) 24 (fun a => some a) (fun k a => upd a k 0) (fun k a => ∀ j, a j = if j < k then 0 else f j)
    (fun n a _ => by
      show s_X5_clear_l2 F 24 (n + 1) a (nI 24) = _
      rw [e_X5_clear_l2, if_pos (by decide)])
    (fun n k a hk hp => by
      refine ⟨?_, fun j => ?_⟩
      · rw [e_X5_clear_l2, if_neg (il_nle hk (by decide)), if_pos (ni_lx hk (by decide)), ni_nat (by omega), ni_1]
      · by_cases hj : j = k
        · rw [hj, upd_at, if_pos (by omega)]
        · rw [upd_ne _ _ hj, hp j]
          by_cases h : j < k
          · rw [if_pos h, if_pos (by omega)]
          · rw [if_neg h, if_neg (by omega)])
    24 0 f F rfl (by omega) (fun j => by rw [if_neg (by omega)])
  obtain ⟨r, hr⟩ : ∃ r, r = fr (fun k a => upd a k 0) 0 24 f := ⟨_, rfl⟩
  rw [← hr] at key
  obtain ⟨k1, k2⟩ := key
  have k1' : s_X5_clear F 24 f = some r := k1
  rw [k1', show r = fun k => if k < 24 then 0 else f k from funext k2]
theorem lf_bits {β : Type} (f : Nat → Nat → Int32 → Option β) (N : Nat) (e : Int32 → Option β) (p : Nat → Bool) {n : Nat} (hn : N < n) (hN32 : N ≤ 32) (hN : ∀ n c, f (n + 1) N c = e c) (hS : ∀ n k c, k < N → f (n + 1) k c = f n (k + 1) (if p k then c ||| (1 <<< (nI k &&& 31)) else c)) : ∃ r, f n 0 0 = e r ∧ ∀ t, mb r t = true ↔ t < N ∧ p t = true := by
  have key := lf_for f N e (fun k c => if p k then c ||| (1 <<< (nI k &&& 31)) else c) (fun k c => ∀ t, mb c t = true ↔ t < k ∧ p t = true) (fun n a _ => hN n a) (fun n k c hk hp => by
    refine ⟨hS n k c hk, fun t => ?_⟩
    cases hpk : p k with
    | true =>
      rw [if_pos rfl, mb_set _ (by omega)]
      by_cases htk : t = k
      · rw [if_pos htk, htk]
        exact ⟨fun _ => ⟨by omega, hpk⟩, fun _ => rfl⟩
      · rw [if_neg htk, hp t]
        exact ⟨fun z => ⟨by omega, z.2⟩, fun z => ⟨by omega, z.2⟩⟩
    | false =>
      rw [if_neg Bool.false_ne_true, hp t]
      refine ⟨fun z => ⟨by omega, z.2⟩, fun z => ⟨?_, z.2⟩⟩
      by_cases htk : t = k
      · rw [htk, hpk] at z; cases z.2
      · omega) N 0 0 n (by omega) hn (fun t => by
    rw [mb_0]
    exact ⟨fun z => absurd z Bool.false_ne_true, fun z => absurd z.1 (by omega)⟩)
  exact ⟨_, key.1, key.2⟩
theorem mb_lt32 {s : Int32} {t : Nat} (h : mb s t = true) : t < 32 := by
  by_cases hc : t < 32
  · exact hc
  · rw [mb_big s (by omega)] at h; cases h
theorem WX_hOK {G : Nat → Bool} {B T n e h m : Nat} {u : S_X3} {v : Nat → Int32} (q : WX G B T n e h m u v) : hOK (a_X3_hold u) 24 := by
  intro k hk
  have hn := (WB_e q.1).2.1
  rcases q.2.2.2.1 k hk with z | ⟨t, h1, h2, -⟩
  · exact Or.inl z
  · exact Or.inr ⟨t, by omega, h2⟩
theorem WX_mOK {B T n e h m : Nat} {u : S_X3} {v : Nat → Int32} (q : WX G0 B T n e h m u v) : mOK v n := by
  have hn := (WB_e q.1).2.1
  refine ⟨hn, q.1.1.2.2.2.2.1, fun x hx k hk => ?_⟩
  rw [WH0 q.2 hx hk]
  rcases q.2.2.2.1 (4 + 4 * x + k) (by omega) with z | ⟨t, h1, h2, -⟩
  · exact Or.inl z
  · exact Or.inr ⟨t, by omega, h2⟩
theorem WX_E {B T n e h m : Nat} {u : S_X3} {v : Nat → Int32} (q : WX G0 B T n e h m u v) (x y : Nat) : mG v n x y ↔ hG (a_X3_hold u) (-1) x y := by
  have hn := (WB_e q.1).2.1
  constructor
  · rintro ⟨h1, h2, h3, k, h4, h5⟩
    refine ⟨by omega, ⟨4 + 4 * x + k, by omega, by omega, nI_ne (by omega), ?_⟩, h3⟩
    rw [← WH0 q.2 h1 h4]; exact h5
  · rintro ⟨h1, ⟨k, h2, h3, h4, h5⟩, h6⟩
    have hk : 4 + 4 * x + (k - (4 + 4 * x)) = k := by omega
    have hlv : mb (a_X3_living u) x = true := by
      cases hl : mb (a_X3_living u) x with
      | true => rfl
      | false =>
        have := q.2.2.2.2 x h1 hl (k - (4 + 4 * x)) (by omega)
        rw [hk, h5] at this
        exact absurd this (nI_ne (by omega))
    have hxn : x < n := q.1.2.2.2.1.1 x hlv
    refine ⟨hxn, ?_, h6, k - (4 + 4 * x), by omega, ?_⟩
    · have := WX_lv q.1 hxn
      rw [hlv] at this
      simpa using this
    · rw [WH0 q.2 hxn (by omega), hk]; exact h5
theorem WX_E_live {G : Nat → Bool} {B T n e h m : Nat} {u : S_X3} {v : Nat → Int32} (q : WX G B T n e h m u v) {x y : Nat} (z : hG (a_X3_hold u) (-1) x y) : mb (a_X3_living u) y = true := by
  obtain ⟨h1, ⟨k, h2, h3, h4, h5⟩, h6⟩ := z
  have hn := (WB_e q.1).2.1
  rcases q.2.2.2.1 k (by omega) with z | ⟨t, g1, g2, g3⟩
  · rw [h5] at z; exact absurd z (nI_ne (by omega))
  · rw [g2] at h5
    rw [(ni_eq (by omega) (by omega)).mp h5] at g3
    exact g3
theorem hRe_E {E E' : Nat → Nat → Prop} (h : ∀ x y, E x y ↔ E' x y) {S S' : Nat → Prop} (hS : ∀ x, S x ↔ S' x) (t : Nat) : hRe E S t ↔ hRe E' S' t :=
  ⟨hRe_mono (fun a b z => (h a b).mp z) (fun a z => (hS a).mp z), hRe_mono (fun a b z => (h a b).mpr z) (fun a z => (hS a).mpr z)⟩
theorem hRe_self {E : Nat → Nat → Prop} {s t : Nat} : hRe E (fun x => x = s) t ↔ t = s ∨ hRe E (E s) t := by
  constructor
  · intro z
    refine hRe_least (P := fun t => t = s ∨ hRe E (E s) t) (fun y hy => Or.inl hy) (fun y z hy hz => ?_) z
    rcases hy with hy | hy
    · subst hy; exact Or.inr (hRe_in hz)
    · exact Or.inr (hRe_go hy hz)
  · rintro (z | z)
    · exact hRe_in z
    · exact hRe_least (P := fun t => hRe E (fun x => x = s) t) (fun y hy => hRe_go (hRe_in rfl) hy) (fun y z hy hz => hRe_go hy hz) z
/-- the frame of what the model's trials change -/
def SF (w w' : S_X5) : Prop := a_X5_thrown w' = a_X5_thrown w ∧ a_X5_savedMany w' = a_X5_savedMany w ∧ a_X5_textLength w' = a_X5_textLength w ∧ a_X5_kind w' = a_X5_kind w ∧ a_X5_first w' = a_X5_first w ∧ a_X5_second w' = a_X5_second w ∧ a_X5_held w' = a_X5_held w ∧ a_X5_kept w' = a_X5_kept w ∧ a_X5_saved w' = a_X5_saved w ∧ a_X5_text w' = a_X5_text w
theorem SF.rf (w : S_X5) : SF w w := ⟨rfl, rfl, rfl, rfl, rfl, rfl, rfl, rfl, rfl, rfl⟩
theorem SF.tr {a b c : S_X5} (h1 : SF a b) (h2 : SF b c) : SF a c := by
  obtain ⟨p0, p1, p2, p3, p4, p5, p6, p7, p8, p9⟩ := h1
  obtain ⟨q0, q1, q2, q3, q4, q5, q6, q7, q8, q9⟩ := h2
  exact ⟨q0.trans p0, q1.trans p1, q2.trans p2, q3.trans p3, q4.trans p4, q5.trans p5, q6.trans p6, q7.trans p7, q8.trans p8, q9.trans p9⟩
theorem SF.st (w : S_X5) (v : Nat → Int32) : SF w (m_X5_state v w) := ⟨rfl, rfl, rfl, rfl, rfl, rfl, rfl, rfl, rfl, rfl⟩
theorem SF.se (w : S_X5) (v : Nat → Int32) : SF w (m_X5_isInSet v w) := ⟨rfl, rfl, rfl, rfl, rfl, rfl, rfl, rfl, rfl, rfl⟩
theorem SF.inn (w : S_X5) (v : Nat → Int32) : SF w (m_X5_isInnocent v w) := ⟨rfl, rfl, rfl, rfl, rfl, rfl, rfl, rfl, rfl, rfl⟩
theorem SF.re (w : S_X5) (v : Nat → Int32) : SF w (m_X5_isReached v w) := ⟨rfl, rfl, rfl, rfl, rfl, rfl, rfl, rfl, rfl, rfl⟩
theorem SF.su (w : S_X5) (v : Nat → Int32) : SF w (m_X5_isSuspect v w) := ⟨rfl, rfl, rfl, rfl, rfl, rfl, rfl, rfl, rfl, rfl⟩
/-- the set of a suspect -/
theorem x_set {F : Nat} (hF : 6100 < F) {B T n e h m : Nat} {u : S_X3} {w : S_X5} (q : WX G0 B T n e h m u (a_X5_state w)) {s : Nat} (hl : mb (a_X3_living u) s = true) :
    ∃ r b g, s_X0_reachOf F (a_X3_hold u) (nI s) = some r ∧ s_X1_anyFor F (a_X3_rep u) (r ||| (1 <<< (nI s &&& 31))) = some b ∧ s_X5_findSet F w (nI s) = some (b, m_X5_isInSet g w) ∧ g01 g ∧ (∀ t, t < 24 → (g t = 1 ↔ mb (r ||| (1 <<< (nI s &&& 31))) t = true)) ∧ (∀ t, mb (r ||| (1 <<< (nI s &&& 31))) t = true → mb (a_X3_living u) t = true) := by
  have hn := (WB_e q.1).2.1
  have hsn : s < n := q.1.2.2.2.1.1 s hl
  obtain ⟨r, r1, r2, r3⟩ := x0_reachOf (F := F) (by omega) (WX_hOK q) (x := s) (by omega)
  have hset : ∀ t, mb (r ||| (1 <<< (nI s &&& 31))) t = true ↔ t = s ∨ hFrom (a_X3_hold u) s t := by
    intro t
    rw [mb_set _ (by omega)]
    by_cases hts : t = s
    · rw [if_pos hts]; exact ⟨fun _ => Or.inl hts, fun _ => rfl⟩
    · rw [if_neg hts, r3 t]
      exact ⟨fun z => Or.inr z, fun z => z.resolve_left hts⟩
  have hlive : ∀ t, mb (r ||| (1 <<< (nI s &&& 31))) t = true → mb (a_X3_living u) t = true := by
    intro t z
    rcases (hset t).mp z with z | z
    · rw [z]; exact hl
    · exact hRe_least (P := fun t => mb (a_X3_living u) t = true) (fun y hy => WX_E_live q hy) (fun y z _ hz => WX_E_live q hz) z
  obtain ⟨b, b1, b2⟩ := x1_anyFor (F := F) (by omega) q.1.2.2.2.2.2.1.1 (r ||| (1 <<< (nI s &&& 31)))
  obtain ⟨c0, hc0⟩ : ∃ c : Nat → Int32, c = fun k => if k < 24 then 0 else a_X5_isInSet w k := ⟨_, rfl⟩
  have hclear := x5_clear (F := F) (by omega) (a_X5_isInSet w)
  rw [← hc0] at hclear
  have hc1 : ∀ t, t < 24 → (upd c0 s 1 t = 1 ↔ t = s) ∧ (upd c0 s 1 t = 0 ∨ upd c0 s 1 t = 1) := by
    intro t ht
    by_cases hts : t = s
    · rw [hts, upd_at]; exact ⟨⟨fun _ => rfl, fun _ => rfl⟩, Or.inr rfl⟩
    · have e0 : upd c0 s 1 t = 0 := by rw [upd_ne _ _ hts, hc0]; exact if_pos ht
      rw [e0]; exact ⟨⟨fun z => absurd z (by decide), fun z => absurd z hts⟩, Or.inl rfl⟩
  obtain ⟨g, g1, g2, g3⟩ := sp_all_p6 (F := F) (by omega) (u := m_X5_isInSet (upd c0 s 1) w) (n := n) (WX_mOK q) (fun t ht => (hc1 t ht).2)
  have hg : ∀ t, t < 24 → (g t = 1 ↔ mb (r ||| (1 <<< (nI s &&& 31))) t = true) := by
    intro t ht
    rw [g3 t ht, hset t]
    have := hRe_E (E := mG (a_X5_state w) n) (E' := hG (a_X3_hold u) (-1)) (fun x y => WX_E q x y) (S := fun x => x < 24 ∧ upd c0 s 1 x = 1) (S' := fun x => x = s) (fun x => ⟨fun z => ((hc1 x z.1).1).mp z.2, fun z => ⟨by omega, by rw [z, upd_at]⟩⟩) t
    exact this.trans hRe_self
  obtain ⟨w1, hw1⟩ : ∃ w1, w1 = m_X5_isInSet g w := ⟨_, rfl⟩
  have est : a_X5_state w1 = a_X5_state w := by rw [hw1]
  have ese : a_X5_isInSet w1 = g := by rw [hw1]
  have loop : ∀ d k b0 nn, k + d = m → d < nn → ∃ b', s_X5_findSet_l26 F w1 nn (ev_b b0) (nI k) = some (b', w1) ∧ (b' = true ↔ (b0 = true ∨ ∃ j t, k ≤ j ∧ j < m ∧ t < 24 ∧ rof (RV (a_X5_state w) j) = nI t ∧ mb (r ||| (1 <<< (nI s &&& 31))) t = true)) := by
    have hm := (WB_e q.1).2.2
    have h3 : a_X5_state w1 (3 : Int32).toNatClampNeg = nI m := by rw [est]; exact q.1.1.2.2.2.2.2.2.2.1
    intro d
    induction d with
    | zero =>
      intro k b0 nn hk hnn
      obtain ⟨nn, rfl⟩ : ∃ j, nn = j + 1 := ⟨nn - 1, by omega⟩
      obtain rfl : k = m := by omega
      refine ⟨b0, ?_, ⟨fun z => Or.inl z, fun z => z.elim id fun ⟨j, t, h1, h2, _⟩ => by omega⟩⟩
      rw [e_X5_findSet_l26, h3, if_pos (Int32.le_refl _)]
      cases b0 <;> rfl
    | succ d ih =>
      intro k b0 nn hk hnn
      obtain ⟨nn, rfl⟩ : ∃ j, nn = j + 1 := ⟨nn - 1, by omega⟩
      obtain ⟨t, ht, hof⟩ := q.1.2.2.2.2.2.1.2.2.2 k (by omega)
      have hrep : s_X5_reportPart F w1 (nI k) 1 = some (nI t) := by
        have := x5_rep F w1 (j := k) (p := 1) (by omega) (by omega)
        rw [est, show rpt (RV (a_X5_state w) k) 1 = nI t from hof] at this
        exact this
      rw [e_X5_findSet_l26, h3, if_neg (ni_nle (show k < m by omega) (by omega)), hrep, Option.bind_some, ni_1]
      have nxt : ∀ b1 : Bool, (b1 = true ↔ (b0 = true ∨ mb (r ||| (1 <<< (nI s &&& 31))) t = true)) → ∃ b', s_X5_findSet_l26 F w1 nn (ev_b b1) (nI (k + 1)) = some (b', w1) ∧ (b' = true ↔ (b0 = true ∨ ∃ j t, k ≤ j ∧ j < m ∧ t < 24 ∧ rof (RV (a_X5_state w) j) = nI t ∧ mb (r ||| (1 <<< (nI s &&& 31))) t = true)) := by
        intro b1 hb1
        obtain ⟨b', p1, p2⟩ := ih (k + 1) b1 nn (by omega) (by omega)
        refine ⟨b', p1, ?_⟩
        rw [p2, hb1]
        constructor
        · rintro ((z | z) | ⟨j, t', z1, z2⟩)
          · exact Or.inl z
          · exact Or.inr ⟨k, t, Nat.le_refl _, by omega, by omega, hof, z⟩
          · exact Or.inr ⟨j, t', by omega, z2⟩
        · rintro (z | ⟨j, t', z1, z2, z3, z4, z5⟩)
          · exact Or.inl (Or.inl z)
          · by_cases hjk : j = k
            · rw [hjk, hof] at z4
              have : t = t' := (ni_eq (by omega) (by omega)).mp z4
              rw [← this] at z5
              exact Or.inl (Or.inr z5)
            · exact Or.inr ⟨j, t', by omega, z2, z3, z4, z5⟩
      cases b0 with
      | true =>
        rw [if_neg (by decide)]
        exact nxt true ⟨fun _ => Or.inl rfl, fun _ => rfl⟩
      | false =>
        rw [if_pos ev_bf, if_pos (ni_lx (show t < 24 by omega) (by decide)), ni_nat (by omega), ese]
        by_cases hgt : g t = 1
        · have hin := (hg t (by omega)).mp hgt
          have hlt := hlive t hin
          rw [if_pos hgt, x5_lives F _ (by omega), Option.bind_some, est, WX_lv q.1 ht, hlt, if_pos rfl]
          exact nxt true ⟨fun _ => Or.inr hin, fun _ => rfl⟩
        · rw [if_neg hgt]
          refine nxt false ⟨fun z => absurd z Bool.false_ne_true, fun z => ?_⟩
          rcases z with z | z
          · exact z
          · exact absurd ((hg t (by omega)).mpr z) hgt
  obtain ⟨b', l1, l2⟩ := loop m 0 false F (by omega) (by have := (WB_e q.1).2.2; omega)
  have hbb : b' = b := by
    rw [Bool.eq_iff_iff, l2, b2]
    constructor
    · rintro (z | ⟨j, t, -, z⟩)
      · cases z
      · exact ⟨j, t, z⟩
    · rintro ⟨j, t, z⟩
      exact Or.inr ⟨j, t, Nat.zero_le _, z⟩
  refine ⟨r, b, g, r1, b1, ?_, g2, hg, hlive⟩
  unfold s_X5_findSet
  have g1' : s_X5_spread_p6 F (m_X5_isInSet (upd c0 s 1) w) = some w1 := by rw [g1, hw1]
  rw [hclear, Option.bind_some, if_pos (ni_lx (show s < 24 by omega) (by decide)), ni_nat (by omega), g1', Option.bind_some]
  have l1' : s_X5_findSet_l26 F w1 F 0 0 = some (b', w1) := l1
  rw [l1', hbb, hw1]
