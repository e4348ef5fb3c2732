/-! ticks one after the other, in the class and the engine -/
theorem e_copy {F n : Nat} (hF : 6400 < F) (hn : n ≤ 64) (f g : Nat → Int32) : s_L_copy F n n f g = some (fun k => if k < n then f k else g k) := by
  have key := lf_for (fun nn k (a : Nat → Int32) => s_L_copy_l2 F n n f nn a (nI k)) n (fun a => some a) (fun k a => upd a k (f k)) (fun k a => ∀ j, a j = if j < k then f j else g j)
    (fun nn a _ => by
      rw [e_L_copy_l2, show (Int32.ofNat n : Int32) = nI n from rfl, if_pos (Int32.le_refl _)])
    (fun nn k a hk ha => by
      refine ⟨?_, fun j => ?_⟩
      · rw [e_L_copy_l2, show (Int32.ofNat n : Int32) = nI n from rfl, if_neg (ni_nle hk (by omega)), if_pos (ni_lx hk (by omega)), if_pos (ni_lx hk (by omega)), ni_nat (by omega), ni_1]
      · by_cases hj : j = k
        · rw [hj, upd_at, if_pos (by omega)]
        · rw [upd_ne _ _ hj, ha j]
          by_cases h : j < k
          · rw [if_pos h, if_pos (by omega)]
          · rw [if_neg h, if_neg (by omega)]) n 0 g F (by omega) (by omega) (fun j => by rw [if_neg (by omega)])
  obtain ⟨r, hr⟩ : ∃ r, r = fr (fun k a => upd a k (f k)) 0 n g := ⟨_, rfl⟩
  rw [← hr] at key
  obtain ⟨k1, k2⟩ := key
  have k1' : s_L_copy F n n f g = some r := k1
  rw [k1', show r = fun k => if k < n then f k else g k from funext k2]
theorem EM.cg {m : Nat} {v : Nat → Int32} {E E' : S_XE} (em : EM 6 m v E) (hm : m ≤ 64) (h1 : ∀ k, k < 12 → E'.1 k = E.1 k) (h2 : ∀ k, k < 48 → E'.2.1 k = E.2.1 k) (h3 : ∀ k, k < 28 → E'.2.2.1 k = E.2.2.1 k) (h4 : ∀ k, k < 64 → E'.2.2.2 k = E.2.2.2 k) : EM 6 m v E' := by
  obtain ⟨⟨⟨a0, a1, a2, a3, a4, a5, a6⟩, a7⟩, b, c, d1, d2, d3⟩ := em
  refine ⟨⟨⟨?_, ?_, ?_, ?_, ?_, ?_, ?_⟩, fun i hi => ?_⟩, fun s hs => ?_, ⟨fun k hk => ?_, fun k hk => ?_⟩, fun i hi => ?_, d2, d3⟩
  · rw [h1 _ (by omega)]; exact a0
  · rw [h1 _ (by omega)]; exact a1
  · rw [h1 _ (by omega)]; exact a2
  · rw [h1 _ (by omega)]; exact a3
  · rw [h1 _ (by omega)]; exact a4
  · rw [h1 _ (by omega)]; exact a5
  · rw [h1 _ (by omega)]; exact a6
  · rw [h1 _ (by omega)]; exact a7 i hi
  · rw [h2 (8 * s) (by omega), h2 (8 * s + 1) (by omega), h2 (8 * s + 2) (by omega), h2 (8 * s + 3) (by omega), h2 (8 * s + 4) (by omega), h2 (8 * s + 5) (by omega), h2 (8 * s + 6) (by omega), h2 (8 * s + 7) (by omega)]
    exact b s hs
  · rw [h3 _ (by omega)]; exact c.1 k hk
  · rw [h3 _ (by omega)]; exact c.2 k hk
  · rw [h4 _ (by omega)]; exact d1 i hi
/-- a row of states, tick by tick -/
def CH (F B T n : Nat) (U : Nat → S_X3) (V : Nat → Nat → Int32) (Es : Nat → S_XE) (es hs ms : Nat → Nat) : Prop :=
  (∀ k, k ≤ n → WX G0 B (T + k) 6 (es k) (hs k) (ms k) (U k) (V k) ∧ ND (T + k) (ms k) (V k) ∧ EM 6 (ms k) (V k) (Es k)) ∧
  ∀ k, k < n → (∀ N v1 v2 j, ¬ v1 ≤ nI j → s_X3_passTicks_l7 F v1 v2 (N + 1) (U k) (nI j) = s_X3_passTicks_l7 F v1 v2 N (U (k + 1)) (nI (j + 1))) ∧ s_L_tick F (Es k) = some (Es (k + 1)) ∧ EV (T + k + 1) (U k) (U (k + 1)) ∧ es k ≤ es (k + 1)
def ext {α : Type} (f : Nat → α) (n : Nat) (a : α) (k : Nat) : α := if k ≤ n then f k else a
theorem ext_lo {α : Type} (f : Nat → α) {n : Nat} (a : α) {k : Nat} (h : k ≤ n) : ext f n a k = f k := if_pos h
theorem ext_hi {α : Type} (f : Nat → α) (n : Nat) (a : α) : ext f n a (n + 1) = a := if_neg (by omega)
theorem chain {F : Nat} (hF : 6400 < F) {B T e h m : Nat} (hB : B ≤ 32) {x : S_X3} {v : Nat → Int32} {E : S_XE} (q : WX G0 B T 6 e h m x v) (nd : ND T m v) (em : EM 6 m v E) : ∀ n, T + n ≤ 5600 →
    ∃ U V Es es hs ms, U 0 = x ∧ V 0 = v ∧ Es 0 = E ∧ es 0 = e ∧ hs 0 = h ∧ ms 0 = m ∧ CH F B T n U V Es es hs ms := by
  intro n
  induction n with
  | zero =>
    intro _
    refine ⟨fun _ => x, fun _ => v, fun _ => E, fun _ => e, fun _ => h, fun _ => m, rfl, rfl, rfl, rfl, rfl, rfl, fun k hk => ?_, fun k hk => by omega⟩
    obtain rfl : k = 0 := by omega
    exact ⟨q, nd, em⟩
  | succ n ih =>
    intro hT
    obtain ⟨U, V, Es, es, hs, ms, a1, a2, a3, a4, a5, a6, c1, c2⟩ := ih (by omega)
    obtain ⟨q1, nd1, em1⟩ := c1 n (Nat.le_refl _)
    obtain ⟨e', h', m', u', v', E', k1, k2, k3, k4, k5, k6, k7⟩ := c_tick hF hB q1 em1 (by omega)
    refine ⟨ext U n u', ext V n v', ext Es n E', ext es n e', ext hs n h', ext ms n m', by rw [ext_lo _ _ (by omega), a1], by rw [ext_lo _ _ (by omega), a2], by rw [ext_lo _ _ (by omega), a3], by rw [ext_lo _ _ (by omega), a4], by rw [ext_lo _ _ (by omega), a5], by rw [ext_lo _ _ (by omega), a6], fun k hk => ?_, fun k hk => ?_⟩
    · by_cases hkn : k ≤ n
      · rw [ext_lo _ _ hkn, ext_lo _ _ hkn, ext_lo _ _ hkn, ext_lo _ _ hkn, ext_lo _ _ hkn, ext_lo _ _ hkn]
        exact c1 k hkn
      · obtain rfl : k = n + 1 := by omega
        rw [ext_hi, ext_hi, ext_hi, ext_hi, ext_hi, ext_hi]
        exact ⟨k3, k4, k5⟩
    · by_cases hkn : k < n
      · rw [ext_lo U _ (show k ≤ n by omega), ext_lo U _ (show k + 1 ≤ n by omega), ext_lo Es _ (show k ≤ n by omega), ext_lo Es _ (show k + 1 ≤ n by omega), ext_lo es _ (show k ≤ n by omega), ext_lo es _ (show k + 1 ≤ n by omega)]
        exact c2 k hkn
      · obtain rfl : k = n := by omega
        rw [ext_lo U _ (Nat.le_refl _), ext_lo Es _ (Nat.le_refl _), ext_lo es _ (Nat.le_refl _), ext_hi, ext_hi, ext_hi]
        exact ⟨k1, k2, k7, k6⟩
theorem CH.pass {F B T n : Nat} (hF : 6400 < F) {U : Nat → S_X3} {V : Nat → Nat → Int32} {Es : Nat → S_XE} {es hs ms : Nat → Nat} (q : CH F B T n U V Es es hs ms) {c : Nat} (hc : c ≤ n) (hn : n ≤ 200) : s_X3_passTicks F (U 0) (nI c) = some (nI (es c) - nI (es 0), U c) := by
  have key : ∀ d j N v2, j + d = c → d < N → s_X3_passTicks_l7 F (nI c) v2 N (U j) (nI j) = some (a_X3_ends (U c) - v2, U c) := by
    intro d
    induction d with
    | zero =>
      intro j N v2 hj hN
      obtain ⟨N, rfl⟩ : ∃ k, N = k + 1 := ⟨N - 1, by omega⟩
      obtain rfl : j = c := by omega
      rw [e_X3_passTicks_l7, if_pos (Int32.le_refl _)]
    | succ d ih =>
      intro j N v2 hj hN
      obtain ⟨N, rfl⟩ : ∃ k, N = k + 1 := ⟨N - 1, by omega⟩
      rw [(q.2 j (by omega)).1 N _ v2 j (ni_nle (by omega) (by omega))]
      exact ih (j + 1) N v2 (by omega) (by omega)
  have h1 := key c 0 F (a_X3_ends (U 0)) (by omega) (by omega)
  have h2 : s_X3_passTicks F (U 0) (nI c) = some (a_X3_ends (U c) - a_X3_ends (U 0), U c) := h1
  rw [h2, (q.1 c hc).1.1.1.2.2.2.2.2.2.2.2.1, (q.1 0 (by omega)).1.1.1.2.2.2.2.2.2.2.2.1]
theorem CH.lives {F B T n : Nat} {U : Nat → S_X3} {V : Nat → Nat → Int32} {Es : Nat → S_XE} {es hs ms : Nat → Nat} (q : CH F B T n U V Es es hs ms) {k t : Nat} (hk : k ≤ n) (ht : t < 6) : ((Es k).2.1 (8 * t) == 1) = mb (a_X3_living (U k)) t := by
  obtain ⟨q1, -, em⟩ := q.1 k hk
  exact (EH.of q1 em).1 t ht
theorem CH.dead {F B T n : Nat} {U : Nat → S_X3} {V : Nat → Nat → Int32} {Es : Nat → S_XE} {es hs ms : Nat → Nat} (q : CH F B T n U V Es es hs ms) {t k : Nat} (h : mb (a_X3_living (U k)) t = false) : ∀ d, k + d ≤ n → mb (a_X3_living (U (k + d))) t = false ∧ a_X3_endTimes (U (k + d)) t = a_X3_endTimes (U k) t := by
  intro d
  induction d with
  | zero => intro _; exact ⟨h, rfl⟩
  | succ d ih =>
    intro hd
    obtain ⟨i1, i2⟩ := ih (by omega)
    obtain ⟨j1, j2⟩ := ((q.2 (k + d) (by omega)).2.2.1 t).1 i1
    exact ⟨j1, j2.trans i2⟩
theorem CH.died {F B T n : Nat} {U : Nat → S_X3} {V : Nat → Nat → Int32} {Es : Nat → S_XE} {es hs ms : Nat → Nat} (q : CH F B T n U V Es es hs ms) {t k : Nat} (hk : k < n) (h1 : mb (a_X3_living (U k)) t = true) (h2 : mb (a_X3_living (U (k + 1))) t = false) : mb (a_X3_living (U n)) t = false ∧ a_X3_endTimes (U n) t = nI (T + k + 1) := by
  have e1 := ((q.2 k hk).2.2.1 t).2 h1 h2
  obtain ⟨d1, d2⟩ := q.dead h2 (n - (k + 1)) (by omega)
  rw [show k + 1 + (n - (k + 1)) = n by omega] at d1 d2
  exact ⟨d1, d2.trans e1⟩
/-- two rows of the engine from one start -/
theorem tick_unique {F n : Nat} {A C : Nat → S_XE} (h0 : A 0 = C 0) (hA : ∀ k, k < n → s_L_tick F (A k) = some (A (k + 1))) (hC : ∀ k, k < n → s_L_tick F (C k) = some (C (k + 1))) : ∀ k, k ≤ n → A k = C k := by
  intro k
  induction k with
  | zero => intro _; exact h0
  | succ k ih =>
    intro hk
    have h1 := hA k (by omega)
    rw [ih (by omega), hC k (by omega)] at h1
    exact (Option.some.inj h1).symm
