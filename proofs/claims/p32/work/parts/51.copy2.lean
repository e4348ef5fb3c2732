/-! a world copied -/
def AG (u x : S_X3) : Prop :=
  (a_X3_time x = a_X3_time u ∧ a_X3_things x = a_X3_things u ∧ a_X3_living x = a_X3_living u ∧ a_X3_suspects x = a_X3_suspects u ∧ a_X3_wronged x = a_X3_wronged u ∧ a_X3_ends x = a_X3_ends u ∧ a_X3_slanderFound x = a_X3_slanderFound u) ∧
  (∀ i, i < 5 → a_X3_settings x i = a_X3_settings u i) ∧
  (∀ t, t < 24 → a_X3_ranks x t = a_X3_ranks u t ∧ a_X3_counts x t = a_X3_counts u t ∧ a_X3_came x t = a_X3_came u t ∧ a_X3_endNumbers x t = a_X3_endNumbers u t ∧ a_X3_endTimes x t = a_X3_endTimes u t ∧ a_X3_endKinds x t = a_X3_endKinds u t ∧ a_X3_endOrder x t = a_X3_endOrder u t) ∧
  ∀ k, k < 100 → a_X3_hold x k = a_X3_hold u k
theorem WX_ag {G : Nat → Bool} {B T n e h m : Nat} {u x : S_X3} {v : Nat → Int32} (q : WX G B T n e h m u v) (a : AG u x) (r : RR (a_X3_rep x) h m (RV v)) : WX G B T n e h m x v := by
  obtain ⟨he, hn, -⟩ := WB_e q.1
  obtain ⟨⟨⟨s1, s2, s3, s4, s5, s6, s7, s8, s9, s10, s11, s12, s13, s14⟩, ⟨t1, t2, t3, t4⟩, ⟨hP1, hP2, hP3⟩, ⟨hM1, hM2, hM3, hM4⟩, hE, ⟨hR1, hR2, hR3, hR4⟩, hb⟩, ⟨hH1, hH2, hH3, hH4⟩⟩ := q
  obtain ⟨⟨a1, a2, a3, a4, a5, a6, a7⟩, b1, b2, b3⟩ := a
  refine ⟨⟨⟨a1.trans s1, s2, s3, a2.trans s4, s5, s6, s7, s8, a6.trans s9, s10, ?_, ?_, ?_, s14.trans a7.symm⟩, ⟨fun i hi => (t1 i hi).trans (b1 i hi).symm, fun i hi => ?_, ?_, ?_⟩, ⟨fun t ht => ?_, fun t ht => ?_, fun t h1 h2 => ?_⟩, ⟨?_, ?_, ?_, fun t ht => ?_⟩, fun j hj => (hE j hj).trans (b2 j (by omega)).2.2.2.2.2.2.symm, ⟨r, hR2, hR3, hR4⟩, hb⟩, ⟨fun k hk => (hH1 k hk).trans (b3 k (by omega)).symm, fun o ho k hk => ?_, fun k hk => ?_, fun o ho hl k hk => ?_⟩⟩
  · rw [a3]; exact s11
  · rw [s12]; exact congrArg nI (cn_congr n fun k hk => by rw [(b2 k (by omega)).2.2.2.2.2.1])
  · rw [a5]; exact s13
  · obtain ⟨d, d1, d2⟩ := t2 i hi
    exact ⟨d, d1, (b1 i (by omega)).trans d2⟩
  · rw [b1 3 (by omega)]; exact t3
  · rw [b1 4 (by omega)]; exact t4
  · obtain ⟨c1, c2, c3, c4, c5, c6, -⟩ := b2 t (by omega)
    rw [a3, a4, a5, c1, c2, c3, c4, c5, c6]
    exact hP1 t ht
  · rw [(b2 t ht).2.1]; exact hP2 t ht
  · rw [(b2 t h2).2.1, (b2 t h2).2.2.2.2.2.1]; exact hP3 t h1 h2
  · rw [a3]; exact hM1
  · rw [a3, a4]; exact hM2
  · rw [a3, a5]; exact hM3
  · rw [a3] at ht
    rw [(b2 t (by have := hM1 t ht; omega)).2.2.2.2.2.1]; exact hM4 t ht
  · rw [a3, b3 _ (by omega)]; exact hH2 o ho k hk
  · rw [a3, b3 k hk]; exact hH3 k hk
  · rw [a3] at hl; rw [b3 _ (by omega)]; exact hH4 o ho hl k hk
theorem va_cpy_at {f g : Nat → Int32} {a n k : Nat} (h1 : a ≤ k) (h2 : k < a + n) : va_cpy f g a a n k = f k := by
  unfold va_cpy
  rw [if_pos ⟨h1, h2⟩, show a + (k - a) = k by omega]
theorem x1_copyFrom {F : Nat} (u : S_X1) {r : S_X1} {h m : Nat} {R : Nat → rw5} (q : RR r h m R) : ∃ r', s_X1_copyFrom F u r = some r' ∧ RR r' h m R := by
  obtain ⟨q1, q2, q3, q4, q5, q6, q7⟩ := q
  have e1 : 5 * a_X1_heard r = nI (5 * h) := by rw [q1, show (5 : Int32) = nI 5 from rfl, ni_mul]
  have e2 : 5 * (a_X1_made r - a_X1_heard r) = nI (5 * m) := by rw [q1, q2, ni_sub (by omega), show (5 : Int32) = nI 5 from rfl, ni_mul, show h + m - h = m by omega]
  have n1 : (5 * a_X1_heard r).toNatClampNeg = 5 * h := by rw [e1, ni_nat (by omega)]
  have n2 : (5 * (a_X1_made r - a_X1_heard r)).toNatClampNeg = 5 * m := by rw [e2, ni_nat (by omega)]
  have hc : lf_cp (5 * (a_X1_heard r)) (5 * (a_X1_heard r)) (5 * ((a_X1_made r) - (a_X1_heard r))) 6000 6000 := by
    refine ⟨?_, ?_, ?_, ?_, ?_⟩
    · rw [e1]; exact ni_nneg (by omega)
    · rw [e1]; exact ni_nneg (by omega)
    · rw [e2]; exact ni_nneg (by omega)
    · rw [n1, n2]; omega
    · rw [n1, n2]; omega
  unfold s_X1_copyFrom
  rw [if_pos hc, n1, n2]
  refine ⟨_, rfl, q1, q2, q3, fun j hj => ?_, fun t ht => ?_, fun t ht => ?_, q7⟩
  · rw [q4 j hj]
    refine congrArg some ?_
    show rwA (a_X1_rows r) (5 * (h + j)) = rwA (va_cpy (a_X1_rows r) (a_X1_rows u) (5 * h) (5 * h) (5 * m)) (5 * (h + j))
    unfold rwA
    rw [va_cpy_at (by omega) (by omega), va_cpy_at (by omega) (by omega), va_cpy_at (by omega) (by omega), va_cpy_at (by omega) (by omega), va_cpy_at (by omega) (by omega)]
  · show va_cpy (a_X1_numbers r) (a_X1_numbers u) 0 0 24 t = _
    rw [va_cpy_at (by omega) (by omega)]; exact q5 t ht
  · show va_cpy (a_X1_sums r) (a_X1_sums u) 0 0 24 t = _
    rw [va_cpy_at (by omega) (by omega)]; exact q6 t ht
set_option maxRecDepth 4000 in
theorem x3_copyFrom {F : Nat} (u : S_X3) {G : Nat → Bool} {B T n e h m : Nat} {s : S_X3} {v : Nat → Int32} (q : WX G B T n e h m s v) : ∃ x, s_X3_copyFrom F u s = some x ∧ AG s x ∧ WX G B T n e h m x v := by
  obtain ⟨r', h1, h2⟩ := x1_copyFrom (F := F) (a_X3_rep u) q.1.2.2.2.2.2.1.1
  have key : ∃ x, s_X3_copyFrom F u s = some x ∧ AG s x ∧ a_X3_rep x = r' := by
    unfold s_X3_copyFrom s_X0_copyFrom
    rw [Option.bind_some, h1, Option.bind_some]
    refine ⟨_, rfl, ⟨⟨rfl, rfl, rfl, rfl, rfl, rfl, rfl⟩, fun i hi => ?_, fun t ht => ⟨?_, ?_, ?_, ?_, ?_, ?_, ?_⟩, fun k hk => ?_⟩, rfl⟩
    · show va_cpy (a_X3_settings s) (a_X3_settings u) 0 0 5 i = _
      exact va_cpy_at (by omega) (by omega)
    · show va_cpy (a_X3_ranks s) (a_X3_ranks u) 0 0 24 t = _
      exact va_cpy_at (by omega) (by omega)
    · show va_cpy (a_X3_counts s) (a_X3_counts u) 0 0 24 t = _
      exact va_cpy_at (by omega) (by omega)
    · show va_cpy (a_X3_came s) (a_X3_came u) 0 0 24 t = _
      exact va_cpy_at (by omega) (by omega)
    · show va_cpy (a_X3_endNumbers s) (a_X3_endNumbers u) 0 0 24 t = _
      exact va_cpy_at (by omega) (by omega)
    · show va_cpy (a_X3_endTimes s) (a_X3_endTimes u) 0 0 24 t = _
      exact va_cpy_at (by omega) (by omega)
    · show va_cpy (a_X3_endKinds s) (a_X3_endKinds u) 0 0 24 t = _
      exact va_cpy_at (by omega) (by omega)
    · show va_cpy (a_X3_endOrder s) (a_X3_endOrder u) 0 0 24 t = _
      exact va_cpy_at (by omega) (by omega)
    · show va_cpy (a_X3_hold s) (a_X3_hold u) 0 0 100 k = _
      exact va_cpy_at (by omega) (by omega)
  obtain ⟨x, k1, k2, k3⟩ := key
  exact ⟨x, k1, k2, WX_ag q k2 (by rw [k3]; exact h2)⟩
/-! the model's rows copied -/
def blk (f : Nat → Int32) (a : Nat) : Nat → Int32 := fun k => f (a + k)
theorem x5_copy {F n0 n1 a b m : Nat} (hF : 6400 < F) {f : Nat → Int32} (g : Nat → Int32) (hm : m ≤ 1200) (h3 : f (a + 3) = nI m) (ha : a + 377 + 5 * m ≤ n0) (hb : b + 377 + 5 * m ≤ n1) (hn0 : n0 < 2000000) (hn1 : n1 < 2000000) :
    s_X5_copy F n0 n1 f g (nI a) (nI b) = some (fun k => if b ≤ k ∧ k < b + (377 + 5 * m) then f (a + (k - b)) else g k) := by
  have key := lf_for (fun nn k (c : Nat → Int32) => s_X5_copy_l16 F n0 n1 f (nI a) (nI b) (nI (377 + 5 * m)) nn c (nI k)) (377 + 5 * m) (fun c => some c) (fun k c => upd c (b + k) (f (a + k))) (fun k c => ∀ j, c j = if b ≤ j ∧ j < b + k then f (a + (j - b)) else g j)
    (fun nn c _ => by rw [e_X5_copy_l16, if_pos (Int32.le_refl _)])
    (fun nn k c hk hp => by
      refine ⟨?_, fun j => ?_⟩
      · rw [e_X5_copy_l16, if_neg (ni_nle hk (by omega)), ni_add, ni_add, if_pos (ni_lx (show a + k < n0 by omega) (by omega)), if_pos (ni_lx (show b + k < n1 by omega) (by omega)), ni_nat (by omega), ni_nat (by omega), ni_1]
      · by_cases hj : j = b + k
        · rw [hj, upd_at, if_pos (by omega), show b + k - b = k by omega]
        · rw [upd_ne _ _ hj, hp j]
          by_cases hc : b ≤ j ∧ j < b + k
          · rw [if_pos hc, if_pos (by omega)]
          · rw [if_neg hc, if_neg (by omega)])
    (377 + 5 * m) 0 g F (by omega) (by omega) (fun j => by rw [if_neg (by omega)])
  obtain ⟨c, hc⟩ : ∃ c, c = fr (fun k c => upd c (b + k) (f (a + k))) 0 (377 + 5 * m) g := ⟨_, rfl⟩
  rw [← hc] at key
  obtain ⟨k1, k2⟩ := key
  have i3 : (nI a + 3).toNatClampNeg = a + 3 := by rw [show (3 : Int32) = nI 3 from rfl, ni_add, ni_nat (by omega)]
  have l3 : lf_ix (nI a + 3) n0 := by rw [show (3 : Int32) = nI 3 from rfl, ni_add]; exact ni_lx (show a + 3 < n0 by omega) (by omega)
  unfold s_X5_copy
  rw [if_pos l3, i3, h3, show (377 : Int32) = nI 377 from rfl, show (5 : Int32) = nI 5 from rfl, ni_mul, ni_add]
  have k1' : s_X5_copy_l16 F n0 n1 f (nI a) (nI b) (nI (377 + 5 * m)) F g 0 = some c := k1
  rw [k1', show c = _ from funext k2]
theorem x5_copy_al {F n0 a b m : Nat} (hF : 6400 < F) {f : Nat → Int32} (hm : m ≤ 1200) (h3 : f (a + 3) = nI m) (ha : a + 377 + 5 * m ≤ n0) (hb : b + (377 + 5 * m) ≤ a) (hn0 : n0 < 2000000) :
    s_X5_copy_al F n0 f (nI a) (nI b) = some (fun k => if b ≤ k ∧ k < b + (377 + 5 * m) then f (a + (k - b)) else f k) := by
  have key := lf_for (fun nn k (c : Nat → Int32) => s_X5_copy_al_l16 F n0 (nI a) (nI b) (nI (377 + 5 * m)) nn c (nI k)) (377 + 5 * m) (fun c => some c) (fun k c => upd c (b + k) (c (a + k))) (fun k c => ∀ j, c j = if b ≤ j ∧ j < b + k then f (a + (j - b)) else f j)
    (fun nn c _ => by rw [e_X5_copy_al_l16, if_pos (Int32.le_refl _)])
    (fun nn k c hk hp => by
      refine ⟨?_, fun j => ?_⟩
      · rw [e_X5_copy_al_l16, if_neg (ni_nle hk (by omega)), ni_add, ni_add, if_pos (ni_lx (show a + k < n0 by omega) (by omega)), if_pos (ni_lx (show b + k < n0 by omega) (by omega)), ni_nat (by omega), ni_nat (by omega), ni_1]
      · by_cases hj : j = b + k
        · rw [hj, upd_at, hp, if_neg (by omega), if_pos (by omega), show b + k - b = k by omega]
        · rw [upd_ne _ _ hj, hp j]
          by_cases hc : b ≤ j ∧ j < b + k
          · rw [if_pos hc, if_pos (by omega)]
          · rw [if_neg hc, if_neg (by omega)])
    (377 + 5 * m) 0 f F (by omega) (by omega) (fun j => by rw [if_neg (by omega)])
  obtain ⟨c, hc⟩ : ∃ c, c = fr (fun k c => upd c (b + k) (c (a + k))) 0 (377 + 5 * m) f := ⟨_, rfl⟩
  rw [← hc] at key
  obtain ⟨k1, k2⟩ := key
  have i3 : (nI a + 3).toNatClampNeg = a + 3 := by rw [show (3 : Int32) = nI 3 from rfl, ni_add, ni_nat (by omega)]
  have l3 : lf_ix (nI a + 3) n0 := by rw [show (3 : Int32) = nI 3 from rfl, ni_add]; exact ni_lx (show a + 3 < n0 by omega) (by omega)
  unfold s_X5_copy_al
  rw [if_pos l3, i3, h3, show (377 : Int32) = nI 377 from rfl, show (5 : Int32) = nI 5 from rfl, ni_mul, ni_add]
  have k1' : s_X5_copy_al_l16 F n0 (nI a) (nI b) (nI (377 + 5 * m)) F f 0 = some c := k1
  rw [k1', show c = _ from funext k2]
/-- the relation looks at a state's own length alone -/
theorem WX_blk {G : Nat → Bool} {B T n e h m : Nat} {u : S_X3} {v v' : Nat → Int32} (q : WX G B T n e h m u v) (hv : ∀ k, k < 377 + 5 * m → v' k = v k) : WX G B T n e h m u v' := by
  obtain ⟨he, hn, -⟩ := WB_e q.1
  obtain ⟨⟨hS, hT, hP, hM, hE, hR, hb⟩, hH⟩ := q
  exact ⟨⟨WS_v hS fun k hk => hv k (by omega), WT_v hT fun k h1 h2 => hv k (by omega), WP_v hn hP fun k h1 h2 => hv k (by omega), hM, WE_v (by omega) hE fun k h1 h2 => hv k (by omega), WR_v hR fun k h1 h2 => hv k h2, hb⟩, WH_v hn hH fun k hk => hv k (by omega)⟩
