/-! the engine finds the class as it is itself: whole -/
section
variable {F B T e h m : Nat} {u : S_X4} {v : Nat → Int32} {E : S_XE}
theorem bvb (b : Bool) : (if b then (1 : Int32) else 0) = ev_b b := by cases b <;> rfl
set_option maxHeartbeats 1000000 in
theorem e_thing (hF : 6400 < F) (q : KE B T e h m (a_X4_now u) v E) {r : Int32} (hr : s_X0_reached F (a_X3_hold (a_X4_now u)) = some r) {t n : Nat} (ht : t < 6) (v6 v7 v8 v9 : Int32) :
    s_L_same_l22 F 12 48 28 64 u E.1 E.2.1 E.2.2.1 E.2.2.2 r v8 (n + 1) v6 v7 v9 (nI t) = s_L_same_l22 F 12 48 28 64 u E.1 E.2.1 E.2.2.1 E.2.2.2 r v8 n (v6 + E.2.1 (8 * t)) (v7 + E.2.1 (8 * t + 3)) (v9 + (if kW (a_X4_now u) v m E t then 1 else 0)) (nI (t + 1)) := by
  have x2 : 8 * nI t + 2 = nI (8 * t + 2) := ni_8tp t 2
  have x3 : 8 * nI t + 3 = nI (8 * t + 3) := ni_8tp t 3
  have x4 : 8 * nI t + 4 = nI (8 * t + 4) := ni_8tp t 4
  have y2 : nI (8 * t) + 2 = nI (8 * t + 2) := ni_add (8 * t) 2
  have y3 : nI (8 * t) + 3 = nI (8 * t + 3) := ni_add (8 * t) 3
  have y5 : nI (8 * t) + 5 = nI (8 * t + 5) := ni_add (8 * t) 5
  have y6 : nI (8 * t) + 6 = nI (8 * t + 6) := ni_add (8 * t) 6
  have y7 : nI (8 * t) + 7 = nI (8 * t + 7) := ni_add (8 * t) 7
  have i0 : lf_ix (nI (8 * t)) 48 := ni_lx (show 8 * t < 48 by omega) (by decide)
  have i2 : lf_ix (nI (8 * t + 2)) 48 := ni_lx (show 8 * t + 2 < 48 by omega) (by decide)
  have i3 : lf_ix (nI (8 * t + 3)) 48 := ni_lx (show 8 * t + 3 < 48 by omega) (by decide)
  have i4 : lf_ix (nI (8 * t + 4)) 48 := ni_lx (show 8 * t + 4 < 48 by omega) (by decide)
  have i5 : lf_ix (nI (8 * t + 5)) 48 := ni_lx (show 8 * t + 5 < 48 by omega) (by decide)
  have i6 : lf_ix (nI (8 * t + 6)) 48 := ni_lx (show 8 * t + 6 < 48 by omega) (by decide)
  have i7 : lf_ix (nI (8 * t + 7)) 48 := ni_lx (show 8 * t + 7 < 48 by omega) (by decide)
  have n0 : (nI (8 * t)).toNatClampNeg = 8 * t := ni_nat (by omega)
  have n2 : (nI (8 * t + 2)).toNatClampNeg = 8 * t + 2 := ni_nat (by omega)
  have n3 : (nI (8 * t + 3)).toNatClampNeg = 8 * t + 3 := ni_nat (by omega)
  have n4 : (nI (8 * t + 4)).toNatClampNeg = 8 * t + 4 := ni_nat (by omega)
  have n5 : (nI (8 * t + 5)).toNatClampNeg = 8 * t + 5 := ni_nat (by omega)
  have n6 : (nI (8 * t + 6)).toNatClampNeg = 8 * t + 6 := ni_nat (by omega)
  have n7 : (nI (8 * t + 7)).toNatClampNeg = 8 * t + 7 := ni_nat (by omega)
  have c0 : s_X4_thing F u (nI t) 0 = some (E.2.1 (8 * t)) := (k_thing q.th ht (p := 0) (by omega)).trans (k_p0 q ht)
  have c2 : s_X4_thing F u (nI t) 2 = some (E.2.1 (8 * t + 2)) := (k_thing q.th ht (p := 2) (by omega)).trans (k_p2 q ht)
  have c3 : s_X4_thing F u (nI t) 3 = some (kT (a_X4_now u) t) := (k_thing q.th ht (p := 3) (by omega)).trans (k_p3 hF q ht)
  have c4 : s_X4_thing F u (nI t) 4 = some (kU v m t) := (k_thing q.th ht (p := 4) (by omega)).trans (k_p4 q ht)
  have c5 : s_X4_thing F u (nI t) 5 = some (kS v m t) := (k_thing q.th ht (p := 5) (by omega)).trans (k_p5 q ht)
  have c6 : s_X4_thing F u (nI t) 6 = some (E.2.1 (8 * t + 3)) := (k_thing q.th ht (p := 6) (by omega)).trans (k_p6 q ht)
  have c7 : s_X4_thing F u (nI t) 7 = some ((r >>> (nI t &&& 31)) &&& 1) := (k_thing q.th ht (p := 7) (by omega)).trans (k_p7 q ht hr)
  have c9 : s_X4_thing F u (nI t) 9 = some (if mb (a_X3_living (a_X4_now u)) t then -1 else E.2.1 (8 * t + 4)) := (k_thing q.th ht (p := 9) (by omega)).trans (k_p9 q ht)
  have c10 : s_X4_thing F u (nI t) 10 = some (if mb (a_X3_living (a_X4_now u)) t then -1 else E.2.1 (8 * t + 7)) := (k_thing q.th ht (p := 10) (by omega)).trans (k_p10 q ht)
  have c11 : s_X4_thing F u (nI t) 11 = some (E.2.1 (8 * t + 5)) := (k_thing q.th ht (p := 11) (by omega)).trans (k_p11 q ht)
  have c12 : s_X4_thing F u (nI t) 12 = some (E.2.1 (8 * t + 6)) := (k_thing q.th ht (p := 12) (by omega)).trans (k_p12 q ht)
  have lv : s_L_lives F 48 E.2.1 (nI t) = some (mb (a_X3_living (a_X4_now u)) t) := by rw [e_lives F E.2.1 ht, q.eh.1 t ht]
  obtain ⟨k22, hk22⟩ : ∃ k22, k22 = s_L_same_l22 F 12 48 28 64 u E.1 E.2.1 E.2.2.1 E.2.2.2 r v8 n := ⟨_, rfl⟩
  obtain ⟨rg, g1, g2⟩ := e_ring hF q ht r v6 v7 v8 v9 (nI (8 * t)) (kT (a_X4_now u) t) k22
  have hb475 : s_L_same_b475 F 12 48 28 64 k22 u E.1 E.2.1 E.2.2.1 E.2.2.2 r v6 v7 v8 v9 (nI t) (nI (8 * t)) (kT (a_X4_now u) t) = k22 (v6 + E.2.1 (8 * t)) (v7 + E.2.1 (8 * t + 3)) (v9 + (if kW (a_X4_now u) v m E t then 1 else 0)) (nI (t + 1)) := by
    unfold s_L_same_b475 kW
    rw [if_pos i0, y3, if_pos i3, lv, Option.bind_some, y2, if_pos i2, k_sum hF q t, Option.bind_some, n0, n2, n3, ni_1]
    cases mb (a_X3_living (a_X4_now u)) t with
    | false => rw [if_neg Bool.false_ne_true, Bool.false_and, if_neg Bool.false_ne_true]
    | true =>
      rw [if_pos rfl, Bool.true_and]
      by_cases hc : E.2.1 (8 * t + 2) + kS v m t = kT (a_X4_now u) t
      · rw [if_pos hc, decide_eq_true hc, if_neg (by decide)]
      · rw [if_neg hc, decide_eq_false hc, if_pos (by decide)]
  have hb218 : ∀ p, s_L_same_b218 F 12 48 28 64 k22 u E.1 E.2.1 E.2.2.1 E.2.2.2 r v6 v7 v8 v9 (nI t) (nI (8 * t)) (kT (a_X4_now u) t) p p = k22 (v6 + E.2.1 (8 * t)) (v7 + E.2.1 (8 * t + 3)) (v9 + (if kW (a_X4_now u) v m E t then 1 else 0)) (nI (t + 1)) := by
    intro p
    unfold s_L_same_b218
    rw [if_pos rfl, c11, Option.bind_some, y5, if_pos i5, n5, if_pos rfl, c12, Option.bind_some, y6, if_pos i6, n6, if_pos rfl, g2]
    unfold s_L_same_b425
    rw [g1, Option.bind_some, if_pos rfl, e_slotsSame hF q ht, hb475]
  have hb187 : ∀ p, s_L_same_b187 F 12 48 28 64 k22 u E.1 E.2.1 E.2.2.1 E.2.2.2 r v6 v7 v8 v9 (nI t) (nI (8 * t)) (kT (a_X4_now u) t) p p = k22 (v6 + E.2.1 (8 * t)) (v7 + E.2.1 (8 * t + 3)) (v9 + (if kW (a_X4_now u) v m E t then 1 else 0)) (nI (t + 1)) := by
    intro p
    unfold s_L_same_b187
    rw [if_pos rfl, c10, Option.bind_some, lv, Option.bind_some, y7, if_pos i7, n7]
    cases mb (a_X3_living (a_X4_now u)) t with
    | false => rw [if_neg Bool.false_ne_true, if_neg Bool.false_ne_true, hb218]
    | true => rw [if_pos rfl, if_pos rfl, hb218]
  rw [e_L_same_l22, if_neg (il_nle ht (by decide)), k_truth hF q ht, Option.bind_some, c0, Option.bind_some, x2, x3, x4, ni_8t, if_pos i0, n0, if_pos rfl, c2, Option.bind_some, if_pos i2, n2, if_pos rfl, c3, Option.bind_some, if_pos rfl, c4, Option.bind_some, k_under hF q t, Option.bind_some, if_pos rfl, c5, Option.bind_some, k_sum hF q t, Option.bind_some, if_pos rfl, c6, Option.bind_some, if_pos i3, n3, if_pos rfl, c7, Option.bind_some, if_pos rfl, c9, Option.bind_some, lv, Option.bind_some, if_pos i4, n4, ← hk22]
  cases mb (a_X3_living (a_X4_now u)) t with
  | false => rw [if_neg Bool.false_ne_true, if_neg Bool.false_ne_true, hb187]
  | true => rw [if_pos rfl, if_pos rfl, hb187]
theorem fr_ni (p : Nat → Bool) (a k : Nat) : (nI a + (if p k then (1 : Int32) else 0)) = nI (if p k then a + 1 else a) := by
  cases p k with
  | true => rw [if_pos rfl, if_pos rfl, ni_1]
  | false => rw [if_neg Bool.false_ne_true, if_neg Bool.false_ne_true, Int32.add_zero]
theorem e_things (hF : 6400 < F) (q : KE B T e h m (a_X4_now u) v E) {r : Int32} (hr : s_X0_reached F (a_X3_hold (a_X4_now u)) = some r) (v8 : Int32) :
    s_L_same_l22 F 12 48 28 64 u E.1 E.2.1 E.2.2.1 E.2.2.2 r v8 F 0 0 0 0 = s_L_same_l543 F 12 48 28 64 u E.1 E.2.1 E.2.2.1 E.2.2.2 r (nI (cn (mb (a_X3_living (a_X4_now u))) 6)) (nI (cn (mb (a_X3_suspects (a_X4_now u))) 6)) v8 (nI (cn (kW (a_X4_now u) v m E) 6)) F 0 := by
  have key := lf_for (fun n k (a : Nat × Nat × Nat) => s_L_same_l22 F 12 48 28 64 u E.1 E.2.1 E.2.2.1 E.2.2.2 r v8 n (nI a.1) (nI a.2.1) (nI a.2.2) (nI k)) 6 (fun a => s_L_same_l543 F 12 48 28 64 u E.1 E.2.1 E.2.2.1 E.2.2.2 r (nI a.1) (nI a.2.1) v8 (nI a.2.2) F 0) (fun k _ => (cn (mb (a_X3_living (a_X4_now u))) (k + 1), cn (mb (a_X3_suspects (a_X4_now u))) (k + 1), cn (kW (a_X4_now u) v m E) (k + 1))) (fun k a => a = (cn (mb (a_X3_living (a_X4_now u))) k, cn (mb (a_X3_suspects (a_X4_now u))) k, cn (kW (a_X4_now u) v m E) k))
    (fun n a _ => by
      show s_L_same_l22 F 12 48 28 64 u E.1 E.2.1 E.2.2.1 E.2.2.2 r v8 (n + 1) (nI a.1) (nI a.2.1) (nI a.2.2) (nI 6) = _
      rw [e_L_same_l22, if_pos (by decide)])
    (fun n k a hk ha => by
      refine ⟨?_, rfl⟩
      have h1 : E.2.1 (8 * k) = if mb (a_X3_living (a_X4_now u)) k then 1 else 0 := (q.2.1.2.1 k hk).1.trans (q.1.1.2.2.1.1 k hk).1
      have h3 : E.2.1 (8 * k + 3) = if mb (a_X3_suspects (a_X4_now u)) k then 1 else 0 := (q.2.1.2.1 k hk).2.2.2.1.trans (q.1.1.2.2.1.1 k hk).2.2.2.1
      have hc : ∀ p : Nat → Bool, (if p k then cn p k + 1 else cn p k) = cn p (k + 1) := fun p => by
        show _ = cn p k + (if p k then 1 else 0)
        cases p k <;> rfl
      rw [e_thing hF q hr hk, h1, h3, fr_ni, fr_ni, fr_ni, ha]
      dsimp only
      rw [hc, hc, hc]) 6 0 (0, 0, 0) F rfl (by omega) rfl
  obtain ⟨a, ha⟩ : ∃ a, a = fr (fun k (_ : Nat × Nat × Nat) => (cn (mb (a_X3_living (a_X4_now u))) (k + 1), cn (mb (a_X3_suspects (a_X4_now u))) (k + 1), cn (kW (a_X4_now u) v m E) (k + 1))) 0 6 (0, 0, 0) := ⟨_, rfl⟩
  rw [← ha] at key
  obtain ⟨k1, k2⟩ := key
  rw [k2] at k1
  exact k1
theorem e_handsSame (hF : 6400 < F) (q : KE B T e h m (a_X4_now u) v E) (v5 v6 v7 v8 v9 : Int32) : s_L_same_l543 F 12 48 28 64 u E.1 E.2.1 E.2.2.1 E.2.2.2 v5 v6 v7 v8 v9 F 0 = s_L_same_l576 F 12 48 28 64 u E.1 E.2.1 E.2.2.1 E.2.2.2 v5 v6 v7 v9 F v8 0 := by
  have key := (lf_for (fun n k (_ : Unit) => s_L_same_l543 F 12 48 28 64 u E.1 E.2.1 E.2.2.1 E.2.2.2 v5 v6 v7 v8 v9 n (nI k)) 4 (fun _ => s_L_same_l576 F 12 48 28 64 u E.1 E.2.1 E.2.2.1 E.2.2.2 v5 v6 v7 v9 F v8 0) (fun _ a => a) (fun _ _ => True)
    (fun n a _ => by
      show s_L_same_l543 F 12 48 28 64 u E.1 E.2.1 E.2.2.1 E.2.2.2 v5 v6 v7 v8 v9 (n + 1) (nI 4) = _
      rw [e_L_same_l543, if_pos (by decide)])
    (fun n k a hk _ => by
      refine ⟨?_, trivial⟩
      have i1 : 24 + nI k = nI (24 + k) := by rw [show (24 : Int32) = nI 24 from rfl, ni_add]
      rw [e_L_same_l543, if_neg (il_nle hk (by decide)), k_hand q hk, Option.bind_some, i1, if_pos (ni_lx (show 24 + k < 28 by omega) (by decide)), ni_nat (show 24 + k < 2147483648 by omega), if_pos rfl, ni_1]) 4 0 () F rfl (by omega) trivial).1
  exact key
theorem e_holding (hF : 6400 < F) (v5 v6 v7 v9 : Int32) : s_L_same_l576 F 12 48 28 64 u E.1 E.2.1 E.2.2.1 E.2.2.2 v5 v6 v7 v9 F 0 0 = s_L_same_l609 F 12 48 28 64 u E.1 E.2.1 E.2.2.1 E.2.2.2 v5 v6 v7 (nI (cn (fun k => !decide (E.2.2.1 k < 0)) 28)) v9 F 0 := by
  have := lf_cnt (fun n k c => s_L_same_l576 F 12 48 28 64 u E.1 E.2.1 E.2.2.1 E.2.2.2 v5 v6 v7 v9 n c (nI k)) 28 (fun c => s_L_same_l609 F 12 48 28 64 u E.1 E.2.1 E.2.2.1 E.2.2.2 v5 v6 v7 c v9 F 0) (fun k => !decide (E.2.2.1 k < 0)) 0 (n := F) (by omega) (fun n c => by
    rw [e_L_same_l576, if_pos (by decide)]) (fun n k c hk => by
    rw [e_L_same_l576, if_neg (il_nle hk (by decide)), if_pos (ni_lx hk (by decide)), ni_nat (by omega), ni_1, Int32.add_zero]
    by_cases hc : E.2.2.1 k < 0
    · rw [if_pos hc, decide_eq_true hc, if_neg (by decide)]
    · rw [if_neg hc, decide_eq_false hc, if_pos (by decide)])
  rw [Nat.zero_add] at this
  exact this
theorem e_place (hF : 6400 < F) (q : KE B T e h m (a_X4_now u) v E) {i : Nat} (hi : i < m) (v5 v6 v7 v8 v9 : Int32) (k609 : Int32 → Option Bool) :
    s_L_same_l623 F 12 48 28 64 u E.1 E.2.1 E.2.2.1 E.2.2.2 v5 v6 v7 v8 v9 (nI i) k609 F 0 0 = k609 (nI (i + 1)) := by
  have hm := q.m
  have i2 : E.1 (2 : Int32).toNatClampNeg = nI m := q.q2
  have hin : (nI i).toNatClampNeg = i := ni_nat (by omega)
  have key := lf_cnt (fun n k c => s_L_same_l623 F 12 48 28 64 u E.1 E.2.1 E.2.2.1 E.2.2.2 v5 v6 v7 v8 v9 (nI i) k609 n c (nI k)) m (fun c => s_L_same_b660 F 12 48 28 64 k609 u E.1 E.2.1 E.2.2.1 E.2.2.2 v5 v6 v7 v8 v9 (nI i) c) (fun j => decide (E.2.2.2 j < E.2.2.2 i)) 0 (n := F) (by omega) (fun n c => by
    rw [e_L_same_l623, if_pos (by decide), i2, if_pos (Int32.le_refl _)]) (fun n k c hk => by
    have hkn : (nI k).toNatClampNeg = k := ni_nat (by omega)
    rw [e_L_same_l623, if_pos (by decide), i2, if_neg (ni_nle hk (by omega)), if_pos (ni_lx (show k < 64 by omega) (by decide)), if_pos (ni_lx (show i < 64 by omega) (by decide)), ni_1, Int32.add_zero]
    simp only [hin, hkn]
    by_cases hc : E.2.2.2 i ≤ E.2.2.2 k
    · rw [if_pos hc, decide_eq_false (Int32.not_lt.mpr hc), if_neg (by decide)]
    · rw [if_neg hc, decide_eq_true (Int32.not_le.mp hc), if_pos rfl])
  rw [Nat.zero_add, k_rank q hi] at key
  have key' : s_L_same_l623 F 12 48 28 64 u E.1 E.2.1 E.2.2.1 E.2.2.2 v5 v6 v7 v8 v9 (nI i) k609 F 0 0 = _ := key
  rw [key']
  have hpk := q.2.1.2.2.2.1 i hi
  have hix : lf_ix (nI i) 64 := ni_lx (show i < 64 by omega) (by decide)
  have r0 : s_X4_report F u (nI (rk (RV v) m i)) 0 = some (RV v i).1 := k_report q hi (p := 0) (by omega)
  have r1 : s_X4_report F u (nI (rk (RV v) m i)) 1 = some (rof (RV v i)) := k_report q hi (p := 1) (by omega)
  have r2 : s_X4_report F u (nI (rk (RV v) m i)) 2 = some (rby (RV v i)) := k_report q hi (p := 2) (by omega)
  have r3 : s_X4_report F u (nI (rk (RV v) m i)) 3 = some (RV v i).2.2.2.1 := k_report q hi (p := 3) (by omega)
  obtain ⟨b, hb1, hb2⟩ := hpk.by (by omega)
  have hx : rby (RV v i) = 2 * nI (bN b) - 1 := by rw [hb2]; cases b <;> rfl
  have g0 : (RV v i).1 = E.2.2.2 (nI i).toNatClampNeg / 16 - E.2.2.2 (nI i).toNatClampNeg / 16 / 128 * 128 := by rw [hin]; exact (hpk.k (by omega)).symm
  have g1 : rof (RV v i) = E.2.2.2 (nI i).toNatClampNeg / 2 - E.2.2.2 (nI i).toNatClampNeg / 2 / 8 * 8 := by rw [hin]; exact (hpk.t (by omega)).symm
  have g2 : rby (RV v i) = 2 * (E.2.2.2 (nI i).toNatClampNeg - E.2.2.2 (nI i).toNatClampNeg / 2 * 2) - 1 := by rw [hin, hb1]; exact hx
  have g3 : (RV v i).2.2.2.1 = E.2.2.2 (nI i).toNatClampNeg / 2048 := by rw [hin]; exact (hpk.d (by omega)).symm
  unfold s_L_same_b660
  rw [r0, Option.bind_some, if_pos hix, if_pos g0, r1, Option.bind_some, if_pos hix, if_pos g1, r2, Option.bind_some, if_pos hix, if_pos g2, r3, Option.bind_some, if_pos hix, if_pos g3, ni_1]
theorem e_reportsSame (hF : 6400 < F) (q : KE B T e h m (a_X4_now u) v E) (v5 v6 v7 v8 v9 : Int32) : s_L_same_l609 F 12 48 28 64 u E.1 E.2.1 E.2.2.1 E.2.2.2 v5 v6 v7 v8 v9 F 0 = s_L_same_b750 F 12 48 28 64 u E.1 E.2.1 E.2.2.1 E.2.2.2 v5 v6 v7 v8 v9 := by
  have hm := q.m
  have i2 : E.1 (2 : Int32).toNatClampNeg = nI m := q.q2
  have key := (lf_for (fun n k (_ : Unit) => s_L_same_l609 F 12 48 28 64 u E.1 E.2.1 E.2.2.1 E.2.2.2 v5 v6 v7 v8 v9 n (nI k)) m (fun _ => s_L_same_b750 F 12 48 28 64 u E.1 E.2.1 E.2.2.1 E.2.2.2 v5 v6 v7 v8 v9) (fun _ a => a) (fun _ _ => True)
    (fun n a _ => by rw [e_L_same_l609, if_pos (by decide), i2, if_pos (Int32.le_refl _)])
    (fun n k a hk _ => by
      refine ⟨?_, trivial⟩
      rw [e_L_same_l609, if_pos (by decide), i2, if_neg (ni_nle hk (by omega)), e_place hF q hk]) m 0 () F (by omega) (by omega) trivial).1
  exact key
theorem e_same (hF : 6400 < F) (q : KE B T e h m (a_X4_now u) v E) : s_L_same F 12 48 28 64 u E.1 E.2.1 E.2.2.1 E.2.2.2 = some true := by
  obtain ⟨r, r1, r2, r3⟩ := k_reached hF q
  obtain ⟨a, ha⟩ : ∃ a, a = cn (mb (a_X3_living (a_X4_now u))) 6 := ⟨_, rfl⟩
  obtain ⟨b, hb⟩ : ∃ b, b = cn (mb r) 6 := ⟨_, rfl⟩
  have ha6 : a ≤ 6 := by rw [ha]; exact cn_le _ _
  have hb6 : b ≤ 6 := by rw [hb]; exact cn_le _ _
  have t2 : s_X3_total F (a_X4_now u) 2 = some (nI a) := by rw [ha]; exact k_c2 q
  have t3 : s_X3_total F (a_X4_now u) 3 = some (nI b) := by rw [hb]; exact k_c3 q r2 r3
  have c0 : s_X4_count F u 0 = some (E.1 0) := (k_cnt (p := 0) (by omega)).trans (k_c0 q)
  have c2 : s_X4_count F u 2 = some (nI a) := (k_cnt (p := 2) (by omega)).trans t2
  have c3 : s_X4_count F u 3 = some (nI b) := (k_cnt (p := 3) (by omega)).trans t3
  have c4 : s_X4_count F u 4 = some (nI (cn (mb (a_X3_suspects (a_X4_now u))) 6)) := (k_cnt (p := 4) (by omega)).trans (k_c4 q)
  have c5 : s_X4_count F u 5 = some (E.1 2) := (k_cnt (p := 5) (by omega)).trans (k_c5 q)
  have c6 : s_X4_count F u 6 = some (E.1 1) := (k_cnt (p := 6) (by omega)).trans (k_c6 q)
  have c7 : s_X4_count F u 7 = some (E.1 3) := (k_cnt (p := 7) (by omega)).trans (k_c7 q)
  have c8 : s_X4_count F u 8 = some (E.1 4) := (k_cnt (p := 8) (by omega)).trans (k_c8 hF q)
  have c9 : s_X4_count F u 9 = some (E.1 5) := (k_cnt (p := 9) (by omega)).trans (k_c9 q)
  have c10 : s_X4_count F u 10 = some (E.1 6) := (k_cnt (p := 10) (by omega)).trans (k_c10 q)
  have c11 : s_X4_count F u 11 = some (nI (cn (fun k => !decide (E.2.2.1 k < 0)) 28)) := (k_cnt (p := 11) (by omega)).trans (k_c11 hF q)
  have c12 : s_X4_count F u 12 = some (nI (cn (kW (a_X4_now u) v m E) 6)) := (k_cnt (p := 12) (by omega)).trans (k_c12 hF q)
  have hb2 : s_L_bits F r = some (nI b) := by rw [hb]; exact e_bits hF r
  have b773 : ∀ p, Op.cmpValue (FP.dcmp p p) .l = 0 → s_L_same_b773 F 12 48 28 64 u E.1 E.2.1 E.2.2.1 E.2.2.2 r (nI a) (nI (cn (mb (a_X3_suspects (a_X4_now u))) 6)) (nI (cn (fun k => !decide (E.2.2.1 k < 0)) 28)) (nI (cn (kW (a_X4_now u) v m E) 6)) p p = some true := by
    intro p hp
    unfold s_L_same_b773
    rw [if_pos hp, c0, Option.bind_some, if_pos (by decide), i_0, if_pos rfl, c2, Option.bind_some, if_pos rfl, c3, Option.bind_some, hb2, Option.bind_some, if_pos rfl, c4, Option.bind_some, if_pos rfl, c5, Option.bind_some, if_pos (by decide), i_2, if_pos rfl, c6, Option.bind_some, if_pos (by decide), i_1, if_pos rfl, c7, Option.bind_some, if_pos (by decide), i_3, if_pos rfl, c8, Option.bind_some, if_pos (by decide), i_4, if_pos rfl, c9, Option.bind_some, if_pos (by decide), i_5, if_pos rfl, c10, Option.bind_some, if_pos (by decide), i_6, if_pos rfl, c11, Option.bind_some, if_pos rfl, c12, Option.bind_some, if_pos rfl]
  unfold s_L_same
  rw [r1, Option.bind_some, e_things hF q r2, ← ha, e_handsSame hF q, e_holding hF, e_reportsSame hF q]
  unfold s_L_same_b750 s_X4_reachedShare
  rw [t2, Option.bind_some]
  by_cases h0 : a = 0
  · have hz : nI a = 0 := by rw [h0]; rfl
    rw [if_pos hz, Option.bind_some, if_pos hz]
    exact b773 _ k_d0
  · have hz : ¬ nI a = 0 := fun z => h0 ((ni_eq (b := 0) (by omega) (by omega)).mp z)
    obtain ⟨d1, d2⟩ := k_div a (by omega) b (by omega) h0
    rw [if_neg hz, t3, Option.bind_some, if_pos d1, Option.bind_some, if_neg hz, hb2, Option.bind_some, if_pos d1]
    exact b773 _ d2
end
