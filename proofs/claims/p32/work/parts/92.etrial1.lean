/-! a trial in the engine: suspects, waits, rests -/
theorem sh0 : ∀ k, k < 6 → (0 : Int32) <<< (nI k &&& 31) = 0 := by decide
theorem e_suspects {F : Nat} (hF : 6400 < F) {E : S_XE} {s : Int32} (hs : ∀ t, mb s t = true → t < 6) (h3 : ∀ t, t < 6 → E.2.1 (8 * t + 3) = bv s t) : s_L_trial F E = s_L_trial_l39 F s F E 0 := by
  obtain ⟨r, r1, r2⟩ := lf_bits (fun n k c => s_L_trial_l6 F E n c (nI k)) 6 (fun c => s_L_trial_l39 F c F E 0) (mb s) (n := F) (by omega) (by omega) (fun n c => by
    rw [e_L_trial_l6, if_pos (by decide)]) (fun n k c hk => by
    have n3 : (nI (8 * k + 3)).toNatClampNeg = 8 * k + 3 := ni_nat (by omega)
    have e3 : 8 * nI k + 3 = nI (8 * k + 3) := ni_8tp k 3
    have eth : a_XE_th E (8 * k + 3) = bv s k := h3 k hk
    rw [e_L_trial_l6, if_neg (il_nle hk (by decide)), e3, if_pos (ni_lx (show 8 * k + 3 < 48 by omega) (by decide)), n3, eth, ni_1]
    cases hb : mb s k with
    | true => rw [bv_t hb, if_pos rfl]
    | false => rw [bv_f hb, sh0 k hk, or_0, if_neg Bool.false_ne_true])
  have hr : r = s := mb_ext fun t ht => by
    rw [Bool.eq_iff_iff, r2 t]
    exact ⟨fun z => z.2, fun z => ⟨hs t z, z⟩⟩
  have r1' : s_L_trial F E = s_L_trial_l39 F r F E 0 := r1
  rw [r1', hr]
theorem e_waits {F m : Nat} (hF : 6400 < F) (hm : m ≤ 64) {E : S_XE} {R : Nat → rw5} (h2 : E.1 2 = nI m) (hp : ∀ j, j < m → PK 6 (R j) (E.2.2.2 j)) (v4 v5 set : Int32) (k39 : S_XE → Int32 → Option S_XE) :
    ∃ x, s_L_trial_l88 F E v4 v5 set k39 F 0 0 = s_L_trial_b128 F k39 E v4 v5 set x ∧ (x ≤ 0 ↔ ∀ o, o < 6 → mb set o = true → cn (fun j => rof (R j) == nI o) m = 0) := by
  have key := lf_for (fun n k (a : Nat) => s_L_trial_l88 F E v4 v5 set k39 n (nI a) (nI k)) 6 (fun a => s_L_trial_b128 F k39 E v4 v5 set (nI a)) (fun k a => if mb set k then a + cn (fun j => rof (R j) == nI k) m else a) (fun k a => a ≤ 64 * k ∧ (a = 0 ↔ ∀ o, o < k → mb set o = true → cn (fun j => rof (R j) == nI o) m = 0))
    (fun n a _ => by
      show s_L_trial_l88 F E v4 v5 set k39 (n + 1) (nI a) (nI 6) = _
      rw [e_L_trial_l88, if_pos (by decide)])
    (fun n k a hk ha => by
      have hc := cn_le (fun j => rof (R j) == nI k) m
      refine ⟨?_, ?_⟩
      · rw [e_L_trial_l88, if_neg (il_nle hk (by decide)), ni_1]
        cases hb : mb set k with
        | true => rw [if_pos ((bit1 set (by omega)).mpr hb), show s_L_underWay F 12 64 (a_XE_q E) (a_XE_re E) (nI k) = _ from e_underWay hF hm h2 hp (nI k), Option.bind_some, ni_add, if_pos rfl]
        | false => rw [if_neg (fun z => by rw [(bit1 set (by omega)).mp z] at hb; cases hb), Int32.add_zero, if_neg Bool.false_ne_true]
      · cases hb : mb set k with
        | true =>
          rw [if_pos rfl]
          refine ⟨by omega, ?_⟩
          rw [Nat.add_eq_zero_iff, ha.2]
          constructor
          · rintro ⟨z1, z2⟩ o ho hbo
            by_cases hok : o = k
            · rw [hok]; exact z2
            · exact z1 o (by omega) hbo
          · intro z
            exact ⟨fun o ho hbo => z o (by omega) hbo, z k (by omega) hb⟩
        | false =>
          rw [if_neg Bool.false_ne_true]
          refine ⟨by omega, ?_⟩
          rw [ha.2]
          constructor
          · intro z o ho hbo
            by_cases hok : o = k
            · rw [hok, hb] at hbo; cases hbo
            · exact z o (by omega) hbo
          · intro z o ho hbo
            exact z o (by omega) hbo)
    6 0 0 F rfl (by omega) ⟨Nat.zero_le _, ⟨fun _ o ho => by omega, fun _ => rfl⟩⟩
  obtain ⟨a, ha⟩ : ∃ a, a = fr (fun k a => if mb set k then a + cn (fun j => rof (R j) == nI k) m else a) 0 6 0 := ⟨_, rfl⟩
  rw [← ha] at key
  obtain ⟨k1, k2, k3⟩ := key
  refine ⟨nI a, k1, ?_⟩
  rw [← k3]
  constructor
  · intro z
    have := (ni_le (b := 0) (by omega) (by omega)).mp z
    omega
  · intro z
    rw [z]; exact Int32.le_refl _
theorem e_rest {F : Nat} (hF : 6400 < F) (E : S_XE) (v4 v5 set v8 : Int32) (t : Nat) (k39 : S_XE → Int32 → Option S_XE) (k152 : Int32 → Int32 → Option S_XE) (x : Int32) :
    s_L_trial_l173 F E v4 v5 set v8 (nI t) k39 k152 F x 0 = s_L_trial_b218 F k39 k152 E v4 v5 set v8 (nI t) (x - nI (cn (fun k => (E.2.2.1 k == nI t) && mb set (k / 4)) 24)) := by
  have key := (lf_for (fun n k (b : Nat) => s_L_trial_l173 F E v4 v5 set v8 (nI t) k39 k152 n (x - nI b) (nI k)) 24 (fun b => s_L_trial_b218 F k39 k152 E v4 v5 set v8 (nI t) (x - nI b)) (fun k b => if (E.2.2.1 k == nI t) && mb set (k / 4) then b + 1 else b) (fun _ _ => True)
    (fun n b _ => by
      show s_L_trial_l173 F E v4 v5 set v8 (nI t) k39 k152 (n + 1) (x - nI b) (nI 24) = _
      rw [e_L_trial_l173, if_pos (by decide)])
    (fun n k b hk _ => by
      refine ⟨?_, trivial⟩
      have hkn : (nI k).toNatClampNeg = k := ni_nat (by omega)
      rw [e_L_trial_l173, if_neg (il_nle hk (by decide)), ni_d4 k (by omega), if_pos (ni_lx (show k < 28 by omega) (by decide)), ni_1, Int32.sub_zero, Int32.sub_sub, ni_1]
      simp only [hkn]
      cases hb : mb set (k / 4) with
      | true =>
        rw [if_pos ((bit1 set (by omega)).mpr hb), Bool.and_true]
        by_cases hc : E.2.2.1 k = nI t
        · rw [if_pos hc, if_pos (by simpa using hc)]
        · rw [if_neg hc, if_neg (by simpa using hc)]
      | false => rw [if_neg (fun z => by rw [(bit1 set (by omega)).mp z] at hb; cases hb), Bool.and_false, if_neg Bool.false_ne_true]) 24 0 0 F rfl (by omega) trivial).1
  rw [fr_cn0] at key
  have key' : s_L_trial_l173 F E v4 v5 set v8 (nI t) k39 k152 F (x - 0) 0 = _ := key
  rw [Int32.sub_zero] at key'
  exact key'
theorem e_rests {F : Nat} (hF : 6400 < F) (E : S_XE) (v4 v5 set : Int32) (k39 : S_XE → Int32 → Option S_XE) :
    ∃ r, s_L_trial_l152 F E v4 v5 set k39 F 0 0 = s_L_trial_b253 F k39 E v4 v5 set r ∧ ∀ t, mb r t = true ↔ t < 6 ∧ mb set t = true ∧ ¬ E.2.1 (8 * t + 2) - nI (cn (fun k => (E.2.2.1 k == nI t) && mb set (k / 4)) 24) ≤ 0 := by
  obtain ⟨r, r1, r2⟩ := lf_bits (fun n k c => s_L_trial_l152 F E v4 v5 set k39 n c (nI k)) 6 (fun c => s_L_trial_b253 F k39 E v4 v5 set c) (fun t => mb set t && !decide (E.2.1 (8 * t + 2) - nI (cn (fun k => (E.2.2.1 k == nI t) && mb set (k / 4)) 24) ≤ 0)) (n := F) (by omega) (by omega) (fun n c => by
    rw [e_L_trial_l152, if_pos (by decide)]) (fun n k c hk => by
    have n2 : (nI (8 * k + 2)).toNatClampNeg = 8 * k + 2 := ni_nat (by omega)
    have e2 : 8 * nI k + 2 = nI (8 * k + 2) := ni_8tp k 2
    rw [e_L_trial_l152, if_neg (il_nle hk (by decide)), e2, if_pos (ni_lx (show 8 * k + 2 < 48 by omega) (by decide)), n2, e_rest hF]
    unfold s_L_trial_b218
    rw [or_0, ni_1]
    cases hb : mb set k with
    | false => rw [if_neg (fun z => by rw [(bit1 set (by omega)).mp z] at hb; cases hb), Bool.false_and, if_neg Bool.false_ne_true]
    | true =>
      rw [if_pos ((bit1 set (by omega)).mpr hb), Bool.true_and]
      by_cases hc : E.2.1 (8 * k + 2) - nI (cn (fun j => (E.2.2.1 j == nI k) && mb set (j / 4)) 24) ≤ 0
      · rw [if_pos hc, decide_eq_true hc, if_neg (by decide)]
      · rw [if_neg hc, decide_eq_false hc, if_pos (by decide)])
  refine ⟨r, r1, fun t => ?_⟩
  rw [r2 t, Bool.and_eq_true]
  constructor
  · rintro ⟨z1, z2, z3⟩; exact ⟨z1, z2, by simpa using z3⟩
  · rintro ⟨z1, z2, z3⟩; exact ⟨z1, z2, by simpa using z3⟩
/-- the engine's rests and the class's -/
theorem e_withRest {F : Nat} (hF : 6400 < F) {B T e h m : Nat} {u : S_X3} {v : Nat → Int32} {E : S_XE} (q : WX G0 B T 6 e h m u v) (em : EM 6 m v E) (v4 v5 : Int32) {set wr : Int32} (hsl : ∀ t, mb set t = true → mb (a_X3_living u) t = true) (k39 : S_XE → Int32 → Option S_XE) (hwr : s_X3_withRest F u set = some wr) :
    s_L_trial_l152 F E v4 v5 set k39 F 0 0 = s_L_trial_b253 F k39 E v4 v5 set wr ∧ ∀ t, mb wr t = true → t < 6 := by
  obtain ⟨r, r1, r2⟩ := e_rests hF E v4 v5 set k39
  obtain ⟨wr', w1, w2⟩ := x3_withRest (F := F) (by omega) u set
  have eh := EH.of q em
  have hw : wr' = wr := Option.some.inj (w1.symm.trans hwr)
  subst hw
  have hr : r = wr' := mb_ext fun t ht => by
    rw [Bool.eq_iff_iff, r2 t, w2 t]
    have main : t < 6 → (¬ E.2.1 (8 * t + 2) - nI (cn (fun k => (E.2.2.1 k == nI t) && mb set (k / 4)) 24) ≤ 0 ↔ ¬ a_X3_counts u t ≤ nI (cn (fun k => (a_X3_hold u (4 + k) == nI t) && mb set (k / 4)) 96)) := by
      intro ht6
      have ecnt : E.2.1 (8 * t + 2) = a_X3_counts u t := (em.2.1 t ht6).2.2.1.trans (q.1.2.2.1.1 t ht6).2.2.1
      have a1 : cn (fun k => (E.2.2.1 k == nI t) && mb set (k / 4)) 24 = cn (fun k => (a_X3_hold u (4 + k) == nI t) && mb set (k / 4)) 24 := cn_congr 24 fun k hk => by rw [eh.2.1 k hk]
      have a2 : cn (fun k => (a_X3_hold u (4 + k) == nI t) && mb set (k / 4)) 96 = cn (fun k => (a_X3_hold u (4 + k) == nI t) && mb set (k / 4)) 24 + cn (fun k => (a_X3_hold u (4 + (24 + k)) == nI t) && mb set ((24 + k) / 4)) 72 := cn_add (fun k => (a_X3_hold u (4 + k) == nI t) && mb set (k / 4)) 24 72
      have a3 : cn (fun k => (a_X3_hold u (4 + (24 + k)) == nI t) && mb set ((24 + k) / 4)) 72 = 0 := cn_zero 72 fun k hk => by
        have : mb set ((24 + k) / 4) = false := by
          cases hl : mb set ((24 + k) / 4) with
          | false => rfl
          | true => have := eh.2.2.2.2.2 _ (hsl _ hl); omega
        rw [this, Bool.and_false]
      rw [a1, a2, a3, Nat.add_zero, ecnt]
      obtain ⟨c, hc⟩ : ∃ c, c = cn (fun k => (a_X3_hold u (4 + k) == nI t) && mb set (k / 4)) 24 := ⟨_, rfl⟩
      have hcle : c ≤ 24 := by rw [hc]; exact cn_le _ _
      rw [← hc]
      have hcb := q.1.2.2.1.2.1 t (by omega)
      have hh := (WB_e q.1).2.2
      have hsub : (a_X3_counts u t - nI c).toInt = (a_X3_counts u t).toInt - (c : Int) := by
        rw [Int32.toInt_sub, ni_int (by omega)]
        exact Int.bmod_eq_of_le (by omega) (by omega)
      have h0 : (0 : Int32).toInt = 0 := rfl
      rw [i32_le, i32_le, hsub, ni_int (by omega), h0]
      omega
    constructor
    · rintro ⟨z1, z2, z3⟩; exact ⟨by omega, z2, (main z1).mp z3⟩
    · rintro ⟨z1, z2, z3⟩
      have h6 := eh.2.2.2.2.2 t (hsl t z2)
      exact ⟨h6, z2, (main h6).mpr z3⟩
  rw [hr] at r1
  refine ⟨r1, fun t ht => ?_⟩
  exact eh.2.2.2.2.2 t (hsl t ((w2 t).mp ht).2.1)
