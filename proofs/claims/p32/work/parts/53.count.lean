/-! bits counted -/
theorem nib_and {a b : Nat} (A B : Nat) (ha : a < 16) (hb : b < 16) : (a + 16 * A) &&& (b + 16 * B) = (a &&& b) + 16 * (A &&& B) := by
  have hab : a &&& b < 2 ^ 4 := Nat.lt_of_le_of_lt Nat.and_le_left ha
  have e1 : a + 16 * A = 2 ^ 4 * A + a := by omega
  have e2 : b + 16 * B = 2 ^ 4 * B + b := by omega
  have e3 : (a &&& b) + 16 * (A &&& B) = 2 ^ 4 * (A &&& B) + (a &&& b) := by omega
  rw [e1, e2, e3]
  apply Nat.eq_of_testBit_eq
  intro i
  rw [Nat.testBit_and, Nat.testBit_two_pow_mul_add A ha, Nat.testBit_two_pow_mul_add B hb, Nat.testBit_two_pow_mul_add (A &&& B) hab]
  by_cases h : i < 4
  · simp only [if_pos h, Nat.testBit_and]
  · simp only [if_neg h, Nat.testBit_and]
def pcF1 (e : Nat) : Nat := e - ((e / 2) &&& 5)
def pcF2 (g : Nat) : Nat := (g &&& 3) + ((g / 4) &&& 3)
def pcN (e : Nat) : Nat := pcF2 (pcF1 e)
def pcM (c : Nat) : Nat → Nat
  | 0 => 0
  | k + 1 => c + 16 * pcM c k
def pcV1 : Nat → Nat → Nat
  | 0, _ => 0
  | k + 1, X => pcF1 (X % 16) + 16 * pcV1 k (X / 16)
def pcV2 : Nat → Nat → Nat
  | 0, _ => 0
  | k + 1, X => pcF2 (X % 16) + 16 * pcV2 k (X / 16)
def pcW : Nat → Nat → Nat
  | 0, _ => 0
  | k + 1, X => pcN (X % 16) + 16 * pcW k (X / 16)
def pcS : Nat → Nat → Nat
  | 0, _ => 0
  | k + 1, X => pcN (X % 16) + pcS k (X / 16)
theorem pc_h5 : ∀ e, e < 16 → ∀ b, b < 2 → (e / 2 + 8 * b) &&& 5 = (e / 2) &&& 5 := by decide
theorem pc_h5l : ∀ e, e < 16 → ((e / 2) &&& 5) ≤ e := by decide
theorem pc_h3 : ∀ e, e < 16 → ∀ b, b < 4 → (e / 4 + 4 * b) &&& 3 = (e / 4) &&& 3 := by decide
theorem pc_f1 : ∀ e, e < 16 → pcF1 e < 16 := by decide
theorem pc_n4 : ∀ e, e < 16 → pcN e ≤ 4 := by decide
theorem pc_st1 : ∀ k X, X < 16 ^ k → ((X / 2) &&& pcM 5 k) ≤ X ∧ X - ((X / 2) &&& pcM 5 k) = pcV1 k X := by
  intro k
  induction k with
  | zero =>
    intro X hX
    have : X = 0 := by omega
    subst this
    exact ⟨Nat.le_refl _, rfl⟩
  | succ k ih =>
    intro X hX
    obtain ⟨e, he⟩ : ∃ e, e = X % 16 := ⟨_, rfl⟩
    obtain ⟨A, hA⟩ : ∃ A, A = X / 16 := ⟨_, rfl⟩
    have he16 : e < 16 := by omega
    have hXe : X = e + 16 * A := by omega
    have hAk : A < 16 ^ k := by
      rw [Nat.pow_succ] at hX
      omega
    obtain ⟨h1, h2⟩ := ih A hAk
    have hx2 : X / 2 = (e / 2 + 8 * (A % 2)) + 16 * (A / 2) := by omega
    have hand : (X / 2) &&& pcM 5 (k + 1) = ((e / 2) &&& 5) + 16 * ((A / 2) &&& pcM 5 k) := by
      rw [hx2]
      show _ &&& (5 + 16 * pcM 5 k) = _
      rw [nib_and _ _ (by omega) (by omega), pc_h5 e he16 (A % 2) (by omega)]
    have hle := pc_h5l e he16
    rw [hand]
    refine ⟨by omega, ?_⟩
    show _ = pcF1 (X % 16) + 16 * pcV1 k (X / 16)
    rw [← he, ← hA, ← h2]
    unfold pcF1
    omega
theorem pc_st2 : ∀ k Y, (Y &&& pcM 3 k) + ((Y / 4) &&& pcM 3 k) = pcV2 k Y := by
  intro k
  induction k with
  | zero => intro Y; rw [show pcM 3 0 = 0 from rfl, Nat.and_zero, Nat.and_zero]; rfl
  | succ k ih =>
    intro Y
    obtain ⟨e, he⟩ : ∃ e, e = Y % 16 := ⟨_, rfl⟩
    obtain ⟨A, hA⟩ : ∃ A, A = Y / 16 := ⟨_, rfl⟩
    have he16 : e < 16 := by omega
    have hYe : Y = e + 16 * A := by omega
    have h4 : Y / 4 = (e / 4 + 4 * (A % 4)) + 16 * (A / 4) := by omega
    show (Y &&& (3 + 16 * pcM 3 k)) + ((Y / 4) &&& (3 + 16 * pcM 3 k)) = pcF2 (Y % 16) + 16 * pcV2 k (Y / 16)
    rw [h4, nib_and _ _ (by omega) (by omega), pc_h3 e he16 (A % 4) (by omega), ← he, ← hA, ← ih A]
    rw [hYe, nib_and _ _ he16 (by omega)]
    unfold pcF2
    omega
theorem pc_w : ∀ k X, pcV2 k (pcV1 k X) = pcW k X := by
  intro k
  induction k with
  | zero => intro X; rfl
  | succ k ih =>
    intro X
    have hf := pc_f1 (X % 16) (by omega)
    show pcF2 ((pcF1 (X % 16) + 16 * pcV1 k (X / 16)) % 16) + 16 * pcV2 k ((pcF1 (X % 16) + 16 * pcV1 k (X / 16)) / 16) = pcN (X % 16) + 16 * pcW k (X / 16)
    rw [show (pcF1 (X % 16) + 16 * pcV1 k (X / 16)) % 16 = pcF1 (X % 16) by omega, show (pcF1 (X % 16) + 16 * pcV1 k (X / 16)) / 16 = pcV1 k (X / 16) by omega, ih]
    rfl
theorem pc_wlt : ∀ k X, pcW k X < 16 ^ k := by
  intro k
  induction k with
  | zero => intro X; show 0 < 1; omega
  | succ k ih =>
    intro X
    have h1 := ih (X / 16)
    have h2 := pc_n4 (X % 16) (by omega)
    show pcN (X % 16) + 16 * pcW k (X / 16) < 16 ^ (k + 1)
    rw [Nat.pow_succ]
    omega
theorem pc_bits : ∀ e, e < 16 → cn (fun t => e.testBit t) 4 = pcN e := by decide
theorem pc_cn : ∀ k X, cn (fun t => X.testBit t) (4 * k) = pcS k X := by
  intro k
  induction k with
  | zero => intro X; rfl
  | succ k ih =>
    intro X
    rw [show 4 * (k + 1) = 4 + 4 * k by omega, cn_add]
    have h1 : cn (fun t => X.testBit t) 4 = pcN (X % 16) := by
      rw [← pc_bits (X % 16) (by omega)]
      refine cn_congr 4 fun t ht => ?_
      rw [show 16 = 2 ^ 4 from rfl, Nat.testBit_mod_two_pow]
      simp [ht]
    have h2 : cn (fun t => X.testBit (4 + t)) (4 * k) = cn (fun t => (X / 16).testBit t) (4 * k) := by
      refine cn_congr _ fun t ht => ?_
      rw [show 16 = 2 ^ 4 from rfl, Nat.testBit_div_two_pow, Nat.add_comm]
    rw [h1, h2, ih]
    rfl
theorem pcW_s (k X : Nat) : pcW (k + 1) X = pcN (X % 16) + 16 * pcW k (X / 16) := rfl
theorem pcS_s (k X : Nat) : pcS (k + 1) X = pcN (X % 16) + pcS k (X / 16) := rfl
theorem pc_f15 : ∀ x, x < 16 → x &&& 15 = x := by decide
theorem pc_last {p0 p1 p2 p3 p4 p5 p6 p7 : Nat} (h0 : p0 ≤ 4) (h1 : p1 ≤ 4) (h2 : p2 ≤ 4) (h3 : p3 ≤ 4) (h4 : p4 ≤ 4) (h5 : p5 ≤ 4) (h6 : p6 ≤ 4) (h7 : p7 ≤ 4) {W Q : Nat} (hQ : Q = p1 + 16 * (p2 + 16 * (p3 + 16 * (p4 + 16 * (p5 + 16 * (p6 + 16 * p7)))))) (hW : W = p0 + 16 * Q) :
    ((W + W / 16) &&& 252645135) = (p0 + p1) + 16 * (16 * ((p2 + p3) + 16 * (16 * ((p4 + p5) + 16 * (16 * (p6 + p7)))))) := by
  have hd : W / 16 = Q := by omega
  have e : W + Q = (p0 + p1) + 16 * ((p1 + p2) + 16 * ((p2 + p3) + 16 * ((p3 + p4) + 16 * ((p4 + p5) + 16 * ((p5 + p6) + 16 * ((p6 + p7) + 16 * (p7 + 16 * 0))))))) := by omega
  have em : 252645135 = 15 + 16 * (0 + 16 * (15 + 16 * (0 + 16 * (15 + 16 * (0 + 16 * (15 + 16 * (0 + 16 * 0))))))) := by decide +kernel
  have g0 : p0 + p1 < 16 := by omega
  have g1 : p1 + p2 < 16 := by omega
  have g2 : p2 + p3 < 16 := by omega
  have g3 : p3 + p4 < 16 := by omega
  have g4 : p4 + p5 < 16 := by omega
  have g5 : p5 + p6 < 16 := by omega
  have g6 : p6 + p7 < 16 := by omega
  have g7 : p7 < 16 := by omega
  rw [hd, e, em, nib_and _ _ g0 (by omega), nib_and _ _ g1 (by omega), nib_and _ _ g2 (by omega), nib_and _ _ g3 (by omega), nib_and _ _ g4 (by omega), nib_and _ _ g5 (by omega), nib_and _ _ g6 (by omega), nib_and _ _ g7 (by omega), pc_f15 _ g0, pc_f15 _ g2, pc_f15 _ g4, pc_f15 _ g6]
  simp only [Nat.and_zero, Nat.mul_zero, Nat.zero_add, Nat.add_zero]
theorem pc_fin {s0 s1 s2 s3 v3 v4 : Nat} (h0 : s0 ≤ 8) (h1 : s1 ≤ 8) (h2 : s2 ≤ 8) (h3 : s3 ≤ 8) (e3 : v3 = s0 + 16 * (16 * (s1 + 16 * (16 * (s2 + 16 * (16 * s3)))))) (e4 : v4 = v3 + v3 / 256) : v3 < 200000000 ∧ v4 < 400000000 ∧ (v4 + v4 / 65536) % 64 = s0 + s1 + s2 + s3 := by
  have a1 : v3 / 256 = s1 + 256 * (s2 + 256 * s3) := by omega
  rw [a1] at e4
  have a2 : v4 = (s0 + s1) + 256 * (s1 + s2) + 65536 * ((s2 + s3) + 256 * s3) := by omega
  have a3 : v4 / 65536 = (s2 + s3) + 256 * s3 := by omega
  rw [a3]
  refine ⟨by omega, by omega, ?_⟩
  have a4 : v4 + ((s2 + s3) + 256 * s3) = (s0 + s1 + s2 + s3) + 64 * (4 * (s1 + s2) + 1024 * ((s2 + s3) + 256 * s3) + 4 * s3) := by omega
  rw [a4, Nat.add_mul_mod_self_left]
  exact Nat.mod_eq_of_lt (by omega)
def iN (x : Int32) : Nat := x.toBitVec.toNat
theorem iN_and (a b : Int32) : iN (a &&& b) = iN a &&& iN b := by
  unfold iN; rw [Int32.toBitVec_and, BitVec.toNat_and]
theorem iN_add {a b : Int32} (h : iN a + iN b < 4294967296) : iN (a + b) = iN a + iN b := by
  unfold iN at *
  rw [Int32.toBitVec_add, BitVec.toNat_add, Nat.mod_eq_of_lt h]
theorem iN_sub {a b : Int32} (h : iN b ≤ iN a) : iN (a - b) = iN a - iN b := by
  unfold iN at *
  rw [Int32.toBitVec_sub, BitVec.toNat_sub_of_le h]
theorem iN_lt (a : Int32) : iN a < 4294967296 := a.toBitVec.isLt
theorem iN_us (x : Int32) (k : Nat) (hk : k < 32) : iN (jd_us x (nI k)) = iN x / 2 ^ k := by
  have h1 : ∀ k, k < 32 → ((nI k).toUInt32 &&& Int32.toUInt32 31).toNat % 32 = k := by decide
  show (x.toUInt32 >>> ((nI k).toUInt32 &&& Int32.toUInt32 31)).toNat = _
  rw [UInt32.toNat_shiftRight, h1 k hk, Nat.shiftRight_eq_div_pow]
  rfl
theorem bc_cn (s : Int32) : jd_bc s = nI (cn (mb s) 32) := by
  obtain ⟨X, hX⟩ : ∃ X, X = iN s := ⟨_, rfl⟩
  have hXlt : X < 16 ^ 8 := by rw [hX]; exact iN_lt s
  obtain ⟨a1, a2⟩ := pc_st1 8 X hXlt
  have hm5 : pcM 5 8 = iN 1431655765 := by decide +kernel
  have hm3 : pcM 3 8 = iN 858993459 := by decide +kernel
  rw [hm5] at a1 a2
  obtain ⟨x1, hx1⟩ : ∃ x1, x1 = s - (jd_us s 1 &&& 1431655765) := ⟨_, rfl⟩
  have n1a : iN (jd_us s 1 &&& 1431655765) = (X / 2) &&& iN 1431655765 := by
    rw [iN_and]
    have := iN_us s 1 (by omega)
    rw [show jd_us s 1 = jd_us s (nI 1) from rfl, this, ← hX]
  have n1 : iN x1 = pcV1 8 X := by
    rw [hx1, iN_sub (by rw [n1a, ← hX]; exact a1), n1a, ← hX, a2]
  obtain ⟨x2, hx2⟩ : ∃ x2, x2 = (x1 &&& 858993459) + (jd_us x1 2 &&& 858993459) := ⟨_, rfl⟩
  have n2a : iN (jd_us x1 2) = iN x1 / 4 := by
    have := iN_us x1 2 (by omega)
    rw [show jd_us x1 2 = jd_us x1 (nI 2) from rfl, this]
  have n2b : (iN x1 &&& iN 858993459) + (iN x1 / 4 &&& iN 858993459) = pcW 8 X := by
    rw [← hm3, pc_st2 8 (iN x1), n1, pc_w]
  have hwlt : pcW 8 X < 4294967296 := pc_wlt 8 X
  have n2 : iN x2 = pcW 8 X := by
    have e1 : iN (x1 &&& 858993459) = iN x1 &&& iN 858993459 := iN_and _ _
    have e2 : iN (jd_us x1 2 &&& 858993459) = iN x1 / 4 &&& iN 858993459 := by rw [iN_and, n2a]
    rw [hx2, iN_add (by rw [e1, e2, n2b]; exact hwlt), e1, e2, n2b]
  have hcn : cn (mb s) 32 = pcS 8 X := by
    rw [← pc_cn 8 X, hX]
    refine cn_congr 32 fun t ht => ?_
    rfl
  obtain ⟨p0, hp0⟩ : ∃ p, p = pcN (X % 16) := ⟨_, rfl⟩
  obtain ⟨p1, hp1⟩ : ∃ p, p = pcN (X / 16 % 16) := ⟨_, rfl⟩
  obtain ⟨p2, hp2⟩ : ∃ p, p = pcN (X / 16 / 16 % 16) := ⟨_, rfl⟩
  obtain ⟨p3, hp3⟩ : ∃ p, p = pcN (X / 16 / 16 / 16 % 16) := ⟨_, rfl⟩
  obtain ⟨p4, hp4⟩ : ∃ p, p = pcN (X / 16 / 16 / 16 / 16 % 16) := ⟨_, rfl⟩
  obtain ⟨p5, hp5⟩ : ∃ p, p = pcN (X / 16 / 16 / 16 / 16 / 16 % 16) := ⟨_, rfl⟩
  obtain ⟨p6, hp6⟩ : ∃ p, p = pcN (X / 16 / 16 / 16 / 16 / 16 / 16 % 16) := ⟨_, rfl⟩
  obtain ⟨p7, hp7⟩ : ∃ p, p = pcN (X / 16 / 16 / 16 / 16 / 16 / 16 / 16 % 16) := ⟨_, rfl⟩
  have hb : ∀ y, pcN (y % 16) ≤ 4 := fun y => pc_n4 _ (by omega)
  have b0 : p0 ≤ 4 := by rw [hp0]; exact hb _
  have b1 : p1 ≤ 4 := by rw [hp1]; exact hb _
  have b2 : p2 ≤ 4 := by rw [hp2]; exact hb _
  have b3 : p3 ≤ 4 := by rw [hp3]; exact hb _
  have b4 : p4 ≤ 4 := by rw [hp4]; exact hb _
  have b5 : p5 ≤ 4 := by rw [hp5]; exact hb _
  have b6 : p6 ≤ 4 := by rw [hp6]; exact hb _
  have b7 : p7 ≤ 4 := by rw [hp7]; exact hb _
  have hW : iN x2 = p0 + 16 * (p1 + 16 * (p2 + 16 * (p3 + 16 * (p4 + 16 * (p5 + 16 * (p6 + 16 * p7)))))) := by
    rw [n2, hp0, hp1, hp2, hp3, hp4, hp5, hp6, hp7, pcW_s 7, pcW_s 6, pcW_s 5, pcW_s 4, pcW_s 3, pcW_s 2, pcW_s 1, pcW_s 0, show ∀ y, pcW 0 y = 0 from fun _ => rfl, Nat.mul_zero, Nat.add_zero]
  have hS : pcS 8 X = p0 + (p1 + (p2 + (p3 + (p4 + (p5 + (p6 + p7)))))) := by
    rw [hp0, hp1, hp2, hp3, hp4, hp5, hp6, hp7, pcS_s 7, pcS_s 6, pcS_s 5, pcS_s 4, pcS_s 3, pcS_s 2, pcS_s 1, pcS_s 0, show ∀ y, pcS 0 y = 0 from fun _ => rfl, Nat.add_zero]
  have l3 := pc_last b0 b1 b2 b3 b4 b5 b6 b7 rfl hW
  have hwl : iN x2 < 2000000000 := by rw [hW]; omega
  clear hp0 hp1 hp2 hp3 hp4 hp5 hp6 hp7 hb hW n2 n2b n1 n1a n2a a1 a2 hXlt hwlt
  obtain ⟨x3, hx3⟩ : ∃ x3, x3 = (x2 + jd_us x2 4) &&& 252645135 := ⟨_, rfl⟩
  have n3a : iN (jd_us x2 4) = iN x2 / 16 := by
    have := iN_us x2 4 (by omega)
    rw [show jd_us x2 4 = jd_us x2 (nI 4) from rfl, this]
  have n3 : iN x3 = (p0 + p1) + 16 * (16 * ((p2 + p3) + 16 * (16 * ((p4 + p5) + 16 * (16 * (p6 + p7)))))) := by
    rw [hx3, iN_and, iN_add (by rw [n3a]; omega), n3a, show iN 252645135 = 252645135 from by decide +kernel, l3]
  clear l3 hwl
  obtain ⟨c1, c2, c3⟩ := pc_fin (s0 := p0 + p1) (s1 := p2 + p3) (s2 := p4 + p5) (s3 := p6 + p7) (by omega) (by omega) (by omega) (by omega) n3 rfl
  clear n3 b0 b1 b2 b3 b4 b5 b6 b7
  obtain ⟨x4, hx4⟩ : ∃ x4, x4 = x3 + jd_us x3 8 := ⟨_, rfl⟩
  have n4a : iN (jd_us x3 8) = iN x3 / 256 := by
    have := iN_us x3 8 (by omega)
    rw [show jd_us x3 8 = jd_us x3 (nI 8) from rfl, this]
  have n4 : iN x4 = iN x3 + iN x3 / 256 := by
    rw [hx4, iN_add (by rw [n4a]; omega), n4a]
  rw [← n4] at c2 c3
  obtain ⟨x5, hx5⟩ : ∃ x5, x5 = x4 + jd_us x4 16 := ⟨_, rfl⟩
  have n5a : iN (jd_us x4 16) = iN x4 / 65536 := by
    have := iN_us x4 16 (by omega)
    rw [show jd_us x4 16 = jd_us x4 (nI 16) from rfl, this]
  have n5 : iN x5 = iN x4 + iN x4 / 65536 := by
    rw [hx5, iN_add (by rw [n5a]; omega), n5a]
  rw [← n5] at c3
  have hbc : jd_bc s = x5 &&& 63 := by
    rw [hx5, hx4, hx3, hx2, hx1]; rfl
  have n6 : iN (x5 &&& 63) = pcS 8 X := by
    rw [iN_and, show iN 63 = 2 ^ 6 - 1 from by decide +kernel, Nat.and_two_pow_sub_one_eq_mod, hS, show 2 ^ 6 = 64 from rfl, c3]
    omega
  have hle : pcS 8 X ≤ 32 := by rw [← hcn]; exact cn_le _ 32
  rw [hbc, hcn]
  apply Int32.toBitVec_inj.mp
  apply BitVec.eq_of_toNat_eq
  have n7 : (nI (pcS 8 X)).toBitVec.toNat = pcS 8 X := by
    show (BitVec.ofNat 32 (pcS 8 X)).toNat = _
    rw [BitVec.toNat_ofNat, Nat.mod_eq_of_lt (by omega)]
  rw [n7]
  exact n6
theorem bc24 {s : Int32} (h : ∀ t, mb s t = true → t < 24) : jd_bc s = nI (cn (mb s) 24) := by
  rw [bc_cn, show 32 = 24 + 8 from rfl, cn_add, cn_zero 8 fun k hk => by
    cases hb : mb s (24 + k) with
    | false => rfl
    | true => have := h _ hb; omega]
  rfl
