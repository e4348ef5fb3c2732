/-! rings, reports, numbers: the class and the engine -/
theorem hFrom6 {B T e h m : Nat} {x : S_X3} {v : Nat → Int32} {E : S_XE} (q : KE B T e h m x v E) {a b : Nat} (z : hFrom (a_X3_hold x) a b) : b < 6 := hRe_least (P := fun t => t < 6) (fun y hy => (q.eh.edge hy).2.1) (fun y z _ hz => (q.eh.edge hz).2.1) z
theorem k_ring {F B T e h m : Nat} (hF : 6400 < F) {u : S_X4} {v : Nat → Int32} {E : S_XE} (q : KE B T e h m (a_X4_now u) v E) {t : Nat} (ht : t < 6) : ∃ r, s_X4_ring F u (nI t) = some r ∧ ∀ o, mb r o = true ↔ hFrom (a_X3_hold (a_X4_now u)) t o ∧ hFrom (a_X3_hold (a_X4_now u)) o t := by
  obtain ⟨f, hf⟩ : ∃ f, f = a_X3_hold (a_X4_now u) := ⟨_, rfl⟩
  have hok : hOK f 24 := by rw [hf]; exact q.eh.hOK
  obtain ⟨r1, a1, a2, a3⟩ := x0_reachOf (F := F) (by omega) hok (x := t) (by omega)
  have key := lf_bits (fun n k c => s_X0_ringOf_l11 F f (nI t) r1 n c (nI k)) 24 (fun c => some c) (fun o => mb r1 o && (match s_X0_reachOf F f (nI o) with | some y => mb y t | none => false)) (n := F) (by omega) (by omega) (fun n c => by
    rw [e_X0_ringOf_l11, if_pos (by decide)]) (fun n k c hk => by
    obtain ⟨r2, b1, -, -⟩ := x0_reachOf (F := F) (by omega) hok (x := k) hk
    rw [e_X0_ringOf_l11, if_neg (il_nle hk (by decide)), st_in_mb r1 (by omega), b1, Option.bind_some, st_in_mb r2 (by omega), ni_1]
    cases mb r1 k with
    | false => rw [if_neg Bool.false_ne_true, Bool.false_and, if_neg Bool.false_ne_true]
    | true =>
      rw [if_pos rfl, Bool.true_and]
      show _ = s_X0_ringOf_l11 F f (nI t) r1 n (if mb r2 t = true then _ else _) (nI (k + 1))
      cases mb r2 t <;> rfl)
  obtain ⟨r, k1, k2⟩ := key
  have k1' : s_X0_ringOf_l11 F f (nI t) r1 F 0 0 = some r := k1
  refine ⟨r, ?_, fun o => ?_⟩
  · unfold s_X4_ring
    rw [c_isThing F q.th, tT_in (by omega) ht, Option.bind_some, if_pos rfl, ← hf]
    unfold s_X0_ringOf
    rw [a1, Option.bind_some, k1', Option.bind_some]
  · rw [k2 o, ← hf]
    constructor
    · rintro ⟨z1, z2⟩
      obtain ⟨r2, b1, -, b3⟩ := x0_reachOf (F := F) (by omega) hok (x := o) z1
      rw [b1, Bool.and_eq_true] at z2
      exact ⟨(a3 o).mp z2.1, (b3 t).mp z2.2⟩
    · rintro ⟨z1, z2⟩
      have h6 : o < 6 := hFrom6 q (by rw [← hf]; exact z1)
      obtain ⟨r2, b1, -, b3⟩ := x0_reachOf (F := F) (by omega) hok (x := o) (by omega)
      refine ⟨by omega, ?_⟩
      rw [b1, Bool.and_eq_true]
      exact ⟨(a3 o).mpr z1, (b3 t).mpr z2⟩
theorem k_rank {B T e h m : Nat} {x : S_X3} {v : Nat → Int32} {E : S_XE} (q : KE B T e h m x v E) {i : Nat} (hi : i < m) : cn (fun j => decide (E.2.2.2 j < E.2.2.2 i)) m = rk (RV v) m i := by
  unfold rk
  refine cn_congr m fun j hj => ?_
  have pj := q.2.1.2.2.2.1 j hj
  have pi := q.2.1.2.2.2.1 i hi
  rcases Nat.lt_trichotomy j i with z | z | z
  · have h1 := (PK.lt (by omega) pj pi (q.2.1.2.2.2.2.1 j i z hi)).2
    rw [decide_eq_true z, Bool.and_true, Bool.eq_iff_iff, Bool.or_eq_true, decide_eq_true_eq, decide_eq_true_eq, decide_eq_true_eq, h1]
    omega
  · subst z
    rw [decide_eq_false (show ¬ E.2.2.2 j < E.2.2.2 j from fun z => by have := Int32.lt_iff_toInt_lt.mp z; omega), decide_eq_false (by omega : ¬ j < j), Bool.and_false, Bool.or_false, decide_eq_false (by omega)]
  · have h1 := (PK.lt (by omega) pi pj (q.2.1.2.2.2.2.1 i j z hj)).1
    rw [decide_eq_false (by omega : ¬ j < i), Bool.and_false, Bool.or_false, Bool.eq_iff_iff, decide_eq_true_eq, decide_eq_true_eq, h1]
theorem k_report {F B T e h m : Nat} {u : S_X4} {v : Nat → Int32} {E : S_XE} (q : KE B T e h m (a_X4_now u) v E) {i p : Nat} (hi : i < m) (hp : p < 5) : s_X4_report F u (nI (rk (RV v) m i)) (nI p) = some (rpt (RV v i) p) := by
  have hx := rk_srt (RV v) m i hi
  have hlt : rk (RV v) m i < m := by
    have := (List.getElem?_eq_some_iff.mp hx).1
    rw [srt_len] at this; exact this
  have hm := q.m
  have hR := q.1.1.2.2.2.2.2.1.1
  unfold s_X4_report
  rw [if_neg (ni_nneg (by omega)), x1_under hR, Option.bind_some, if_pos ((ni_lt (by omega) (by omega)).mpr hlt), if_neg (ni_nneg (by omega)), if_pos (show nI p < 5 from (ni_lt (b := 5) (by omega) (by omega)).mpr hp), x1_rpt hR hx hlt hp, Option.bind_some]
theorem k_cnt {F : Nat} {u : S_X4} {p : Nat} (hp : p < 13) : s_X4_count F u (nI p) = s_X3_total F (a_X4_now u) (nI p) := by
  unfold s_X4_count
  rw [if_neg (ni_nneg (by omega)), if_pos (show nI p < 14 from (ni_lt (b := 14) (by omega) (by omega)).mpr (by omega)), if_neg (fun z => by have := (ni_eq (b := 13) (by omega) (by omega)).mp z; omega)]
  cases s_X3_total F (a_X4_now u) (nI p) <;> rfl
section
variable {F B T e h m : Nat} {x : S_X3} {v : Nat → Int32} {E : S_XE}
theorem k_c0 (q : KE B T e h m x v E) : s_X3_total F x 0 = some (E.1 0) := by
  unfold s_X3_total
  rw [if_pos rfl, q.2.1.1.1.1, q.1.1.1.2.1, q.1.1.1.1]
theorem k_living (q : KE B T e h m x v E) : jd_bc (a_X3_living x) = nI (cn (mb (a_X3_living x)) 6) := bcn (by omega) q.1.1.2.2.2.1.1
theorem k_suspects (q : KE B T e h m x v E) : jd_bc (a_X3_suspects x) = nI (cn (mb (a_X3_suspects x)) 6) := bcn (by omega) fun t ht => q.1.1.2.2.2.1.1 t (q.1.1.2.2.2.1.2.1 t ht)
theorem k_c2 (q : KE B T e h m x v E) : s_X3_total F x 2 = some (nI (cn (mb (a_X3_living x)) 6)) := by
  unfold s_X3_total
  rw [if_neg (by decide), if_neg (by decide), if_pos rfl, k_living q]
theorem k_c3 (q : KE B T e h m x v E) {r : Int32} (hr : s_X0_reached F (a_X3_hold x) = some r) (h6 : ∀ t, mb r t = true → t < 6) : s_X3_total F x 3 = some (nI (cn (mb r) 6)) := by
  unfold s_X3_total
  rw [if_neg (by decide), if_neg (by decide), if_neg (by decide), if_pos rfl, hr, Option.bind_some, bcn (n := 6) (by omega) h6]
theorem k_c4 (q : KE B T e h m x v E) : s_X3_total F x 4 = some (nI (cn (mb (a_X3_suspects x)) 6)) := by
  unfold s_X3_total
  rw [if_neg (by decide), if_neg (by decide), if_neg (by decide), if_neg (by decide), if_pos rfl, k_suspects q]
theorem k_c5 (q : KE B T e h m x v E) : s_X3_total F x 5 = some (E.1 2) := by
  unfold s_X3_total
  rw [if_neg (by decide), if_neg (by decide), if_neg (by decide), if_neg (by decide), if_neg (by decide), if_pos rfl, x1_under q.1.1.2.2.2.2.2.1.1, Option.bind_some, q.q2]
theorem k_c6 (q : KE B T e h m x v E) : s_X3_total F x 6 = some (E.1 1) := by
  unfold s_X3_total
  rw [if_neg (by decide), if_neg (by decide), if_neg (by decide), if_neg (by decide), if_neg (by decide), if_neg (by decide), if_pos rfl, q.2.1.1.1.2.1, q.1.1.1.2.2.2.2.2.2.1, q.1.1.2.2.2.2.2.1.1.2.1]
theorem k_c7 (q : KE B T e h m x v E) : s_X3_total F x 7 = some (E.1 3) := by
  unfold s_X3_total
  rw [if_neg (by decide), if_neg (by decide), if_neg (by decide), if_neg (by decide), if_neg (by decide), if_neg (by decide), if_neg (by decide), if_pos rfl, q.2.1.1.1.2.2.2.1, q.1.1.1.2.2.2.2.2.2.2.2.2.1, q.1.1.1.2.2.2.2.2.2.2.2.1]
theorem k_c8 (hF : 6400 < F) (q : KE B T e h m x v E) : s_X3_total F x 8 = some (E.1 4) := by
  unfold s_X3_total
  rw [if_neg (by decide), if_neg (by decide), if_neg (by decide), if_neg (by decide), if_neg (by decide), if_neg (by decide), if_neg (by decide), if_neg (by decide), if_pos rfl, x3_trials (by omega) q.1.1, Option.bind_some, q.2.1.1.1.2.2.2.2.1]
theorem k_c9 (q : KE B T e h m x v E) : s_X3_total F x 9 = some (E.1 5) := by
  unfold s_X3_total
  rw [if_neg (by decide), if_neg (by decide), if_neg (by decide), if_neg (by decide), if_neg (by decide), if_neg (by decide), if_neg (by decide), if_neg (by decide), if_neg (by decide), if_pos rfl, q.2.1.1.1.2.2.2.2.2.1, q.1.1.1.2.2.2.2.2.2.2.2.2.2.2.2.1, bc24 fun t ht => by have := (q.1.1.2.2.2.1.2.2.1 t ht).1; omega]
theorem k_c10 (q : KE B T e h m x v E) : s_X3_total F x 10 = some (E.1 6) := by
  unfold s_X3_total
  rw [if_neg (by decide), if_neg (by decide), if_neg (by decide), if_neg (by decide), if_neg (by decide), if_neg (by decide), if_neg (by decide), if_neg (by decide), if_neg (by decide), if_neg (by decide), if_pos rfl, q.2.1.1.1.2.2.2.2.2.2, q.1.1.1.2.2.2.2.2.2.2.2.2.2.2.2.2]
theorem k_c11 (hF : 6400 < F) (q : KE B T e h m x v E) : s_X3_total F x 11 = some (nI (cn (fun k => !decide (E.2.2.1 k < 0)) 28)) := by
  have eh := q.eh
  unfold s_X3_total
  rw [if_neg (by decide), if_neg (by decide), if_neg (by decide), if_neg (by decide), if_neg (by decide), if_neg (by decide), if_neg (by decide), if_neg (by decide), if_neg (by decide), if_neg (by decide), if_neg (by decide), if_pos rfl, x0_taken (by omega), Option.bind_some]
  refine congrArg (fun z => some (nI z)) ?_
  have one : ∀ y : Int32, (y = -1 ∨ ∃ t, t < 6 ∧ y = nI t ∧ mb (a_X3_living x) t = true) → (!decide (y < 0)) = !(y == -1) := by
    rintro y (z | ⟨t, z1, z2, -⟩)
    · rw [z]; rfl
    · rw [z2, decide_eq_false (ni_nneg (by omega)), beq_eq_false_iff_ne.mpr (nI_ne (by omega))]
  have a1 : cn (fun k => !decide (E.2.2.1 k < 0)) 28 = cn (fun k => !decide (E.2.2.1 k < 0)) 24 + cn (fun k => !decide (E.2.2.1 (24 + k) < 0)) 4 := cn_add (fun k => !decide (E.2.2.1 k < 0)) 24 4
  have a2 : cn (fun k => !(a_X3_hold x k == -1)) 100 = cn (fun k => !(a_X3_hold x k == -1)) 4 + cn (fun k => !(a_X3_hold x (4 + k) == -1)) 96 := cn_add (fun k => !(a_X3_hold x k == -1)) 4 96
  have a3 : cn (fun k => !(a_X3_hold x (4 + k) == -1)) 96 = cn (fun k => !(a_X3_hold x (4 + k) == -1)) 24 + cn (fun k => !(a_X3_hold x (4 + (24 + k)) == -1)) 72 := cn_add (fun k => !(a_X3_hold x (4 + k) == -1)) 24 72
  have a4 : cn (fun k => !(a_X3_hold x (4 + (24 + k)) == -1)) 72 = 0 := cn_zero 72 fun k hk => by
    have hl : mb (a_X3_living x) (6 + k / 4) = false := by
      cases hl : mb (a_X3_living x) (6 + k / 4) with
      | false => rfl
      | true => have := eh.2.2.2.2.2 _ hl; omega
    have := eh.2.2.2.2.1 (6 + k / 4) (by omega) hl (k % 4) (by omega)
    rw [show 4 + 4 * (6 + k / 4) + k % 4 = 4 + (24 + k) by omega] at this
    rw [this]; rfl
  have a5 : cn (fun k => !decide (E.2.2.1 k < 0)) 24 = cn (fun k => !(a_X3_hold x (4 + k) == -1)) 24 := cn_congr 24 fun k hk => by
    rw [eh.2.1 k hk]; exact one _ (eh.2.2.2.1 _ (by omega))
  have a6 : cn (fun k => !decide (E.2.2.1 (24 + k) < 0)) 4 = cn (fun k => !(a_X3_hold x k == -1)) 4 := cn_congr 4 fun k hk => by
    rw [eh.2.2.1 k hk]; exact one _ (eh.2.2.2.1 _ (by omega))
  omega
/-- the thing's count and the sum of its reports are not its truth -/
def kW (x : S_X3) (v : Nat → Int32) (m : Nat) (E : S_XE) (t : Nat) : Bool := mb (a_X3_living x) t && !decide (E.2.1 (8 * t + 2) + kS v m t = kT x t)
theorem k_c12 (hF : 6400 < F) (q : KE B T e h m x v E) : s_X3_total F x 12 = some (nI (cn (kW x v m E) 6)) := by
  have hR := q.1.1.2.2.2.2.2.1.1
  have hid : ∀ o : Option Int32, (o.bind fun y => some y) = o := fun o => by cases o <;> rfl
  unfold s_X3_total
  rw [if_neg (by decide), if_neg (by decide), if_neg (by decide), if_neg (by decide), if_neg (by decide), if_neg (by decide), if_neg (by decide), if_neg (by decide), if_neg (by decide), if_neg (by decide), if_neg (by decide), if_neg (by decide), hid]
  have hwr : ∀ k, k < 24 → s_X3_isWrong F x (nI k) = some (!decide (a_X3_counts x k + kS v m k = kT x k)) := fun k hk => by
    have sm2 := x1_sumFor (F := F) hR hk
    have ctr := x0_truthOf (F := F) (by omega) (a_X3_hold x) (nI k)
    unfold s_X3_isWrong
    rw [if_pos (ni_lx hk (by decide)), ni_nat (by omega), sm2, Option.bind_some, ctr, Option.bind_some]
    show (if a_X3_counts x k + kS v m k = kT x k then _ else _) = _
    split
    · next hc => rw [decide_eq_true hc]; rfl
    · next hc => rw [decide_eq_false hc]; rfl
  have cl := lf_cnt (fun nn k c => s_X3_wrongCounts_l4 F x nn c (nI k)) 24 (fun c => some c) (fun t => mb (a_X3_living x) t && !decide (a_X3_counts x t + kS v m t = kT x t)) 0 (n := F) (by omega) (fun nn c => by
      show s_X3_wrongCounts_l4 F x (nn + 1) c (nI 24) = _
      rw [e_X3_wrongCounts_l4, if_pos (by decide)]) (fun nn k c hk => by
    rw [e_X3_wrongCounts_l4, if_neg (il_nle hk (by decide)), x3_lives F x hk, Option.bind_some, ni_1, hwr k hk]
    cases mb (a_X3_living x) k with
    | false => rw [if_neg Bool.false_ne_true, Bool.false_and, if_neg Bool.false_ne_true]
    | true =>
      rw [if_pos rfl, Option.bind_some, Bool.true_and]
      cases decide (a_X3_counts x k + kS v m k = kT x k) <;> rfl)
  rw [Nat.zero_add] at cl
  have cl' : s_X3_wrongCounts F x = _ := cl
  rw [cl']
  refine congrArg (fun z => some (nI z)) ?_
  have a1 : cn (fun t => mb (a_X3_living x) t && !decide (a_X3_counts x t + kS v m t = kT x t)) 24 = cn (fun t => mb (a_X3_living x) t && !decide (a_X3_counts x t + kS v m t = kT x t)) 6 + cn (fun t => mb (a_X3_living x) (6 + t) && !decide (a_X3_counts x (6 + t) + kS v m (6 + t) = kT x (6 + t))) 18 := cn_add (fun t => mb (a_X3_living x) t && !decide (a_X3_counts x t + kS v m t = kT x t)) 6 18
  have a2 : cn (fun t => mb (a_X3_living x) (6 + t) && !decide (a_X3_counts x (6 + t) + kS v m (6 + t) = kT x (6 + t))) 18 = 0 := cn_zero 18 fun k hk => by
    cases hl : mb (a_X3_living x) (6 + k) with
    | false => rfl
    | true => have := q.eh.2.2.2.2.2 _ hl; omega
  rw [a1, a2, Nat.add_zero]
  refine cn_congr 6 fun t ht => ?_
  unfold kW
  rw [(q.2.1.2.1 t ht).2.2.1, (q.1.1.2.2.1.1 t ht).2.2.1]
end
theorem k_div : ∀ a, a < 7 → ∀ b, b < 7 → ¬ a = 0 → lf_n64 (FP.ddiv (FP.i2d (nI b)) (FP.i2d (nI a))) ∧ Op.cmpValue (FP.dcmp (FP.ddiv (FP.i2d (nI b)) (FP.i2d (nI a))) (FP.ddiv (FP.i2d (nI b)) (FP.i2d (nI a)))) .l = 0 := by decide +kernel
theorem k_d0 : Op.cmpValue (FP.dcmp FP.dconst0 FP.dconst0) .l = 0 := by decide +kernel
