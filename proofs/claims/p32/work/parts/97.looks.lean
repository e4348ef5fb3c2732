/-! what the class shows, told by the engine's rows -/
theorem k_thing {F : Nat} {u : S_X4} (h6 : a_X3_things (a_X4_now u) = nI 6) {t p : Nat} (ht : t < 6) (hp : p < 13) : s_X4_thing F u (nI t) (nI p) = s_X3_property F (a_X4_now u) (nI t) (nI p) := by
  unfold s_X4_thing
  rw [c_isThing F h6, tT_in (by omega) ht, Option.bind_some, if_pos rfl, if_neg (ni_nneg (by omega)), if_pos (show nI p < 13 from (ni_lt (b := 13) (by omega) (by omega)).mpr hp)]
  cases s_X3_property F (a_X4_now u) (nI t) (nI p) <;> rfl
theorem k_pr {F : Nat} (x : S_X3) {t : Nat} (ht : t < 6) (p : Int32) : s_X3_property F x (nI t) p = (if p = 0 then (some (bv (a_X3_living x) t)) else (if p = 1 then some (a_X3_ranks x t) else (if p = 2 then some (a_X3_counts x t) else (if p = 3 then s_X0_truthOf F (a_X3_hold x) (nI t) else (if p = 4 then s_X1_numberFor F (a_X3_rep x) (nI t) else (if p = 5 then s_X1_sumFor F (a_X3_rep x) (nI t) else (if p = 6 then some (bv (a_X3_suspects x) t) else (if p = 7 then ((s_X0_reached F (a_X3_hold x)).bind fun y4 => (some ((y4 >>> (nI t &&& 31)) &&& 1))) else (if p = 8 then some (a_X3_came x t) else (if p = 9 then some (a_X3_endNumbers x t) else (if p = 10 then some (a_X3_endTimes x t) else (if p = 11 then some (a_X3_endKinds x t) else some (bv (a_X3_wronged x) t))))))))))))) := by
  have hix : lf_ix (nI t) 24 := ni_lx (show t < 24 by omega) (by decide)
  have hid : ∀ o : Option Int32, (o.bind fun y => some y) = o := fun o => by cases o <;> rfl
  have hn : (nI t).toNatClampNeg = t := ni_nat (by omega)
  unfold s_X3_property
  rw [if_neg (ni_nneg (by omega)), if_pos (show nI t < 24 from (ni_lt (b := 24) (by omega) (by omega)).mpr (by omega)), sr_bv _ (by omega), sr_bv _ (by omega), sr_bv _ (by omega), if_pos hix, if_pos hix, if_pos hix, if_pos hix, if_pos hix, if_pos hix, hid, hid, hid, hn]
/-- what holds of the class and the engine between two calls -/
def KE (B T e h m : Nat) (x : S_X3) (v : Nat → Int32) (E : S_XE) : Prop := WX G0 B T 6 e h m x v ∧ EM 6 m v E ∧ B ≤ 32 ∧ T ≤ 5000
theorem KE.m {B T e h m : Nat} {x : S_X3} {v : Nat → Int32} {E : S_XE} (q : KE B T e h m x v E) : h + m ≤ 56 ∧ e ≤ 6 := by
  have h1 := (WB_e q.1.1).1
  have h2 := q.1.1.2.2.2.2.2.2.1
  have h3 := q.2.2.1
  omega
theorem KE.eh {B T e h m : Nat} {x : S_X3} {v : Nat → Int32} {E : S_XE} (q : KE B T e h m x v E) : EH x E.2.1 E.2.2.1 := EH.of q.1 q.2.1
theorem k_p0 {F B T e h m : Nat} {x : S_X3} {v : Nat → Int32} {E : S_XE} (q : KE B T e h m x v E) {t : Nat} (ht : t < 6) : s_X3_property F x (nI t) 0 = some (E.2.1 (8 * t)) := by
  rw [k_pr x ht, if_pos rfl, (q.2.1.2.1 t ht).1, (q.1.1.2.2.1.1 t ht).1]
theorem k_p2 {F B T e h m : Nat} {x : S_X3} {v : Nat → Int32} {E : S_XE} (q : KE B T e h m x v E) {t : Nat} (ht : t < 6) : s_X3_property F x (nI t) 2 = some (E.2.1 (8 * t + 2)) := by
  rw [k_pr x ht, if_neg (by decide), if_neg (by decide), if_pos rfl, (q.2.1.2.1 t ht).2.2.1, (q.1.1.2.2.1.1 t ht).2.2.1]
/-- the truth about a thing -/
def kT (x : S_X3) (t : Nat) : Int32 := nI (cn (fun k => a_X3_hold x k == nI t) 100)
theorem k_truth {F B T e h m : Nat} (hF : 6400 < F) {x : S_X3} {v : Nat → Int32} {E : S_XE} (q : KE B T e h m x v E) {t : Nat} (ht : t < 6) : s_L_truth F 48 28 E.2.1 E.2.2.1 (nI t) = some (kT x t) := by
  rw [e_truth hF q.eh ht]
  cases hl : mb (a_X3_living x) t with
  | true => rfl
  | false =>
    rw [if_neg Bool.false_ne_true]
    unfold kT
    rw [cn_zero 100 fun k hk => by
      rcases q.eh.2.2.2.1 k hk with z | ⟨s, h1, h2, h3⟩
      · rw [z]; exact beq_eq_false_iff_ne.mpr fun z => nI_ne (by omega) z.symm
      · rw [h2]
        refine beq_eq_false_iff_ne.mpr fun z => ?_
        rw [(ni_eq (by omega) (by omega)).mp z, hl] at h3
        cases h3]
    rfl
theorem k_p3 {F B T e h m : Nat} (hF : 6400 < F) {x : S_X3} {v : Nat → Int32} {E : S_XE} (_ : KE B T e h m x v E) {t : Nat} (ht : t < 6) : s_X3_property F x (nI t) 3 = some (kT x t) := by
  rw [k_pr x ht, if_neg (by decide), if_neg (by decide), if_neg (by decide), if_pos rfl, x0_truthOf (by omega)]; rfl
def kU (v : Nat → Int32) (m t : Nat) : Int32 := nI (cn (fun j => rof (RV v j) == nI t) m)
def kS (v : Nat → Int32) (m t : Nat) : Int32 := sm (fun j => if rof (RV v j) == nI t then rby (RV v j) else 0) m
theorem KE.q2 {B T e h m : Nat} {x : S_X3} {v : Nat → Int32} {E : S_XE} (q : KE B T e h m x v E) : E.1 2 = nI m := q.2.1.1.1.2.2.1.trans q.1.1.1.2.2.2.2.2.2.2.1
theorem k_under {F B T e h m : Nat} (hF : 6400 < F) {x : S_X3} {v : Nat → Int32} {E : S_XE} (q : KE B T e h m x v E) (t : Nat) : s_L_underWay F 12 64 E.1 E.2.2.2 (nI t) = some (kU v m t) := e_underWay hF (by have := q.m; omega) q.q2 q.2.1.2.2.2.1 (nI t)
theorem k_sum {F B T e h m : Nat} (hF : 6400 < F) {x : S_X3} {v : Nat → Int32} {E : S_XE} (q : KE B T e h m x v E) (t : Nat) : s_L_sum F 12 64 E.1 E.2.2.2 (nI t) = some (kS v m t) := e_sum hF (by have := q.m; omega) q.q2 q.2.1.2.2.2.1 (nI t)
theorem k_p4 {F B T e h m : Nat} {x : S_X3} {v : Nat → Int32} {E : S_XE} (q : KE B T e h m x v E) {t : Nat} (ht : t < 6) : s_X3_property F x (nI t) 4 = some (kU v m t) := by
  rw [k_pr x ht, if_neg (by decide), if_neg (by decide), if_neg (by decide), if_neg (by decide), if_pos rfl, x1_numberFor q.1.1.2.2.2.2.2.1.1 (by omega)]; rfl
theorem k_p5 {F B T e h m : Nat} {x : S_X3} {v : Nat → Int32} {E : S_XE} (q : KE B T e h m x v E) {t : Nat} (ht : t < 6) : s_X3_property F x (nI t) 5 = some (kS v m t) := by
  rw [k_pr x ht, if_neg (by decide), if_neg (by decide), if_neg (by decide), if_neg (by decide), if_neg (by decide), if_pos rfl, x1_sumFor q.1.1.2.2.2.2.2.1.1 (by omega)]; rfl
theorem k_p6 {F B T e h m : Nat} {x : S_X3} {v : Nat → Int32} {E : S_XE} (q : KE B T e h m x v E) {t : Nat} (ht : t < 6) : s_X3_property F x (nI t) 6 = some (E.2.1 (8 * t + 3)) := by
  rw [k_pr x ht, if_neg (by decide), if_neg (by decide), if_neg (by decide), if_neg (by decide), if_neg (by decide), if_neg (by decide), if_pos rfl, (q.2.1.2.1 t ht).2.2.2.1, (q.1.1.2.2.1.1 t ht).2.2.2.1]
/-- all that is reached: the same set in the class and the engine -/
theorem k_reached {F B T e h m : Nat} (hF : 6400 < F) {x : S_X3} {v : Nat → Int32} {E : S_XE} (q : KE B T e h m x v E) : ∃ r, s_L_held F 48 28 E.2.1 E.2.2.1 = some r ∧ s_X0_reached F (a_X3_hold x) = some r ∧ ∀ t, mb r t = true → t < 6 := by
  obtain ⟨r, r1, r2, r3⟩ := e_held hF q.eh
  obtain ⟨r', y1, -, y3⟩ := x0_reached (F := F) (by omega) q.eh.hOK
  have : r' = r := bits_eq y3 r2
  exact ⟨r, r1, by rw [y1, this], r3⟩
theorem k_p7 {F B T e h m : Nat} {x : S_X3} {v : Nat → Int32} {E : S_XE} (_ : KE B T e h m x v E) {t : Nat} (ht : t < 6) {r : Int32} (hr : s_X0_reached F (a_X3_hold x) = some r) : s_X3_property F x (nI t) 7 = some ((r >>> (nI t &&& 31)) &&& 1) := by
  rw [k_pr x ht, if_neg (by decide), if_neg (by decide), if_neg (by decide), if_neg (by decide), if_neg (by decide), if_neg (by decide), if_neg (by decide), if_pos rfl, hr, Option.bind_some]
theorem k_p9 {F B T e h m : Nat} {x : S_X3} {v : Nat → Int32} {E : S_XE} (q : KE B T e h m x v E) {t : Nat} (ht : t < 6) : s_X3_property F x (nI t) 9 = some (if mb (a_X3_living x) t then -1 else E.2.1 (8 * t + 4)) := by
  rw [k_pr x ht, if_neg (by decide), if_neg (by decide), if_neg (by decide), if_neg (by decide), if_neg (by decide), if_neg (by decide), if_neg (by decide), if_neg (by decide), if_neg (by decide), if_pos rfl]
  have h1 := (q.2.1.2.1 t ht).2.2.2.2.1
  have h2 := q.1.1.2.2.1.1 t ht
  have h3 : v (17 + 10 * t) = bv (a_X3_living x) t := h2.1
  rw [← h2.2.2.2.2.2.1]
  cases hl : mb (a_X3_living x) t with
  | true => rw [if_pos rfl, (h1.1 (by rw [h3, bv_t hl])).1]
  | false => rw [if_neg Bool.false_ne_true, (h1.2 (by rw [h3, bv_f hl]; decide)).1]
theorem k_p10 {F B T e h m : Nat} {x : S_X3} {v : Nat → Int32} {E : S_XE} (q : KE B T e h m x v E) {t : Nat} (ht : t < 6) : s_X3_property F x (nI t) 10 = some (if mb (a_X3_living x) t then -1 else E.2.1 (8 * t + 7)) := by
  rw [k_pr x ht, if_neg (by decide), if_neg (by decide), if_neg (by decide), if_neg (by decide), if_neg (by decide), if_neg (by decide), if_neg (by decide), if_neg (by decide), if_neg (by decide), if_neg (by decide), if_pos rfl]
  have h1 := (q.2.1.2.1 t ht).2.2.2.2.1
  have h2 := q.1.1.2.2.1.1 t ht
  have h3 : v (17 + 10 * t) = bv (a_X3_living x) t := h2.1
  rw [← h2.2.2.2.2.2.2.1]
  cases hl : mb (a_X3_living x) t with
  | true => rw [if_pos rfl, (h1.1 (by rw [h3, bv_t hl])).2]
  | false => rw [if_neg Bool.false_ne_true, (h1.2 (by rw [h3, bv_f hl]; decide)).2]
theorem k_p11 {F B T e h m : Nat} {x : S_X3} {v : Nat → Int32} {E : S_XE} (q : KE B T e h m x v E) {t : Nat} (ht : t < 6) : s_X3_property F x (nI t) 11 = some (E.2.1 (8 * t + 5)) := by
  rw [k_pr x ht, if_neg (by decide), if_neg (by decide), if_neg (by decide), if_neg (by decide), if_neg (by decide), if_neg (by decide), if_neg (by decide), if_neg (by decide), if_neg (by decide), if_neg (by decide), if_neg (by decide), if_pos rfl, (q.2.1.2.1 t ht).2.2.2.2.2.1, (q.1.1.2.2.1.1 t ht).2.2.2.2.2.2.2.1]
theorem k_p12 {F B T e h m : Nat} {x : S_X3} {v : Nat → Int32} {E : S_XE} (q : KE B T e h m x v E) {t : Nat} (ht : t < 6) : s_X3_property F x (nI t) 12 = some (E.2.1 (8 * t + 6)) := by
  rw [k_pr x ht, if_neg (by decide), if_neg (by decide), if_neg (by decide), if_neg (by decide), if_neg (by decide), if_neg (by decide), if_neg (by decide), if_neg (by decide), if_neg (by decide), if_neg (by decide), if_neg (by decide), if_neg (by decide), (q.2.1.2.1 t ht).2.2.2.2.2.2, (q.1.1.2.2.1.1 t ht).2.2.2.2.2.2.2.2]
theorem KE.th {B T e h m : Nat} {x : S_X3} {v : Nat → Int32} {E : S_XE} (q : KE B T e h m x v E) : a_X3_things x = nI 6 := q.1.1.1.2.2.2.1
theorem k_slot {F B T e h m : Nat} {u : S_X4} {v : Nat → Int32} {E : S_XE} (q : KE B T e h m (a_X4_now u) v E) {t k : Nat} (ht : t < 6) (hk : k < 4) : s_X4_slot F u (nI t) (nI k) = some (E.2.2.1 (4 * t + k)) := by
  unfold s_X4_slot
  rw [c_isThing F q.th, tT_in (by omega) ht, Option.bind_some, if_pos rfl, c_isSlot, tT_in (by omega) hk, Option.bind_some, if_pos rfl, ni_plk, x0_at F _ (by omega), Option.bind_some, q.eh.2.1 _ (by omega), show 4 + (4 * t + k) = 4 + 4 * t + k by omega]
theorem k_hand {F B T e h m : Nat} {u : S_X4} {v : Nat → Int32} {E : S_XE} (q : KE B T e h m (a_X4_now u) v E) {k : Nat} (hk : k < 4) : s_X4_hand F u (nI k) = some (E.2.2.1 (24 + k)) := by
  unfold s_X4_hand
  rw [c_isHand, tT_in (by omega) hk, Option.bind_some, if_pos rfl, x0_at F _ (by omega), Option.bind_some, q.eh.2.2.1 k hk]
