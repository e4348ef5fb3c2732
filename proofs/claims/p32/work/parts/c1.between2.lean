/-! a suspect more; the rows of the law at the start -/
section OPS
variable {F : Nat} {B T e h m : Nat} {v : Nat → Int32} {S : S_X6} {E : S_XE}
theorem z_suspect (hF : 6400 < F) (q : KE B T e h m (a_X4_now S.1) v E) (nd : ND T m v) (r : RZ S) {t : Nat} (ht : t < 6) (hl : mb (a_X3_living (a_X4_now S.1)) t = true) (hs : mb (a_X3_suspects (a_X4_now S.1)) t = false) :
    ∃ S', s_X4_suspect_6 F S (nI t) = some (nI (1 + cn (mb (a_X3_suspects (a_X4_now S.1))) 6), S') ∧ KZ B T S' (E.1, upd E.2.1 (8 * t + 3) 1, E.2.2.1, E.2.2.2) := by
  obtain ⟨S1, s1, r1, s3⟩ := z_save (F := F) q.1 r
  have hth : a_X3_things (a_X4_now S.1) = nI 6 := q.1.1.1.2.2.2.1
  have r3 := WX_suspect (s3 ▸ q.1 : WX G0 B T 6 e h m (a_X4_now S1.1) v) (t := t) (s3.symm ▸ hl)
  have em := q.2.1.part ht (Or.inr rfl) 1
  have ke : KE B T e h m (m_X3_suspects (a_X3_suspects (a_X4_now S1.1) ||| (1 <<< (nI t &&& 31))) (a_X4_now S1.1)) (upd v (17 + 10 * t + 3) 1) (E.1, upd E.2.1 (8 * t + 3) 1, E.2.2.1, E.2.2.2) := ⟨r3, em, q.2.2⟩
  have hmb : ∀ j, mb (a_X3_suspects (a_X4_now S1.1) ||| (1 <<< (nI t &&& 31))) j = if j = t then true else mb (a_X3_suspects (a_X4_now S1.1)) j := fun j => mb_set _ (by omega) j
  have hbc : jd_bc (a_X3_suspects (a_X4_now S1.1) ||| (1 <<< (nI t &&& 31))) = nI (1 + cn (mb (a_X3_suspects (a_X4_now S.1))) 6) := by
    have h1 := k_suspects ke
    rw [show a_X3_suspects (m_X3_suspects (a_X3_suspects (a_X4_now S1.1) ||| (1 <<< (nI t &&& 31))) (a_X4_now S1.1)) = a_X3_suspects (a_X4_now S1.1) ||| (1 <<< (nI t &&& 31)) from rfl] at h1
    rw [h1, cn_one (p := mb (a_X3_suspects (a_X4_now S.1))) (j := t) 6 ht hs (by rw [hmb, if_pos rfl]) (fun k _ hk => by rw [hmb, if_neg hk, s3]), Nat.add_comm]
  have hsi := st_in_mb (a_X3_suspects (a_X4_now S.1)) (t := t) (by omega)
  have g2 : tL (a_X4_now S.1) (nI t) = true := tL_iff.mpr ⟨t, by omega, rfl, hl⟩
  refine ⟨m_X6_g (m_X4_now (m_X3_suspects (a_X3_suspects (a_X4_now S1.1) ||| (1 <<< (nI t &&& 31))) (a_X4_now S1.1)) S1.1) S1, ?_, KZ.of (S := m_X6_g (m_X4_now (m_X3_suspects (a_X3_suspects (a_X4_now S1.1) ||| (1 <<< (nI t &&& 31))) (a_X4_now S1.1)) S1.1) S1) ke (ND_v nd fun k h1 _ => upd_ne _ _ (by omega)) (r1.g rfl)⟩
  unfold s_X4_suspect_6
  rw [c_isThing F (u := a_X6_g S) hth, Option.bind_some, (tT_iff (n := 6) (by omega)).mpr ⟨t, ht, rfl⟩, if_pos rfl, c_lives, Option.bind_some, g2, if_pos rfl, hsi, hs, if_neg Bool.false_ne_true, s1, Option.bind_some, ← hbc]
theorem KZ.more {B' : Nat} (q : KZ B T S E) (h1 : B ≤ B') (h2 : B' ≤ 32) : KZ B' T S E := by
  obtain ⟨e, h, m, v, ⟨k1, k2, k3, k4⟩, k5, k6, k7⟩ := q
  exact ⟨e, h, m, v, ⟨WX_mono k1 h1 (by omega), k2, h2, k4⟩, k5, k6, k7⟩
theorem z_same (hF : 6400 < F) (q : KZ B T S E) : s_L_same F 12 48 28 64 S.1 E.1 E.2.1 E.2.2.1 E.2.2.2 = some true := by
  obtain ⟨e, h, m, v, k1, k5, k6, k7⟩ := q
  exact e_same hF k1
theorem z_would (hF : 6400 < F) (q : KZ B T S E) (C : S_XE) {t c : Nat} (ht : t < 6) (hc1 : 1 ≤ c) (hc : c ≤ 30) : ∃ g' C', s_L_would F (tW E C S.1) (nI t) (nI c) = some (true, tW E C' g') ∧ KZ B T (m_X6_g g' S) E := by
  obtain ⟨e, h, m, v, k1, k5, k6, k7⟩ := q
  obtain ⟨g', C', f, w⟩ := e_would hF k1 k5 C ht hc1 hc
  refine ⟨g', C', w, e, h, m, v, ?_, k5, k6.g f.2.1, k7⟩
  show KE B T e h m (a_X4_now g') v E
  rw [f.1]
  exact k1
/-! the start -/
def ZA (n : Nat) (v : Nat → Int32) (E : S_XE) : Prop :=
  (∀ k, k < 8 → k ≠ 1 → v k = 0) ∧ (∀ i, i < 5 → v (8 + i) = E.1 (7 + i)) ∧ (∀ k, k < 4 → v (13 + k) = -1) ∧
  (∀ t, t < n → v (17 + 10 * t) = 1 ∧ v (17 + 10 * t + 1) = E.2.1 (8 * t + 1) ∧ v (17 + 10 * t + 2) = 0 ∧ v (17 + 10 * t + 3) = 0 ∧ v (17 + 10 * t + 5) = -1 ∧ v (17 + 10 * t + 6) = -1 ∧ v (17 + 10 * t + 7) = 0 ∧ v (17 + 10 * t + 8) = 0) ∧
  (∀ k, k < 4 * n → v (257 + k) = -1)
/-- .. and the law's rows -/
def ZE (n : Nat) (E : S_XE) : Prop := (∀ k, k < 7 → E.1 k = 0) ∧ (∀ t, t < n → E.2.1 (8 * t) = 1) ∧ (∀ t, t < 6 → ∀ j, 2 ≤ j → j < 8 → E.2.1 (8 * t + j) = 0) ∧ (∀ k, k < 28 → E.2.2.1 k = -1)
theorem ZA.add {n d : Nat} {v v' th' : Nat → Int32} (a : ZA n v E) (hn : n < 6) (h : ∀ k, v' k = if k = 1 then v 1 + 1 else if 257 + 4 * n ≤ k ∧ k < 257 + 4 * n + 4 then -1 else if k = 17 + 10 * n + 6 then -1 else if k = 17 + 10 * n + 5 then -1 else if k = 17 + 10 * n + 4 then v 0 else if k = 17 + 10 * n + 1 then nI d else if k = 17 + 10 * n then 1 else if 17 + 10 * n ≤ k ∧ k < 17 + 10 * n + 10 then 0 else v k)
    (h1 : ∀ t, t < n → th' (8 * t + 1) = E.2.1 (8 * t + 1)) (h2 : th' (8 * n + 1) = nI d) : ZA (n + 1) v' (E.1, th', E.2.2.1, E.2.2.2) := by
  obtain ⟨a1, a2, a3, a4, a5⟩ := a
  have lo : ∀ k, k ≠ 1 → ¬ (257 + 4 * n ≤ k ∧ k < 257 + 4 * n + 4) → ¬ (17 + 10 * n ≤ k ∧ k < 17 + 10 * n + 10) → v' k = v k := fun k c1 c2 c3 => by
    rw [h, if_neg c1, if_neg c2, if_neg (by omega), if_neg (by omega), if_neg (by omega), if_neg (by omega), if_neg (by omega), if_neg c3]
  refine ⟨fun k hk h1 => by rw [lo k h1 (by omega) (by omega)]; exact a1 k hk h1, fun i hi => by rw [lo (8 + i) (by omega) (by omega) (by omega)]; exact a2 i hi, fun k hk => by rw [lo (13 + k) (by omega) (by omega) (by omega)]; exact a3 k hk, fun t ht => ?_, fun k hk => ?_⟩
  · by_cases htn : t = n
    · subst htn
      dsimp only
      refine ⟨?_, ?_, ?_, ?_, ?_, ?_, ?_, ?_⟩
      · rw [h, if_neg (by omega), if_neg (by omega), if_neg (by omega), if_neg (by omega), if_neg (by omega), if_neg (by omega), if_pos rfl]
      · rw [h, if_neg (by omega), if_neg (by omega), if_neg (by omega), if_neg (by omega), if_neg (by omega), if_pos rfl, h2]
      · rw [h, if_neg (by omega), if_neg (by omega), if_neg (by omega), if_neg (by omega), if_neg (by omega), if_neg (by omega), if_neg (by omega), if_pos (by omega)]
      · rw [h, if_neg (by omega), if_neg (by omega), if_neg (by omega), if_neg (by omega), if_neg (by omega), if_neg (by omega), if_neg (by omega), if_pos (by omega)]
      · rw [h, if_neg (by omega), if_neg (by omega), if_neg (by omega), if_pos rfl]
      · rw [h, if_neg (by omega), if_neg (by omega), if_pos rfl]
      · rw [h, if_neg (by omega), if_neg (by omega), if_neg (by omega), if_neg (by omega), if_neg (by omega), if_neg (by omega), if_neg (by omega), if_pos (by omega)]
      · rw [h, if_neg (by omega), if_neg (by omega), if_neg (by omega), if_neg (by omega), if_neg (by omega), if_neg (by omega), if_neg (by omega), if_pos (by omega)]
    · obtain ⟨b1, b2, b3, b4, b5, b6, b7, b8⟩ := a4 t (by omega)
      dsimp only
      rw [lo (17 + 10 * t) (by omega) (by omega) (by omega), lo (17 + 10 * t + 1) (by omega) (by omega) (by omega), lo (17 + 10 * t + 2) (by omega) (by omega) (by omega), lo (17 + 10 * t + 3) (by omega) (by omega) (by omega), lo (17 + 10 * t + 5) (by omega) (by omega) (by omega), lo (17 + 10 * t + 6) (by omega) (by omega) (by omega), lo (17 + 10 * t + 7) (by omega) (by omega) (by omega), lo (17 + 10 * t + 8) (by omega) (by omega) (by omega), h1 t (by omega)]
      exact ⟨b1, b2, b3, b4, b5, b6, b7, b8⟩
  · by_cases h4 : k < 4 * n
    · rw [lo (257 + k) (by omega) (by omega) (by omega)]
      exact a5 k h4
    · rw [h, if_neg (by omega), if_pos (by omega)]
theorem KZ.start (q : WX G0 0 0 6 0 0 0 (a_X4_now S.1) v) (a : ZA 6 v E) (z : ZE 6 E) (r : RZ S) : KZ 0 0 S E := by
  obtain ⟨a1, a2, a3, a4, a5⟩ := a
  obtain ⟨z1, z2, z3, z4⟩ := z
  refine KZ.of ⟨q, ⟨⟨⟨by rw [z1 0 (by omega), a1 0 (by omega) (by omega)], by rw [z1 1 (by omega), a1 2 (by omega) (by omega)], by rw [z1 2 (by omega), a1 3 (by omega) (by omega)], by rw [z1 3 (by omega), a1 4 (by omega) (by omega)], by rw [z1 4 (by omega), a1 5 (by omega) (by omega)], by rw [z1 5 (by omega), a1 6 (by omega) (by omega)], by rw [z1 6 (by omega), a1 7 (by omega) (by omega)]⟩, fun i hi => (a2 i hi).symm⟩, fun t ht => ?_, ⟨fun k hk => ?_, fun k hk => ?_⟩, fun j hj => absurd hj (by omega), fun i j _ hj => absurd hj (by omega), fun j hj => absurd hj (by omega)⟩, by omega, by omega⟩ (fun j hj => absurd hj (by omega)) r
  · obtain ⟨b1, b2, b3, b4, b5, b6, b7, b8⟩ := a4 t ht
    refine ⟨by rw [z2 t ht, b1], b2.symm, by rw [z3 t ht 2 (by omega) (by omega), b3], by rw [z3 t ht 3 (by omega) (by omega), b4], ⟨fun _ => ⟨b5, b6⟩, fun c => absurd b1 c⟩, by rw [z3 t ht 5 (by omega) (by omega), b7], by rw [z3 t ht 6 (by omega) (by omega), b8]⟩
  · rw [z4 k (by omega), a5 k (by omega)]
  · rw [z4 (24 + k) (by omega), a3 k hk]
end OPS
def v00 (k : Nat) : Int32 := if k < 8 then 0 else if k < 13 then s0_set (k - 8) else -1
theorem WX_00 {u : S_X3} (z : Z_X3 u) : WX G0 0 0 0 0 0 0 u v00 := by
  obtain ⟨a1, a2, a3, a4, a5, a6, a7, a8, a9, a10, a11, a12, a13, a14, a15⟩ := z
  refine WX_0 a1 a2 a3 a4 a5 a6 a7 a8 (fun t _ => a9 t) (fun t _ => a10 t) a11 a12 a13 (fun t _ => a14 t) (fun t _ => a15 t) (fun k hk => if_pos hk) (fun i hi => ?_) (fun k hk => ?_)
  · unfold v00
    rw [if_neg (by omega), if_pos (by omega), show 8 + i - 8 = i by omega]
  · unfold v00
    rw [if_neg (by omega), if_neg (by omega)]
