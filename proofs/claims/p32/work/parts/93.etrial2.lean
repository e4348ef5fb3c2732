/-! those who end in a trial: rank by rank in the engine -/
theorem hi_is {p : Nat → Bool} {r : Nat → Int32} {b : Nat} (hp : p b = true) : ∀ n, b < n → (∀ k, k < n → p k = true → (k < b → r k < r b) ∧ (b < k → ¬ r b < r k)) → hi p r n = some b := by
  intro n
  induction n with
  | zero => intro h; omega
  | succ n ih =>
    intro hb h
    unfold hi
    by_cases hbn : b = n
    · subst hbn
      rw [if_pos hp]
      cases hh : hi p r b with
      | none => rfl
      | some c =>
        obtain ⟨c1, c2⟩ := hi_some b c hh
        have := (h c (by omega) c2).1 c1
        dsimp only
        rw [if_pos this]
    · rw [ih (by omega) (fun k hk => h k (by omega))]
      cases hpn : p n with
      | false => rw [if_neg Bool.false_ne_true]
      | true =>
        have := (h n (by omega) hpn).2 (by omega)
        rw [if_pos rfl]
        dsimp only
        rw [if_neg this]
/-- who of the guilty is still there at rank p and number o -/
def eJ (gu : Int32) (u : S_X3) (rk : Nat → Nat) (p o : Nat) : Prop := ∀ t, t < 6 → mb gu t = true → (mb (a_X3_living u) t = true ↔ (rk t < p ∨ (rk t = p ∧ o ≤ t)))
def eA (gu : Int32) (u : S_X3) : Nat := cn (fun t => mb gu t && mb (a_X3_living u) t) 6
theorem e_rank {F : Nat} (hF : 6400 < F) {B T h : Nat} (hB : B ≤ 32) {gu : Int32} (hg6 : ∀ t, mb gu t = true → t < 6) (w0 : S_X5) (hz : ∀ o, o < 24 → zt w0 2 o = mb gu o) {rk : Nat → Nat} (hrk : ∀ t, t < 6 → rk t ≤ 9) {p : Nat} (hp : p ≤ 9) (v4 v5 : Int32) :
    ∀ d o e m u v E mm nn r, o + d = 6 → d < nn → eA gu u < mm → WX (mb gu) B T 6 e h m u v → EM 6 m v E → (∀ t, t < 6 → a_X3_ranks u t = nI (rk t)) → eJ gu u rk p o → s_X5_nextToEnd F (m_X5_state v w0) = some r →
      ∃ e' m' u' v' E' mm' r', s_X5_tries_l25 F mm (m_X5_state v w0) r = s_X5_tries_l25 F mm' (m_X5_state v' w0) r' ∧ (∀ k39 k271 : S_XE → Int32 → Option S_XE, s_L_trial_l279 F v4 v5 gu (nI p) k39 k271 nn E (nI o) = k271 E' (nI p + (-1))) ∧ eA gu u' < mm' ∧ WX (mb gu) B T 6 e' h m' u' v' ∧ EM 6 m' v' E' ∧ (∀ t, t < 6 → a_X3_ranks u' t = nI (rk t)) ∧ eJ gu u' rk p 6 ∧ s_X5_nextToEnd F (m_X5_state v' w0) = some r' := by
  intro d
  induction d with
  | zero =>
    intro o e m u v E mm nn r ho hnn hmm q em hr hj hn
    obtain ⟨nn, rfl⟩ : ∃ j, nn = j + 1 := ⟨nn - 1, by omega⟩
    obtain rfl : o = 6 := by omega
    exact ⟨e, m, u, v, E, mm, r, rfl, fun k39 k271 => by rw [e_L_trial_l279, if_pos (by decide)], hmm, q, em, hr, hj, hn⟩
  | succ d ih =>
    intro o e m u v E mm nn r ho hnn hmm q em hr hj hn
    obtain ⟨nn, rfl⟩ : ∃ j, nn = j + 1 := ⟨nn - 1, by omega⟩
    have ho6 : o < 6 := by omega
    have hon : (nI (8 * o + 1)).toNatClampNeg = 8 * o + 1 := ni_nat (by omega)
    have e1 : 8 * nI o + 1 = nI (8 * o + 1) := ni_8tp o 1
    have eth : a_XE_th E (8 * o + 1) = nI (rk o) := (em.2.1 o ho6).2.1.trans ((q.1.2.2.1.1 o ho6).2.1.1.trans (hr o ho6))
    have hsk := hrk o ho6
    have hstep : ∀ k39 k271 : S_XE → Int32 → Option S_XE, s_L_trial_l279 F v4 v5 gu (nI p) k39 k271 (nn + 1) E (nI o) = if mb gu o = true ∧ rk o = p then ((s_L_end F E (nI o) gu).bind fun y1 => (s_L_trial_l279 F v4 v5 gu (nI p) k39 k271 nn y1 (nI (o + 1)))) else s_L_trial_l279 F v4 v5 gu (nI p) k39 k271 nn E (nI (o + 1)) := by
      intro k39 k271
      rw [e_L_trial_l279, if_neg (il_nle ho6 (by decide)), e1, if_pos (ni_lx (show 8 * o + 1 < 48 by omega) (by decide)), ni_1]
      simp only [hon, eth]
      cases hb : mb gu o with
      | false => rw [if_neg (fun z => by rw [(bit1 gu (by omega)).mp z] at hb; cases hb), if_neg (fun z => by cases z.1)]
      | true =>
        rw [if_pos ((bit1 gu (by omega)).mpr hb)]
        by_cases hc : rk o = p
        · rw [if_pos (by rw [hc]), if_pos ⟨rfl, hc⟩]
        · rw [if_neg (fun z => hc ((ni_eq (by omega) (by omega)).mp z)), if_neg (fun z => hc z.2)]
    by_cases hc : mb gu o = true ∧ rk o = p
    · have hl : mb (a_X3_living u) o = true := (hj o ho6 hc.1).mpr (Or.inr ⟨hc.2, Nat.le_refl _⟩)
      have hr2 := x5_nextToEnd (F := F) (by omega) (w := m_X5_state v w0) q.1
      rw [hn] at hr2
      have hhi : hi (fun t => zt (m_X5_state v w0) 2 t && mb (a_X3_living u) t) (a_X3_ranks u) 6 = some o := by
        refine hi_is (by show (zt w0 2 o && mb (a_X3_living u) o) = true; rw [hz o (by omega), hc.1, hl]; rfl) 6 ho6 fun k hk hpk => ?_
        have hpk' : (zt w0 2 k && mb (a_X3_living u) k) = true := hpk
        rw [hz k (by omega), Bool.and_eq_true] at hpk'
        have hkj := (hj k hk hpk'.1).mp hpk'.2
        have hk9 := hrk k hk
        rw [hr k hk, hr o ho6, ni_lt (by omega) (by omega), ni_lt (by omega) (by omega)]
        constructor
        · intro hko; omega
        · intro hko; omega
      rw [hhi] at hr2
      have hrb : r = nI o := Option.some.inj hr2
      have hgu0 : ¬ gu = 0 := fun z => by have := hc.1; rw [z, mb_0] at this; cases this
      have he := (WB_e q.1).1
      have hbud := q.1.2.2.2.2.2.2.1
      obtain ⟨m', u', v', k1, k2, k3, k4, k5, -⟩ := x_ends (F := F) (by omega) (w := m_X5_state v w0) (Gd := mb gu) q ho6 hl (g := gu) (how := 2) (Or.inr rfl) (fun o ho => hz o ho) (fun x hx => by
        by_cases hob : x = o
        · rw [hob, hc.1]; rfl
        · rw [decide_eq_false hob, Bool.or_false]) (Or.inl hc.1)
      obtain ⟨m3, v3, E3, f1, f2, f3, f4, f5⟩ := e_end hF (w := m_X5_state v w0) (MB.of q.1) q.1.1.2.2.2.2.2.2.2.2.2.1 (by omega) q.1.1.2.2.2.2.1 em (by omega) ho6 (mask := gu) (how := 2) (Or.inr ⟨rfl, hgu0⟩) (fun x hx => hz x (by omega)) (fun j hj => WX_slot q ho6 hj)
      have k2' : s_X5_ends F (m_X5_state v w0) (nI o) 2 = some (m_X5_state v' w0) := k2
      have f1' : s_X5_ends F (m_X5_state v w0) (nI o) 2 = some (m_X5_state v3 w0) := f1
      have hvv : v' = v3 := st_inj (k2'.symm.trans f1')
      subst hvv
      have hm1 := (WB_e k3.1).2.2
      have em3 : EM 6 m' v' E3 := f3.to f4.2.2.2.1 k3.1.1.2.2.2.2.2.2.2.1 (by omega) (by omega)
      have hr3 := x5_nextToEnd (F := F) (by omega) (w := m_X5_state v' w0) k3.1
      have hcnt : eA gu u = eA gu u' + 1 := by
        refine cn_one 6 ho6 ?_ ?_ ?_
        · show (mb gu o && mb (a_X3_living u') o) = false
          rw [k4 o]; simp
        · show (mb gu o && mb (a_X3_living u) o) = true
          rw [hc.1, hl]; rfl
        · intro k hk hko
          show (mb gu k && mb (a_X3_living u) k) = (mb gu k && mb (a_X3_living u') k)
          rw [k4 k, decide_eq_false hko]; simp
      obtain ⟨mm, rfl⟩ : ∃ j, mm = j + 1 := ⟨mm - 1, by omega⟩
      have hj' : eJ gu u' rk p (o + 1) := fun t ht hgt => by
        rw [k4 t, Bool.and_eq_true, hj t ht hgt]
        by_cases hto : t = o
        · rw [hto]
          constructor
          · rintro ⟨-, z⟩; simp at z
          · intro z; have := hc.2; omega
        · rw [decide_eq_false hto]
          constructor
          · rintro ⟨z, -⟩; omega
          · intro z; exact ⟨by omega, rfl⟩
      obtain ⟨e2, m2, u2, v2, E2, mm2, r2, p1, p2, p3, p4, p5, p6, p7, p8⟩ := ih (o + 1) (e + 1) m' u' v' E3 mm nn _ (by omega) (by omega) (by omega) k3 em3 (fun t ht => by rw [k5]; exact hr t ht) hj' hr3
      refine ⟨e2, m2, u2, v2, E2, mm2, r2, ?_, fun k39 k271 => ?_, p3, p4, p5, p6, p7, p8⟩
      · have hr3' : s_X5_nextToEnd F (m_X5_state v' (m_X5_state v w0)) = _ := hr3
        rw [e_X5_tries_l25, hrb, if_neg (nI_ne (by omega)), k2', Option.bind_some, hr3, Option.bind_some]
        exact p1
      · rw [hstep, if_pos hc, f2, Option.bind_some]; exact p2 k39 k271
    · have hj' : eJ gu u rk p (o + 1) := fun t ht hgt => by
        rw [hj t ht hgt]
        by_cases hto : t = o
        · have hne : ¬ rk t = p := fun z => hc ⟨by rw [← hto]; exact hgt, by rw [← hto]; exact z⟩
          constructor <;> intro z <;> omega
        · constructor <;> intro z <;> omega
      obtain ⟨e2, m2, u2, v2, E2, mm2, r2, p1, p2, p3⟩ := ih (o + 1) e m u v E mm nn r (by omega) (by omega) hmm q em hr hj' hn
      exact ⟨e2, m2, u2, v2, E2, mm2, r2, p1, fun k39 k271 => by rw [hstep, if_neg hc]; exact p2 k39 k271, p3⟩
theorem e_ranks {F : Nat} (hF : 6400 < F) {B T h : Nat} (hB : B ≤ 32) {gu : Int32} (hg6 : ∀ t, mb gu t = true → t < 6) (w0 : S_X5) (hz : ∀ o, o < 24 → zt w0 2 o = mb gu o) {rk : Nat → Nat} (hrk : ∀ t, t < 6 → rk t ≤ 9) (v4 v5 : Int32) :
    ∀ p e m u v E mm nn r, p ≤ 9 → p + 1 < nn → eA gu u < mm → WX (mb gu) B T 6 e h m u v → EM 6 m v E → (∀ t, t < 6 → a_X3_ranks u t = nI (rk t)) → eJ gu u rk p 0 → s_X5_nextToEnd F (m_X5_state v w0) = some r →
      ∃ e' m' u' v' E', s_X5_tries_l25 F mm (m_X5_state v w0) r = s_X5_tries_b44 F (m_X5_state v' w0) ∧ (∀ k39 : S_XE → Int32 → Option S_XE, s_L_trial_l271 F v4 v5 gu k39 nn E (nI p) = s_L_trial_b334 F k39 E' v4 v5) ∧ WX G0 B T 6 e' h m' u' v' ∧ EM 6 m' v' E' := by
  intro p
  induction p with
  | zero =>
    intro e m u v E mm nn r hp hnn hmm q em hr hj hn
    obtain ⟨nn, rfl⟩ : ∃ j, nn = j + 1 := ⟨nn - 1, by omega⟩
    obtain ⟨e2, m2, u2, v2, E2, mm2, r2, p1, p2, p3, p4, p5, p6, p7, p8⟩ := e_rank hF hB hg6 w0 hz hrk (p := 0) (by omega) v4 v5 6 0 e m u v E mm F r (by omega) (by omega) hmm q em hr hj hn
    have hdead : ∀ t, mb gu t = true → mb (a_X3_living u2) t = false := fun t ht => by
      cases hl : mb (a_X3_living u2) t with
      | false => rfl
      | true =>
        have ht6 := hg6 t ht
        have := (p7 t ht6 ht).mp hl
        omega
    have hr2 := x5_nextToEnd (F := F) (by omega) (w := m_X5_state v2 w0) p4.1
    rw [p8] at hr2
    have hno : hi (fun t => zt (m_X5_state v2 w0) 2 t && mb (a_X3_living u2) t) (a_X3_ranks u2) 6 = none := by
      cases hh : hi (fun t => zt (m_X5_state v2 w0) 2 t && mb (a_X3_living u2) t) (a_X3_ranks u2) 6 with
      | none => rfl
      | some b =>
        obtain ⟨z1, z2⟩ := hi_some 6 b hh
        have z3 : (zt w0 2 b && mb (a_X3_living u2) b) = true := z2
        rw [hz b (by omega), Bool.and_eq_true] at z3
        rw [hdead b z3.1] at z3
        cases z3.2
    rw [hno] at hr2
    have hrm : r2 = -1 := Option.some.inj hr2
    obtain ⟨mm2, rfl⟩ : ∃ j, mm2 = j + 1 := ⟨mm2 - 1, by omega⟩
    obtain ⟨nn, rfl⟩ : ∃ j, nn = j + 1 := ⟨nn - 1, by omega⟩
    refine ⟨e2, m2, u2, v2, E2, ?_, fun k39 => ?_, ⟨p4.1, p4.2.1, fun o ho k hk => ?_, p4.2.2.2⟩, p5⟩
    · rw [p1, e_X5_tries_l25, hrm, if_pos rfl]
    · rw [e_L_trial_l271, if_neg (by decide)]
      have p2' : s_L_trial_l279 F v4 v5 gu (nI 0) k39 (s_L_trial_l271 F v4 v5 gu k39 (nn + 1)) F E 0 = s_L_trial_l271 F v4 v5 gu k39 (nn + 1) E2 (nI 0 + (-1)) := p2 _ _
      rw [p2', e_L_trial_l271, if_pos (by decide)]
    · rcases p4.2.2.1 o ho k hk with z | ⟨z1, z2, -⟩
      · exact Or.inl z
      · rw [hdead o z1] at z2; cases z2
  | succ p ih =>
    intro e m u v E mm nn r hp hnn hmm q em hr hj hn
    obtain ⟨nn, rfl⟩ : ∃ j, nn = j + 1 := ⟨nn - 1, by omega⟩
    obtain ⟨e2, m2, u2, v2, E2, mm2, r2, p1, p2, p3, p4, p5, p6, p7, p8⟩ := e_rank hF hB hg6 w0 hz hrk (p := p + 1) (by omega) v4 v5 6 0 e m u v E mm F r (by omega) (by omega) hmm q em hr hj hn
    have hj2 : eJ gu u2 rk p 0 := fun t ht hgt => by
      rw [p7 t ht hgt]
      constructor <;> intro z <;> omega
    obtain ⟨e3, m3, u3, v3, E3, g1, g2, g3, g4⟩ := ih e2 m2 u2 v2 E2 mm2 nn r2 (by omega) (by omega) p3 p4 p5 p6 hj2 p8
    refine ⟨e3, m3, u3, v3, E3, p1.trans g1, fun k39 => ?_, g3, g4⟩
    have em1 : nI (p + 1) + (-1) = nI p := by
      rw [← ni_1, Int32.add_assoc]; exact Int32.add_zero _
    rw [e_L_trial_l271, if_neg (ni_nneg (by omega))]
    have p2' : s_L_trial_l279 F v4 v5 gu (nI (p + 1)) k39 (s_L_trial_l271 F v4 v5 gu k39 nn) F E 0 = s_L_trial_l271 F v4 v5 gu k39 nn E2 (nI (p + 1) + (-1)) := p2 _ _
    rw [p2', em1]
    exact g2 k39
