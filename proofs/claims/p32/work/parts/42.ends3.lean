/-! an end, on both sides -/
/-- who ended stays so; who ends, ends now -/
def EV (T : Nat) (u u' : S_X3) : Prop := ∀ t, (mb (a_X3_living u) t = false → mb (a_X3_living u') t = false ∧ a_X3_endTimes u' t = a_X3_endTimes u t) ∧ (mb (a_X3_living u) t = true → mb (a_X3_living u') t = false → a_X3_endTimes u' t = nI T)
theorem EV.of {T : Nat} {u u' : S_X3} (h1 : a_X3_living u' = a_X3_living u) (h2 : a_X3_endTimes u' = a_X3_endTimes u) : EV T u u' := fun t => by
  rw [h1, h2]
  exact ⟨fun z => ⟨z, rfl⟩, fun z1 z2 => by rw [z1] at z2; cases z2⟩
theorem EV.tr {T : Nat} {a b c : S_X3} (h1 : EV T a b) (h2 : EV T b c) : EV T a c := fun t => by
  obtain ⟨p1, p2⟩ := h1 t
  obtain ⟨q1, q2⟩ := h2 t
  refine ⟨fun z => ?_, fun z1 z2 => ?_⟩
  · obtain ⟨r1, r2⟩ := p1 z
    obtain ⟨r3, r4⟩ := q1 r1
    exact ⟨r3, r4.trans r2⟩
  · cases hb : mb (a_X3_living b) t with
    | true => exact q2 hb z2
    | false => rw [(q1 hb).2]; exact p2 z1 hb
theorem mb_clear (s : Int32) {t : Nat} (ht : t < 32) (j : Nat) : mb (s &&& ((1 <<< (nI t &&& 31)) ^^^ (-1))) j = (mb s j && !decide (j = t)) := by
  rw [mb_and]
  by_cases hj : j < 32
  · rw [mb_not _ hj, mb_one t ht j hj]
    by_cases h : t = j
    · subst h; simp
    · rw [decide_eq_false h, decide_eq_false (Ne.symm h)]
  · rw [mb_big s (by omega)]; simp
theorem mb_set (s : Int32) {t : Nat} (ht : t < 32) (j : Nat) : mb (s ||| (1 <<< (nI t &&& 31))) j = if j = t then true else mb s j := by
  rw [mb_or]
  by_cases hj : j < 32
  · rw [mb_one t ht j hj]
    by_cases h : t = j
    · subst h; simp
    · rw [decide_eq_false h, if_neg (Ne.symm h)]; simp
  · rw [mb_big s (by omega), mb_big _ (by omega), if_neg (by omega)]; rfl
theorem en_slots {F : Nat} (hF : 6100 < F) {B T n e h t : Nat} (ht : t < n) {Gd : Nat → Bool} {g how : Int32} (hg : ∀ o, o < 24 → mb g o = (Gd o || decide (o = t))) (u0 : S_X3) (w0 : S_X5) (v0 : Nat → Int32) (hz : ∀ o, o < 24 → zt w0 how o = Gd o)
    (hH : ∀ k, k < 4 → (a_X3_hold u0 (4 + 4 * t + k) = -1 ∧ v0 (257 + 4 * t + k) = -1) ∨ ∃ s, s < n ∧ v0 (257 + 4 * t + k) = nI s ∧ (a_X3_hold u0 (4 + 4 * t + k) = nI s ∨ (a_X3_hold u0 (4 + 4 * t + k) = -1 ∧ Gd s = true))) :
    ∀ d k m nn mm u v, k + d = 4 → d < nn → d < mm → WB B T n e h m u v → h + m + d ≤ B + 4 * e → (a_X3_living u = a_X3_living u0 ∧ a_X3_wronged u = a_X3_wronged u0 ∧ a_X3_ranks u = a_X3_ranks u0 ∧ a_X3_endTimes u = a_X3_endTimes u0) → (∀ j, a_X3_hold u j = if 4 + 4 * t ≤ j ∧ j < 4 + 4 * t + k then -1 else a_X3_hold u0 j) → (∀ j, (13 ≤ j ∧ j < 17) ∨ (257 ≤ j ∧ j < 353) → v j = if 257 + 4 * t ≤ j ∧ j < 257 + 4 * t + k then -1 else v0 j) →
      ∃ m' u' v', s_X3_endThing_l103 F (nI t) g nn u (nI k) = s_X3_endThing_b177 F u' (nI t) g ∧ s_X5_ends_l94 F (nI t) how mm (m_X5_state v w0) (nI k) = s_X5_ends_l164 F (nI t) how F (m_X5_state v' w0) 0 0 ∧ WB B T n e h m' u' v' ∧ (a_X3_living u' = a_X3_living u0 ∧ a_X3_wronged u' = a_X3_wronged u0 ∧ a_X3_ranks u' = a_X3_ranks u0 ∧ a_X3_endTimes u' = a_X3_endTimes u0) ∧ (∀ j, a_X3_hold u' j = if 4 + 4 * t ≤ j ∧ j < 4 + 4 * t + 4 then -1 else a_X3_hold u0 j) ∧ (∀ j, (13 ≤ j ∧ j < 17) ∨ (257 ≤ j ∧ j < 353) → v' j = if 257 + 4 * t ≤ j ∧ j < 257 + 4 * t + 4 then -1 else v0 j) := by
  intro d
  induction d with
  | zero =>
    intro k m nn mm u v hk hnn hmm q hb hu hh hv
    obtain ⟨nn, rfl⟩ : ∃ j, nn = j + 1 := ⟨nn - 1, by omega⟩
    obtain ⟨mm, rfl⟩ : ∃ j, mm = j + 1 := ⟨mm - 1, by omega⟩
    obtain rfl : k = 4 := by omega
    refine ⟨m, u, v, ?_, ?_, q, hu, hh, hv⟩
    · rw [e_X3_endThing_l103, if_pos (by decide)]
    · rw [e_X5_ends_l94, if_pos (by decide)]
  | succ d ih =>
    intro k m nn mm u v hk hnn hmm q hb hu hh hv
    obtain ⟨nn, rfl⟩ : ∃ j, nn = j + 1 := ⟨nn - 1, by omega⟩
    obtain ⟨mm, rfl⟩ : ∃ j, mm = j + 1 := ⟨mm - 1, by omega⟩
    obtain ⟨he, hn, -⟩ := WB_e q
    have hk4 : k < 4 := by omega
    obtain ⟨v1, hv1⟩ : ∃ f, f = upd v (257 + 4 * t + k) (-1) := ⟨_, rfl⟩
    obtain ⟨f1, hf1⟩ : ∃ f, f = upd (a_X3_hold u) (4 + 4 * t + k) (-1) := ⟨_, rfl⟩
    have q1 : WB B T n e h m (m_X3_hold f1 u) v1 := WB_hold q f1 fun j hj => by
      rw [hv1, upd_ne _ _ (by omega)]
    have hh1 : ∀ j, a_X3_hold (m_X3_hold f1 u) j = if 4 + 4 * t ≤ j ∧ j < 4 + 4 * t + (k + 1) then -1 else a_X3_hold u0 j := by
      intro j
      show f1 j = _
      rw [hf1]
      by_cases hj : j = 4 + 4 * t + k
      · rw [hj, upd_at, if_pos (by omega)]
      · rw [upd_ne _ _ hj, hh j]
        by_cases hc : 4 + 4 * t ≤ j ∧ j < 4 + 4 * t + k
        · rw [if_pos hc, if_pos (by omega)]
        · rw [if_neg hc, if_neg (by omega)]
    have hz1 : ∀ j, (13 ≤ j ∧ j < 17) ∨ (257 ≤ j ∧ j < 353) → v1 j = if 257 + 4 * t ≤ j ∧ j < 257 + 4 * t + (k + 1) then -1 else v0 j := by
      intro j hj0
      rw [hv1]
      by_cases hj : j = 257 + 4 * t + k
      · rw [hj, upd_at, if_pos (by omega)]
      · rw [upd_ne _ _ hj, hv j hj0]
        by_cases hc : 257 + 4 * t ≤ j ∧ j < 257 + 4 * t + k
        · rw [if_pos hc, if_pos (by omega)]
        · rw [if_neg hc, if_neg (by omega)]
    have hx : a_X3_hold u (4 + 4 * t + k) = a_X3_hold u0 (4 + 4 * t + k) := by rw [hh, if_neg (by omega)]
    have hy : v (257 + 4 * t + k) = v0 (257 + 4 * t + k) := by rw [hv _ (by omega), if_neg (by omega)]
    have em : m_X5_state (upd (a_X5_state (m_X5_state v w0)) (257 + 4 * t + k) (-1)) (m_X5_state v w0) = m_X5_state v1 w0 := by rw [hv1]
    have ey : a_X5_state (m_X5_state v w0) (257 + 4 * t + k) = v0 (257 + 4 * t + k) := hy
    rw [e_X3_endThing_l103, if_neg (il_nle hk4 (by decide)), ni_plk, x0_at F _ (by omega), Option.bind_some, x0_hold F _ _ (by omega), Option.bind_some, hx, ← hf1, ni_1]
    rw [e_X5_ends_l94, if_neg (il_nle hk4 (by decide)), x5_slotOf F _ (show 257 + 4 * t + k < 20377 by omega), Option.bind_some, ix_slot, if_pos (ni_lx (show 257 + 4 * t + k < 20377 by omega) (by decide)), ni_nat (by omega), em, ey, ni_1]
    have skip := ih (k + 1) m nn mm (m_X3_hold f1 u) v1 (by omega) (by omega) (by omega) q1 (by omega) hu hh1 hz1
    rcases hH k hk4 with ⟨c1, c2⟩ | ⟨s, hs, c2, c1⟩
    · rw [c1, c2, if_pos rfl, if_pos rfl]
      exact skip
    · have hs24 : s < 24 := by omega
      have hzs : zt (m_X5_state v1 w0) how s = Gd s := hz s hs24
      rw [c2]
      rcases c1 with c1 | ⟨c1, c3⟩
      · rw [c1, if_neg (nI_ne (by omega)), if_neg (nI_ne (by omega)), st_in_mb g (by omega), hg s hs24, x5_endsToo F _ hs24, Option.bind_some, hzs]
        by_cases hst : s = t
        · rw [if_pos (show (Gd s || decide (s = t)) = true by rw [decide_eq_true hst]; simp), if_pos (by rw [hst])]
          exact skip
        · rw [if_neg (show ¬ nI s = nI t from fun z => hst ((ni_eq (by omega) (by omega)).mp z)), decide_eq_false hst, Bool.or_false]
          cases hG : Gd s with
          | true => rw [if_pos rfl, if_pos rfl]; exact skip
          | false =>
            rw [if_neg (by decide), if_neg (by decide)]
            obtain ⟨r', v', g1, g2, g3, g4⟩ := WB_report (F := F) (by omega) (u := m_X3_hold f1 u) (w := m_X5_state v1 w0) q1 (by omega) hs (y := -1) (fl := 0) (Or.inr rfl)
            have g1' : s_X1_make F (a_X3_rep u) (nI s) (-1) (a_X3_time (m_X3_hold f1 u) + a_X3_settings (m_X3_hold f1 u) (s % 3)) 0 = some (nI (h + m), r') := g1
            rw [x3_dueTime F _ hs24, Option.bind_some, g1', Option.bind_some, g2, Option.bind_some]
            refine ih (k + 1) (m + 1) nn mm (m_X3_rep r' (m_X3_hold f1 u)) v' (by omega) (by omega) (by omega) g3 (by omega) hu hh1 fun j hj => ?_
            rw [g4 j (by omega) (by omega) (by omega)]
            exact hz1 j hj
      · rw [c1, if_pos rfl, if_neg (nI_ne (by omega)), x5_endsToo F _ hs24, Option.bind_some, hzs, c3]
        by_cases hst : nI s = nI t
        · rw [if_pos hst]; exact skip
        · rw [if_neg hst, if_pos rfl]; exact skip
set_option maxHeartbeats 1000000 in
theorem x_ends {F : Nat} (hF : 6100 < F) {B T n e h m : Nat} {u : S_X3} {w : S_X5} {Gd : Nat → Bool} (q : WX Gd B T n e h m u (a_X5_state w)) {t : Nat} (ht : t < n) (hl : mb (a_X3_living u) t = true) {g how : Int32} (hh : how = 1 ∨ how = 2) (hz : ∀ o, o < 24 → zt w how o = Gd o) (hg : ∀ o, o < 24 → mb g o = (Gd o || decide (o = t))) (hgt : Gd t = true ∨ ∀ o, o < 24 → Gd o = false) :
    ∃ m' u' v', s_X3_endThing F u (nI t) g how = some u' ∧ s_X5_ends F w (nI t) how = some (m_X5_state v' w) ∧ WX Gd B T n (e + 1) h m' u' v' ∧ (∀ j, mb (a_X3_living u') j = (mb (a_X3_living u) j && !decide (j = t))) ∧ a_X3_ranks u' = a_X3_ranks u ∧ EV T u u' := by
  obtain ⟨qB, qH1, qH2, qH3, qH4⟩ := q
  obtain ⟨he, hn, -⟩ := WB_e qB
  have ht24 : t < 24 := by omega
  have hS := qB.1
  have s9 : a_X3_ends u = nI e := hS.2.2.2.2.2.2.2.2.1
  have s10 : a_X5_state w 4 = nI e := hS.2.2.2.2.2.2.2.2.2.1
  have hw0 : mb (a_X3_wronged u) t = false := by
    cases hb : mb (a_X3_wronged u) t with
    | false => rfl
    | true => have := (qB.2.2.2.1.2.2.1 t hb).2; rw [hl] at this; cases this
  obtain ⟨l', hl'⟩ : ∃ l', l' = a_X3_living u &&& ((1 <<< (nI t &&& 31)) ^^^ (-1)) := ⟨_, rfl⟩
  obtain ⟨s', hs'⟩ : ∃ s', s' = a_X3_suspects u &&& ((1 <<< (nI t &&& 31)) ^^^ (-1)) := ⟨_, rfl⟩
  have hlb : ∀ j, mb l' j = (mb (a_X3_living u) j && !decide (j = t)) := fun j => by rw [hl']; exact mb_clear _ (by omega) j
  have hsb : ∀ j, mb s' j = (mb (a_X3_suspects u) j && !decide (j = t)) := fun j => by rw [hs']; exact mb_clear _ (by omega) j
  have he24 : e < 24 := by
    have h1 : e = cn (fun x => !mb (a_X3_living u) x) n := hS.2.2.2.2.2.2.2.2.2.2.1
    have h2 := cn_one (p := fun x => !mb (a_X3_living u) x) (q := fun x => !mb l' x) n ht (by rw [hl]; rfl) (by rw [hlb t]; simp) (fun k hk hkt => by rw [hlb k, decide_eq_false hkt]; simp)
    have h3 := cn_le (fun x => !mb l' x) n
    omega
  obtain ⟨v1, hrun, hv1⟩ := md_start (F := F) w ht24 he24 s10 hh
  have q1 := WB_end qB ht hl hh hlb hsb hv1
  obtain ⟨u1, hu1⟩ : ∃ u1, u1 = m_X3_ends (a_X3_ends u + 1) (m_X3_endOrder (upd (a_X3_endOrder u) e (nI t)) (m_X3_endKinds (upd (a_X3_endKinds u) t how) (m_X3_endTimes (upd (a_X3_endTimes u) t (a_X3_time u)) (m_X3_endNumbers (upd (a_X3_endNumbers u) t (a_X3_ends u)) (m_X3_suspects s' (m_X3_living l' u)))))) := ⟨_, rfl⟩
  have hcl : s_X3_endThing F u (nI t) g how = s_X3_endThing_l103 F (nI t) g F u1 0 := by
    have c1 : ¬ a_X3_ends u < 0 := by rw [s9]; exact ni_nneg (by omega)
    have c2 : a_X3_ends u < 24 := by rw [s9]; exact (ni_lt (b := 24) (by omega) (by omega)).mpr he24
    have c3 : lf_ix (a_X3_ends u) 24 := by rw [s9]; exact ni_lx he24 (by decide)
    have c4 : (a_X3_ends u).toNatClampNeg = e := by rw [s9, ni_nat (by omega)]
    unfold s_X3_endThing
    rw [x3_lives F u ht24, Option.bind_some, if_pos hl, if_neg c1, if_pos c2, if_pos (ni_lx ht24 (by decide)), if_pos (ni_lx ht24 (by decide)), if_pos (ni_lx ht24 (by decide)), if_pos c3, c4, ni_nat (by omega), ← hl', ← hs', ← hu1]
  rw [← hu1] at q1
  have eh : a_X3_hold u1 = a_X3_hold u := by rw [hu1]
  have el : a_X3_living u1 = l' := by rw [hu1]
  have ew : a_X3_wronged u1 = a_X3_wronged u := by rw [hu1]
  have er : a_X3_ranks u1 = a_X3_ranks u := by rw [hu1]
  have lo1 : ∀ j, (13 ≤ j ∧ j < 17) ∨ (257 ≤ j ∧ j < 353) → v1 j = a_X5_state w j := by
    intro j hj
    rw [hv1, if_neg (by omega), if_neg (by omega), if_neg (by omega), if_neg (by omega), if_neg (by omega), if_neg (by omega), if_neg (by omega), if_neg (by omega)]
  have hHs : ∀ k, k < 4 → (a_X3_hold u1 (4 + 4 * t + k) = -1 ∧ v1 (257 + 4 * t + k) = -1) ∨ ∃ s, s < n ∧ v1 (257 + 4 * t + k) = nI s ∧ (a_X3_hold u1 (4 + 4 * t + k) = nI s ∨ (a_X3_hold u1 (4 + 4 * t + k) = -1 ∧ Gd s = true)) := by
    intro k hk
    rw [eh, lo1 _ (by omega)]
    rcases qH2 t ht k hk with c | ⟨-, -, c1, s, c2, c3, c4, -⟩
    · rcases qH3 (4 + 4 * t + k) (by omega) with c1 | ⟨s, c1, c2, -⟩
      · exact Or.inl ⟨c1, by rw [c, c1]⟩
      · exact Or.inr ⟨s, c1, by rw [c, c2], Or.inl c2⟩
    · exact Or.inr ⟨s, c2, c3, Or.inr ⟨c1, c4⟩⟩
  have hbud : h + m + 4 ≤ B + 4 * (e + 1) := by have := qB.2.2.2.2.2.2.1; omega
  obtain ⟨m', u2, v2, k1, k2, k3, k4, k5, k6⟩ := en_slots hF ht hg u1 w v1 hz hHs 4 0 m F F u1 v1 (by omega) (by omega) (by omega) q1 (by omega) ⟨rfl, rfl, rfl, rfl⟩ (fun j => by rw [if_neg (by omega)]) (fun j hj => by rw [if_neg (by omega)])
  have el2 : a_X3_living u2 = l' := k4.1.trans el
  have ew2 : a_X3_wronged u2 = a_X3_wronged u := k4.2.1.trans ew
  have er2 : a_X3_ranks u2 = a_X3_ranks u := k4.2.2.1.trans er
  have et2 : a_X3_endTimes u2 = upd (a_X3_endTimes u) t (a_X3_time u) := k4.2.2.2.trans (by rw [hu1])
  have hold2 : ∀ j, a_X3_hold u2 j = if 4 + 4 * t ≤ j ∧ j < 4 + 4 * t + 4 then -1 else a_X3_hold u j := fun j => by rw [k5 j, eh]
  have v2z : ∀ j, (13 ≤ j ∧ j < 17) ∨ (257 ≤ j ∧ j < 353) → v2 j = if 257 + 4 * t ≤ j ∧ j < 257 + 4 * t + 4 then -1 else a_X5_state w j := fun j hj => by rw [k6 j hj, lo1 j hj]
  have v2l : ∀ o, o < n → (v2 (17 + 10 * o) = 1 ↔ mb l' o = true) := fun o ho => by
    rw [(k3.2.2.1.1 o ho).1, el2]; exact bv1
  obtain ⟨b, b1, b2⟩ := x0_letGo (F := F) (by omega) (a_X3_hold u2) (nI t) g
  obtain ⟨c, c1, c2⟩ := md_hands (F := F) (by omega) w t how v2
  obtain ⟨v3, hv3⟩ : ∃ f : Nat → Int32, f = fun j => if 13 ≤ j ∧ j < 17 ∧ v2 j = nI t then -1 else v2 j := ⟨_, rfl⟩
  rw [← hv3] at c1
  have v3e : ∀ j, v3 j = if 13 ≤ j ∧ j < 17 ∧ v2 j = nI t then -1 else v2 j := fun j => by rw [hv3]
  have v3n : ∀ j, ¬ (13 ≤ j ∧ j < 17) → v3 j = v2 j := fun j hj => by rw [v3e, if_neg (fun z => hj ⟨z.1, z.2.1⟩)]
  obtain ⟨c', d1, d2⟩ := md_owners (F := F) (by omega) w t how (n := n) (by omega) v3 (by rw [v3n 1 (by omega)]; exact k3.1.2.2.2.2.1) c
  obtain ⟨v4, hv4⟩ : ∃ f : Nat → Int32, f = fun j => if 257 ≤ j ∧ (j - 257) / 4 < n ∧ v3 (17 + 10 * ((j - 257) / 4)) = 1 ∧ zt w how ((j - 257) / 4) = false ∧ v3 j = nI t then -1 else v3 j := ⟨_, rfl⟩
  rw [← hv4] at d1
  have v4e : ∀ j, v4 j = if 257 ≤ j ∧ (j - 257) / 4 < n ∧ v3 (17 + 10 * ((j - 257) / 4)) = 1 ∧ zt w how ((j - 257) / 4) = false ∧ v3 j = nI t then -1 else v3 j := fun j => by rw [hv4]
  have v4n : ∀ j, ¬ ((13 ≤ j ∧ j < 17) ∨ (257 ≤ j ∧ j < 353)) → v4 j = v2 j := fun j hj => by rw [v4e, if_neg (by omega), v3n j (by omega)]
  -- the flags
  have hflag : b = c' := by
    rw [Bool.eq_iff_iff, b2, d2, c2]
    constructor
    · rintro ⟨k, hk, hk2, hk3⟩
      rw [hold2 k] at hk2
      by_cases hown : 4 + 4 * t ≤ k ∧ k < 4 + 4 * t + 4
      · rw [if_pos hown] at hk2; exact absurd hk2.symm (nI_ne (by omega))
      · rw [if_neg hown] at hk2
        by_cases hk4 : k < 4
        · exact Or.inl ⟨k, hk4, by rw [v2z _ (by omega), if_neg (by omega), qH1 k hk4]; exact hk2⟩
        · refine Or.inr ⟨(k - 4) / 4, (k - 4) % 4, ?_⟩
          have hk5 : mb g ((k - 4) / 4) = false := by
            rcases hk3 with z | z
            · exact absurd z hk4
            · exact z
          have hko : (k - 4) / 4 < 24 := by omega
          rw [hg _ hko, Bool.or_eq_false_iff] at hk5
          have hidx : 4 + 4 * ((k - 4) / 4) + (k - 4) % 4 = k := by omega
          have hlv : mb (a_X3_living u) ((k - 4) / 4) = true := by
            cases hlv : mb (a_X3_living u) ((k - 4) / 4) with
            | true => rfl
            | false =>
              have := qH4 _ hko hlv ((k - 4) % 4) (by omega)
              rw [hidx, hk2] at this
              exact absurd this (nI_ne (by omega))
          have hon : (k - 4) / 4 < n := qB.2.2.2.1.1 _ hlv
          refine ⟨hon, by omega, ?_, by rw [hz _ hko]; exact hk5.1, ?_⟩
          · rw [v3n _ (by omega)]
            exact (v2l _ hon).mpr (by rw [hlb, hlv, hk5.2]; rfl)
          · rw [v3n _ (by omega), v2z _ (by omega), if_neg (by omega)]
            rcases qH2 _ hon ((k - 4) % 4) (by omega) with z | ⟨-, -, z, -⟩
            · rw [z, hidx]; exact hk2
            · rw [hidx, hk2] at z; exact absurd z (nI_ne (by omega))
    · rintro (⟨k, hk, hk2⟩ | ⟨o, k, ho, hk, h1, h2, h3⟩)
      · rw [v2z _ (by omega), if_neg (by omega), qH1 k hk] at hk2
        exact ⟨k, by omega, by rw [hold2, if_neg (by omega)]; exact hk2, Or.inl hk⟩
      · rw [v3n _ (by omega)] at h1 h3
        have hlo := (v2l o ho).mp h1
        rw [hlb o, Bool.and_eq_true] at hlo
        have hot : ¬ o = t := by simpa using hlo.2
        rw [v2z _ (by omega), if_neg (by omega)] at h3
        rw [hz o (by omega)] at h2
        refine ⟨4 + 4 * o + k, by omega, ?_, Or.inr ?_⟩
        · rw [hold2, if_neg (by omega)]
          rcases qH2 o ho k hk with z | ⟨z, -⟩
          · rw [← z]; exact h3
          · rw [h2] at z; cases z
        · rw [show (4 + 4 * o + k - 4) / 4 = o by omega, hg o (by omega), h2, decide_eq_false hot]; rfl
  subst hflag
  obtain ⟨f', hf'⟩ : ∃ f : S_X0, f = fun k => if k < 100 ∧ a_X3_hold u2 k = nI t then -1 else a_X3_hold u2 k := ⟨_, rfl⟩
  rw [← hf'] at b1
  have f'e : ∀ k, f' k = if k < 100 ∧ a_X3_hold u2 k = nI t then -1 else a_X3_hold u2 k := fun k => by rw [hf']
  have q4 : WB B T n (e + 1) h m' (m_X3_hold f' u2) v4 := WB_hold k3 f' v4n
  obtain ⟨sw, hsw⟩ : ∃ sw, sw = if b then a_X3_wronged u2 ||| (1 <<< (nI t &&& 31)) else a_X3_wronged u2 := ⟨_, rfl⟩
  have hswb : ∀ j, mb sw j = if j = t then b else mb (a_X3_wronged u2) j := by
    intro j
    rw [hsw]
    cases b with
    | true => rw [if_pos rfl, mb_set _ (by omega)]
    | false =>
      rw [if_neg (by decide)]
      by_cases hj : j = t
      · rw [if_pos hj, hj, ew2]; exact hw0
      · rw [if_neg hj]
  have q5 := WB_wrong (u := m_X3_hold f' u2) q4 ht (by show mb (a_X3_living u2) t = false; rw [el2, hlb t]; simp) (by show mb (a_X3_wronged u2) t = false; rw [ew2]; exact hw0) b hswb
  refine ⟨m', m_X3_wronged sw (m_X3_hold f' u2), upd (upd v4 (17 + 10 * t + 8) (ev_b b)) 6 (v4 6 + ev_b b), ?_, ?_, ⟨q5, ?_, ?_, ?_, ?_⟩, ?_, ?_⟩
  · have k1' : s_X3_endThing_l103 F (nI t) g F u1 0 = _ := k1
    rw [hcl, k1']
    unfold s_X3_endThing_b177
    rw [b1, Option.bind_some, hsw]
    cases b with
    | true => rw [if_pos rfl, if_pos rfl]
    | false => rw [if_neg Bool.false_ne_true, if_neg Bool.false_ne_true]
  · have k2' : s_X5_ends_l94 F (nI t) how F (m_X5_state v1 w) 0 = _ := k2
    rw [hrun, k2', c1, d1]
    exact md_flag F w ht24 v4 b
  · intro k hk
    show _ = f' k
    have a1 : v2 (13 + k) = a_X3_hold u k := by rw [v2z _ (by omega), if_neg (by omega), qH1 k hk]
    have a2 : a_X3_hold u2 k = a_X3_hold u k := by rw [hold2, if_neg (by omega)]
    rw [upd_ne _ _ (by omega), upd_ne _ _ (by omega), v4e, if_neg (by omega), v3e, f'e, a1, a2]
    by_cases hc : a_X3_hold u k = nI t
    · rw [if_pos ⟨by omega, by omega, hc⟩, if_pos ⟨by omega, hc⟩]
    · rw [if_neg (fun z => hc z.2.2), if_neg (fun z => hc z.2)]
  · intro o ho k hk
    show _ = f' (4 + 4 * o + k) ∨ (Gd o = true ∧ mb (a_X3_living u2) o = true ∧ f' (4 + 4 * o + k) = -1 ∧ ∃ s, s < n ∧ _ = nI s ∧ Gd s = true ∧ mb (a_X3_living u2) s = false)
    have hup : upd (upd v4 (17 + 10 * t + 8) (ev_b b)) 6 (v4 6 + ev_b b) (257 + 4 * o + k) = v4 (257 + 4 * o + k) := by rw [upd_ne _ _ (by omega), upd_ne _ _ (by omega)]
    have hv3l : v3 (17 + 10 * o) = v2 (17 + 10 * o) := v3n _ (by omega)
    have hv3s : v3 (257 + 4 * o + k) = v2 (257 + 4 * o + k) := v3n _ (by omega)
    have hv4 : v4 (257 + 4 * o + k) = if 257 ≤ 257 + 4 * o + k ∧ o < n ∧ v2 (17 + 10 * o) = 1 ∧ Gd o = false ∧ v2 (257 + 4 * o + k) = nI t then -1 else v2 (257 + 4 * o + k) := by rw [v4e, show (257 + 4 * o + k - 257) / 4 = o by omega, hv3l, hv3s, hz o (by omega)]
    rw [hup, hv4, el2, f'e]
    by_cases hot : o = t
    · have a1 : v2 (257 + 4 * o + k) = -1 := by rw [v2z _ (by omega), if_pos (by omega)]
      have a2 : a_X3_hold u2 (4 + 4 * o + k) = -1 := by rw [hold2, if_pos (by omega)]
      rw [a1, a2, if_neg (fun z => absurd z.2.2.2.2.symm (nI_ne (by omega))), if_neg (fun z => absurd z.2.symm (nI_ne (by omega)))]
      exact Or.inl rfl
    · have a1 : v2 (257 + 4 * o + k) = a_X5_state w (257 + 4 * o + k) := by rw [v2z _ (by omega), if_neg (by omega)]
      have a2 : a_X3_hold u2 (4 + 4 * o + k) = a_X3_hold u (4 + 4 * o + k) := by rw [hold2, if_neg (by omega)]
      have hlo : mb l' o = mb (a_X3_living u) o := by rw [hlb o, decide_eq_false hot]; simp
      rw [a1, a2]
      rcases qH2 o ho k hk with z | ⟨z1, z2, z3, s, z4, z5, z6, z7⟩
      · rw [z]
        by_cases hc : a_X3_hold u (4 + 4 * o + k) = nI t
        · rw [if_pos (show 4 + 4 * o + k < 100 ∧ a_X3_hold u (4 + 4 * o + k) = nI t from ⟨by omega, hc⟩)]
          have hlv : mb (a_X3_living u) o = true := by
            cases hlv : mb (a_X3_living u) o with
            | true => rfl
            | false => have := qH4 o (by omega) hlv k hk; rw [hc] at this; exact absurd this (nI_ne (by omega))
          cases hG : Gd o with
          | false =>
            rw [if_pos ⟨by omega, ho, (v2l o ho).mpr (by rw [hlo]; exact hlv), rfl, hc⟩]
            exact Or.inl rfl
          | true =>
            rw [if_neg (fun z => by cases z.2.2.2.1)]
            refine Or.inr ⟨rfl, by rw [hlo]; exact hlv, rfl, t, ht, hc, ?_, by rw [hlb t]; simp⟩
            rcases hgt with z | z
            · exact z
            · rw [z o (by omega)] at hG; cases hG
        · rw [if_neg (fun z => hc z.2.2.2.2), if_neg (fun z => hc z.2)]
          exact Or.inl rfl
      · rw [if_neg (fun z => by have := z.2.2.2.1; rw [z1] at this; cases this), z3]
        refine Or.inr ⟨z1, by rw [hlo]; exact z2, ?_, s, z4, z5, z6, ?_⟩
        · rw [if_neg (fun z => absurd z.2.symm (nI_ne (by omega)))]
        · rw [hlb s, z7]; rfl
  · intro k hk
    show f' k = -1 ∨ ∃ s, s < n ∧ f' k = nI s ∧ mb (a_X3_living u2) s = true
    rw [f'e, hold2, el2]
    by_cases hown : 4 + 4 * t ≤ k ∧ k < 4 + 4 * t + 4
    · rw [if_pos hown, if_neg (fun z => absurd z.2.symm (nI_ne (by omega)))]
      exact Or.inl rfl
    · rw [if_neg hown]
      rcases qH3 k hk with z | ⟨s, z1, z2, z3⟩
      · rw [z, if_neg (fun z => absurd z.2.symm (nI_ne (by omega)))]
        exact Or.inl rfl
      · rw [z2]
        by_cases hst : s = t
        · rw [if_pos ⟨hk, by rw [hst]⟩]; exact Or.inl rfl
        · rw [if_neg (fun z => hst ((ni_eq (by omega) (by omega)).mp z.2))]
          exact Or.inr ⟨s, z1, rfl, by rw [hlb s, z3, decide_eq_false hst]; rfl⟩
  · intro o ho hlv k hk
    have hlv2 : mb (a_X3_living u2) o = false := hlv
    show f' (4 + 4 * o + k) = -1
    rw [el2, hlb o] at hlv2
    rw [f'e, hold2]
    by_cases hot : o = t
    · subst hot
      rw [if_pos (show 4 + 4 * o ≤ 4 + 4 * o + k ∧ 4 + 4 * o + k < 4 + 4 * o + 4 by omega), if_neg (fun z => absurd z.2.symm (nI_ne (by omega)))]
    · rw [if_neg (show ¬ (4 + 4 * t ≤ 4 + 4 * o + k ∧ 4 + 4 * o + k < 4 + 4 * t + 4) by omega)]
      rw [decide_eq_false hot] at hlv2
      rw [qH4 o ho (by simpa using hlv2) k hk, if_neg (fun z => absurd z.2.symm (nI_ne (by omega)))]
  · intro j
    show mb (a_X3_living u2) j = _
    rw [el2]; exact hlb j
  · refine ⟨er2, ?_⟩
    intro j
    have e1 : ∀ j, mb (a_X3_living (m_X3_wronged sw (m_X3_hold f' u2))) j = (mb (a_X3_living u) j && !decide (j = t)) := fun j => by
      show mb (a_X3_living u2) j = _
      rw [el2]; exact hlb j
    have e2 : ∀ j, a_X3_endTimes (m_X3_wronged sw (m_X3_hold f' u2)) j = upd (a_X3_endTimes u) t (a_X3_time u) j := fun j => by
      show a_X3_endTimes u2 j = _
      rw [et2]
    rw [e1 j, e2 j]
    constructor
    · intro z
      refine ⟨by rw [z]; rfl, ?_⟩
      by_cases hj : j = t
      · rw [hj, hl] at z; cases z
      · rw [upd_ne _ _ hj]
    · intro z1 z2
      rw [z1, Bool.true_and] at z2
      have hj : j = t := by simpa using z2
      rw [hj, upd_at]
      exact hS.1
