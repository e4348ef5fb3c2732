/-! the law's own methods, lifted -/
abbrev S_XQ : Type := (Nat → Int32) × (Nat → Int32)
abbrev a_XQ_q (u : S_XQ) : Nat → Int32 := u.1
abbrev m_XQ_q (v : Nat → Int32) (u : S_XQ) : S_XQ := (v, u.2)
abbrev a_XQ_re (u : S_XQ) : Nat → Int32 := u.2
abbrev m_XQ_re (v : Nat → Int32) (u : S_XQ) : S_XQ := (u.1, v)
abbrev W_XQ (u : S_XQ) : List ev_E := [.inl (0, 12, .inl (a_XQ_q u)), .inl (0, 64, .inl (a_XQ_re u))]
abbrev S_XE : Type := (Nat → Int32) × (Nat → Int32) × (Nat → Int32) × (Nat → Int32)
abbrev a_XE_q (u : S_XE) : Nat → Int32 := u.1
abbrev m_XE_q (v : Nat → Int32) (u : S_XE) : S_XE := (v, u.2.1, u.2.2.1, u.2.2.2)
abbrev a_XE_th (u : S_XE) : Nat → Int32 := u.2.1
abbrev m_XE_th (v : Nat → Int32) (u : S_XE) : S_XE := (u.1, v, u.2.2.1, u.2.2.2)
abbrev a_XE_sl (u : S_XE) : Nat → Int32 := u.2.2.1
abbrev m_XE_sl (v : Nat → Int32) (u : S_XE) : S_XE := (u.1, u.2.1, v, u.2.2.2)
abbrev a_XE_re (u : S_XE) : Nat → Int32 := u.2.2.2
abbrev m_XE_re (v : Nat → Int32) (u : S_XE) : S_XE := (u.1, u.2.1, u.2.2.1, v)
abbrev W_XE (u : S_XE) : List ev_E := [.inl (0, 12, .inl (a_XE_q u)), .inl (0, 48, .inl (a_XE_th u)), .inl (0, 28, .inl (a_XE_sl u)), .inl (0, 64, .inl (a_XE_re u))]
abbrev S_XW : Type := (Nat → Int32) × (Nat → Int32) × (Nat → Int32) × (Nat → Int32) × (Nat → Int32) × (Nat → Int32) × (Nat → Int32) × (Nat → Int32) × S_X4
abbrev a_XW_q (u : S_XW) : Nat → Int32 := u.1
abbrev m_XW_q (v : Nat → Int32) (u : S_XW) : S_XW := (v, u.2.1, u.2.2.1, u.2.2.2.1, u.2.2.2.2.1, u.2.2.2.2.2.1, u.2.2.2.2.2.2.1, u.2.2.2.2.2.2.2.1, u.2.2.2.2.2.2.2.2)
abbrev a_XW_th (u : S_XW) : Nat → Int32 := u.2.1
abbrev m_XW_th (v : Nat → Int32) (u : S_XW) : S_XW := (u.1, v, u.2.2.1, u.2.2.2.1, u.2.2.2.2.1, u.2.2.2.2.2.1, u.2.2.2.2.2.2.1, u.2.2.2.2.2.2.2.1, u.2.2.2.2.2.2.2.2)
abbrev a_XW_sl (u : S_XW) : Nat → Int32 := u.2.2.1
abbrev m_XW_sl (v : Nat → Int32) (u : S_XW) : S_XW := (u.1, u.2.1, v, u.2.2.2.1, u.2.2.2.2.1, u.2.2.2.2.2.1, u.2.2.2.2.2.2.1, u.2.2.2.2.2.2.2.1, u.2.2.2.2.2.2.2.2)
abbrev a_XW_re (u : S_XW) : Nat → Int32 := u.2.2.2.1
abbrev m_XW_re (v : Nat → Int32) (u : S_XW) : S_XW := (u.1, u.2.1, u.2.2.1, v, u.2.2.2.2.1, u.2.2.2.2.2.1, u.2.2.2.2.2.2.1, u.2.2.2.2.2.2.2.1, u.2.2.2.2.2.2.2.2)
abbrev a_XW_qs (u : S_XW) : Nat → Int32 := u.2.2.2.2.1
abbrev m_XW_qs (v : Nat → Int32) (u : S_XW) : S_XW := (u.1, u.2.1, u.2.2.1, u.2.2.2.1, v, u.2.2.2.2.2.1, u.2.2.2.2.2.2.1, u.2.2.2.2.2.2.2.1, u.2.2.2.2.2.2.2.2)
abbrev a_XW_ts (u : S_XW) : Nat → Int32 := u.2.2.2.2.2.1
abbrev m_XW_ts (v : Nat → Int32) (u : S_XW) : S_XW := (u.1, u.2.1, u.2.2.1, u.2.2.2.1, u.2.2.2.2.1, v, u.2.2.2.2.2.2.1, u.2.2.2.2.2.2.2.1, u.2.2.2.2.2.2.2.2)
abbrev a_XW_ss (u : S_XW) : Nat → Int32 := u.2.2.2.2.2.2.1
abbrev m_XW_ss (v : Nat → Int32) (u : S_XW) : S_XW := (u.1, u.2.1, u.2.2.1, u.2.2.2.1, u.2.2.2.2.1, u.2.2.2.2.2.1, v, u.2.2.2.2.2.2.2.1, u.2.2.2.2.2.2.2.2)
abbrev a_XW_rs (u : S_XW) : Nat → Int32 := u.2.2.2.2.2.2.2.1
abbrev m_XW_rs (v : Nat → Int32) (u : S_XW) : S_XW := (u.1, u.2.1, u.2.2.1, u.2.2.2.1, u.2.2.2.2.1, u.2.2.2.2.2.1, u.2.2.2.2.2.2.1, v, u.2.2.2.2.2.2.2.2)
abbrev a_XW_g (u : S_XW) : S_X4 := u.2.2.2.2.2.2.2.2
abbrev m_XW_g (v : S_X4) (u : S_XW) : S_XW := (u.1, u.2.1, u.2.2.1, u.2.2.2.1, u.2.2.2.2.1, u.2.2.2.2.2.1, u.2.2.2.2.2.2.1, u.2.2.2.2.2.2.2.1, v)
abbrev C9 (f9 : Nat → Option Nat) : ev_E := .inl (2, 6, .inr (.inr (.inr (.inr f9))))
abbrev W_XW (f9 : Nat → Option Nat) (u : S_XW) : List ev_E := [.inr (4, [.ref 1, .ref 16, .ref 31, .ref 49, .int (a_X4_savedStates (a_XW_g u)), .ref 46]), .inr (3, [.int (a_X3_time (a_X4_now (a_XW_g u))), .int (a_X3_things (a_X4_now (a_XW_g u))), .int (a_X3_living (a_X4_now (a_XW_g u))), .int (a_X3_suspects (a_X4_now (a_XW_g u))), .int (a_X3_wronged (a_X4_now (a_XW_g u))), .int (a_X3_ends (a_X4_now (a_XW_g u))), .int (a_X3_slanderFound (a_X4_now (a_XW_g u))), .ref 2, .ref 3, .ref 4, .ref 5, .ref 6, .ref 7, .ref 8, .ref 9, .ref 10, .ref 12]), .inl (0, 5, .inl (a_X3_settings (a_X4_now (a_XW_g u)))), .inl (0, 24, .inl (a_X3_ranks (a_X4_now (a_XW_g u)))), .inl (0, 24, .inl (a_X3_counts (a_X4_now (a_XW_g u)))), .inl (0, 24, .inl (a_X3_came (a_X4_now (a_XW_g u)))), .inl (0, 24, .inl (a_X3_endNumbers (a_X4_now (a_XW_g u)))), .inl (0, 24, .inl (a_X3_endTimes (a_X4_now (a_XW_g u)))), .inl (0, 24, .inl (a_X3_endKinds (a_X4_now (a_XW_g u)))), .inl (0, 24, .inl (a_X3_endOrder (a_X4_now (a_XW_g u)))), .inr (0, [.ref 11]), .inl (0, 100, .inl (a_X0_held (a_X3_hold (a_X4_now (a_XW_g u))))), .inr (1, [.int (a_X1_heard (a_X3_rep (a_X4_now (a_XW_g u)))), .int (a_X1_made (a_X3_rep (a_X4_now (a_XW_g u)))), .ref 13, .ref 14, .ref 15]), .inl (0, 6000, .inl (a_X1_rows (a_X3_rep (a_X4_now (a_XW_g u))))), .inl (0, 24, .inl (a_X1_numbers (a_X3_rep (a_X4_now (a_XW_g u))))), .inl (0, 24, .inl (a_X1_sums (a_X3_rep (a_X4_now (a_XW_g u))))), .inr (3, [.int (a_X3_time (a_X4_ahead (a_XW_g u))), .int (a_X3_things (a_X4_ahead (a_XW_g u))), .int (a_X3_living (a_X4_ahead (a_XW_g u))), .int (a_X3_suspects (a_X4_ahead (a_XW_g u))), .int (a_X3_wronged (a_X4_ahead (a_XW_g u))), .int (a_X3_ends (a_X4_ahead (a_XW_g u))), .int (a_X3_slanderFound (a_X4_ahead (a_XW_g u))), .ref 17, .ref 18, .ref 19, .ref 20, .ref 21, .ref 22, .ref 23, .ref 24, .ref 25, .ref 27]), .inl (0, 5, .inl (a_X3_settings (a_X4_ahead (a_XW_g u)))), .inl (0, 24, .inl (a_X3_ranks (a_X4_ahead (a_XW_g u)))), .inl (0, 24, .inl (a_X3_counts (a_X4_ahead (a_XW_g u)))), .inl (0, 24, .inl (a_X3_came (a_X4_ahead (a_XW_g u)))), .inl (0, 24, .inl (a_X3_endNumbers (a_X4_ahead (a_XW_g u)))), .inl (0, 24, .inl (a_X3_endTimes (a_X4_ahead (a_XW_g u)))), .inl (0, 24, .inl (a_X3_endKinds (a_X4_ahead (a_XW_g u)))), .inl (0, 24, .inl (a_X3_endOrder (a_X4_ahead (a_XW_g u)))), .inr (0, [.ref 26]), .inl (0, 100, .inl (a_X0_held (a_X3_hold (a_X4_ahead (a_XW_g u))))), .inr (1, [.int (a_X1_heard (a_X3_rep (a_X4_ahead (a_XW_g u)))), .int (a_X1_made (a_X3_rep (a_X4_ahead (a_XW_g u)))), .ref 28, .ref 29, .ref 30]), .inl (0, 6000, .inl (a_X1_rows (a_X3_rep (a_X4_ahead (a_XW_g u))))), .inl (0, 24, .inl (a_X1_numbers (a_X3_rep (a_X4_ahead (a_XW_g u))))), .inl (0, 24, .inl (a_X1_sums (a_X3_rep (a_X4_ahead (a_XW_g u))))), .inr (3, [.int (a_X3_time (a_X4_slandered (a_XW_g u))), .int (a_X3_things (a_X4_slandered (a_XW_g u))), .int (a_X3_living (a_X4_slandered (a_XW_g u))), .int (a_X3_suspects (a_X4_slandered (a_XW_g u))), .int (a_X3_wronged (a_X4_slandered (a_XW_g u))), .int (a_X3_ends (a_X4_slandered (a_XW_g u))), .int (a_X3_slanderFound (a_X4_slandered (a_XW_g u))), .ref 32, .ref 33, .ref 34, .ref 35, .ref 36, .ref 37, .ref 38, .ref 39, .ref 40, .ref 42]), .inl (0, 5, .inl (a_X3_settings (a_X4_slandered (a_XW_g u)))), .inl (0, 24, .inl (a_X3_ranks (a_X4_slandered (a_XW_g u)))), .inl (0, 24, .inl (a_X3_counts (a_X4_slandered (a_XW_g u)))), .inl (0, 24, .inl (a_X3_came (a_X4_slandered (a_XW_g u)))), .inl (0, 24, .inl (a_X3_endNumbers (a_X4_slandered (a_XW_g u)))), .inl (0, 24, .inl (a_X3_endTimes (a_X4_slandered (a_XW_g u)))), .inl (0, 24, .inl (a_X3_endKinds (a_X4_slandered (a_XW_g u)))), .inl (0, 24, .inl (a_X3_endOrder (a_X4_slandered (a_XW_g u)))), .inr (0, [.ref 41]), .inl (0, 100, .inl (a_X0_held (a_X3_hold (a_X4_slandered (a_XW_g u))))), .inr (1, [.int (a_X1_heard (a_X3_rep (a_X4_slandered (a_XW_g u)))), .int (a_X1_made (a_X3_rep (a_X4_slandered (a_XW_g u)))), .ref 43, .ref 44, .ref 45]), .inl (0, 6000, .inl (a_X1_rows (a_X3_rep (a_X4_slandered (a_XW_g u))))), .inl (0, 24, .inl (a_X1_numbers (a_X3_rep (a_X4_slandered (a_XW_g u))))), .inl (0, 24, .inl (a_X1_sums (a_X3_rep (a_X4_slandered (a_XW_g u))))), .inr (2, [.int (a_X2_length (a_X4_text (a_XW_g u))), .ref 47, .int (a_X2_letter (a_X4_text (a_XW_g u))), .ref 48, .int (a_X2_at (a_X4_text (a_XW_g u)))]), .inl (0, 60, .inl (a_X2_codes (a_X4_text (a_XW_g u)))), .inl (0, 3, .inl (a_X2_numbers (a_X4_text (a_XW_g u)))), .inl (2, 6, .inr (.inr (.inr (.inr f9)))), .inl (0, 12, .inl (a_XW_q u)), .inl (0, 48, .inl (a_XW_th u)), .inl (0, 28, .inl (a_XW_sl u)), .inl (0, 64, .inl (a_XW_re u)), .inl (0, 12, .inl (a_XW_qs u)), .inl (0, 48, .inl (a_XW_ts u)), .inl (0, 28, .inl (a_XW_ss u)), .inl (0, 64, .inl (a_XW_rs u))]

theorem lf_eLi {l : List Nat} (hl : l.Nodup) {n : Nat} (hn : n = l.length) : ∀ i, i < n → ∀ j, j < n → l.getD i 0 = l.getD j 0 → i = j := by
  intro i hi j hj e
  subst hn
  have e1 : l.getD i 0 = l[i] := by simp [hi]
  have e2 : l.getD j 0 = l[j] := by simp [hj]
  rw [e1, e2] at e
  have hp := List.pairwise_iff_getElem.mp hl
  rcases Nat.lt_trichotomy i j with h | h | h
  · exact absurd e (hp i j hi hj h)
  · exact h
  · exact absurd e.symm (hp j i hj hi h)
theorem ev_callL {μ μc : ev_M} {N0 : Option Nat} {X : ev_X} (l : List Nat) {pc : Nat} {L : ev_L} {st rest : List Value} {w : List ev_E} {kc ks n idx nx k x yy : Nat} {v : Value} {y : MethodName} {as1 : List Value} {wt : List ev_E} {post : Option Value → List ev_E → Prop}
    (hM : ev_A y μc none as1 wt post) (cv : ev_CS y μc n) (hl : ev_ml (ev_own μ) idx y) (hlk : ev_look (ev_tab μ) pc = some (.invokestatic idx, nx, k, x, yy, v))
    (hst : (as1.map (ev_cv fun k => l.getD k 0)).reverse ++ rest = st) (hn : as1.length = n) (hnl : wt.length = l.length) (hsel : ev_pick w (fun k => l.getD k 0) 0 wt.length = wt.map (ev_ren fun k => l.getD k 0)) (hnd : l.Nodup)
    (hW : (rest.map fun v => v.category).sum ≤ 8) (hroom : ev_fr μc + 1 ≤ ev_fr μ ∧ 8 + (ev_nL μc + 11) + ev_lo μc ≤ ev_lo μ) (hmc : kc + ev_mc μc ≤ ev_mc μ ∧ ks + ev_ms μc ≤ ev_ms μ) (hlen : ∀ r w', post r w' → w'.length = wt.length)
    (kk : ∀ r w', post r w' → ev_V μ N0 X (pc + 3) L ((r.map (ev_cv fun k => l.getD k 0)).toList ++ rest) (ev_putm (fun k => l.getD k 0) w 0 w') (kc + ev_mc μc) (ks + ev_ms μc)) : ev_V μ N0 X pc L st w kc ks :=
  ev_callS (fun k => l.getD k 0) hM cv hl hlk hst hn hsel (lf_eLi hnd hnl) hW hroom hmc hlen kk
def s_L_copy_l2 (F : Nat) (n0 : Nat) (n1 : Nat) (f : (Nat → Int32)) : Nat → (Nat → Int32) → Int32 → Option (Nat → Int32)
  | 0 => fun _ _ => none
  | n + 1 => fun g v2 => if (Int32.ofNat n0) ≤ v2 then (some (g)) else (if lf_ix v2 n0 then (if lf_ix v2 n1 then (s_L_copy_l2 F n0 n1 f n (upd g v2.toNatClampNeg (f v2.toNatClampNeg)) (v2 + 1)) else none) else none)
theorem e_L_copy_l2 (F : Nat) (n0 : Nat) (n1 : Nat) (f : (Nat → Int32)) (n : Nat) (g : (Nat → Int32)) (v2 : Int32) : s_L_copy_l2 F n0 n1 f (n + 1) g v2 = if (Int32.ofNat n0) ≤ v2 then (some (g)) else (if lf_ix v2 n0 then (if lf_ix v2 n1 then (s_L_copy_l2 F n0 n1 f n (upd g v2.toNatClampNeg (f v2.toNatClampNeg)) (v2 + 1)) else none) else none) := rfl
set_option maxHeartbeats 4000000 in
set_option maxRecDepth 20000 in
theorem t_L_copy_l2 (F : Nat) (n0 : Nat) (n1 : Nat) (f : (Nat → Int32)) (x : (Nat → Int32))  : ∀ (n : Nat) (g : (Nat → Int32)) (v2 : Int32), s_L_copy_l2 F n0 n1 f n g v2 = some x → ev_V mm_L_copy none (ev_XR mm_L_copy (fun r w => r = none ∧ w = [.inl (0, n0, .inl (f)), .inl (0, n1, .inl (x))])) 2 [some (.ref 0), some (.ref 1), some (.int v2)] [] ([.inl (0, n0, .inl (f)), .inl (0, n1, .inl (g))]) 0 0 := by
  intro n
  induction n with
  | zero => intro g v2 hR; cases hR
  | succ n hk2 =>
    intro g v2 hR
    unfold s_L_copy_l2 at hR
    refine ev_run (cs := []) (pc' := 5) (L' := [some (.ref 0), some (.ref 1), some (.int v2)]) (st' := [.int (Int32.ofNat n0), .int v2]) (w' := [.inl (0, n0, .inl (f)), .inl (0, n1, .inl (g))]) [] 3 (by with_unfolding_all rfl) trivial ?_
    refine ev_br rfl rfl (fun h1 => ?_) (fun h1 => ?_)
    · replace hR := lf_t h1 hR
      cases hR
      exact ev_exit ⟨_, _, rfl, ⟨rfl, rfl⟩, ⟨rfl, rfl⟩, Nat.le_refl _, Nat.le_refl _⟩
    · replace hR := lf_f h1 hR
      obtain ⟨h2, hR⟩ := lf_g hR
      obtain ⟨h3, hR⟩ := lf_g hR
      refine ev_run (cs := [lf_ix v2 n0, lf_ix v2 n1]) (pc' := 2) (L' := [some (.ref 0), some (.ref 1), some (.int (v2 + 1))]) (st' := []) (w' := [.inl (0, n0, .inl (f)), .inl (0, n1, .inl (upd g v2.toNatClampNeg (f v2.toNatClampNeg)))]) [] 8 (by with_unfolding_all rfl) ⟨h2, h3⟩ ?_
      exact ev_to2 (hk2 _ _ hR) ⟨rfl, rfl, rfl, trivial⟩ rfl rfl

def s_L_copy (F : Nat) (n0 : Nat) (n1 : Nat) (f : (Nat → Int32)) (g : (Nat → Int32)) : Option (Nat → Int32) := s_L_copy_l2 F n0 n1 f F g 0
set_option maxHeartbeats 4000000 in
set_option maxRecDepth 20000 in
theorem t_L_copy (F : Nat) (n0 : Nat) (n1 : Nat) (f : (Nat → Int32)) (g : (Nat → Int32)) (x : (Nat → Int32)) (hR : s_L_copy F n0 n1 f g = some x) : ev_A yL_copy mm_L_copy none [.ref 0, .ref 1] ([.inl (0, n0, .inl (f)), .inl (0, n1, .inl (g))]) (fun r w => r = none ∧ w = [.inl (0, n0, .inl (f)), .inl (0, n1, .inl (x))]) := by
  unfold s_L_copy at hR
  refine ev_start ok_L_copy (by decide +kernel) rfl rfl (Nat.le_of_ble_eq_true rfl) ?_
  refine ev_run (cs := []) (pc' := 2) (L' := [some (.ref 0), some (.ref 1), some (.int 0)]) (st' := []) (w' := [.inl (0, n0, .inl (f)), .inl (0, n1, .inl (g))]) [] 2 (by with_unfolding_all rfl) trivial ?_
  exact ev_to2 (t_L_copy_l2 F n0 n1 f _ F g 0 hR) ⟨rfl, rfl, rfl, trivial⟩ rfl rfl

def s_L_lives (F : Nat) (n0 : Nat) (f : (Nat → Int32)) (v0 : Int32) : Option Bool := if lf_ix (8 * v0) n0 then (if (f ((8 * v0).toNatClampNeg)) = 1 then (some (true)) else (some (false))) else none
set_option maxHeartbeats 4000000 in
set_option maxRecDepth 20000 in
theorem t_L_lives (F : Nat) (n0 : Nat) (f : (Nat → Int32)) (v0 : Int32) (x : Bool) (hR : s_L_lives F n0 f v0 = some x) : ev_A yL_lives mm_L_lives none [.int v0, .ref 0] ([.inl (0, n0, .inl (f))]) (fun r w => r = some (.int (ev_b x)) ∧ w = [.inl (0, n0, .inl (f))]) := by
  unfold s_L_lives at hR
  refine ev_start ok_L_lives (by decide +kernel) rfl rfl (Nat.le_of_ble_eq_true rfl) ?_
  obtain ⟨h1, hR⟩ := lf_g hR
  refine ev_run (cs := [lf_ix (8 * v0) n0]) (pc' := 7) (L' := [some (.int v0), some (.ref 0)]) (st' := [.int 1, .int (f ((8 * v0).toNatClampNeg))]) (w' := [.inl (0, n0, .inl (f))]) [] 6 (by with_unfolding_all rfl) (h1) ?_
  refine ev_br rfl rfl (fun h2 => ?_) (fun h2 => ?_)
  · replace hR := lf_f h2 hR
    refine ev_run (cs := []) (pc' := 15) (L' := [some (.int v0), some (.ref 0)]) (st' := [.int 0]) (w' := [.inl (0, n0, .inl (f))]) [] 1 (by with_unfolding_all rfl) trivial ?_
    cases hR
    exact ev_exit ⟨_, _, rfl, ⟨rfl, Or.inr ⟨rfl, rfl⟩⟩, ⟨rfl, rfl⟩, Nat.le_refl _, Nat.le_refl _⟩
  · replace hR := lf_t h2 hR
    refine ev_run (cs := []) (pc' := 15) (L' := [some (.int v0), some (.ref 0)]) (st' := [.int 1]) (w' := [.inl (0, n0, .inl (f))]) [] 2 (by with_unfolding_all rfl) trivial ?_
    cases hR
    exact ev_exit ⟨_, _, rfl, ⟨rfl, Or.inr ⟨rfl, rfl⟩⟩, ⟨rfl, rfl⟩, Nat.le_refl _, Nat.le_refl _⟩

def s_L_underWay_l5 (F : Nat) (n0 : Nat) (n1 : Nat) (f : (Nat → Int32)) (g : (Nat → Int32)) (v0 : Int32) : Nat → Int32 → Int32 → Option Int32
  | 0 => fun _ _ => none
  | n + 1 => fun v3 v4 => if lf_ix 2 n0 then (if (f (2 : Int32).toNatClampNeg) ≤ v4 then (some (v3)) else (if lf_ix v4 n1 then (if (((g v4.toNatClampNeg) / 2) - ((g v4.toNatClampNeg) / 2) / 8 * 8) = v0 then (s_L_underWay_l5 F n0 n1 f g v0 n (v3 + 1) (v4 + 1)) else (s_L_underWay_l5 F n0 n1 f g v0 n (v3 + 0) (v4 + 1))) else none)) else none
theorem e_L_underWay_l5 (F : Nat) (n0 : Nat) (n1 : Nat) (f : (Nat → Int32)) (g : (Nat → Int32)) (v0 : Int32) (n : Nat) (v3 : Int32) (v4 : Int32) : s_L_underWay_l5 F n0 n1 f g v0 (n + 1) v3 v4 = if lf_ix 2 n0 then (if (f (2 : Int32).toNatClampNeg) ≤ v4 then (some (v3)) else (if lf_ix v4 n1 then (if (((g v4.toNatClampNeg) / 2) - ((g v4.toNatClampNeg) / 2) / 8 * 8) = v0 then (s_L_underWay_l5 F n0 n1 f g v0 n (v3 + 1) (v4 + 1)) else (s_L_underWay_l5 F n0 n1 f g v0 n (v3 + 0) (v4 + 1))) else none)) else none := rfl
set_option maxHeartbeats 4000000 in
set_option maxRecDepth 20000 in
theorem t_L_underWay_l5 (F : Nat) (n0 : Nat) (n1 : Nat) (f : (Nat → Int32)) (g : (Nat → Int32)) (v0 : Int32) (x : Int32)  : ∀ (n : Nat) (v3 : Int32) (v4 : Int32), s_L_underWay_l5 F n0 n1 f g v0 n v3 v4 = some x → ev_V mm_L_underWay none (ev_XR mm_L_underWay (fun r w => r = some (.int x) ∧ w = [.inl (0, n0, .inl (f)), .inl (0, n1, .inl (g))])) 5 [some (.int v0), some (.ref 0), some (.ref 1), some (.int v3), some (.int v4)] [] ([.inl (0, n0, .inl (f)), .inl (0, n1, .inl (g))]) 0 0 := by
  intro n
  induction n with
  | zero => intro v3 v4 hR; cases hR
  | succ n hk5 =>
    intro v3 v4 hR
    unfold s_L_underWay_l5 at hR
    obtain ⟨h1, hR⟩ := lf_g hR
    refine ev_run (cs := [lf_ix 2 n0]) (pc' := 10) (L' := [some (.int v0), some (.ref 0), some (.ref 1), some (.int v3), some (.int v4)]) (st' := [.int (f (2 : Int32).toNatClampNeg), .int v4]) (w' := [.inl (0, n0, .inl (f)), .inl (0, n1, .inl (g))]) [] 4 (by with_unfolding_all rfl) (h1) ?_
    refine ev_br rfl rfl (fun h2 => ?_) (fun h2 => ?_)
    · replace hR := lf_t h2 hR
      refine ev_run (cs := []) (pc' := 41) (L' := [some (.int v0), some (.ref 0), some (.ref 1), some (.int v3), some (.int v4)]) (st' := [.int v3]) (w' := [.inl (0, n0, .inl (f)), .inl (0, n1, .inl (g))]) [] 1 (by with_unfolding_all rfl) trivial ?_
      cases hR
      exact ev_exit ⟨_, _, rfl, ⟨rfl, Or.inl rfl⟩, ⟨rfl, rfl⟩, Nat.le_refl _, Nat.le_refl _⟩
    · replace hR := lf_f h2 hR
      obtain ⟨h3, hR⟩ := lf_g hR
      refine ev_run (cs := [lf_ix v4 n1, ¬ (2 : Int32) = 0, ¬ (8 : Int32) = 0]) (pc' := 24) (L' := [some (.int v0), some (.ref 0), some (.ref 1), some (.int v3), some (.int v4)]) (st' := [.int v0, .int (((g v4.toNatClampNeg) / 2) - ((g v4.toNatClampNeg) / 2) / 8 * 8), .int v3]) (w' := [.inl (0, n0, .inl (f)), .inl (0, n1, .inl (g))]) [] 9 (by with_unfolding_all rfl) ⟨h3, by show ¬ _; decide, by show ¬ _; decide⟩ ?_
      refine ev_br rfl rfl (fun h4 => ?_) (fun h4 => ?_)
      · replace hR := lf_f h4 hR
        refine ev_run (cs := []) (pc' := 5) (L' := [some (.int v0), some (.ref 0), some (.ref 1), some (.int (v3 + 0)), some (.int (v4 + 1))]) (st' := []) (w' := [.inl (0, n0, .inl (f)), .inl (0, n1, .inl (g))]) [] 5 (by with_unfolding_all rfl) trivial ?_
        exact ev_to2 (hk5 _ _ hR) ⟨rfl, rfl, rfl, rfl, rfl, trivial⟩ rfl rfl
      · replace hR := lf_t h4 hR
        refine ev_run (cs := []) (pc' := 5) (L' := [some (.int v0), some (.ref 0), some (.ref 1), some (.int (v3 + 1)), some (.int (v4 + 1))]) (st' := []) (w' := [.inl (0, n0, .inl (f)), .inl (0, n1, .inl (g))]) [] 6 (by with_unfolding_all rfl) trivial ?_
        exact ev_to2 (hk5 _ _ hR) ⟨rfl, rfl, rfl, rfl, rfl, trivial⟩ rfl rfl

def s_L_underWay (F : Nat) (n0 : Nat) (n1 : Nat) (f : (Nat → Int32)) (g : (Nat → Int32)) (v0 : Int32) : Option Int32 := s_L_underWay_l5 F n0 n1 f g v0 F 0 0
set_option maxHeartbeats 4000000 in
set_option maxRecDepth 20000 in
theorem t_L_underWay (F : Nat) (n0 : Nat) (n1 : Nat) (f : (Nat → Int32)) (g : (Nat → Int32)) (v0 : Int32) (x : Int32) (hR : s_L_underWay F n0 n1 f g v0 = some x) : ev_A yL_underWay mm_L_underWay none [.int v0, .ref 0, .ref 1] ([.inl (0, n0, .inl (f)), .inl (0, n1, .inl (g))]) (fun r w => r = some (.int x) ∧ w = [.inl (0, n0, .inl (f)), .inl (0, n1, .inl (g))]) := by
  unfold s_L_underWay at hR
  refine ev_start ok_L_underWay (by decide +kernel) rfl rfl (Nat.le_of_ble_eq_true rfl) ?_
  refine ev_run (cs := []) (pc' := 5) (L' := [some (.int v0), some (.ref 0), some (.ref 1), some (.int 0), some (.int 0)]) (st' := []) (w' := [.inl (0, n0, .inl (f)), .inl (0, n1, .inl (g))]) [] 4 (by with_unfolding_all rfl) trivial ?_
  exact ev_to2 (t_L_underWay_l5 F n0 n1 f g v0 _ F 0 0 hR) ⟨rfl, rfl, rfl, rfl, rfl, trivial⟩ rfl rfl

def s_L_truth_b52 (F : Nat) (n0 : Nat) (n1 : Nat) (f : (Nat → Int32)) (g : (Nat → Int32)) (v0 : Int32) (v3 : Int32) : Option Int32 := (s_L_lives F n0 f v0).bind fun y1 => (if y1 then (some (v3)) else (some (0)))
set_option maxHeartbeats 4000000 in
set_option maxRecDepth 20000 in
theorem t_L_truth_b52 (F : Nat) (n0 : Nat) (n1 : Nat) (f : (Nat → Int32)) (g : (Nat → Int32)) (v0 : Int32) (v3 : Int32) (x : Int32)  (hR : s_L_truth_b52 F n0 n1 f g v0 v3 = some x) : ev_V mm_L_truth none (ev_XR mm_L_truth (fun r w => r = some (.int x) ∧ w = [.inl (0, n0, .inl (f)), .inl (0, n1, .inl (g))])) 52 [some (.int v0), some (.ref 0), some (.ref 1), some (.int v3), none] [] ([.inl (0, n0, .inl (f)), .inl (0, n1, .inl (g))]) 0 0 := by
  unfold s_L_truth_b52 at hR
  refine ev_run (cs := []) (pc' := 54) (L' := [some (.int v0), some (.ref 0), some (.ref 1), some (.int v3), none]) (st' := [.ref 0, .int v0]) (w' := [.inl (0, n0, .inl (f)), .inl (0, n1, .inl (g))]) [] 2 (by with_unfolding_all rfl) trivial ?_
  obtain ⟨y1, h1, hR⟩ := lf_b hR
  refine ev_callL [0] (t_L_lives F n0 f v0 _ h1) cs_L_lives ml_L_24 rfl rfl rfl rfl (by with_unfolding_all rfl) (by decide) (Nat.le_of_ble_eq_true rfl) ⟨Nat.le_of_ble_eq_true rfl, Nat.le_of_ble_eq_true rfl⟩ ⟨Nat.le_refl _, Nat.le_refl _⟩ ?_ ?_
  · rintro r w ⟨rfl, rfl⟩; rfl
  rintro r w ⟨rfl, rfl⟩
  refine ev_nx (pc' := 57) (st' := [.int (ev_b y1)]) (w' := [.inl (0, n0, .inl (f)), .inl (0, n1, .inl (g))]) rfl rfl (by with_unfolding_all rfl) rfl rfl ?_
  refine ev_br rfl rfl (fun h2 => ?_) (fun h2 => ?_)
  · replace hR := lf_z0 h2 hR
    refine ev_run (cs := []) (pc' := 65) (L' := [some (.int v0), some (.ref 0), some (.ref 1), some (.int v3), none]) (st' := [.int 0]) (w' := [.inl (0, n0, .inl (f)), .inl (0, n1, .inl (g))]) [] 1 (by with_unfolding_all rfl) trivial ?_
    cases hR
    exact ev_exit ⟨_, _, rfl, ⟨rfl, Or.inl rfl⟩, ⟨rfl, rfl⟩, Nat.le_refl _, Nat.le_refl _⟩
  · replace hR := lf_z1 h2 hR
    refine ev_run (cs := []) (pc' := 65) (L' := [some (.int v0), some (.ref 0), some (.ref 1), some (.int v3), none]) (st' := [.int v3]) (w' := [.inl (0, n0, .inl (f)), .inl (0, n1, .inl (g))]) [] 2 (by with_unfolding_all rfl) trivial ?_
    cases hR
    exact ev_exit ⟨_, _, rfl, ⟨rfl, Or.inl rfl⟩, ⟨rfl, rfl⟩, Nat.le_refl _, Nat.le_refl _⟩

def s_L_truth_l5 (F : Nat) (n0 : Nat) (n1 : Nat) (f : (Nat → Int32)) (g : (Nat → Int32)) (v0 : Int32) : Nat → Int32 → Int32 → Option Int32
  | 0 => fun _ _ => none
  | n + 1 => fun v3 v4 => if 28 ≤ v4 then (s_L_truth_b52 F n0 n1 f g v0 v3) else (if lf_ix v4 n1 then (if (g v4.toNatClampNeg) = v0 then (if 24 ≤ v4 then (s_L_truth_l5 F n0 n1 f g v0 n (v3 + 1) (v4 + 1)) else ((s_L_lives F n0 f (v4 / 4)).bind fun y1 => (if y1 then (s_L_truth_l5 F n0 n1 f g v0 n (v3 + 1) (v4 + 1)) else (s_L_truth_l5 F n0 n1 f g v0 n (v3 + 0) (v4 + 1))))) else (s_L_truth_l5 F n0 n1 f g v0 n (v3 + 0) (v4 + 1))) else none)
theorem e_L_truth_l5 (F : Nat) (n0 : Nat) (n1 : Nat) (f : (Nat → Int32)) (g : (Nat → Int32)) (v0 : Int32) (n : Nat) (v3 : Int32) (v4 : Int32) : s_L_truth_l5 F n0 n1 f g v0 (n + 1) v3 v4 = if 28 ≤ v4 then (s_L_truth_b52 F n0 n1 f g v0 v3) else (if lf_ix v4 n1 then (if (g v4.toNatClampNeg) = v0 then (if 24 ≤ v4 then (s_L_truth_l5 F n0 n1 f g v0 n (v3 + 1) (v4 + 1)) else ((s_L_lives F n0 f (v4 / 4)).bind fun y1 => (if y1 then (s_L_truth_l5 F n0 n1 f g v0 n (v3 + 1) (v4 + 1)) else (s_L_truth_l5 F n0 n1 f g v0 n (v3 + 0) (v4 + 1))))) else (s_L_truth_l5 F n0 n1 f g v0 n (v3 + 0) (v4 + 1))) else none) := rfl
set_option maxHeartbeats 4000000 in
set_option maxRecDepth 20000 in
theorem t_L_truth_l5 (F : Nat) (n0 : Nat) (n1 : Nat) (f : (Nat → Int32)) (g : (Nat → Int32)) (v0 : Int32) (x : Int32)  : ∀ (n : Nat) (v3 : Int32) (v4 : Int32), s_L_truth_l5 F n0 n1 f g v0 n v3 v4 = some x → ev_V mm_L_truth none (ev_XR mm_L_truth (fun r w => r = some (.int x) ∧ w = [.inl (0, n0, .inl (f)), .inl (0, n1, .inl (g))])) 5 [some (.int v0), some (.ref 0), some (.ref 1), some (.int v3), some (.int v4)] [] ([.inl (0, n0, .inl (f)), .inl (0, n1, .inl (g))]) 0 0 := by
  intro n
  induction n with
  | zero => intro v3 v4 hR; cases hR
  | succ n hk5 =>
    intro v3 v4 hR
    unfold s_L_truth_l5 at hR
    refine ev_run (cs := []) (pc' := 9) (L' := [some (.int v0), some (.ref 0), some (.ref 1), some (.int v3), some (.int v4)]) (st' := [.int 28, .int v4]) (w' := [.inl (0, n0, .inl (f)), .inl (0, n1, .inl (g))]) [] 2 (by with_unfolding_all rfl) trivial ?_
    refine ev_br rfl rfl (fun h1 => ?_) (fun h1 => ?_)
    · replace hR := lf_t h1 hR
      exact ev_to2 (t_L_truth_b52 F n0 n1 f g v0 v3 _ hR) ⟨rfl, rfl, rfl, rfl, trivial⟩ rfl rfl
    · replace hR := lf_f h1 hR
      obtain ⟨h2, hR⟩ := lf_g hR
      refine ev_run (cs := [lf_ix v4 n1]) (pc' := 18) (L' := [some (.int v0), some (.ref 0), some (.ref 1), some (.int v3), some (.int v4)]) (st' := [.int v0, .int (g v4.toNatClampNeg), .int v3]) (w' := [.inl (0, n0, .inl (f)), .inl (0, n1, .inl (g))]) [] 5 (by with_unfolding_all rfl) (h2) ?_
      refine ev_br rfl rfl (fun h3 => ?_) (fun h3 => ?_)
      · replace hR := lf_f h3 hR
        refine ev_run (cs := []) (pc' := 5) (L' := [some (.int v0), some (.ref 0), some (.ref 1), some (.int (v3 + 0)), some (.int (v4 + 1))]) (st' := []) (w' := [.inl (0, n0, .inl (f)), .inl (0, n1, .inl (g))]) [] 5 (by with_unfolding_all rfl) trivial ?_
        exact ev_to2 (hk5 _ _ hR) ⟨rfl, rfl, rfl, rfl, rfl, trivial⟩ rfl rfl
      · replace hR := lf_t h3 hR
        refine ev_run (cs := []) (pc' := 25) (L' := [some (.int v0), some (.ref 0), some (.ref 1), some (.int v3), some (.int v4)]) (st' := [.int 24, .int v4, .int v3]) (w' := [.inl (0, n0, .inl (f)), .inl (0, n1, .inl (g))]) [] 2 (by with_unfolding_all rfl) trivial ?_
        refine ev_br rfl rfl (fun h4 => ?_) (fun h4 => ?_)
        · replace hR := lf_t h4 hR
          refine ev_run (cs := []) (pc' := 5) (L' := [some (.int v0), some (.ref 0), some (.ref 1), some (.int (v3 + 1)), some (.int (v4 + 1))]) (st' := []) (w' := [.inl (0, n0, .inl (f)), .inl (0, n1, .inl (g))]) [] 6 (by with_unfolding_all rfl) trivial ?_
          exact ev_to2 (hk5 _ _ hR) ⟨rfl, rfl, rfl, rfl, rfl, trivial⟩ rfl rfl
        · replace hR := lf_f h4 hR
          refine ev_run (cs := [¬ (4 : Int32) = 0]) (pc' := 33) (L' := [some (.int v0), some (.ref 0), some (.ref 1), some (.int v3), some (.int v4)]) (st' := [.ref 0, .int (v4 / 4), .int v3]) (w' := [.inl (0, n0, .inl (f)), .inl (0, n1, .inl (g))]) [] 4 (by with_unfolding_all rfl) (by show ¬ _; decide) ?_
          obtain ⟨y1, h5, hR⟩ := lf_b hR
          refine ev_callL [0] (t_L_lives F n0 f (v4 / 4) _ h5) cs_L_lives ml_L_24 rfl rfl rfl rfl (by with_unfolding_all rfl) (by decide) (Nat.le_of_ble_eq_true rfl) ⟨Nat.le_of_ble_eq_true rfl, Nat.le_of_ble_eq_true rfl⟩ ⟨Nat.le_refl _, Nat.le_refl _⟩ ?_ ?_
          · rintro r w ⟨rfl, rfl⟩; rfl
          rintro r w ⟨rfl, rfl⟩
          refine ev_nx (pc' := 36) (st' := [.int (ev_b y1), .int v3]) (w' := [.inl (0, n0, .inl (f)), .inl (0, n1, .inl (g))]) rfl rfl (by with_unfolding_all rfl) rfl rfl ?_
          refine ev_br rfl rfl (fun h6 => ?_) (fun h6 => ?_)
          · replace hR := lf_z0 h6 hR
            refine ev_run (cs := []) (pc' := 5) (L' := [some (.int v0), some (.ref 0), some (.ref 1), some (.int (v3 + 0)), some (.int (v4 + 1))]) (st' := []) (w' := [.inl (0, n0, .inl (f)), .inl (0, n1, .inl (g))]) [] 5 (by with_unfolding_all rfl) trivial ?_
            exact ev_to2 (hk5 _ _ hR) ⟨rfl, rfl, rfl, rfl, rfl, trivial⟩ rfl rfl
          · replace hR := lf_z1 h6 hR
            refine ev_run (cs := []) (pc' := 5) (L' := [some (.int v0), some (.ref 0), some (.ref 1), some (.int (v3 + 1)), some (.int (v4 + 1))]) (st' := []) (w' := [.inl (0, n0, .inl (f)), .inl (0, n1, .inl (g))]) [] 6 (by with_unfolding_all rfl) trivial ?_
            exact ev_to2 (hk5 _ _ hR) ⟨rfl, rfl, rfl, rfl, rfl, trivial⟩ rfl rfl

def s_L_truth (F : Nat) (n0 : Nat) (n1 : Nat) (f : (Nat → Int32)) (g : (Nat → Int32)) (v0 : Int32) : Option Int32 := s_L_truth_l5 F n0 n1 f g v0 F 0 0
set_option maxHeartbeats 4000000 in
set_option maxRecDepth 20000 in
theorem t_L_truth (F : Nat) (n0 : Nat) (n1 : Nat) (f : (Nat → Int32)) (g : (Nat → Int32)) (v0 : Int32) (x : Int32) (hR : s_L_truth F n0 n1 f g v0 = some x) : ev_A yL_truth mm_L_truth none [.int v0, .ref 0, .ref 1] ([.inl (0, n0, .inl (f)), .inl (0, n1, .inl (g))]) (fun r w => r = some (.int x) ∧ w = [.inl (0, n0, .inl (f)), .inl (0, n1, .inl (g))]) := by
  unfold s_L_truth at hR
  refine ev_start ok_L_truth (by decide +kernel) rfl rfl (Nat.le_of_ble_eq_true rfl) ?_
  refine ev_run (cs := []) (pc' := 5) (L' := [some (.int v0), some (.ref 0), some (.ref 1), some (.int 0), some (.int 0)]) (st' := []) (w' := [.inl (0, n0, .inl (f)), .inl (0, n1, .inl (g))]) [] 4 (by with_unfolding_all rfl) trivial ?_
  exact ev_to2 (t_L_truth_l5 F n0 n1 f g v0 _ F 0 0 hR) ⟨rfl, rfl, rfl, rfl, rfl, trivial⟩ rfl rfl

def s_L_report (F : Nat) (u : S_XQ) (v0 : Int32) (v1 : Int32) : Option S_XQ := lf_let (m_XQ_q (upd (a_XQ_q u) (2 : Int32).toNatClampNeg (((a_XQ_q u) (2 : Int32).toNatClampNeg) + 1)) u) fun z1 => (if lf_ix (7 + (v0 - v0 / 3 * 3)) 12 then (if v1 ≤ 0 then (if lf_ix ((a_XQ_q u) (2 : Int32).toNatClampNeg) 64 then (some (m_XQ_re (upd (a_XQ_re z1) (((a_XQ_q u) (2 : Int32).toNatClampNeg).toNatClampNeg) (((((((((a_XQ_q z1) (0 : Int32).toNatClampNeg) + ((a_XQ_q z1) ((7 + (v0 - v0 / 3 * 3)).toNatClampNeg))) * 128) + ((a_XQ_q z1) (1 : Int32).toNatClampNeg)) * 8) + v0) * 2) + 0)) (m_XQ_q (upd (a_XQ_q z1) (1 : Int32).toNatClampNeg (((a_XQ_q z1) (1 : Int32).toNatClampNeg) + 1)) z1))) else none) else (if lf_ix ((a_XQ_q u) (2 : Int32).toNatClampNeg) 64 then (some (m_XQ_re (upd (a_XQ_re z1) (((a_XQ_q u) (2 : Int32).toNatClampNeg).toNatClampNeg) (((((((((a_XQ_q z1) (0 : Int32).toNatClampNeg) + ((a_XQ_q z1) ((7 + (v0 - v0 / 3 * 3)).toNatClampNeg))) * 128) + ((a_XQ_q z1) (1 : Int32).toNatClampNeg)) * 8) + v0) * 2) + 1)) (m_XQ_q (upd (a_XQ_q z1) (1 : Int32).toNatClampNeg (((a_XQ_q z1) (1 : Int32).toNatClampNeg) + 1)) z1))) else none)) else none)
set_option maxHeartbeats 4000000 in
set_option maxRecDepth 20000 in
theorem t_L_report (F : Nat) (u : S_XQ) (v0 : Int32) (v1 : Int32) (x : S_XQ) (hR : s_L_report F u v0 v1 = some x) : ev_A yL_report mm_L_report none [.int v0, .int v1, .ref 0, .ref 1] (W_XQ u) (fun r w => r = none ∧ w = W_XQ x) := by
  unfold s_L_report at hR
  refine ev_start ok_L_report (by decide +kernel) rfl rfl (Nat.le_of_ble_eq_true rfl) ?_
  refine ev_run (cs := [lf_ix 2 12, lf_ix 2 12]) (pc' := 11) (L' := [some (.int v0), some (.int v1), some (.ref 0), some (.ref 1)]) (st' := [.int 0, .ref 0, .int ((a_XQ_q u) (2 : Int32).toNatClampNeg), .ref 1]) (w' := W_XQ (m_XQ_q (upd (a_XQ_q u) (2 : Int32).toNatClampNeg (((a_XQ_q u) (2 : Int32).toNatClampNeg) + 1)) u)) [] 11 (by with_unfolding_all rfl) ⟨by show ¬ _; decide, by show ¬ _; decide⟩ ?_
  obtain ⟨z1, hz1, hR⟩ := lf_l hR
  refine ev_nx (pc' := 11) (st' := [.int 0, .ref 0, .int ((a_XQ_q u) (2 : Int32).toNatClampNeg), .ref 1]) (w' := W_XQ z1) rfl rfl (congrArg (fun z => W_XQ z) hz1.symm) rfl rfl ?_
  obtain ⟨h1, hR⟩ := lf_g hR
  refine ev_run (cs := [lf_ix 0 12, ¬ (3 : Int32) = 0, lf_ix (7 + (v0 - v0 / 3 * 3)) 12]) (pc' := 26) (L' := [some (.int v0), some (.int v1), some (.ref 0), some (.ref 1)]) (st' := [.ref 0, .int ((((a_XQ_q z1) (0 : Int32).toNatClampNeg) + ((a_XQ_q z1) ((7 + (v0 - v0 / 3 * 3)).toNatClampNeg))) * 128), .int ((a_XQ_q u) (2 : Int32).toNatClampNeg), .ref 1]) (w' := W_XQ z1) [] 12 (by with_unfolding_all rfl) ⟨by show ¬ _; decide, by show ¬ _; decide, h1⟩ ?_
  refine ev_run (cs := [lf_ix 1 12, lf_ix 1 12]) (pc' := 39) (L' := [some (.int v0), some (.int v1), some (.ref 0), some (.ref 1)]) (st' := [.int (((((((a_XQ_q z1) (0 : Int32).toNatClampNeg) + ((a_XQ_q z1) ((7 + (v0 - v0 / 3 * 3)).toNatClampNeg))) * 128) + ((a_XQ_q z1) (1 : Int32).toNatClampNeg)) * 8) + v0), .int ((a_XQ_q u) (2 : Int32).toNatClampNeg), .ref 1]) (w' := W_XQ (m_XQ_q (upd (a_XQ_q z1) (1 : Int32).toNatClampNeg (((a_XQ_q z1) (1 : Int32).toNatClampNeg) + 1)) z1)) [] 12 (by with_unfolding_all rfl) ⟨by show ¬ _; decide, by show ¬ _; decide⟩ ?_
  refine ev_run (cs := []) (pc' := 42) (L' := [some (.int v0), some (.int v1), some (.ref 0), some (.ref 1)]) (st' := [.int v1, .int ((((((((a_XQ_q z1) (0 : Int32).toNatClampNeg) + ((a_XQ_q z1) ((7 + (v0 - v0 / 3 * 3)).toNatClampNeg))) * 128) + ((a_XQ_q z1) (1 : Int32).toNatClampNeg)) * 8) + v0) * 2), .int ((a_XQ_q u) (2 : Int32).toNatClampNeg), .ref 1]) (w' := W_XQ (m_XQ_q (upd (a_XQ_q z1) (1 : Int32).toNatClampNeg (((a_XQ_q z1) (1 : Int32).toNatClampNeg) + 1)) z1)) [] 3 (by with_unfolding_all rfl) trivial ?_
  refine ev_br rfl rfl (fun h2 => ?_) (fun h2 => ?_)
  · replace hR := lf_t h2 hR
    obtain ⟨h3, hR⟩ := lf_g hR
    refine ev_run (cs := [lf_ix ((a_XQ_q u) (2 : Int32).toNatClampNeg) 64]) (pc' := 52) (L' := [some (.int v0), some (.int v1), some (.ref 0), some (.ref 1)]) (st' := []) (w' := W_XQ (m_XQ_re (upd (a_XQ_re z1) (((a_XQ_q u) (2 : Int32).toNatClampNeg).toNatClampNeg) (((((((((a_XQ_q z1) (0 : Int32).toNatClampNeg) + ((a_XQ_q z1) ((7 + (v0 - v0 / 3 * 3)).toNatClampNeg))) * 128) + ((a_XQ_q z1) (1 : Int32).toNatClampNeg)) * 8) + v0) * 2) + 0)) (m_XQ_q (upd (a_XQ_q z1) (1 : Int32).toNatClampNeg (((a_XQ_q z1) (1 : Int32).toNatClampNeg) + 1)) z1))) [] 3 (by with_unfolding_all rfl) (h3) ?_
    cases hR
    exact ev_exit ⟨_, _, rfl, ⟨rfl, rfl⟩, ⟨rfl, rfl⟩, Nat.le_refl _, Nat.le_refl _⟩
  · replace hR := lf_f h2 hR
    obtain ⟨h4, hR⟩ := lf_g hR
    refine ev_run (cs := [lf_ix ((a_XQ_q u) (2 : Int32).toNatClampNeg) 64]) (pc' := 52) (L' := [some (.int v0), some (.int v1), some (.ref 0), some (.ref 1)]) (st' := []) (w' := W_XQ (m_XQ_re (upd (a_XQ_re z1) (((a_XQ_q u) (2 : Int32).toNatClampNeg).toNatClampNeg) (((((((((a_XQ_q z1) (0 : Int32).toNatClampNeg) + ((a_XQ_q z1) ((7 + (v0 - v0 / 3 * 3)).toNatClampNeg))) * 128) + ((a_XQ_q z1) (1 : Int32).toNatClampNeg)) * 8) + v0) * 2) + 1)) (m_XQ_q (upd (a_XQ_q z1) (1 : Int32).toNatClampNeg (((a_XQ_q z1) (1 : Int32).toNatClampNeg) + 1)) z1))) [] 4 (by with_unfolding_all rfl) (h4) ?_
    cases hR
    exact ev_exit ⟨_, _, rfl, ⟨rfl, rfl⟩, ⟨rfl, rfl⟩, Nat.le_refl _, Nat.le_refl _⟩

def s_L_end_b227 (F : Nat) (u : S_XE) (v6 : Int32) (p1 : Int32) (p2 : Int32) : Option S_XE := if lf_ix p1 48 then (if v6 = 0 then (some (m_XE_q (upd (a_XE_q u) (5 : Int32).toNatClampNeg (((a_XE_q u) (5 : Int32).toNatClampNeg) + 0)) (m_XE_th (upd (a_XE_th u) p1.toNatClampNeg p2) u))) else (some (m_XE_q (upd (a_XE_q u) (5 : Int32).toNatClampNeg (((a_XE_q u) (5 : Int32).toNatClampNeg) + 1)) (m_XE_th (upd (a_XE_th u) p1.toNatClampNeg p2) u)))) else none
set_option maxHeartbeats 4000000 in
set_option maxRecDepth 20000 in
theorem t_L_end_b227 (F : Nat) (u : S_XE) (v6 : Int32) (p1 : Int32) (p2 : Int32) (x : S_XE)  (hR : s_L_end_b227 F u v6 p1 p2 = some x) : ev_V mm_L_end none (ev_XR mm_L_end (fun r w => r = none ∧ w = W_XE x)) 227 [none, none, some (.ref 0), some (.ref 1), some (.ref 2), some (.ref 3), some (.int v6), none] [.int p2, .int p1, .ref 1] (W_XE u) 0 0 := by
  unfold s_L_end_b227 at hR
  obtain ⟨h1, hR⟩ := lf_g hR
  refine ev_run (cs := [lf_ix p1 48, lf_ix 5 12]) (pc' := 234) (L' := [none, none, some (.ref 0), some (.ref 1), some (.ref 2), some (.ref 3), some (.int v6), none]) (st' := [.int v6, .int ((a_XE_q u) (5 : Int32).toNatClampNeg), .int 5, .ref 0]) (w' := W_XE (m_XE_th (upd (a_XE_th u) p1.toNatClampNeg p2) u)) [] 6 (by with_unfolding_all rfl) ⟨h1, by show ¬ _; decide⟩ ?_
  refine ev_br rfl rfl (fun h2 => ?_) (fun h2 => ?_)
  · replace hR := lf_t h2 hR
    refine ev_run (cs := [lf_ix 5 12]) (pc' := 244) (L' := [none, none, some (.ref 0), some (.ref 1), some (.ref 2), some (.ref 3), some (.int v6), none]) (st' := []) (w' := W_XE (m_XE_q (upd (a_XE_q u) (5 : Int32).toNatClampNeg (((a_XE_q u) (5 : Int32).toNatClampNeg) + 0)) (m_XE_th (upd (a_XE_th u) p1.toNatClampNeg p2) u))) [] 3 (by with_unfolding_all rfl) (by show ¬ _; decide) ?_
    cases hR
    exact ev_exit ⟨_, _, rfl, ⟨rfl, rfl⟩, ⟨rfl, rfl⟩, Nat.le_refl _, Nat.le_refl _⟩
  · replace hR := lf_f h2 hR
    refine ev_run (cs := [lf_ix 5 12]) (pc' := 244) (L' := [none, none, some (.ref 0), some (.ref 1), some (.ref 2), some (.ref 3), some (.int v6), none]) (st' := []) (w' := W_XE (m_XE_q (upd (a_XE_q u) (5 : Int32).toNatClampNeg (((a_XE_q u) (5 : Int32).toNatClampNeg) + 1)) (m_XE_th (upd (a_XE_th u) p1.toNatClampNeg p2) u))) [] 4 (by with_unfolding_all rfl) (by show ¬ _; decide) ?_
    cases hR
    exact ev_exit ⟨_, _, rfl, ⟨rfl, rfl⟩, ⟨rfl, rfl⟩, Nat.le_refl _, Nat.le_refl _⟩

def s_L_end_b209 (F : Nat) (u : S_XE) (v0 : Int32) (v6 : Int32) : Option S_XE := if v6 = 0 then (s_L_end_b227 F u v6 ((8 * v0) + 6) 0) else (s_L_end_b227 F u v6 ((8 * v0) + 6) 1)
set_option maxHeartbeats 4000000 in
set_option maxRecDepth 20000 in
theorem t_L_end_b209 (F : Nat) (u : S_XE) (v0 : Int32) (v6 : Int32) (x : S_XE)  (hR : s_L_end_b209 F u v0 v6 = some x) : ev_V mm_L_end none (ev_XR mm_L_end (fun r w => r = none ∧ w = W_XE x)) 209 [some (.int v0), none, some (.ref 0), some (.ref 1), some (.ref 2), some (.ref 3), some (.int v6), none] [] (W_XE u) 0 0 := by
  unfold s_L_end_b209 at hR
  refine ev_run (cs := []) (pc' := 219) (L' := [some (.int v0), none, some (.ref 0), some (.ref 1), some (.ref 2), some (.ref 3), some (.int v6), none]) (st' := [.int v6, .int ((8 * v0) + 6), .ref 1]) (w' := W_XE u) [] 7 (by with_unfolding_all rfl) trivial ?_
  refine ev_br rfl rfl (fun h1 => ?_) (fun h1 => ?_)
  · replace hR := lf_t h1 hR
    refine ev_run (cs := []) (pc' := 227) (L' := [some (.int v0), none, some (.ref 0), some (.ref 1), some (.ref 2), some (.ref 3), some (.int v6), none]) (st' := [.int 0, .int ((8 * v0) + 6), .ref 1]) (w' := W_XE u) [] 1 (by with_unfolding_all rfl) trivial ?_
    exact ev_to2 (t_L_end_b227 F u v6 ((8 * v0) + 6) 0 _ hR) ⟨rfl, rfl, rfl, rfl, rfl, trivial⟩ rfl rfl
  · replace hR := lf_f h1 hR
    refine ev_run (cs := []) (pc' := 227) (L' := [some (.int v0), none, some (.ref 0), some (.ref 1), some (.ref 2), some (.ref 3), some (.int v6), none]) (st' := [.int 1, .int ((8 * v0) + 6), .ref 1]) (w' := W_XE u) [] 2 (by with_unfolding_all rfl) trivial ?_
    exact ev_to2 (t_L_end_b227 F u v6 ((8 * v0) + 6) 1 _ hR) ⟨rfl, rfl, rfl, rfl, rfl, trivial⟩ rfl rfl

def s_L_end_l145 (F : Nat) (v0 : Int32) (v1 : Int32) : Nat → S_XE → Int32 → Int32 → Option S_XE
  | 0 => fun _ _ _ => none
  | n + 1 => fun u v6 v7 => if 28 ≤ v7 then (s_L_end_b209 F u v0 v6) else (if lf_ix v7 28 then (if ((a_XE_sl u) v7.toNatClampNeg) = v0 then (if 24 ≤ v7 then (if lf_ix v7 28 then (s_L_end_l145 F v0 v1 n (m_XE_sl (upd (a_XE_sl u) v7.toNatClampNeg (-1)) u) 1 (v7 + 1)) else none) else ((s_L_lives F 48 (a_XE_th u) (v7 / 4)).bind fun y1 => (if y1 then (if ((v1 >>> ((v7 / 4) &&& 31)) &&& 1) = 1 then (s_L_end_l145 F v0 v1 n u v6 (v7 + 1)) else (if lf_ix v7 28 then (s_L_end_l145 F v0 v1 n (m_XE_sl (upd (a_XE_sl u) v7.toNatClampNeg (-1)) u) 1 (v7 + 1)) else none)) else (s_L_end_l145 F v0 v1 n u v6 (v7 + 1))))) else (s_L_end_l145 F v0 v1 n u v6 (v7 + 1))) else none)
theorem e_L_end_l145 (F : Nat) (v0 : Int32) (v1 : Int32) (n : Nat) (u : S_XE) (v6 : Int32) (v7 : Int32) : s_L_end_l145 F v0 v1 (n + 1) u v6 v7 = if 28 ≤ v7 then (s_L_end_b209 F u v0 v6) else (if lf_ix v7 28 then (if ((a_XE_sl u) v7.toNatClampNeg) = v0 then (if 24 ≤ v7 then (if lf_ix v7 28 then (s_L_end_l145 F v0 v1 n (m_XE_sl (upd (a_XE_sl u) v7.toNatClampNeg (-1)) u) 1 (v7 + 1)) else none) else ((s_L_lives F 48 (a_XE_th u) (v7 / 4)).bind fun y1 => (if y1 then (if ((v1 >>> ((v7 / 4) &&& 31)) &&& 1) = 1 then (s_L_end_l145 F v0 v1 n u v6 (v7 + 1)) else (if lf_ix v7 28 then (s_L_end_l145 F v0 v1 n (m_XE_sl (upd (a_XE_sl u) v7.toNatClampNeg (-1)) u) 1 (v7 + 1)) else none)) else (s_L_end_l145 F v0 v1 n u v6 (v7 + 1))))) else (s_L_end_l145 F v0 v1 n u v6 (v7 + 1))) else none) := rfl
set_option maxHeartbeats 4000000 in
set_option maxRecDepth 20000 in
theorem t_L_end_l145 (F : Nat) (v0 : Int32) (v1 : Int32) (x : S_XE)  : ∀ (n : Nat) (u : S_XE) (v6 : Int32) (v7 : Int32), s_L_end_l145 F v0 v1 n u v6 v7 = some x → ev_V mm_L_end none (ev_XR mm_L_end (fun r w => r = none ∧ w = W_XE x)) 145 [some (.int v0), some (.int v1), some (.ref 0), some (.ref 1), some (.ref 2), some (.ref 3), some (.int v6), some (.int v7)] [] (W_XE u) 0 0 := by
  intro n
  induction n with
  | zero => intro u v6 v7 hR; cases hR
  | succ n hk145 =>
    intro u v6 v7 hR
    unfold s_L_end_l145 at hR
    refine ev_run (cs := []) (pc' := 149) (L' := [some (.int v0), some (.int v1), some (.ref 0), some (.ref 1), some (.ref 2), some (.ref 3), some (.int v6), some (.int v7)]) (st' := [.int 28, .int v7]) (w' := W_XE u) [] 2 (by with_unfolding_all rfl) trivial ?_
    refine ev_br rfl rfl (fun h1 => ?_) (fun h1 => ?_)
    · replace hR := lf_t h1 hR
      exact ev_to2 (t_L_end_b209 F u v0 v6 _ hR) ⟨rfl, rfl, rfl, rfl, rfl, rfl, trivial⟩ rfl rfl
    · replace hR := lf_f h1 hR
      obtain ⟨h2, hR⟩ := lf_g hR
      refine ev_run (cs := [lf_ix v7 28]) (pc' := 158) (L' := [some (.int v0), some (.int v1), some (.ref 0), some (.ref 1), some (.ref 2), some (.ref 3), some (.int v6), some (.int v7)]) (st' := [.int v0, .int ((a_XE_sl u) v7.toNatClampNeg)]) (w' := W_XE u) [] 4 (by with_unfolding_all rfl) (h2) ?_
      refine ev_br rfl rfl (fun h3 => ?_) (fun h3 => ?_)
      · replace hR := lf_f h3 hR
        refine ev_run (cs := []) (pc' := 145) (L' := [some (.int v0), some (.int v1), some (.ref 0), some (.ref 1), some (.ref 2), some (.ref 3), some (.int v6), some (.int (v7 + 1))]) (st' := []) (w' := W_XE u) [] 2 (by with_unfolding_all rfl) trivial ?_
        exact ev_to2 (hk145 _ _ _ hR) ⟨rfl, rfl, rfl, rfl, rfl, rfl, rfl, rfl, trivial⟩ rfl rfl
      · replace hR := lf_t h3 hR
        refine ev_run (cs := []) (pc' := 165) (L' := [some (.int v0), some (.int v1), some (.ref 0), some (.ref 1), some (.ref 2), some (.ref 3), some (.int v6), some (.int v7)]) (st' := [.int 24, .int v7]) (w' := W_XE u) [] 2 (by with_unfolding_all rfl) trivial ?_
        refine ev_br rfl rfl (fun h4 => ?_) (fun h4 => ?_)
        · replace hR := lf_t h4 hR
          obtain ⟨h5, hR⟩ := lf_g hR
          refine ev_run (cs := [lf_ix v7 28]) (pc' := 145) (L' := [some (.int v0), some (.int v1), some (.ref 0), some (.ref 1), some (.ref 2), some (.ref 3), some (.int 1), some (.int (v7 + 1))]) (st' := []) (w' := W_XE (m_XE_sl (upd (a_XE_sl u) v7.toNatClampNeg (-1)) u)) [] 8 (by with_unfolding_all rfl) (h5) ?_
          exact ev_to2 (hk145 _ _ _ hR) ⟨rfl, rfl, rfl, rfl, rfl, rfl, rfl, rfl, trivial⟩ rfl rfl
        · replace hR := lf_f h4 hR
          refine ev_run (cs := [¬ (4 : Int32) = 0]) (pc' := 173) (L' := [some (.int v0), some (.int v1), some (.ref 0), some (.ref 1), some (.ref 2), some (.ref 3), some (.int v6), some (.int v7)]) (st' := [.ref 1, .int (v7 / 4)]) (w' := W_XE u) [] 4 (by with_unfolding_all rfl) (by show ¬ _; decide) ?_
          obtain ⟨y1, h6, hR⟩ := lf_b hR
          refine ev_callL [1] (t_L_lives F 48 (a_XE_th u) (v7 / 4) _ h6) cs_L_lives ml_L_24 rfl rfl rfl rfl (by with_unfolding_all rfl) (by decide) (Nat.le_of_ble_eq_true rfl) ⟨Nat.le_of_ble_eq_true rfl, Nat.le_of_ble_eq_true rfl⟩ ⟨Nat.le_refl _, Nat.le_refl _⟩ ?_ ?_
          · rintro r w ⟨rfl, rfl⟩; rfl
          rintro r w ⟨rfl, rfl⟩
          refine ev_nx (pc' := 176) (st' := [.int (ev_b y1)]) (w' := W_XE u) rfl rfl (by with_unfolding_all rfl) rfl rfl ?_
          refine ev_br rfl rfl (fun h7 => ?_) (fun h7 => ?_)
          · replace hR := lf_z0 h7 hR
            refine ev_run (cs := []) (pc' := 145) (L' := [some (.int v0), some (.int v1), some (.ref 0), some (.ref 1), some (.ref 2), some (.ref 3), some (.int v6), some (.int (v7 + 1))]) (st' := []) (w' := W_XE u) [] 2 (by with_unfolding_all rfl) trivial ?_
            exact ev_to2 (hk145 _ _ _ hR) ⟨rfl, rfl, rfl, rfl, rfl, rfl, rfl, rfl, trivial⟩ rfl rfl
          · replace hR := lf_z1 h7 hR
            refine ev_run (cs := [¬ (4 : Int32) = 0]) (pc' := 188) (L' := [some (.int v0), some (.int v1), some (.ref 0), some (.ref 1), some (.ref 2), some (.ref 3), some (.int v6), some (.int v7)]) (st' := [.int 1, .int ((v1 >>> ((v7 / 4) &&& 31)) &&& 1)]) (w' := W_XE u) [] 8 (by with_unfolding_all rfl) (by show ¬ _; decide) ?_
            refine ev_br rfl rfl (fun h8 => ?_) (fun h8 => ?_)
            · replace hR := lf_f h8 hR
              obtain ⟨h9, hR⟩ := lf_g hR
              refine ev_run (cs := [lf_ix v7 28]) (pc' := 145) (L' := [some (.int v0), some (.int v1), some (.ref 0), some (.ref 1), some (.ref 2), some (.ref 3), some (.int 1), some (.int (v7 + 1))]) (st' := []) (w' := W_XE (m_XE_sl (upd (a_XE_sl u) v7.toNatClampNeg (-1)) u)) [] 8 (by with_unfolding_all rfl) (h9) ?_
              exact ev_to2 (hk145 _ _ _ hR) ⟨rfl, rfl, rfl, rfl, rfl, rfl, rfl, rfl, trivial⟩ rfl rfl
            · replace hR := lf_t h8 hR
              refine ev_run (cs := []) (pc' := 145) (L' := [some (.int v0), some (.int v1), some (.ref 0), some (.ref 1), some (.ref 2), some (.ref 3), some (.int v6), some (.int (v7 + 1))]) (st' := []) (w' := W_XE u) [] 3 (by with_unfolding_all rfl) trivial ?_
              exact ev_to2 (hk145 _ _ _ hR) ⟨rfl, rfl, rfl, rfl, rfl, rfl, rfl, rfl, trivial⟩ rfl rfl

def s_L_end_l81 (F : Nat) (v0 : Int32) (v1 : Int32) : Nat → S_XE → Int32 → Option S_XE
  | 0 => fun _ _ => none
  | n + 1 => fun u v6 => if ((4 * v0) + 4) ≤ v6 then (s_L_end_l145 F v0 v1 F u 0 0) else (if lf_ix v6 28 then (if lf_ix v6 28 then (if ((a_XE_sl u) v6.toNatClampNeg) < 0 then (s_L_end_l81 F v0 v1 n (m_XE_sl (upd (a_XE_sl u) v6.toNatClampNeg (-1)) u) (v6 + 1)) else (if ((a_XE_sl u) v6.toNatClampNeg) = v0 then (s_L_end_l81 F v0 v1 n (m_XE_sl (upd (a_XE_sl u) v6.toNatClampNeg (-1)) u) (v6 + 1)) else (if ((v1 >>> (((a_XE_sl u) v6.toNatClampNeg) &&& 31)) &&& 1) = 0 then ((s_L_report F (a_XE_q u, a_XE_re u) ((a_XE_sl u) v6.toNatClampNeg) (-1)).bind fun y1 => (s_L_end_l81 F v0 v1 n (m_XE_re (a_XQ_re (y1)) (m_XE_q (a_XQ_q (y1)) (m_XE_sl (upd (a_XE_sl u) v6.toNatClampNeg (-1)) u))) (v6 + 1))) else (s_L_end_l81 F v0 v1 n (m_XE_sl (upd (a_XE_sl u) v6.toNatClampNeg (-1)) u) (v6 + 1))))) else none) else none)
theorem e_L_end_l81 (F : Nat) (v0 : Int32) (v1 : Int32) (n : Nat) (u : S_XE) (v6 : Int32) : s_L_end_l81 F v0 v1 (n + 1) u v6 = if ((4 * v0) + 4) ≤ v6 then (s_L_end_l145 F v0 v1 F u 0 0) else (if lf_ix v6 28 then (if lf_ix v6 28 then (if ((a_XE_sl u) v6.toNatClampNeg) < 0 then (s_L_end_l81 F v0 v1 n (m_XE_sl (upd (a_XE_sl u) v6.toNatClampNeg (-1)) u) (v6 + 1)) else (if ((a_XE_sl u) v6.toNatClampNeg) = v0 then (s_L_end_l81 F v0 v1 n (m_XE_sl (upd (a_XE_sl u) v6.toNatClampNeg (-1)) u) (v6 + 1)) else (if ((v1 >>> (((a_XE_sl u) v6.toNatClampNeg) &&& 31)) &&& 1) = 0 then ((s_L_report F (a_XE_q u, a_XE_re u) ((a_XE_sl u) v6.toNatClampNeg) (-1)).bind fun y1 => (s_L_end_l81 F v0 v1 n (m_XE_re (a_XQ_re (y1)) (m_XE_q (a_XQ_q (y1)) (m_XE_sl (upd (a_XE_sl u) v6.toNatClampNeg (-1)) u))) (v6 + 1))) else (s_L_end_l81 F v0 v1 n (m_XE_sl (upd (a_XE_sl u) v6.toNatClampNeg (-1)) u) (v6 + 1))))) else none) else none) := rfl
set_option maxHeartbeats 4000000 in
set_option maxRecDepth 20000 in
theorem t_L_end_l81 (F : Nat) (v0 : Int32) (v1 : Int32) (x : S_XE)  : ∀ (n : Nat) (u : S_XE) (v6 : Int32), s_L_end_l81 F v0 v1 n u v6 = some x → ev_V mm_L_end none (ev_XR mm_L_end (fun r w => r = none ∧ w = W_XE x)) 81 [some (.int v0), some (.int v1), some (.ref 0), some (.ref 1), some (.ref 2), some (.ref 3), some (.int v6), none] [] (W_XE u) 0 0 := by
  intro n
  induction n with
  | zero => intro u v6 hR; cases hR
  | succ n hk81 =>
    intro u v6 hR
    unfold s_L_end_l81 at hR
    refine ev_run (cs := []) (pc' := 88) (L' := [some (.int v0), some (.int v1), some (.ref 0), some (.ref 1), some (.ref 2), some (.ref 3), some (.int v6), none]) (st' := [.int ((4 * v0) + 4), .int v6]) (w' := W_XE u) [] 6 (by with_unfolding_all rfl) trivial ?_
    refine ev_br rfl rfl (fun h1 => ?_) (fun h1 => ?_)
    · replace hR := lf_t h1 hR
      refine ev_run (cs := []) (pc' := 145) (L' := [some (.int v0), some (.int v1), some (.ref 0), some (.ref 1), some (.ref 2), some (.ref 3), some (.int 0), some (.int 0)]) (st' := []) (w' := W_XE u) [] 4 (by with_unfolding_all rfl) trivial ?_
      exact ev_to2 (t_L_end_l145 F v0 v1 _ F u 0 0 hR) ⟨rfl, rfl, rfl, rfl, rfl, rfl, rfl, rfl, trivial⟩ rfl rfl
    · replace hR := lf_f h1 hR
      obtain ⟨h2, hR⟩ := lf_g hR
      obtain ⟨h3, hR⟩ := lf_g hR
      refine ev_run (cs := [lf_ix v6 28, lf_ix v6 28]) (pc' := 106) (L' := [some (.int v0), some (.int v1), some (.ref 0), some (.ref 1), some (.ref 2), some (.ref 3), some (.int v6), some (.int ((a_XE_sl u) v6.toNatClampNeg))]) (st' := [.int ((a_XE_sl u) v6.toNatClampNeg)]) (w' := W_XE (m_XE_sl (upd (a_XE_sl u) v6.toNatClampNeg (-1)) u)) [] 9 (by with_unfolding_all rfl) ⟨h2, h3⟩ ?_
      refine ev_br rfl rfl (fun h4 => ?_) (fun h4 => ?_)
      · replace hR := lf_t h4 hR
        refine ev_run (cs := []) (pc' := 81) (L' := [some (.int v0), some (.int v1), some (.ref 0), some (.ref 1), some (.ref 2), some (.ref 3), some (.int (v6 + 1)), some (.int ((a_XE_sl u) v6.toNatClampNeg))]) (st' := []) (w' := W_XE (m_XE_sl (upd (a_XE_sl u) v6.toNatClampNeg (-1)) u)) [] 2 (by with_unfolding_all rfl) trivial ?_
        exact ev_to2 (hk81 _ _ hR) ⟨rfl, rfl, rfl, rfl, rfl, rfl, rfl, trivial⟩ rfl rfl
      · replace hR := lf_f h4 hR
        refine ev_run (cs := []) (pc' := 112) (L' := [some (.int v0), some (.int v1), some (.ref 0), some (.ref 1), some (.ref 2), some (.ref 3), some (.int v6), some (.int ((a_XE_sl u) v6.toNatClampNeg))]) (st' := [.int v0, .int ((a_XE_sl u) v6.toNatClampNeg)]) (w' := W_XE (m_XE_sl (upd (a_XE_sl u) v6.toNatClampNeg (-1)) u)) [] 2 (by with_unfolding_all rfl) trivial ?_
        refine ev_br rfl rfl (fun h5 => ?_) (fun h5 => ?_)
        · replace hR := lf_t h5 hR
          refine ev_run (cs := []) (pc' := 81) (L' := [some (.int v0), some (.int v1), some (.ref 0), some (.ref 1), some (.ref 2), some (.ref 3), some (.int (v6 + 1)), some (.int ((a_XE_sl u) v6.toNatClampNeg))]) (st' := []) (w' := W_XE (m_XE_sl (upd (a_XE_sl u) v6.toNatClampNeg (-1)) u)) [] 2 (by with_unfolding_all rfl) trivial ?_
          exact ev_to2 (hk81 _ _ hR) ⟨rfl, rfl, rfl, rfl, rfl, rfl, rfl, trivial⟩ rfl rfl
        · replace hR := lf_f h5 hR
          refine ev_run (cs := []) (pc' := 121) (L' := [some (.int v0), some (.int v1), some (.ref 0), some (.ref 1), some (.ref 2), some (.ref 3), some (.int v6), some (.int ((a_XE_sl u) v6.toNatClampNeg))]) (st' := [.int ((v1 >>> (((a_XE_sl u) v6.toNatClampNeg) &&& 31)) &&& 1)]) (w' := W_XE (m_XE_sl (upd (a_XE_sl u) v6.toNatClampNeg (-1)) u)) [] 5 (by with_unfolding_all rfl) trivial ?_
          refine ev_br rfl rfl (fun h6 => ?_) (fun h6 => ?_)
          · replace hR := lf_f h6 hR
            refine ev_run (cs := []) (pc' := 81) (L' := [some (.int v0), some (.int v1), some (.ref 0), some (.ref 1), some (.ref 2), some (.ref 3), some (.int (v6 + 1)), some (.int ((a_XE_sl u) v6.toNatClampNeg))]) (st' := []) (w' := W_XE (m_XE_sl (upd (a_XE_sl u) v6.toNatClampNeg (-1)) u)) [] 2 (by with_unfolding_all rfl) trivial ?_
            exact ev_to2 (hk81 _ _ hR) ⟨rfl, rfl, rfl, rfl, rfl, rfl, rfl, trivial⟩ rfl rfl
          · replace hR := lf_t h6 hR
            refine ev_run (cs := []) (pc' := 130) (L' := [some (.int v0), some (.int v1), some (.ref 0), some (.ref 1), some (.ref 2), some (.ref 3), some (.int v6), some (.int ((a_XE_sl u) v6.toNatClampNeg))]) (st' := [.ref 3, .ref 0, .int (-1), .int ((a_XE_sl u) v6.toNatClampNeg)]) (w' := W_XE (m_XE_sl (upd (a_XE_sl u) v6.toNatClampNeg (-1)) u)) [] 4 (by with_unfolding_all rfl) trivial ?_
            obtain ⟨y1, h7, hR⟩ := lf_b hR
            refine ev_callL [0, 3] (t_L_report F (a_XE_q u, a_XE_re u) ((a_XE_sl u) v6.toNatClampNeg) (-1) _ h7) cs_L_report ml_L_30 rfl rfl rfl rfl (by with_unfolding_all rfl) (by decide) (Nat.le_of_ble_eq_true rfl) ⟨Nat.le_of_ble_eq_true rfl, Nat.le_of_ble_eq_true rfl⟩ ⟨Nat.le_refl _, Nat.le_refl _⟩ ?_ ?_
            · rintro r w ⟨rfl, rfl⟩; rfl
            rintro r w ⟨rfl, rfl⟩
            refine ev_nx (pc' := 133) (st' := []) (w' := W_XE (m_XE_re (a_XQ_re (y1)) (m_XE_q (a_XQ_q (y1)) (m_XE_sl (upd (a_XE_sl u) v6.toNatClampNeg (-1)) u)))) rfl rfl (by with_unfolding_all rfl) rfl rfl ?_
            refine ev_run (cs := []) (pc' := 81) (L' := [some (.int v0), some (.int v1), some (.ref 0), some (.ref 1), some (.ref 2), some (.ref 3), some (.int (v6 + 1)), some (.int ((a_XE_sl u) v6.toNatClampNeg))]) (st' := []) (w' := W_XE (m_XE_re (a_XQ_re (y1)) (m_XE_q (a_XQ_q (y1)) (m_XE_sl (upd (a_XE_sl u) v6.toNatClampNeg (-1)) u)))) [] 2 (by with_unfolding_all rfl) trivial ?_
            exact ev_to2 (hk81 _ _ hR) ⟨rfl, rfl, rfl, rfl, rfl, rfl, rfl, trivial⟩ rfl rfl

def s_L_end_b48 (F : Nat) (u : S_XE) (v0 : Int32) (v1 : Int32) (p1 : Int32) (p2 : Int32) : Option S_XE := if lf_ix p1 48 then (lf_let (m_XE_th (upd (a_XE_th u) p1.toNatClampNeg p2) u) fun z1 => (if lf_ix ((8 * v0) + 7) 48 then (if v1 = 0 then (s_L_end_l81 F v0 v1 F (m_XE_q (upd (a_XE_q z1) (4 : Int32).toNatClampNeg (((a_XE_q z1) (4 : Int32).toNatClampNeg) + 0)) (m_XE_th (upd (a_XE_th z1) (((8 * v0) + 7).toNatClampNeg) ((a_XE_q u) (0 : Int32).toNatClampNeg)) z1)) (4 * v0)) else (s_L_end_l81 F v0 v1 F (m_XE_q (upd (a_XE_q z1) (4 : Int32).toNatClampNeg (((a_XE_q z1) (4 : Int32).toNatClampNeg) + 1)) (m_XE_th (upd (a_XE_th z1) (((8 * v0) + 7).toNatClampNeg) ((a_XE_q u) (0 : Int32).toNatClampNeg)) z1)) (4 * v0))) else none)) else none
set_option maxHeartbeats 4000000 in
set_option maxRecDepth 20000 in
theorem t_L_end_b48 (F : Nat) (u : S_XE) (v0 : Int32) (v1 : Int32) (p1 : Int32) (p2 : Int32) (x : S_XE)  (hR : s_L_end_b48 F u v0 v1 p1 p2 = some x) : ev_V mm_L_end none (ev_XR mm_L_end (fun r w => r = none ∧ w = W_XE x)) 48 [some (.int v0), some (.int v1), some (.ref 0), some (.ref 1), some (.ref 2), some (.ref 3), none, none] [.int p2, .int p1, .ref 1] (W_XE u) 0 0 := by
  unfold s_L_end_b48 at hR
  obtain ⟨h1, hR⟩ := lf_g hR
  refine ev_run (cs := [lf_ix p1 48, lf_ix 0 12]) (pc' := 60) (L' := [some (.int v0), some (.int v1), some (.ref 0), some (.ref 1), some (.ref 2), some (.ref 3), none, none]) (st' := [.int ((a_XE_q u) (0 : Int32).toNatClampNeg), .int ((8 * v0) + 7), .ref 1]) (w' := W_XE (m_XE_th (upd (a_XE_th u) p1.toNatClampNeg p2) u)) [] 10 (by with_unfolding_all rfl) ⟨h1, by show ¬ _; decide⟩ ?_
  obtain ⟨z1, hz1, hR⟩ := lf_l hR
  refine ev_nx (pc' := 60) (st' := [.int ((a_XE_q u) (0 : Int32).toNatClampNeg), .int ((8 * v0) + 7), .ref 1]) (w' := W_XE z1) rfl rfl (congrArg (fun z => W_XE z) hz1.symm) rfl rfl ?_
  obtain ⟨h2, hR⟩ := lf_g hR
  refine ev_run (cs := [lf_ix ((8 * v0) + 7) 48, lf_ix 4 12]) (pc' := 66) (L' := [some (.int v0), some (.int v1), some (.ref 0), some (.ref 1), some (.ref 2), some (.ref 3), none, none]) (st' := [.int v1, .int ((a_XE_q z1) (4 : Int32).toNatClampNeg), .int 4, .ref 0]) (w' := W_XE (m_XE_th (upd (a_XE_th z1) (((8 * v0) + 7).toNatClampNeg) ((a_XE_q u) (0 : Int32).toNatClampNeg)) z1)) [] 6 (by with_unfolding_all rfl) ⟨h2, by show ¬ _; decide⟩ ?_
  refine ev_br rfl rfl (fun h3 => ?_) (fun h3 => ?_)
  · replace hR := lf_f h3 hR
    refine ev_run (cs := [lf_ix 4 12]) (pc' := 81) (L' := [some (.int v0), some (.int v1), some (.ref 0), some (.ref 1), some (.ref 2), some (.ref 3), some (.int (4 * v0)), none]) (st' := []) (w' := W_XE (m_XE_q (upd (a_XE_q z1) (4 : Int32).toNatClampNeg (((a_XE_q z1) (4 : Int32).toNatClampNeg) + 1)) (m_XE_th (upd (a_XE_th z1) (((8 * v0) + 7).toNatClampNeg) ((a_XE_q u) (0 : Int32).toNatClampNeg)) z1))) [] 7 (by with_unfolding_all rfl) (by show ¬ _; decide) ?_
    exact ev_to2 (t_L_end_l81 F v0 v1 _ F (m_XE_q (upd (a_XE_q z1) (4 : Int32).toNatClampNeg (((a_XE_q z1) (4 : Int32).toNatClampNeg) + 1)) (m_XE_th (upd (a_XE_th z1) (((8 * v0) + 7).toNatClampNeg) ((a_XE_q u) (0 : Int32).toNatClampNeg)) z1)) (4 * v0) hR) ⟨rfl, rfl, rfl, rfl, rfl, rfl, rfl, trivial⟩ rfl rfl
  · replace hR := lf_t h3 hR
    refine ev_run (cs := [lf_ix 4 12]) (pc' := 81) (L' := [some (.int v0), some (.int v1), some (.ref 0), some (.ref 1), some (.ref 2), some (.ref 3), some (.int (4 * v0)), none]) (st' := []) (w' := W_XE (m_XE_q (upd (a_XE_q z1) (4 : Int32).toNatClampNeg (((a_XE_q z1) (4 : Int32).toNatClampNeg) + 0)) (m_XE_th (upd (a_XE_th z1) (((8 * v0) + 7).toNatClampNeg) ((a_XE_q u) (0 : Int32).toNatClampNeg)) z1))) [] 8 (by with_unfolding_all rfl) (by show ¬ _; decide) ?_
    exact ev_to2 (t_L_end_l81 F v0 v1 _ F (m_XE_q (upd (a_XE_q z1) (4 : Int32).toNatClampNeg (((a_XE_q z1) (4 : Int32).toNatClampNeg) + 0)) (m_XE_th (upd (a_XE_th z1) (((8 * v0) + 7).toNatClampNeg) ((a_XE_q u) (0 : Int32).toNatClampNeg)) z1)) (4 * v0) hR) ⟨rfl, rfl, rfl, rfl, rfl, rfl, rfl, trivial⟩ rfl rfl

def s_L_end (F : Nat) (u : S_XE) (v0 : Int32) (v1 : Int32) : Option S_XE := if lf_ix (8 * v0) 48 then (lf_let (m_XE_th (upd (a_XE_th u) ((8 * v0).toNatClampNeg) 0) u) fun z1 => (if lf_ix ((8 * v0) + 3) 48 then (lf_let (m_XE_q (upd (a_XE_q z1) (3 : Int32).toNatClampNeg (((a_XE_q z1) (3 : Int32).toNatClampNeg) + 1)) (m_XE_th (upd (a_XE_th z1) (((8 * v0) + 3).toNatClampNeg) 0) z1)) fun z2 => (if lf_ix ((8 * v0) + 4) 48 then (if v1 = 0 then (s_L_end_b48 F (m_XE_th (upd (a_XE_th z2) (((8 * v0) + 4).toNatClampNeg) ((a_XE_q z1) (3 : Int32).toNatClampNeg)) z2) v0 v1 ((8 * v0) + 5) 1) else (s_L_end_b48 F (m_XE_th (upd (a_XE_th z2) (((8 * v0) + 4).toNatClampNeg) ((a_XE_q z1) (3 : Int32).toNatClampNeg)) z2) v0 v1 ((8 * v0) + 5) 2)) else none)) else none)) else none
set_option maxHeartbeats 4000000 in
set_option maxRecDepth 20000 in
theorem t_L_end (F : Nat) (u : S_XE) (v0 : Int32) (v1 : Int32) (x : S_XE) (hR : s_L_end F u v0 v1 = some x) : ev_A yL_end mm_L_end none [.int v0, .int v1, .ref 0, .ref 1, .ref 2, .ref 3] (W_XE u) (fun r w => r = none ∧ w = W_XE x) := by
  unfold s_L_end at hR
  refine ev_start ok_L_end (by decide +kernel) rfl rfl (Nat.le_of_ble_eq_true rfl) ?_
  obtain ⟨h1, hR⟩ := lf_g hR
  refine ev_run (cs := [lf_ix (8 * v0) 48]) (pc' := 14) (L' := [some (.int v0), some (.int v1), some (.ref 0), some (.ref 1), some (.ref 2), some (.ref 3), none, none]) (st' := [.int ((8 * v0) + 3), .ref 1]) (w' := W_XE (m_XE_th (upd (a_XE_th u) ((8 * v0).toNatClampNeg) 0) u)) [] 12 (by with_unfolding_all rfl) (h1) ?_
  refine ev_run (cs := []) (pc' := 15) (L' := [some (.int v0), some (.int v1), some (.ref 0), some (.ref 1), some (.ref 2), some (.ref 3), none, none]) (st' := [.int 0, .int ((8 * v0) + 3), .ref 1]) (w' := W_XE (m_XE_th (upd (a_XE_th u) ((8 * v0).toNatClampNeg) 0) u)) [] 1 (by with_unfolding_all rfl) trivial ?_
  obtain ⟨z1, hz1, hR⟩ := lf_l hR
  refine ev_nx (pc' := 15) (st' := [.int 0, .int ((8 * v0) + 3), .ref 1]) (w' := W_XE z1) rfl rfl (congrArg (fun z => W_XE z) hz1.symm) rfl rfl ?_
  obtain ⟨h2, hR⟩ := lf_g hR
  refine ev_run (cs := [lf_ix ((8 * v0) + 3) 48, lf_ix 3 12]) (pc' := 28) (L' := [some (.int v0), some (.int v1), some (.ref 0), some (.ref 1), some (.ref 2), some (.ref 3), none, none]) (st' := [.int ((a_XE_q z1) (3 : Int32).toNatClampNeg), .int 3, .ref 0, .int ((a_XE_q z1) (3 : Int32).toNatClampNeg), .int ((8 * v0) + 4), .ref 1]) (w' := W_XE (m_XE_th (upd (a_XE_th z1) (((8 * v0) + 3).toNatClampNeg) 0) z1)) [] 12 (by with_unfolding_all rfl) ⟨h2, by show ¬ _; decide⟩ ?_
  refine ev_run (cs := [lf_ix 3 12]) (pc' := 31) (L' := [some (.int v0), some (.int v1), some (.ref 0), some (.ref 1), some (.ref 2), some (.ref 3), none, none]) (st' := [.int ((a_XE_q z1) (3 : Int32).toNatClampNeg), .int ((8 * v0) + 4), .ref 1]) (w' := W_XE (m_XE_q (upd (a_XE_q z1) (3 : Int32).toNatClampNeg (((a_XE_q z1) (3 : Int32).toNatClampNeg) + 1)) (m_XE_th (upd (a_XE_th z1) (((8 * v0) + 3).toNatClampNeg) 0) z1))) [] 3 (by with_unfolding_all rfl) (by show ¬ _; decide) ?_
  obtain ⟨z2, hz2, hR⟩ := lf_l hR
  refine ev_nx (pc' := 31) (st' := [.int ((a_XE_q z1) (3 : Int32).toNatClampNeg), .int ((8 * v0) + 4), .ref 1]) (w' := W_XE z2) rfl rfl (congrArg (fun z => W_XE z) hz2.symm) rfl rfl ?_
  obtain ⟨h3, hR⟩ := lf_g hR
  refine ev_run (cs := [lf_ix ((8 * v0) + 4) 48]) (pc' := 40) (L' := [some (.int v0), some (.int v1), some (.ref 0), some (.ref 1), some (.ref 2), some (.ref 3), none, none]) (st' := [.int v1, .int ((8 * v0) + 5), .ref 1]) (w' := W_XE (m_XE_th (upd (a_XE_th z2) (((8 * v0) + 4).toNatClampNeg) ((a_XE_q z1) (3 : Int32).toNatClampNeg)) z2)) [] 8 (by with_unfolding_all rfl) (h3) ?_
  refine ev_br rfl rfl (fun h4 => ?_) (fun h4 => ?_)
  · replace hR := lf_f h4 hR
    refine ev_run (cs := []) (pc' := 48) (L' := [some (.int v0), some (.int v1), some (.ref 0), some (.ref 1), some (.ref 2), some (.ref 3), none, none]) (st' := [.int 2, .int ((8 * v0) + 5), .ref 1]) (w' := W_XE (m_XE_th (upd (a_XE_th z2) (((8 * v0) + 4).toNatClampNeg) ((a_XE_q z1) (3 : Int32).toNatClampNeg)) z2)) [] 1 (by with_unfolding_all rfl) trivial ?_
    exact ev_to2 (t_L_end_b48 F (m_XE_th (upd (a_XE_th z2) (((8 * v0) + 4).toNatClampNeg) ((a_XE_q z1) (3 : Int32).toNatClampNeg)) z2) v0 v1 ((8 * v0) + 5) 2 _ hR) ⟨rfl, rfl, rfl, rfl, rfl, rfl, trivial⟩ rfl rfl
  · replace hR := lf_t h4 hR
    refine ev_run (cs := []) (pc' := 48) (L' := [some (.int v0), some (.int v1), some (.ref 0), some (.ref 1), some (.ref 2), some (.ref 3), none, none]) (st' := [.int 1, .int ((8 * v0) + 5), .ref 1]) (w' := W_XE (m_XE_th (upd (a_XE_th z2) (((8 * v0) + 4).toNatClampNeg) ((a_XE_q z1) (3 : Int32).toNatClampNeg)) z2)) [] 2 (by with_unfolding_all rfl) trivial ?_
    exact ev_to2 (t_L_end_b48 F (m_XE_th (upd (a_XE_th z2) (((8 * v0) + 4).toNatClampNeg) ((a_XE_q z1) (3 : Int32).toNatClampNeg)) z2) v0 v1 ((8 * v0) + 5) 1 _ hR) ⟨rfl, rfl, rfl, rfl, rfl, rfl, trivial⟩ rfl rfl

def s_L_hear_b260 (F : Nat) (k3 : S_XE → Int32 → Option S_XE) (u : S_XE) (v4 : Int32) (v5 : Int32) : Option S_XE := (s_L_end F u v5 0).bind fun y1 => (k3 y1 v4)
set_option maxHeartbeats 4000000 in
set_option maxRecDepth 20000 in
theorem t_L_hear_b260 (F : Nat) (k3 : S_XE → Int32 → Option S_XE) (u : S_XE) (v4 : Int32) (v5 : Int32) (x : S_XE) (hk3 : ∀ (u : S_XE) (v4 : Int32), k3 u v4 = some x → ev_V mm_L_hear none (ev_XR mm_L_hear (fun r w => r = none ∧ w = W_XE x)) 3 [some (.ref 0), some (.ref 1), some (.ref 2), some (.ref 3), some (.int v4), none, none, none] [] (W_XE u) 0 0) (hR : s_L_hear_b260 F k3 u v4 v5 = some x) : ev_V mm_L_hear none (ev_XR mm_L_hear (fun r w => r = none ∧ w = W_XE x)) 260 [some (.ref 0), some (.ref 1), some (.ref 2), some (.ref 3), some (.int v4), some (.int v5), none, none] [] (W_XE u) 0 0 := by
  unfold s_L_hear_b260 at hR
  refine ev_run (cs := []) (pc' := 267) (L' := [some (.ref 0), some (.ref 1), some (.ref 2), some (.ref 3), some (.int v4), some (.int v5), none, none]) (st' := [.ref 3, .ref 2, .ref 1, .ref 0, .int 0, .int v5]) (w' := W_XE u) [] 6 (by with_unfolding_all rfl) trivial ?_
  obtain ⟨y1, h1, hR⟩ := lf_b hR
  refine ev_callL [0, 1, 2, 3] (t_L_end F u v5 0 _ h1) cs_L_end ml_L_41 rfl rfl rfl rfl (by with_unfolding_all rfl) (by decide) (Nat.le_of_ble_eq_true rfl) ⟨Nat.le_of_ble_eq_true rfl, Nat.le_of_ble_eq_true rfl⟩ ⟨Nat.le_refl _, Nat.le_refl _⟩ ?_ ?_
  · rintro r w ⟨rfl, rfl⟩; rfl
  rintro r w ⟨rfl, rfl⟩
  refine ev_nx (pc' := 270) (st' := []) (w' := W_XE y1) rfl rfl (by with_unfolding_all rfl) rfl rfl ?_
  refine ev_run (cs := []) (pc' := 3) (L' := [some (.ref 0), some (.ref 1), some (.ref 2), some (.ref 3), some (.int v4), some (.int v5), none, none]) (st' := []) (w' := W_XE y1) [] 1 (by with_unfolding_all rfl) trivial ?_
  exact ev_to2 (hk3 _ _ hR) ⟨rfl, rfl, rfl, rfl, rfl, trivial⟩ rfl rfl

def s_L_hear_b186 (F : Nat) (k3 : S_XE → Int32 → Option S_XE) (u : S_XE) (v4 : Int32) (v5 : Int32) (v6 : Int32) : Option S_XE := if 0 < v6 then (k3 u v4) else (if lf_ix ((8 * v5) + 2) 48 then (if 0 < ((a_XE_th u) (((8 * v5) + 2).toNatClampNeg)) then (k3 u v4) else ((s_L_underWay F 12 64 (a_XE_q u) (a_XE_re u) v5).bind fun y1 => (if y1 ≤ 0 then ((s_L_truth F 48 28 (a_XE_th u) (a_XE_sl u) v5).bind fun y2 => (if ((a_XE_q u) (10 : Int32).toNatClampNeg) = 1 then (if y2 ≤ 0 then (s_L_hear_b260 F k3 u v4 v5) else (if lf_ix ((8 * v5) + 2) 48 then (k3 (m_XE_q (upd (a_XE_q u) (6 : Int32).toNatClampNeg (((a_XE_q u) (6 : Int32).toNatClampNeg) + 1)) (m_XE_th (upd (a_XE_th u) (((8 * v5) + 2).toNatClampNeg) y2) u)) v4) else none)) else (s_L_hear_b260 F k3 u v4 v5))) else (k3 u v4)))) else none)
set_option maxHeartbeats 4000000 in
set_option maxRecDepth 20000 in
theorem t_L_hear_b186 (F : Nat) (k3 : S_XE → Int32 → Option S_XE) (u : S_XE) (v4 : Int32) (v5 : Int32) (v6 : Int32) (x : S_XE) (hk3 : ∀ (u : S_XE) (v4 : Int32), k3 u v4 = some x → ev_V mm_L_hear none (ev_XR mm_L_hear (fun r w => r = none ∧ w = W_XE x)) 3 [some (.ref 0), some (.ref 1), some (.ref 2), some (.ref 3), some (.int v4), none, none, none] [] (W_XE u) 0 0) (hR : s_L_hear_b186 F k3 u v4 v5 v6 = some x) : ev_V mm_L_hear none (ev_XR mm_L_hear (fun r w => r = none ∧ w = W_XE x)) 186 [some (.ref 0), some (.ref 1), some (.ref 2), some (.ref 3), some (.int v4), some (.int v5), some (.int v6), none] [] (W_XE u) 0 0 := by
  unfold s_L_hear_b186 at hR
  refine ev_run (cs := []) (pc' := 188) (L' := [some (.ref 0), some (.ref 1), some (.ref 2), some (.ref 3), some (.int v4), some (.int v5), some (.int v6), none]) (st' := [.int v6]) (w' := W_XE u) [] 1 (by with_unfolding_all rfl) trivial ?_
  refine ev_br rfl rfl (fun h1 => ?_) (fun h1 => ?_)
  · replace hR := lf_t h1 hR
    exact ev_to2 (hk3 _ _ hR) ⟨rfl, rfl, rfl, rfl, rfl, trivial⟩ rfl rfl
  · replace hR := lf_f h1 hR
    obtain ⟨h2, hR⟩ := lf_g hR
    refine ev_run (cs := [lf_ix ((8 * v5) + 2) 48]) (pc' := 200) (L' := [some (.ref 0), some (.ref 1), some (.ref 2), some (.ref 3), some (.int v4), some (.int v5), some (.int v6), none]) (st' := [.int ((a_XE_th u) (((8 * v5) + 2).toNatClampNeg))]) (w' := W_XE u) [] 7 (by with_unfolding_all rfl) (h2) ?_
    refine ev_br rfl rfl (fun h3 => ?_) (fun h3 => ?_)
    · replace hR := lf_t h3 hR
      exact ev_to2 (hk3 _ _ hR) ⟨rfl, rfl, rfl, rfl, rfl, trivial⟩ rfl rfl
    · replace hR := lf_f h3 hR
      refine ev_run (cs := []) (pc' := 207) (L' := [some (.ref 0), some (.ref 1), some (.ref 2), some (.ref 3), some (.int v4), some (.int v5), some (.int v6), none]) (st' := [.ref 3, .ref 0, .int v5]) (w' := W_XE u) [] 3 (by with_unfolding_all rfl) trivial ?_
      obtain ⟨y1, h4, hR⟩ := lf_b hR
      refine ev_callL [0, 3] (t_L_underWay F 12 64 (a_XE_q u) (a_XE_re u) v5 _ h4) cs_L_underWay ml_L_34 rfl rfl rfl rfl (by with_unfolding_all rfl) (by decide) (Nat.le_of_ble_eq_true rfl) ⟨Nat.le_of_ble_eq_true rfl, Nat.le_of_ble_eq_true rfl⟩ ⟨Nat.le_refl _, Nat.le_refl _⟩ ?_ ?_
      · rintro r w ⟨rfl, rfl⟩; rfl
      rintro r w ⟨rfl, rfl⟩
      refine ev_nx (pc' := 210) (st' := [.int y1]) (w' := W_XE u) rfl rfl (by with_unfolding_all rfl) rfl rfl ?_
      refine ev_br rfl rfl (fun h5 => ?_) (fun h5 => ?_)
      · replace hR := lf_t h5 hR
        refine ev_run (cs := []) (pc' := 220) (L' := [some (.ref 0), some (.ref 1), some (.ref 2), some (.ref 3), some (.int v4), some (.int v5), some (.int v6), none]) (st' := [.ref 2, .ref 1, .int v5]) (w' := W_XE u) [] 3 (by with_unfolding_all rfl) trivial ?_
        obtain ⟨y2, h6, hR⟩ := lf_b hR
        refine ev_callL [1, 2] (t_L_truth F 48 28 (a_XE_th u) (a_XE_sl u) v5 _ h6) cs_L_truth ml_L_38 rfl rfl rfl rfl (by with_unfolding_all rfl) (by decide) (Nat.le_of_ble_eq_true rfl) ⟨Nat.le_of_ble_eq_true rfl, Nat.le_of_ble_eq_true rfl⟩ ⟨Nat.le_refl _, Nat.le_refl _⟩ ?_ ?_
        · rintro r w ⟨rfl, rfl⟩; rfl
        rintro r w ⟨rfl, rfl⟩
        refine ev_nx (pc' := 223) (st' := [.int y2]) (w' := W_XE u) rfl rfl (by with_unfolding_all rfl) rfl rfl ?_
        refine ev_run (cs := [lf_ix 10 12]) (pc' := 230) (L' := [some (.ref 0), some (.ref 1), some (.ref 2), some (.ref 3), some (.int v4), some (.int v5), some (.int v6), some (.int y2)]) (st' := [.int 1, .int ((a_XE_q u) (10 : Int32).toNatClampNeg)]) (w' := W_XE u) [] 5 (by with_unfolding_all rfl) (by show ¬ _; decide) ?_
        refine ev_br rfl rfl (fun h7 => ?_) (fun h7 => ?_)
        · replace hR := lf_f h7 hR
          exact ev_to2 (t_L_hear_b260 F k3 u v4 v5 _ hk3 hR) ⟨rfl, rfl, rfl, rfl, rfl, rfl, trivial⟩ rfl rfl
        · replace hR := lf_t h7 hR
          refine ev_run (cs := []) (pc' := 235) (L' := [some (.ref 0), some (.ref 1), some (.ref 2), some (.ref 3), some (.int v4), some (.int v5), some (.int v6), some (.int y2)]) (st' := [.int y2]) (w' := W_XE u) [] 1 (by with_unfolding_all rfl) trivial ?_
          refine ev_br rfl rfl (fun h8 => ?_) (fun h8 => ?_)
          · replace hR := lf_t h8 hR
            exact ev_to2 (t_L_hear_b260 F k3 u v4 v5 _ hk3 hR) ⟨rfl, rfl, rfl, rfl, rfl, rfl, trivial⟩ rfl rfl
          · replace hR := lf_f h8 hR
            obtain ⟨h9, hR⟩ := lf_g hR
            refine ev_run (cs := [lf_ix ((8 * v5) + 2) 48, lf_ix 6 12]) (pc' := 254) (L' := [some (.ref 0), some (.ref 1), some (.ref 2), some (.ref 3), some (.int v4), some (.int v5), some (.int v6), some (.int y2)]) (st' := [.int ((a_XE_q u) (6 : Int32).toNatClampNeg), .int 6, .ref 0]) (w' := W_XE (m_XE_th (upd (a_XE_th u) (((8 * v5) + 2).toNatClampNeg) y2) u)) [] 12 (by with_unfolding_all rfl) ⟨h9, by show ¬ _; decide⟩ ?_
            refine ev_run (cs := [lf_ix 6 12]) (pc' := 3) (L' := [some (.ref 0), some (.ref 1), some (.ref 2), some (.ref 3), some (.int v4), some (.int v5), some (.int v6), some (.int y2)]) (st' := []) (w' := W_XE (m_XE_q (upd (a_XE_q u) (6 : Int32).toNatClampNeg (((a_XE_q u) (6 : Int32).toNatClampNeg) + 1)) (m_XE_th (upd (a_XE_th u) (((8 * v5) + 2).toNatClampNeg) y2) u))) [] 5 (by with_unfolding_all rfl) (by show ¬ _; decide) ?_
            exact ev_to2 (hk3 _ _ hR) ⟨rfl, rfl, rfl, rfl, rfl, trivial⟩ rfl rfl
      · replace hR := lf_f h5 hR
        refine ev_run (cs := []) (pc' := 3) (L' := [some (.ref 0), some (.ref 1), some (.ref 2), some (.ref 3), some (.int v4), some (.int v5), some (.int v6), none]) (st' := []) (w' := W_XE u) [] 1 (by with_unfolding_all rfl) trivial ?_
        exact ev_to2 (hk3 _ _ hR) ⟨rfl, rfl, rfl, rfl, rfl, trivial⟩ rfl rfl

def s_L_hear_b126 (F : Nat) (k3 : S_XE → Int32 → Option S_XE) (u : S_XE) (v4 : Int32) (v5 : Int32) (v6 : Int32) : Option S_XE := (s_L_lives F 48 (a_XE_th u) v5).bind fun y1 => (if y1 then (if lf_ix ((8 * v5) + 2) 48 then (if lf_ix ((8 * v5) + 2) 48 then (if 0 ≤ v6 then (s_L_hear_b186 F k3 (m_XE_th (upd (a_XE_th u) (((8 * v5) + 2).toNatClampNeg) (((a_XE_th u) (((8 * v5) + 2).toNatClampNeg)) + v6)) (m_XE_q (upd (a_XE_q u) (2 : Int32).toNatClampNeg (((a_XE_q u) (2 : Int32).toNatClampNeg) - 1)) u)) v4 v5 v6) else (lf_let (m_XE_th (upd (a_XE_th u) (((8 * v5) + 2).toNatClampNeg) (((a_XE_th u) (((8 * v5) + 2).toNatClampNeg)) + v6)) (m_XE_q (upd (a_XE_q u) (2 : Int32).toNatClampNeg (((a_XE_q u) (2 : Int32).toNatClampNeg) - 1)) u)) fun z1 => (if lf_ix ((8 * v5) + 2) 48 then (if ((a_XE_th z1) (((8 * v5) + 2).toNatClampNeg)) ≤ 0 then (s_L_hear_b186 F k3 z1 v4 v5 v6) else (if lf_ix ((8 * v5) + 3) 48 then (s_L_hear_b186 F k3 (m_XE_th (upd (a_XE_th z1) (((8 * v5) + 3).toNatClampNeg) 1) z1) v4 v5 v6) else none)) else none))) else none) else none) else (k3 (m_XE_q (upd (a_XE_q u) (2 : Int32).toNatClampNeg (((a_XE_q u) (2 : Int32).toNatClampNeg) - 1)) u) v4))
set_option maxHeartbeats 4000000 in
set_option maxRecDepth 20000 in
theorem t_L_hear_b126 (F : Nat) (k3 : S_XE → Int32 → Option S_XE) (u : S_XE) (v4 : Int32) (v5 : Int32) (v6 : Int32) (x : S_XE) (hk3 : ∀ (u : S_XE) (v4 : Int32), k3 u v4 = some x → ev_V mm_L_hear none (ev_XR mm_L_hear (fun r w => r = none ∧ w = W_XE x)) 3 [some (.ref 0), some (.ref 1), some (.ref 2), some (.ref 3), some (.int v4), none, none, none] [] (W_XE u) 0 0) (hR : s_L_hear_b126 F k3 u v4 v5 v6 = some x) : ev_V mm_L_hear none (ev_XR mm_L_hear (fun r w => r = none ∧ w = W_XE x)) 126 [some (.ref 0), some (.ref 1), some (.ref 2), some (.ref 3), some (.int v4), some (.int v5), some (.int v6), none] [] (W_XE u) 0 0 := by
  unfold s_L_hear_b126 at hR
  refine ev_run (cs := [lf_ix 2 12, lf_ix 2 12]) (pc' := 136) (L' := [some (.ref 0), some (.ref 1), some (.ref 2), some (.ref 3), some (.int v4), some (.int v5), some (.int v6), none]) (st' := [.ref 1, .int v5]) (w' := W_XE (m_XE_q (upd (a_XE_q u) (2 : Int32).toNatClampNeg (((a_XE_q u) (2 : Int32).toNatClampNeg) - 1)) u)) [] 9 (by with_unfolding_all rfl) ⟨by show ¬ _; decide, by show ¬ _; decide⟩ ?_
  obtain ⟨y1, h1, hR⟩ := lf_b hR
  refine ev_callL [1] (t_L_lives F 48 (a_XE_th u) v5 _ h1) cs_L_lives ml_L_24 rfl rfl rfl rfl (by with_unfolding_all rfl) (by decide) (Nat.le_of_ble_eq_true rfl) ⟨Nat.le_of_ble_eq_true rfl, Nat.le_of_ble_eq_true rfl⟩ ⟨Nat.le_refl _, Nat.le_refl _⟩ ?_ ?_
  · rintro r w ⟨rfl, rfl⟩; rfl
  rintro r w ⟨rfl, rfl⟩
  refine ev_nx (pc' := 139) (st' := [.int (ev_b y1)]) (w' := W_XE (m_XE_q (upd (a_XE_q u) (2 : Int32).toNatClampNeg (((a_XE_q u) (2 : Int32).toNatClampNeg) - 1)) u)) rfl rfl (by with_unfolding_all rfl) rfl rfl ?_
  refine ev_br rfl rfl (fun h2 => ?_) (fun h2 => ?_)
  · replace hR := lf_z1 h2 hR
    obtain ⟨h3, hR⟩ := lf_g hR
    obtain ⟨h4, hR⟩ := lf_g hR
    refine ev_run (cs := [lf_ix ((8 * v5) + 2) 48, lf_ix ((8 * v5) + 2) 48]) (pc' := 161) (L' := [some (.ref 0), some (.ref 1), some (.ref 2), some (.ref 3), some (.int v4), some (.int v5), some (.int v6), none]) (st' := [.int v6]) (w' := W_XE (m_XE_th (upd (a_XE_th u) (((8 * v5) + 2).toNatClampNeg) (((a_XE_th u) (((8 * v5) + 2).toNatClampNeg)) + v6)) (m_XE_q (upd (a_XE_q u) (2 : Int32).toNatClampNeg (((a_XE_q u) (2 : Int32).toNatClampNeg) - 1)) u))) [] 12 (by with_unfolding_all rfl) ⟨h3, h4⟩ ?_
    refine ev_br rfl rfl (fun h5 => ?_) (fun h5 => ?_)
    · replace hR := lf_t h5 hR
      exact ev_to2 (t_L_hear_b186 F k3 (m_XE_th (upd (a_XE_th u) (((8 * v5) + 2).toNatClampNeg) (((a_XE_th u) (((8 * v5) + 2).toNatClampNeg)) + v6)) (m_XE_q (upd (a_XE_q u) (2 : Int32).toNatClampNeg (((a_XE_q u) (2 : Int32).toNatClampNeg) - 1)) u)) v4 v5 v6 _ hk3 hR) ⟨rfl, rfl, rfl, rfl, rfl, rfl, rfl, trivial⟩ rfl rfl
    · replace hR := lf_f h5 hR
      refine ev_run (cs := []) (pc' := 172) (L' := [some (.ref 0), some (.ref 1), some (.ref 2), some (.ref 3), some (.int v4), some (.int v5), some (.int v6), none]) (st' := [.int ((8 * v5) + 2), .ref 1]) (w' := W_XE (m_XE_th (upd (a_XE_th u) (((8 * v5) + 2).toNatClampNeg) (((a_XE_th u) (((8 * v5) + 2).toNatClampNeg)) + v6)) (m_XE_q (upd (a_XE_q u) (2 : Int32).toNatClampNeg (((a_XE_q u) (2 : Int32).toNatClampNeg) - 1)) u))) [] 6 (by with_unfolding_all rfl) trivial ?_
      obtain ⟨z1, hz1, hR⟩ := lf_l hR
      refine ev_nx (pc' := 172) (st' := [.int ((8 * v5) + 2), .ref 1]) (w' := W_XE z1) rfl rfl (congrArg (fun z => W_XE z) hz1.symm) rfl rfl ?_
      obtain ⟨h6, hR⟩ := lf_g hR
      refine ev_run (cs := [lf_ix ((8 * v5) + 2) 48]) (pc' := 173) (L' := [some (.ref 0), some (.ref 1), some (.ref 2), some (.ref 3), some (.int v4), some (.int v5), some (.int v6), none]) (st' := [.int ((a_XE_th z1) (((8 * v5) + 2).toNatClampNeg))]) (w' := W_XE z1) [] 1 (by with_unfolding_all rfl) (h6) ?_
      refine ev_br rfl rfl (fun h7 => ?_) (fun h7 => ?_)
      · replace hR := lf_t h7 hR
        exact ev_to2 (t_L_hear_b186 F k3 z1 v4 v5 v6 _ hk3 hR) ⟨rfl, rfl, rfl, rfl, rfl, rfl, rfl, trivial⟩ rfl rfl
      · replace hR := lf_f h7 hR
        obtain ⟨h8, hR⟩ := lf_g hR
        refine ev_run (cs := [lf_ix ((8 * v5) + 3) 48]) (pc' := 186) (L' := [some (.ref 0), some (.ref 1), some (.ref 2), some (.ref 3), some (.int v4), some (.int v5), some (.int v6), none]) (st' := []) (w' := W_XE (m_XE_th (upd (a_XE_th z1) (((8 * v5) + 3).toNatClampNeg) 1) z1)) [] 8 (by with_unfolding_all rfl) (h8) ?_
        exact ev_to2 (t_L_hear_b186 F k3 (m_XE_th (upd (a_XE_th z1) (((8 * v5) + 3).toNatClampNeg) 1) z1) v4 v5 v6 _ hk3 hR) ⟨rfl, rfl, rfl, rfl, rfl, rfl, rfl, trivial⟩ rfl rfl
  · replace hR := lf_z0 h2 hR
    refine ev_run (cs := []) (pc' := 3) (L' := [some (.ref 0), some (.ref 1), some (.ref 2), some (.ref 3), some (.int v4), some (.int v5), some (.int v6), none]) (st' := []) (w' := W_XE (m_XE_q (upd (a_XE_q u) (2 : Int32).toNatClampNeg (((a_XE_q u) (2 : Int32).toNatClampNeg) - 1)) u)) [] 1 (by with_unfolding_all rfl) trivial ?_
    exact ev_to2 (hk3 _ _ hR) ⟨rfl, rfl, rfl, rfl, rfl, trivial⟩ rfl rfl

def s_L_hear_l100 (F : Nat) (v4 : Int32) (v5 : Int32) (v6 : Int32) (k3 : S_XE → Int32 → Option S_XE) : Nat → S_XE → Int32 → Option S_XE
  | 0 => fun _ _ => none
  | n + 1 => fun u v7 => if ((a_XE_q u) (2 : Int32).toNatClampNeg) ≤ (v7 + 1) then (s_L_hear_b126 F k3 u v4 v5 v6) else (if lf_ix (v7 + 1) 64 then (if lf_ix v7 64 then (s_L_hear_l100 F v4 v5 v6 k3 n (m_XE_re (upd (a_XE_re u) v7.toNatClampNeg ((a_XE_re u) ((v7 + 1).toNatClampNeg))) u) (v7 + 1)) else none) else none)
theorem e_L_hear_l100 (F : Nat) (v4 : Int32) (v5 : Int32) (v6 : Int32) (k3 : S_XE → Int32 → Option S_XE) (n : Nat) (u : S_XE) (v7 : Int32) : s_L_hear_l100 F v4 v5 v6 k3 (n + 1) u v7 = if ((a_XE_q u) (2 : Int32).toNatClampNeg) ≤ (v7 + 1) then (s_L_hear_b126 F k3 u v4 v5 v6) else (if lf_ix (v7 + 1) 64 then (if lf_ix v7 64 then (s_L_hear_l100 F v4 v5 v6 k3 n (m_XE_re (upd (a_XE_re u) v7.toNatClampNeg ((a_XE_re u) ((v7 + 1).toNatClampNeg))) u) (v7 + 1)) else none) else none) := rfl
set_option maxHeartbeats 4000000 in
set_option maxRecDepth 20000 in
theorem t_L_hear_l100 (F : Nat) (v4 : Int32) (v5 : Int32) (v6 : Int32) (k3 : S_XE → Int32 → Option S_XE) (x : S_XE) (hk3 : ∀ (u : S_XE) (v4 : Int32), k3 u v4 = some x → ev_V mm_L_hear none (ev_XR mm_L_hear (fun r w => r = none ∧ w = W_XE x)) 3 [some (.ref 0), some (.ref 1), some (.ref 2), some (.ref 3), some (.int v4), none, none, none] [] (W_XE u) 0 0) : ∀ (n : Nat) (u : S_XE) (v7 : Int32), s_L_hear_l100 F v4 v5 v6 k3 n u v7 = some x → ev_V mm_L_hear none (ev_XR mm_L_hear (fun r w => r = none ∧ w = W_XE x)) 100 [some (.ref 0), some (.ref 1), some (.ref 2), some (.ref 3), some (.int v4), some (.int v5), some (.int v6), some (.int v7)] [] (W_XE u) 0 0 := by
  intro n
  induction n with
  | zero => intro u v7 hR; cases hR
  | succ n hk100 =>
    intro u v7 hR
    unfold s_L_hear_l100 at hR
    refine ev_run (cs := [lf_ix 2 12]) (pc' := 107) (L' := [some (.ref 0), some (.ref 1), some (.ref 2), some (.ref 3), some (.int v4), some (.int v5), some (.int v6), some (.int v7)]) (st' := [.int ((a_XE_q u) (2 : Int32).toNatClampNeg), .int (v7 + 1)]) (w' := W_XE u) [] 6 (by with_unfolding_all rfl) (by show ¬ _; decide) ?_
    refine ev_br rfl rfl (fun h1 => ?_) (fun h1 => ?_)
    · replace hR := lf_t h1 hR
      exact ev_to2 (t_L_hear_b126 F k3 u v4 v5 v6 _ hk3 hR) ⟨rfl, rfl, rfl, rfl, rfl, rfl, rfl, trivial⟩ rfl rfl
    · replace hR := lf_f h1 hR
      obtain ⟨h2, hR⟩ := lf_g hR
      obtain ⟨h3, hR⟩ := lf_g hR
      refine ev_run (cs := [lf_ix (v7 + 1) 64, lf_ix v7 64]) (pc' := 100) (L' := [some (.ref 0), some (.ref 1), some (.ref 2), some (.ref 3), some (.int v4), some (.int v5), some (.int v6), some (.int (v7 + 1))]) (st' := []) (w' := W_XE (m_XE_re (upd (a_XE_re u) v7.toNatClampNeg ((a_XE_re u) ((v7 + 1).toNatClampNeg))) u)) [] 10 (by with_unfolding_all rfl) ⟨h2, h3⟩ ?_
      exact ev_to2 (hk100 _ _ hR) ⟨rfl, rfl, rfl, rfl, rfl, rfl, rfl, rfl, trivial⟩ rfl rfl

def s_L_hear_b62 (F : Nat) (k3 : S_XE → Int32 → Option S_XE) (u : S_XE) (v4 : Int32) : Option S_XE := if 0 ≤ v4 then (if lf_ix v4 64 then (if lf_ix v4 64 then (if (((a_XE_re u) v4.toNatClampNeg) - ((a_XE_re u) v4.toNatClampNeg) / 2 * 2) = 1 then (s_L_hear_l100 F v4 ((((a_XE_re u) v4.toNatClampNeg) / 2) - (((a_XE_re u) v4.toNatClampNeg) / 2) / 8 * 8) 1 k3 F u v4) else (s_L_hear_l100 F v4 ((((a_XE_re u) v4.toNatClampNeg) / 2) - (((a_XE_re u) v4.toNatClampNeg) / 2) / 8 * 8) (-1) k3 F u v4)) else none) else none) else (some (u))
set_option maxHeartbeats 4000000 in
set_option maxRecDepth 20000 in
theorem t_L_hear_b62 (F : Nat) (k3 : S_XE → Int32 → Option S_XE) (u : S_XE) (v4 : Int32) (x : S_XE) (hk3 : ∀ (u : S_XE) (v4 : Int32), k3 u v4 = some x → ev_V mm_L_hear none (ev_XR mm_L_hear (fun r w => r = none ∧ w = W_XE x)) 3 [some (.ref 0), some (.ref 1), some (.ref 2), some (.ref 3), some (.int v4), none, none, none] [] (W_XE u) 0 0) (hR : s_L_hear_b62 F k3 u v4 = some x) : ev_V mm_L_hear none (ev_XR mm_L_hear (fun r w => r = none ∧ w = W_XE x)) 62 [some (.ref 0), some (.ref 1), some (.ref 2), some (.ref 3), some (.int v4), none, none, none] [] (W_XE u) 0 0 := by
  unfold s_L_hear_b62 at hR
  refine ev_run (cs := []) (pc' := 64) (L' := [some (.ref 0), some (.ref 1), some (.ref 2), some (.ref 3), some (.int v4), none, none, none]) (st' := [.int v4]) (w' := W_XE u) [] 1 (by with_unfolding_all rfl) trivial ?_
  refine ev_br rfl rfl (fun h1 => ?_) (fun h1 => ?_)
  · replace hR := lf_t h1 hR
    obtain ⟨h2, hR⟩ := lf_g hR
    obtain ⟨h3, hR⟩ := lf_g hR
    refine ev_run (cs := [lf_ix v4 64, ¬ (2 : Int32) = 0, ¬ (8 : Int32) = 0, lf_ix v4 64]) (pc' := 84) (L' := [some (.ref 0), some (.ref 1), some (.ref 2), some (.ref 3), some (.int v4), some (.int ((((a_XE_re u) v4.toNatClampNeg) / 2) - (((a_XE_re u) v4.toNatClampNeg) / 2) / 8 * 8)), none, none]) (st' := [.int 2, .int ((a_XE_re u) v4.toNatClampNeg)]) (w' := W_XE u) [] 12 (by with_unfolding_all rfl) ⟨h2, by show ¬ _; decide, by show ¬ _; decide, h3⟩ ?_
    refine ev_run (cs := [¬ (2 : Int32) = 0]) (pc' := 86) (L' := [some (.ref 0), some (.ref 1), some (.ref 2), some (.ref 3), some (.int v4), some (.int ((((a_XE_re u) v4.toNatClampNeg) / 2) - (((a_XE_re u) v4.toNatClampNeg) / 2) / 8 * 8)), none, none]) (st' := [.int 1, .int (((a_XE_re u) v4.toNatClampNeg) - ((a_XE_re u) v4.toNatClampNeg) / 2 * 2)]) (w' := W_XE u) [] 2 (by with_unfolding_all rfl) (by show ¬ _; decide) ?_
    refine ev_br rfl rfl (fun h4 => ?_) (fun h4 => ?_)
    · replace hR := lf_f h4 hR
      refine ev_run (cs := []) (pc' := 100) (L' := [some (.ref 0), some (.ref 1), some (.ref 2), some (.ref 3), some (.int v4), some (.int ((((a_XE_re u) v4.toNatClampNeg) / 2) - (((a_XE_re u) v4.toNatClampNeg) / 2) / 8 * 8)), some (.int (-1)), some (.int v4)]) (st' := []) (w' := W_XE u) [] 4 (by with_unfolding_all rfl) trivial ?_
      exact ev_to2 (t_L_hear_l100 F v4 ((((a_XE_re u) v4.toNatClampNeg) / 2) - (((a_XE_re u) v4.toNatClampNeg) / 2) / 8 * 8) (-1) k3 _ hk3 F u v4 hR) ⟨rfl, rfl, rfl, rfl, rfl, rfl, rfl, rfl, trivial⟩ rfl rfl
    · replace hR := lf_t h4 hR
      refine ev_run (cs := []) (pc' := 100) (L' := [some (.ref 0), some (.ref 1), some (.ref 2), some (.ref 3), some (.int v4), some (.int ((((a_XE_re u) v4.toNatClampNeg) / 2) - (((a_XE_re u) v4.toNatClampNeg) / 2) / 8 * 8)), some (.int 1), some (.int v4)]) (st' := []) (w' := W_XE u) [] 5 (by with_unfolding_all rfl) trivial ?_
      exact ev_to2 (t_L_hear_l100 F v4 ((((a_XE_re u) v4.toNatClampNeg) / 2) - (((a_XE_re u) v4.toNatClampNeg) / 2) / 8 * 8) 1 k3 _ hk3 F u v4 hR) ⟨rfl, rfl, rfl, rfl, rfl, rfl, rfl, rfl, trivial⟩ rfl rfl
  · replace hR := lf_f h1 hR
    cases hR
    exact ev_exit ⟨_, _, rfl, ⟨rfl, rfl⟩, ⟨rfl, rfl⟩, Nat.le_refl _, Nat.le_refl _⟩

def s_L_hear_l14 (F : Nat) (u : S_XE) (k3 : S_XE → Int32 → Option S_XE) : Nat → Int32 → Int32 → Option S_XE
  | 0 => fun _ _ => none
  | n + 1 => fun v4 v5 => if ((a_XE_q u) (2 : Int32).toNatClampNeg) ≤ v5 then (s_L_hear_b62 F k3 u v4) else (if lf_ix v5 64 then (if ((a_XE_q u) (0 : Int32).toNatClampNeg) < (((a_XE_re u) v5.toNatClampNeg) / 2048) then (s_L_hear_l14 F u k3 n v4 (v5 + 1)) else (if v4 < 0 then (s_L_hear_l14 F u k3 n v5 (v5 + 1)) else (if lf_ix v5 64 then (if lf_ix v4 64 then (if ((a_XE_re u) v4.toNatClampNeg) ≤ ((a_XE_re u) v5.toNatClampNeg) then (s_L_hear_l14 F u k3 n v4 (v5 + 1)) else (s_L_hear_l14 F u k3 n v5 (v5 + 1))) else none) else none))) else none)
theorem e_L_hear_l14 (F : Nat) (u : S_XE) (k3 : S_XE → Int32 → Option S_XE) (n : Nat) (v4 : Int32) (v5 : Int32) : s_L_hear_l14 F u k3 (n + 1) v4 v5 = if ((a_XE_q u) (2 : Int32).toNatClampNeg) ≤ v5 then (s_L_hear_b62 F k3 u v4) else (if lf_ix v5 64 then (if ((a_XE_q u) (0 : Int32).toNatClampNeg) < (((a_XE_re u) v5.toNatClampNeg) / 2048) then (s_L_hear_l14 F u k3 n v4 (v5 + 1)) else (if v4 < 0 then (s_L_hear_l14 F u k3 n v5 (v5 + 1)) else (if lf_ix v5 64 then (if lf_ix v4 64 then (if ((a_XE_re u) v4.toNatClampNeg) ≤ ((a_XE_re u) v5.toNatClampNeg) then (s_L_hear_l14 F u k3 n v4 (v5 + 1)) else (s_L_hear_l14 F u k3 n v5 (v5 + 1))) else none) else none))) else none) := rfl
set_option maxHeartbeats 4000000 in
set_option maxRecDepth 20000 in
theorem t_L_hear_l14 (F : Nat) (u : S_XE) (k3 : S_XE → Int32 → Option S_XE) (x : S_XE) (hk3 : ∀ (u : S_XE) (v4 : Int32), k3 u v4 = some x → ev_V mm_L_hear none (ev_XR mm_L_hear (fun r w => r = none ∧ w = W_XE x)) 3 [some (.ref 0), some (.ref 1), some (.ref 2), some (.ref 3), some (.int v4), none, none, none] [] (W_XE u) 0 0) : ∀ (n : Nat) (v4 : Int32) (v5 : Int32), s_L_hear_l14 F u k3 n v4 v5 = some x → ev_V mm_L_hear none (ev_XR mm_L_hear (fun r w => r = none ∧ w = W_XE x)) 14 [some (.ref 0), some (.ref 1), some (.ref 2), some (.ref 3), some (.int v4), some (.int v5), none, none] [] (W_XE u) 0 0 := by
  intro n
  induction n with
  | zero => intro v4 v5 hR; cases hR
  | succ n hk14 =>
    intro v4 v5 hR
    unfold s_L_hear_l14 at hR
    refine ev_run (cs := [lf_ix 2 12]) (pc' := 19) (L' := [some (.ref 0), some (.ref 1), some (.ref 2), some (.ref 3), some (.int v4), some (.int v5), none, none]) (st' := [.int ((a_XE_q u) (2 : Int32).toNatClampNeg), .int v5]) (w' := W_XE u) [] 4 (by with_unfolding_all rfl) (by show ¬ _; decide) ?_
    refine ev_br rfl rfl (fun h1 => ?_) (fun h1 => ?_)
    · replace hR := lf_t h1 hR
      exact ev_to2 (t_L_hear_b62 F k3 u v4 _ hk3 hR) ⟨rfl, rfl, rfl, rfl, rfl, trivial⟩ rfl rfl
    · replace hR := lf_f h1 hR
      obtain ⟨h2, hR⟩ := lf_g hR
      refine ev_run (cs := [lf_ix v5 64, ¬ (2048 : Int32) = 0, lf_ix 0 12]) (pc' := 33) (L' := [some (.ref 0), some (.ref 1), some (.ref 2), some (.ref 3), some (.int v4), some (.int v5), none, none]) (st' := [.int ((a_XE_q u) (0 : Int32).toNatClampNeg), .int (((a_XE_re u) v5.toNatClampNeg) / 2048)]) (w' := W_XE u) [] 8 (by with_unfolding_all rfl) ⟨h2, by show ¬ _; decide, by show ¬ _; decide⟩ ?_
      refine ev_br rfl rfl (fun h3 => ?_) (fun h3 => ?_)
      · replace hR := lf_t h3 hR
        refine ev_run (cs := []) (pc' := 14) (L' := [some (.ref 0), some (.ref 1), some (.ref 2), some (.ref 3), some (.int v4), some (.int (v5 + 1)), none, none]) (st' := []) (w' := W_XE u) [] 2 (by with_unfolding_all rfl) trivial ?_
        exact ev_to2 (hk14 _ _ hR) ⟨rfl, rfl, rfl, rfl, rfl, rfl, trivial⟩ rfl rfl
      · replace hR := lf_f h3 hR
        refine ev_run (cs := []) (pc' := 38) (L' := [some (.ref 0), some (.ref 1), some (.ref 2), some (.ref 3), some (.int v4), some (.int v5), none, none]) (st' := [.int v4]) (w' := W_XE u) [] 1 (by with_unfolding_all rfl) trivial ?_
        refine ev_br rfl rfl (fun h4 => ?_) (fun h4 => ?_)
        · replace hR := lf_t h4 hR
          refine ev_run (cs := []) (pc' := 14) (L' := [some (.ref 0), some (.ref 1), some (.ref 2), some (.ref 3), some (.int v5), some (.int (v5 + 1)), none, none]) (st' := []) (w' := W_XE u) [] 4 (by with_unfolding_all rfl) trivial ?_
          exact ev_to2 (hk14 _ _ hR) ⟨rfl, rfl, rfl, rfl, rfl, rfl, trivial⟩ rfl rfl
        · replace hR := lf_f h4 hR
          obtain ⟨h5, hR⟩ := lf_g hR
          obtain ⟨h6, hR⟩ := lf_g hR
          refine ev_run (cs := [lf_ix v5 64, lf_ix v4 64]) (pc' := 49) (L' := [some (.ref 0), some (.ref 1), some (.ref 2), some (.ref 3), some (.int v4), some (.int v5), none, none]) (st' := [.int ((a_XE_re u) v4.toNatClampNeg), .int ((a_XE_re u) v5.toNatClampNeg)]) (w' := W_XE u) [] 6 (by with_unfolding_all rfl) ⟨h5, h6⟩ ?_
          refine ev_br rfl rfl (fun h7 => ?_) (fun h7 => ?_)
          · replace hR := lf_t h7 hR
            refine ev_run (cs := []) (pc' := 14) (L' := [some (.ref 0), some (.ref 1), some (.ref 2), some (.ref 3), some (.int v4), some (.int (v5 + 1)), none, none]) (st' := []) (w' := W_XE u) [] 2 (by with_unfolding_all rfl) trivial ?_
            exact ev_to2 (hk14 _ _ hR) ⟨rfl, rfl, rfl, rfl, rfl, rfl, trivial⟩ rfl rfl
          · replace hR := lf_f h7 hR
            refine ev_run (cs := []) (pc' := 14) (L' := [some (.ref 0), some (.ref 1), some (.ref 2), some (.ref 3), some (.int v5), some (.int (v5 + 1)), none, none]) (st' := []) (w' := W_XE u) [] 4 (by with_unfolding_all rfl) trivial ?_
            exact ev_to2 (hk14 _ _ hR) ⟨rfl, rfl, rfl, rfl, rfl, rfl, trivial⟩ rfl rfl

def s_L_hear_l3 (F : Nat) : Nat → S_XE → Int32 → Option S_XE
  | 0 => fun _ _ => none
  | n + 1 => fun u v4 => if v4 < 0 then (some (u)) else (s_L_hear_l14 F u (s_L_hear_l3 F n) F (-1) 0)
theorem e_L_hear_l3 (F : Nat) (n : Nat) (u : S_XE) (v4 : Int32) : s_L_hear_l3 F (n + 1) u v4 = if v4 < 0 then (some (u)) else (s_L_hear_l14 F u (s_L_hear_l3 F n) F (-1) 0) := rfl
set_option maxHeartbeats 4000000 in
set_option maxRecDepth 20000 in
theorem t_L_hear_l3 (F : Nat) (x : S_XE)  : ∀ (n : Nat) (u : S_XE) (v4 : Int32), s_L_hear_l3 F n u v4 = some x → ev_V mm_L_hear none (ev_XR mm_L_hear (fun r w => r = none ∧ w = W_XE x)) 3 [some (.ref 0), some (.ref 1), some (.ref 2), some (.ref 3), some (.int v4), none, none, none] [] (W_XE u) 0 0 := by
  intro n
  induction n with
  | zero => intro u v4 hR; cases hR
  | succ n hk3 =>
    intro u v4 hR
    unfold s_L_hear_l3 at hR
    refine ev_run (cs := []) (pc' := 5) (L' := [some (.ref 0), some (.ref 1), some (.ref 2), some (.ref 3), some (.int v4), none, none, none]) (st' := [.int v4]) (w' := W_XE u) [] 1 (by with_unfolding_all rfl) trivial ?_
    refine ev_br rfl rfl (fun h1 => ?_) (fun h1 => ?_)
    · replace hR := lf_t h1 hR
      cases hR
      exact ev_exit ⟨_, _, rfl, ⟨rfl, rfl⟩, ⟨rfl, rfl⟩, Nat.le_refl _, Nat.le_refl _⟩
    · replace hR := lf_f h1 hR
      refine ev_run (cs := []) (pc' := 14) (L' := [some (.ref 0), some (.ref 1), some (.ref 2), some (.ref 3), some (.int (-1)), some (.int 0), none, none]) (st' := []) (w' := W_XE u) [] 4 (by with_unfolding_all rfl) trivial ?_
      exact ev_to2 (t_L_hear_l14 F u (s_L_hear_l3 F n) _ hk3 F (-1) 0 hR) ⟨rfl, rfl, rfl, rfl, rfl, rfl, trivial⟩ rfl rfl

def s_L_hear (F : Nat) (u : S_XE) : Option S_XE := s_L_hear_l3 F F u 0
set_option maxHeartbeats 4000000 in
set_option maxRecDepth 20000 in
theorem t_L_hear (F : Nat) (u : S_XE) (x : S_XE) (hR : s_L_hear F u = some x) : ev_A yL_hear mm_L_hear none [.ref 0, .ref 1, .ref 2, .ref 3] (W_XE u) (fun r w => r = none ∧ w = W_XE x) := by
  unfold s_L_hear at hR
  refine ev_start ok_L_hear (by decide +kernel) rfl rfl (Nat.le_of_ble_eq_true rfl) ?_
  refine ev_run (cs := []) (pc' := 3) (L' := [some (.ref 0), some (.ref 1), some (.ref 2), some (.ref 3), some (.int 0), none, none, none]) (st' := []) (w' := W_XE u) [] 2 (by with_unfolding_all rfl) trivial ?_
  exact ev_to2 (t_L_hear_l3 F _ F u 0 hR) ⟨rfl, rfl, rfl, rfl, rfl, trivial⟩ rfl rfl

def s_L_reach_l15 (F : Nat) (n0 : Nat) (n1 : Nat) (f : (Nat → Int32)) (g : (Nat → Int32)) (v4 : Int32) (k5 : Int32 → Int32 → Option Int32) : Nat → Int32 → Int32 → Option Int32
  | 0 => fun _ _ => none
  | n + 1 => fun v3 v5 => if 24 ≤ v5 then (k5 v3 (v4 + 1)) else (if ((v3 >>> ((v5 / 4) &&& 31)) &&& 1) = 1 then ((s_L_lives F n0 f (v5 / 4)).bind fun y1 => (if y1 then (if lf_ix v5 n1 then (if (g v5.toNatClampNeg) < 0 then (s_L_reach_l15 F n0 n1 f g v4 k5 n (v3 ||| 0) (v5 + 1)) else (if lf_ix v5 n1 then (s_L_reach_l15 F n0 n1 f g v4 k5 n (v3 ||| (1 <<< ((g v5.toNatClampNeg) &&& 31))) (v5 + 1)) else none)) else none) else (s_L_reach_l15 F n0 n1 f g v4 k5 n (v3 ||| 0) (v5 + 1)))) else (s_L_reach_l15 F n0 n1 f g v4 k5 n (v3 ||| 0) (v5 + 1)))
theorem e_L_reach_l15 (F : Nat) (n0 : Nat) (n1 : Nat) (f : (Nat → Int32)) (g : (Nat → Int32)) (v4 : Int32) (k5 : Int32 → Int32 → Option Int32) (n : Nat) (v3 : Int32) (v5 : Int32) : s_L_reach_l15 F n0 n1 f g v4 k5 (n + 1) v3 v5 = if 24 ≤ v5 then (k5 v3 (v4 + 1)) else (if ((v3 >>> ((v5 / 4) &&& 31)) &&& 1) = 1 then ((s_L_lives F n0 f (v5 / 4)).bind fun y1 => (if y1 then (if lf_ix v5 n1 then (if (g v5.toNatClampNeg) < 0 then (s_L_reach_l15 F n0 n1 f g v4 k5 n (v3 ||| 0) (v5 + 1)) else (if lf_ix v5 n1 then (s_L_reach_l15 F n0 n1 f g v4 k5 n (v3 ||| (1 <<< ((g v5.toNatClampNeg) &&& 31))) (v5 + 1)) else none)) else none) else (s_L_reach_l15 F n0 n1 f g v4 k5 n (v3 ||| 0) (v5 + 1)))) else (s_L_reach_l15 F n0 n1 f g v4 k5 n (v3 ||| 0) (v5 + 1))) := rfl
set_option maxHeartbeats 4000000 in
set_option maxRecDepth 20000 in
theorem t_L_reach_l15 (F : Nat) (n0 : Nat) (n1 : Nat) (f : (Nat → Int32)) (g : (Nat → Int32)) (v4 : Int32) (k5 : Int32 → Int32 → Option Int32) (x : Int32) (hk5 : ∀ (v3 : Int32) (v4 : Int32), k5 v3 v4 = some x → ev_V mm_L_reach none (ev_XR mm_L_reach (fun r w => r = some (.int x) ∧ w = [.inl (0, n0, .inl (f)), .inl (0, n1, .inl (g))])) 5 [none, some (.ref 0), some (.ref 1), some (.int v3), some (.int v4), none] [] ([.inl (0, n0, .inl (f)), .inl (0, n1, .inl (g))]) 0 0) : ∀ (n : Nat) (v3 : Int32) (v5 : Int32), s_L_reach_l15 F n0 n1 f g v4 k5 n v3 v5 = some x → ev_V mm_L_reach none (ev_XR mm_L_reach (fun r w => r = some (.int x) ∧ w = [.inl (0, n0, .inl (f)), .inl (0, n1, .inl (g))])) 15 [none, some (.ref 0), some (.ref 1), some (.int v3), some (.int v4), some (.int v5)] [] ([.inl (0, n0, .inl (f)), .inl (0, n1, .inl (g))]) 0 0 := by
  intro n
  induction n with
  | zero => intro v3 v5 hR; cases hR
  | succ n hk15 =>
    intro v3 v5 hR
    unfold s_L_reach_l15 at hR
    refine ev_run (cs := []) (pc' := 19) (L' := [none, some (.ref 0), some (.ref 1), some (.int v3), some (.int v4), some (.int v5)]) (st' := [.int 24, .int v5]) (w' := [.inl (0, n0, .inl (f)), .inl (0, n1, .inl (g))]) [] 2 (by with_unfolding_all rfl) trivial ?_
    refine ev_br rfl rfl (fun h1 => ?_) (fun h1 => ?_)
    · replace hR := lf_t h1 hR
      refine ev_run (cs := []) (pc' := 5) (L' := [none, some (.ref 0), some (.ref 1), some (.int v3), some (.int (v4 + 1)), some (.int v5)]) (st' := []) (w' := [.inl (0, n0, .inl (f)), .inl (0, n1, .inl (g))]) [] 2 (by with_unfolding_all rfl) trivial ?_
      exact ev_to2 (hk5 _ _ hR) ⟨rfl, rfl, rfl, rfl, trivial⟩ rfl rfl
    · replace hR := lf_f h1 hR
      refine ev_run (cs := [¬ (4 : Int32) = 0]) (pc' := 32) (L' := [none, some (.ref 0), some (.ref 1), some (.int v3), some (.int v4), some (.int v5)]) (st' := [.int 1, .int ((v3 >>> ((v5 / 4) &&& 31)) &&& 1), .int v3]) (w' := [.inl (0, n0, .inl (f)), .inl (0, n1, .inl (g))]) [] 9 (by with_unfolding_all rfl) (by show ¬ _; decide) ?_
      refine ev_br rfl rfl (fun h2 => ?_) (fun h2 => ?_)
      · replace hR := lf_f h2 hR
        refine ev_run (cs := []) (pc' := 15) (L' := [none, some (.ref 0), some (.ref 1), some (.int (v3 ||| 0)), some (.int v4), some (.int (v5 + 1))]) (st' := []) (w' := [.inl (0, n0, .inl (f)), .inl (0, n1, .inl (g))]) [] 5 (by with_unfolding_all rfl) trivial ?_
        exact ev_to2 (hk15 _ _ hR) ⟨rfl, rfl, rfl, rfl, rfl, trivial⟩ rfl rfl
      · replace hR := lf_t h2 hR
        refine ev_run (cs := [¬ (4 : Int32) = 0]) (pc' := 40) (L' := [none, some (.ref 0), some (.ref 1), some (.int v3), some (.int v4), some (.int v5)]) (st' := [.ref 0, .int (v5 / 4), .int v3]) (w' := [.inl (0, n0, .inl (f)), .inl (0, n1, .inl (g))]) [] 4 (by with_unfolding_all rfl) (by show ¬ _; decide) ?_
        obtain ⟨y1, h3, hR⟩ := lf_b hR
        refine ev_callL [0] (t_L_lives F n0 f (v5 / 4) _ h3) cs_L_lives ml_L_24 rfl rfl rfl rfl (by with_unfolding_all rfl) (by decide) (Nat.le_of_ble_eq_true rfl) ⟨Nat.le_of_ble_eq_true rfl, Nat.le_of_ble_eq_true rfl⟩ ⟨Nat.le_refl _, Nat.le_refl _⟩ ?_ ?_
        · rintro r w ⟨rfl, rfl⟩; rfl
        rintro r w ⟨rfl, rfl⟩
        refine ev_nx (pc' := 43) (st' := [.int (ev_b y1), .int v3]) (w' := [.inl (0, n0, .inl (f)), .inl (0, n1, .inl (g))]) rfl rfl (by with_unfolding_all rfl) rfl rfl ?_
        refine ev_br rfl rfl (fun h4 => ?_) (fun h4 => ?_)
        · replace hR := lf_z0 h4 hR
          refine ev_run (cs := []) (pc' := 15) (L' := [none, some (.ref 0), some (.ref 1), some (.int (v3 ||| 0)), some (.int v4), some (.int (v5 + 1))]) (st' := []) (w' := [.inl (0, n0, .inl (f)), .inl (0, n1, .inl (g))]) [] 5 (by with_unfolding_all rfl) trivial ?_
          exact ev_to2 (hk15 _ _ hR) ⟨rfl, rfl, rfl, rfl, rfl, trivial⟩ rfl rfl
        · replace hR := lf_z1 h4 hR
          obtain ⟨h5, hR⟩ := lf_g hR
          refine ev_run (cs := [lf_ix v5 n1]) (pc' := 50) (L' := [none, some (.ref 0), some (.ref 1), some (.int v3), some (.int v4), some (.int v5)]) (st' := [.int (g v5.toNatClampNeg), .int v3]) (w' := [.inl (0, n0, .inl (f)), .inl (0, n1, .inl (g))]) [] 3 (by with_unfolding_all rfl) (h5) ?_
          refine ev_br rfl rfl (fun h6 => ?_) (fun h6 => ?_)
          · replace hR := lf_t h6 hR
            refine ev_run (cs := []) (pc' := 15) (L' := [none, some (.ref 0), some (.ref 1), some (.int (v3 ||| 0)), some (.int v4), some (.int (v5 + 1))]) (st' := []) (w' := [.inl (0, n0, .inl (f)), .inl (0, n1, .inl (g))]) [] 5 (by with_unfolding_all rfl) trivial ?_
            exact ev_to2 (hk15 _ _ hR) ⟨rfl, rfl, rfl, rfl, rfl, trivial⟩ rfl rfl
          · replace hR := lf_f h6 hR
            obtain ⟨h7, hR⟩ := lf_g hR
            refine ev_run (cs := [lf_ix v5 n1]) (pc' := 15) (L' := [none, some (.ref 0), some (.ref 1), some (.int (v3 ||| (1 <<< ((g v5.toNatClampNeg) &&& 31)))), some (.int v4), some (.int (v5 + 1))]) (st' := []) (w' := [.inl (0, n0, .inl (f)), .inl (0, n1, .inl (g))]) [] 10 (by with_unfolding_all rfl) (h7) ?_
            exact ev_to2 (hk15 _ _ hR) ⟨rfl, rfl, rfl, rfl, rfl, trivial⟩ rfl rfl

def s_L_reach_l5 (F : Nat) (n0 : Nat) (n1 : Nat) (f : (Nat → Int32)) (g : (Nat → Int32)) : Nat → Int32 → Int32 → Option Int32
  | 0 => fun _ _ => none
  | n + 1 => fun v3 v4 => if 6 ≤ v4 then (some (v3)) else (s_L_reach_l15 F n0 n1 f g v4 (s_L_reach_l5 F n0 n1 f g n) F v3 0)
theorem e_L_reach_l5 (F : Nat) (n0 : Nat) (n1 : Nat) (f : (Nat → Int32)) (g : (Nat → Int32)) (n : Nat) (v3 : Int32) (v4 : Int32) : s_L_reach_l5 F n0 n1 f g (n + 1) v3 v4 = if 6 ≤ v4 then (some (v3)) else (s_L_reach_l15 F n0 n1 f g v4 (s_L_reach_l5 F n0 n1 f g n) F v3 0) := rfl
set_option maxHeartbeats 4000000 in
set_option maxRecDepth 20000 in
theorem t_L_reach_l5 (F : Nat) (n0 : Nat) (n1 : Nat) (f : (Nat → Int32)) (g : (Nat → Int32)) (x : Int32)  : ∀ (n : Nat) (v3 : Int32) (v4 : Int32), s_L_reach_l5 F n0 n1 f g n v3 v4 = some x → ev_V mm_L_reach none (ev_XR mm_L_reach (fun r w => r = some (.int x) ∧ w = [.inl (0, n0, .inl (f)), .inl (0, n1, .inl (g))])) 5 [none, some (.ref 0), some (.ref 1), some (.int v3), some (.int v4), none] [] ([.inl (0, n0, .inl (f)), .inl (0, n1, .inl (g))]) 0 0 := by
  intro n
  induction n with
  | zero => intro v3 v4 hR; cases hR
  | succ n hk5 =>
    intro v3 v4 hR
    unfold s_L_reach_l5 at hR
    refine ev_run (cs := []) (pc' := 9) (L' := [none, some (.ref 0), some (.ref 1), some (.int v3), some (.int v4), none]) (st' := [.int 6, .int v4]) (w' := [.inl (0, n0, .inl (f)), .inl (0, n1, .inl (g))]) [] 2 (by with_unfolding_all rfl) trivial ?_
    refine ev_br rfl rfl (fun h1 => ?_) (fun h1 => ?_)
    · replace hR := lf_t h1 hR
      refine ev_run (cs := []) (pc' := 78) (L' := [none, some (.ref 0), some (.ref 1), some (.int v3), some (.int v4), none]) (st' := [.int v3]) (w' := [.inl (0, n0, .inl (f)), .inl (0, n1, .inl (g))]) [] 1 (by with_unfolding_all rfl) trivial ?_
      cases hR
      exact ev_exit ⟨_, _, rfl, ⟨rfl, Or.inl rfl⟩, ⟨rfl, rfl⟩, Nat.le_refl _, Nat.le_refl _⟩
    · replace hR := lf_f h1 hR
      refine ev_run (cs := []) (pc' := 15) (L' := [none, some (.ref 0), some (.ref 1), some (.int v3), some (.int v4), some (.int 0)]) (st' := []) (w' := [.inl (0, n0, .inl (f)), .inl (0, n1, .inl (g))]) [] 2 (by with_unfolding_all rfl) trivial ?_
      exact ev_to2 (t_L_reach_l15 F n0 n1 f g v4 (s_L_reach_l5 F n0 n1 f g n) _ hk5 F v3 0 hR) ⟨rfl, rfl, rfl, rfl, rfl, trivial⟩ rfl rfl

def s_L_reach (F : Nat) (n0 : Nat) (n1 : Nat) (f : (Nat → Int32)) (g : (Nat → Int32)) (v0 : Int32) : Option Int32 := s_L_reach_l5 F n0 n1 f g F v0 0
set_option maxHeartbeats 4000000 in
set_option maxRecDepth 20000 in
theorem t_L_reach (F : Nat) (n0 : Nat) (n1 : Nat) (f : (Nat → Int32)) (g : (Nat → Int32)) (v0 : Int32) (x : Int32) (hR : s_L_reach F n0 n1 f g v0 = some x) : ev_A yL_reach mm_L_reach none [.int v0, .ref 0, .ref 1] ([.inl (0, n0, .inl (f)), .inl (0, n1, .inl (g))]) (fun r w => r = some (.int x) ∧ w = [.inl (0, n0, .inl (f)), .inl (0, n1, .inl (g))]) := by
  unfold s_L_reach at hR
  refine ev_start ok_L_reach (by decide +kernel) rfl rfl (Nat.le_of_ble_eq_true rfl) ?_
  refine ev_run (cs := []) (pc' := 5) (L' := [some (.int v0), some (.ref 0), some (.ref 1), some (.int v0), some (.int 0), none]) (st' := []) (w' := [.inl (0, n0, .inl (f)), .inl (0, n1, .inl (g))]) [] 4 (by with_unfolding_all rfl) trivial ?_
  exact ev_to2 (t_L_reach_l5 F n0 n1 f g _ F v0 0 hR) ⟨rfl, rfl, rfl, rfl, trivial⟩ rfl rfl

def s_L_trial_b334 (F : Nat) (k39 : S_XE → Int32 → Option S_XE) (u : S_XE) (v4 : Int32) (v5 : Int32) : Option S_XE := (s_L_hear F u).bind fun y1 => (k39 y1 (v5 + 1))
set_option maxHeartbeats 4000000 in
set_option maxRecDepth 20000 in
theorem t_L_trial_b334 (F : Nat) (k39 : S_XE → Int32 → Option S_XE) (u : S_XE) (v4 : Int32) (v5 : Int32) (x : S_XE) (hk39 : ∀ (u : S_XE) (v5 : Int32), k39 u v5 = some x → ev_V mm_L_trial none (ev_XR mm_L_trial (fun r w => r = none ∧ w = W_XE x)) 39 [some (.ref 0), some (.ref 1), some (.ref 2), some (.ref 3), some (.int v4), some (.int v5), none, none, none, none, none, none] [] (W_XE u) 0 0) (hR : s_L_trial_b334 F k39 u v4 v5 = some x) : ev_V mm_L_trial none (ev_XR mm_L_trial (fun r w => r = none ∧ w = W_XE x)) 334 [some (.ref 0), some (.ref 1), some (.ref 2), some (.ref 3), some (.int v4), some (.int v5), none, none, none, none, none, none] [] (W_XE u) 0 0 := by
  unfold s_L_trial_b334 at hR
  refine ev_run (cs := []) (pc' := 338) (L' := [some (.ref 0), some (.ref 1), some (.ref 2), some (.ref 3), some (.int v4), some (.int v5), none, none, none, none, none, none]) (st' := [.ref 3, .ref 2, .ref 1, .ref 0]) (w' := W_XE u) [] 4 (by with_unfolding_all rfl) trivial ?_
  obtain ⟨y1, h1, hR⟩ := lf_b hR
  refine ev_callL [0, 1, 2, 3] (t_L_hear F u _ h1) cs_L_hear ml_L_48 rfl rfl rfl rfl (by with_unfolding_all rfl) (by decide) (Nat.le_of_ble_eq_true rfl) ⟨Nat.le_of_ble_eq_true rfl, Nat.le_of_ble_eq_true rfl⟩ ⟨Nat.le_refl _, Nat.le_refl _⟩ ?_ ?_
  · rintro r w ⟨rfl, rfl⟩; rfl
  rintro r w ⟨rfl, rfl⟩
  refine ev_nx (pc' := 341) (st' := []) (w' := W_XE y1) rfl rfl (by with_unfolding_all rfl) rfl rfl ?_
  refine ev_run (cs := []) (pc' := 39) (L' := [some (.ref 0), some (.ref 1), some (.ref 2), some (.ref 3), some (.int v4), some (.int (v5 + 1)), none, none, none, none, none, none]) (st' := []) (w' := W_XE y1) [] 2 (by with_unfolding_all rfl) trivial ?_
  exact ev_to2 (hk39 _ _ hR) ⟨rfl, rfl, rfl, rfl, rfl, rfl, trivial⟩ rfl rfl

def s_L_trial_l279 (F : Nat) (v4 : Int32) (v5 : Int32) (v9 : Int32) (v10 : Int32) (k39 : S_XE → Int32 → Option S_XE) (k271 : S_XE → Int32 → Option S_XE) : Nat → S_XE → Int32 → Option S_XE
  | 0 => fun _ _ => none
  | n + 1 => fun u v11 => if 6 ≤ v11 then (k271 u (v10 + (-1))) else (if ((v9 >>> (v11 &&& 31)) &&& 1) = 1 then (if lf_ix ((8 * v11) + 1) 48 then (if ((a_XE_th u) (((8 * v11) + 1).toNatClampNeg)) = v10 then ((s_L_end F u v11 v9).bind fun y1 => (s_L_trial_l279 F v4 v5 v9 v10 k39 k271 n y1 (v11 + 1))) else (s_L_trial_l279 F v4 v5 v9 v10 k39 k271 n u (v11 + 1))) else none) else (s_L_trial_l279 F v4 v5 v9 v10 k39 k271 n u (v11 + 1)))
theorem e_L_trial_l279 (F : Nat) (v4 : Int32) (v5 : Int32) (v9 : Int32) (v10 : Int32) (k39 : S_XE → Int32 → Option S_XE) (k271 : S_XE → Int32 → Option S_XE) (n : Nat) (u : S_XE) (v11 : Int32) : s_L_trial_l279 F v4 v5 v9 v10 k39 k271 (n + 1) u v11 = if 6 ≤ v11 then (k271 u (v10 + (-1))) else (if ((v9 >>> (v11 &&& 31)) &&& 1) = 1 then (if lf_ix ((8 * v11) + 1) 48 then (if ((a_XE_th u) (((8 * v11) + 1).toNatClampNeg)) = v10 then ((s_L_end F u v11 v9).bind fun y1 => (s_L_trial_l279 F v4 v5 v9 v10 k39 k271 n y1 (v11 + 1))) else (s_L_trial_l279 F v4 v5 v9 v10 k39 k271 n u (v11 + 1))) else none) else (s_L_trial_l279 F v4 v5 v9 v10 k39 k271 n u (v11 + 1))) := rfl
set_option maxHeartbeats 4000000 in
set_option maxRecDepth 20000 in
theorem t_L_trial_l279 (F : Nat) (v4 : Int32) (v5 : Int32) (v9 : Int32) (v10 : Int32) (k39 : S_XE → Int32 → Option S_XE) (k271 : S_XE → Int32 → Option S_XE) (x : S_XE) (hk39 : ∀ (u : S_XE) (v5 : Int32), k39 u v5 = some x → ev_V mm_L_trial none (ev_XR mm_L_trial (fun r w => r = none ∧ w = W_XE x)) 39 [some (.ref 0), some (.ref 1), some (.ref 2), some (.ref 3), some (.int v4), some (.int v5), none, none, none, none, none, none] [] (W_XE u) 0 0) (hk271 : ∀ (u : S_XE) (v10 : Int32), k271 u v10 = some x → ev_V mm_L_trial none (ev_XR mm_L_trial (fun r w => r = none ∧ w = W_XE x)) 271 [some (.ref 0), some (.ref 1), some (.ref 2), some (.ref 3), some (.int v4), some (.int v5), none, none, none, some (.int v9), some (.int v10), none] [] (W_XE u) 0 0) : ∀ (n : Nat) (u : S_XE) (v11 : Int32), s_L_trial_l279 F v4 v5 v9 v10 k39 k271 n u v11 = some x → ev_V mm_L_trial none (ev_XR mm_L_trial (fun r w => r = none ∧ w = W_XE x)) 279 [some (.ref 0), some (.ref 1), some (.ref 2), some (.ref 3), some (.int v4), some (.int v5), none, none, none, some (.int v9), some (.int v10), some (.int v11)] [] (W_XE u) 0 0 := by
  intro n
  induction n with
  | zero => intro u v11 hR; cases hR
  | succ n hk279 =>
    intro u v11 hR
    unfold s_L_trial_l279 at hR
    refine ev_run (cs := []) (pc' := 283) (L' := [some (.ref 0), some (.ref 1), some (.ref 2), some (.ref 3), some (.int v4), some (.int v5), none, none, none, some (.int v9), some (.int v10), some (.int v11)]) (st' := [.int 6, .int v11]) (w' := W_XE u) [] 2 (by with_unfolding_all rfl) trivial ?_
    refine ev_br rfl rfl (fun h1 => ?_) (fun h1 => ?_)
    · replace hR := lf_t h1 hR
      refine ev_run (cs := []) (pc' := 271) (L' := [some (.ref 0), some (.ref 1), some (.ref 2), some (.ref 3), some (.int v4), some (.int v5), none, none, none, some (.int v9), some (.int (v10 + (-1))), some (.int v11)]) (st' := []) (w' := W_XE u) [] 2 (by with_unfolding_all rfl) trivial ?_
      exact ev_to2 (hk271 _ _ hR) ⟨rfl, rfl, rfl, rfl, rfl, rfl, rfl, rfl, trivial⟩ rfl rfl
    · replace hR := lf_f h1 hR
      refine ev_run (cs := []) (pc' := 294) (L' := [some (.ref 0), some (.ref 1), some (.ref 2), some (.ref 3), some (.int v4), some (.int v5), none, none, none, some (.int v9), some (.int v10), some (.int v11)]) (st' := [.int 1, .int ((v9 >>> (v11 &&& 31)) &&& 1)]) (w' := W_XE u) [] 6 (by with_unfolding_all rfl) trivial ?_
      refine ev_br rfl rfl (fun h2 => ?_) (fun h2 => ?_)
      · replace hR := lf_f h2 hR
        refine ev_run (cs := []) (pc' := 279) (L' := [some (.ref 0), some (.ref 1), some (.ref 2), some (.ref 3), some (.int v4), some (.int v5), none, none, none, some (.int v9), some (.int v10), some (.int (v11 + 1))]) (st' := []) (w' := W_XE u) [] 2 (by with_unfolding_all rfl) trivial ?_
        exact ev_to2 (hk279 _ _ hR) ⟨rfl, rfl, rfl, rfl, rfl, rfl, rfl, rfl, rfl, trivial⟩ rfl rfl
      · replace hR := lf_t h2 hR
        obtain ⟨h3, hR⟩ := lf_g hR
        refine ev_run (cs := [lf_ix ((8 * v11) + 1) 48]) (pc' := 308) (L' := [some (.ref 0), some (.ref 1), some (.ref 2), some (.ref 3), some (.int v4), some (.int v5), none, none, none, some (.int v9), some (.int v10), some (.int v11)]) (st' := [.int v10, .int ((a_XE_th u) (((8 * v11) + 1).toNatClampNeg))]) (w' := W_XE u) [] 8 (by with_unfolding_all rfl) (h3) ?_
        refine ev_br rfl rfl (fun h4 => ?_) (fun h4 => ?_)
        · replace hR := lf_f h4 hR
          refine ev_run (cs := []) (pc' := 279) (L' := [some (.ref 0), some (.ref 1), some (.ref 2), some (.ref 3), some (.int v4), some (.int v5), none, none, none, some (.int v9), some (.int v10), some (.int (v11 + 1))]) (st' := []) (w' := W_XE u) [] 2 (by with_unfolding_all rfl) trivial ?_
          exact ev_to2 (hk279 _ _ hR) ⟨rfl, rfl, rfl, rfl, rfl, rfl, rfl, rfl, rfl, trivial⟩ rfl rfl
        · replace hR := lf_t h4 hR
          refine ev_run (cs := []) (pc' := 319) (L' := [some (.ref 0), some (.ref 1), some (.ref 2), some (.ref 3), some (.int v4), some (.int v5), none, none, none, some (.int v9), some (.int v10), some (.int v11)]) (st' := [.ref 3, .ref 2, .ref 1, .ref 0, .int v9, .int v11]) (w' := W_XE u) [] 6 (by with_unfolding_all rfl) trivial ?_
          obtain ⟨y1, h5, hR⟩ := lf_b hR
          refine ev_callL [0, 1, 2, 3] (t_L_end F u v11 v9 _ h5) cs_L_end ml_L_41 rfl rfl rfl rfl (by with_unfolding_all rfl) (by decide) (Nat.le_of_ble_eq_true rfl) ⟨Nat.le_of_ble_eq_true rfl, Nat.le_of_ble_eq_true rfl⟩ ⟨Nat.le_refl _, Nat.le_refl _⟩ ?_ ?_
          · rintro r w ⟨rfl, rfl⟩; rfl
          rintro r w ⟨rfl, rfl⟩
          refine ev_nx (pc' := 322) (st' := []) (w' := W_XE y1) rfl rfl (by with_unfolding_all rfl) rfl rfl ?_
          refine ev_run (cs := []) (pc' := 279) (L' := [some (.ref 0), some (.ref 1), some (.ref 2), some (.ref 3), some (.int v4), some (.int v5), none, none, none, some (.int v9), some (.int v10), some (.int (v11 + 1))]) (st' := []) (w' := W_XE y1) [] 2 (by with_unfolding_all rfl) trivial ?_
          exact ev_to2 (hk279 _ _ hR) ⟨rfl, rfl, rfl, rfl, rfl, rfl, rfl, rfl, rfl, trivial⟩ rfl rfl

def s_L_trial_l271 (F : Nat) (v4 : Int32) (v5 : Int32) (v9 : Int32) (k39 : S_XE → Int32 → Option S_XE) : Nat → S_XE → Int32 → Option S_XE
  | 0 => fun _ _ => none
  | n + 1 => fun u v10 => if v10 < 0 then (s_L_trial_b334 F k39 u v4 v5) else (s_L_trial_l279 F v4 v5 v9 v10 k39 (s_L_trial_l271 F v4 v5 v9 k39 n) F u 0)
theorem e_L_trial_l271 (F : Nat) (v4 : Int32) (v5 : Int32) (v9 : Int32) (k39 : S_XE → Int32 → Option S_XE) (n : Nat) (u : S_XE) (v10 : Int32) : s_L_trial_l271 F v4 v5 v9 k39 (n + 1) u v10 = if v10 < 0 then (s_L_trial_b334 F k39 u v4 v5) else (s_L_trial_l279 F v4 v5 v9 v10 k39 (s_L_trial_l271 F v4 v5 v9 k39 n) F u 0) := rfl
set_option maxHeartbeats 4000000 in
set_option maxRecDepth 20000 in
theorem t_L_trial_l271 (F : Nat) (v4 : Int32) (v5 : Int32) (v9 : Int32) (k39 : S_XE → Int32 → Option S_XE) (x : S_XE) (hk39 : ∀ (u : S_XE) (v5 : Int32), k39 u v5 = some x → ev_V mm_L_trial none (ev_XR mm_L_trial (fun r w => r = none ∧ w = W_XE x)) 39 [some (.ref 0), some (.ref 1), some (.ref 2), some (.ref 3), some (.int v4), some (.int v5), none, none, none, none, none, none] [] (W_XE u) 0 0) : ∀ (n : Nat) (u : S_XE) (v10 : Int32), s_L_trial_l271 F v4 v5 v9 k39 n u v10 = some x → ev_V mm_L_trial none (ev_XR mm_L_trial (fun r w => r = none ∧ w = W_XE x)) 271 [some (.ref 0), some (.ref 1), some (.ref 2), some (.ref 3), some (.int v4), some (.int v5), none, none, none, some (.int v9), some (.int v10), none] [] (W_XE u) 0 0 := by
  intro n
  induction n with
  | zero => intro u v10 hR; cases hR
  | succ n hk271 =>
    intro u v10 hR
    unfold s_L_trial_l271 at hR
    refine ev_run (cs := []) (pc' := 273) (L' := [some (.ref 0), some (.ref 1), some (.ref 2), some (.ref 3), some (.int v4), some (.int v5), none, none, none, some (.int v9), some (.int v10), none]) (st' := [.int v10]) (w' := W_XE u) [] 1 (by with_unfolding_all rfl) trivial ?_
    refine ev_br rfl rfl (fun h1 => ?_) (fun h1 => ?_)
    · replace hR := lf_t h1 hR
      exact ev_to2 (t_L_trial_b334 F k39 u v4 v5 _ hk39 hR) ⟨rfl, rfl, rfl, rfl, rfl, rfl, trivial⟩ rfl rfl
    · replace hR := lf_f h1 hR
      refine ev_run (cs := []) (pc' := 279) (L' := [some (.ref 0), some (.ref 1), some (.ref 2), some (.ref 3), some (.int v4), some (.int v5), none, none, none, some (.int v9), some (.int v10), some (.int 0)]) (st' := []) (w' := W_XE u) [] 2 (by with_unfolding_all rfl) trivial ?_
      exact ev_to2 (t_L_trial_l279 F v4 v5 v9 v10 k39 (s_L_trial_l271 F v4 v5 v9 k39 n) _ hk39 hk271 F u 0 hR) ⟨rfl, rfl, rfl, rfl, rfl, rfl, rfl, rfl, rfl, trivial⟩ rfl rfl

def s_L_trial_b253 (F : Nat) (k39 : S_XE → Int32 → Option S_XE) (u : S_XE) (v4 : Int32) (v5 : Int32) (v6 : Int32) (v8 : Int32) : Option S_XE := (s_L_reach F 48 28 (a_XE_th u) (a_XE_sl u) v8).bind fun y1 => (s_L_trial_l271 F v4 v5 (v6 &&& (y1 ^^^ (-1))) k39 F u 9)
set_option maxHeartbeats 4000000 in
set_option maxRecDepth 20000 in
theorem t_L_trial_b253 (F : Nat) (k39 : S_XE → Int32 → Option S_XE) (u : S_XE) (v4 : Int32) (v5 : Int32) (v6 : Int32) (v8 : Int32) (x : S_XE) (hk39 : ∀ (u : S_XE) (v5 : Int32), k39 u v5 = some x → ev_V mm_L_trial none (ev_XR mm_L_trial (fun r w => r = none ∧ w = W_XE x)) 39 [some (.ref 0), some (.ref 1), some (.ref 2), some (.ref 3), some (.int v4), some (.int v5), none, none, none, none, none, none] [] (W_XE u) 0 0) (hR : s_L_trial_b253 F k39 u v4 v5 v6 v8 = some x) : ev_V mm_L_trial none (ev_XR mm_L_trial (fun r w => r = none ∧ w = W_XE x)) 253 [some (.ref 0), some (.ref 1), some (.ref 2), some (.ref 3), some (.int v4), some (.int v5), some (.int v6), none, some (.int v8), none, none, none] [] (W_XE u) 0 0 := by
  unfold s_L_trial_b253 at hR
  refine ev_run (cs := []) (pc' := 259) (L' := [some (.ref 0), some (.ref 1), some (.ref 2), some (.ref 3), some (.int v4), some (.int v5), some (.int v6), none, some (.int v8), none, none, none]) (st' := [.ref 2, .ref 1, .int v8, .int v6]) (w' := W_XE u) [] 4 (by with_unfolding_all rfl) trivial ?_
  obtain ⟨y1, h1, hR⟩ := lf_b hR
  refine ev_callL [1, 2] (t_L_reach F 48 28 (a_XE_th u) (a_XE_sl u) v8 _ h1) cs_L_reach ml_L_45 rfl rfl rfl rfl (by with_unfolding_all rfl) (by decide) (Nat.le_of_ble_eq_true rfl) ⟨Nat.le_of_ble_eq_true rfl, Nat.le_of_ble_eq_true rfl⟩ ⟨Nat.le_refl _, Nat.le_refl _⟩ ?_ ?_
  · rintro r w ⟨rfl, rfl⟩; rfl
  rintro r w ⟨rfl, rfl⟩
  refine ev_nx (pc' := 262) (st' := [.int y1, .int v6]) (w' := W_XE u) rfl rfl (by with_unfolding_all rfl) rfl rfl ?_
  refine ev_run (cs := []) (pc' := 271) (L' := [some (.ref 0), some (.ref 1), some (.ref 2), some (.ref 3), some (.int v4), some (.int v5), some (.int v6), none, some (.int v8), some (.int (v6 &&& (y1 ^^^ (-1)))), some (.int 9), none]) (st' := []) (w' := W_XE u) [] 6 (by with_unfolding_all rfl) trivial ?_
  exact ev_to2 (t_L_trial_l271 F v4 v5 (v6 &&& (y1 ^^^ (-1))) k39 _ hk39 F u 9 hR) ⟨rfl, rfl, rfl, rfl, rfl, rfl, rfl, rfl, trivial⟩ rfl rfl

def s_L_trial_b218 (F : Nat) (k39 : S_XE → Int32 → Option S_XE) (k152 : Int32 → Int32 → Option S_XE) (u : S_XE) (v4 : Int32) (v5 : Int32) (v6 : Int32) (v8 : Int32) (v9 : Int32) (v10 : Int32) : Option S_XE := if ((v6 >>> (v9 &&& 31)) &&& 1) = 1 then (if v10 ≤ 0 then (k152 (v8 ||| 0) (v9 + 1)) else (k152 (v8 ||| (1 <<< (v9 &&& 31))) (v9 + 1))) else (k152 (v8 ||| 0) (v9 + 1))
set_option maxHeartbeats 4000000 in
set_option maxRecDepth 20000 in
theorem t_L_trial_b218 (F : Nat) (k39 : S_XE → Int32 → Option S_XE) (k152 : Int32 → Int32 → Option S_XE) (u : S_XE) (v4 : Int32) (v5 : Int32) (v6 : Int32) (v8 : Int32) (v9 : Int32) (v10 : Int32) (x : S_XE) (hk39 : ∀ (u : S_XE) (v5 : Int32), k39 u v5 = some x → ev_V mm_L_trial none (ev_XR mm_L_trial (fun r w => r = none ∧ w = W_XE x)) 39 [some (.ref 0), some (.ref 1), some (.ref 2), some (.ref 3), some (.int v4), some (.int v5), none, none, none, none, none, none] [] (W_XE u) 0 0) (hk152 : ∀ (v8 : Int32) (v9 : Int32), k152 v8 v9 = some x → ev_V mm_L_trial none (ev_XR mm_L_trial (fun r w => r = none ∧ w = W_XE x)) 152 [some (.ref 0), some (.ref 1), some (.ref 2), some (.ref 3), some (.int v4), some (.int v5), some (.int v6), none, some (.int v8), some (.int v9), none, none] [] (W_XE u) 0 0) (hR : s_L_trial_b218 F k39 k152 u v4 v5 v6 v8 v9 v10 = some x) : ev_V mm_L_trial none (ev_XR mm_L_trial (fun r w => r = none ∧ w = W_XE x)) 218 [some (.ref 0), some (.ref 1), some (.ref 2), some (.ref 3), some (.int v4), some (.int v5), some (.int v6), none, some (.int v8), some (.int v9), some (.int v10), none] [] (W_XE u) 0 0 := by
  unfold s_L_trial_b218 at hR
  refine ev_run (cs := []) (pc' := 228) (L' := [some (.ref 0), some (.ref 1), some (.ref 2), some (.ref 3), some (.int v4), some (.int v5), some (.int v6), none, some (.int v8), some (.int v9), some (.int v10), none]) (st' := [.int 1, .int ((v6 >>> (v9 &&& 31)) &&& 1), .int v8]) (w' := W_XE u) [] 7 (by with_unfolding_all rfl) trivial ?_
  refine ev_br rfl rfl (fun h1 => ?_) (fun h1 => ?_)
  · replace hR := lf_f h1 hR
    refine ev_run (cs := []) (pc' := 152) (L' := [some (.ref 0), some (.ref 1), some (.ref 2), some (.ref 3), some (.int v4), some (.int v5), some (.int v6), none, some (.int (v8 ||| 0)), some (.int (v9 + 1)), some (.int v10), none]) (st' := []) (w' := W_XE u) [] 5 (by with_unfolding_all rfl) trivial ?_
    exact ev_to2 (hk152 _ _ hR) ⟨rfl, rfl, rfl, rfl, rfl, rfl, rfl, rfl, rfl, trivial⟩ rfl rfl
  · replace hR := lf_t h1 hR
    refine ev_run (cs := []) (pc' := 233) (L' := [some (.ref 0), some (.ref 1), some (.ref 2), some (.ref 3), some (.int v4), some (.int v5), some (.int v6), none, some (.int v8), some (.int v9), some (.int v10), none]) (st' := [.int v10, .int v8]) (w' := W_XE u) [] 1 (by with_unfolding_all rfl) trivial ?_
    refine ev_br rfl rfl (fun h2 => ?_) (fun h2 => ?_)
    · replace hR := lf_t h2 hR
      refine ev_run (cs := []) (pc' := 152) (L' := [some (.ref 0), some (.ref 1), some (.ref 2), some (.ref 3), some (.int v4), some (.int v5), some (.int v6), none, some (.int (v8 ||| 0)), some (.int (v9 + 1)), some (.int v10), none]) (st' := []) (w' := W_XE u) [] 5 (by with_unfolding_all rfl) trivial ?_
      exact ev_to2 (hk152 _ _ hR) ⟨rfl, rfl, rfl, rfl, rfl, rfl, rfl, rfl, rfl, trivial⟩ rfl rfl
    · replace hR := lf_f h2 hR
      refine ev_run (cs := []) (pc' := 152) (L' := [some (.ref 0), some (.ref 1), some (.ref 2), some (.ref 3), some (.int v4), some (.int v5), some (.int v6), none, some (.int (v8 ||| (1 <<< (v9 &&& 31)))), some (.int (v9 + 1)), some (.int v10), none]) (st' := []) (w' := W_XE u) [] 8 (by with_unfolding_all rfl) trivial ?_
      exact ev_to2 (hk152 _ _ hR) ⟨rfl, rfl, rfl, rfl, rfl, rfl, rfl, rfl, rfl, trivial⟩ rfl rfl

def s_L_trial_l173 (F : Nat) (u : S_XE) (v4 : Int32) (v5 : Int32) (v6 : Int32) (v8 : Int32) (v9 : Int32) (k39 : S_XE → Int32 → Option S_XE) (k152 : Int32 → Int32 → Option S_XE) : Nat → Int32 → Int32 → Option S_XE
  | 0 => fun _ _ => none
  | n + 1 => fun v10 v11 => if 24 ≤ v11 then (s_L_trial_b218 F k39 k152 u v4 v5 v6 v8 v9 v10) else (if ((v6 >>> ((v11 / 4) &&& 31)) &&& 1) = 1 then (if lf_ix v11 28 then (if ((a_XE_sl u) v11.toNatClampNeg) = v9 then (s_L_trial_l173 F u v4 v5 v6 v8 v9 k39 k152 n (v10 - 1) (v11 + 1)) else (s_L_trial_l173 F u v4 v5 v6 v8 v9 k39 k152 n (v10 - 0) (v11 + 1))) else none) else (s_L_trial_l173 F u v4 v5 v6 v8 v9 k39 k152 n (v10 - 0) (v11 + 1)))
theorem e_L_trial_l173 (F : Nat) (u : S_XE) (v4 : Int32) (v5 : Int32) (v6 : Int32) (v8 : Int32) (v9 : Int32) (k39 : S_XE → Int32 → Option S_XE) (k152 : Int32 → Int32 → Option S_XE) (n : Nat) (v10 : Int32) (v11 : Int32) : s_L_trial_l173 F u v4 v5 v6 v8 v9 k39 k152 (n + 1) v10 v11 = if 24 ≤ v11 then (s_L_trial_b218 F k39 k152 u v4 v5 v6 v8 v9 v10) else (if ((v6 >>> ((v11 / 4) &&& 31)) &&& 1) = 1 then (if lf_ix v11 28 then (if ((a_XE_sl u) v11.toNatClampNeg) = v9 then (s_L_trial_l173 F u v4 v5 v6 v8 v9 k39 k152 n (v10 - 1) (v11 + 1)) else (s_L_trial_l173 F u v4 v5 v6 v8 v9 k39 k152 n (v10 - 0) (v11 + 1))) else none) else (s_L_trial_l173 F u v4 v5 v6 v8 v9 k39 k152 n (v10 - 0) (v11 + 1))) := rfl
set_option maxHeartbeats 4000000 in
set_option maxRecDepth 20000 in
theorem t_L_trial_l173 (F : Nat) (u : S_XE) (v4 : Int32) (v5 : Int32) (v6 : Int32) (v8 : Int32) (v9 : Int32) (k39 : S_XE → Int32 → Option S_XE) (k152 : Int32 → Int32 → Option S_XE) (x : S_XE) (hk39 : ∀ (u : S_XE) (v5 : Int32), k39 u v5 = some x → ev_V mm_L_trial none (ev_XR mm_L_trial (fun r w => r = none ∧ w = W_XE x)) 39 [some (.ref 0), some (.ref 1), some (.ref 2), some (.ref 3), some (.int v4), some (.int v5), none, none, none, none, none, none] [] (W_XE u) 0 0) (hk152 : ∀ (v8 : Int32) (v9 : Int32), k152 v8 v9 = some x → ev_V mm_L_trial none (ev_XR mm_L_trial (fun r w => r = none ∧ w = W_XE x)) 152 [some (.ref 0), some (.ref 1), some (.ref 2), some (.ref 3), some (.int v4), some (.int v5), some (.int v6), none, some (.int v8), some (.int v9), none, none] [] (W_XE u) 0 0) : ∀ (n : Nat) (v10 : Int32) (v11 : Int32), s_L_trial_l173 F u v4 v5 v6 v8 v9 k39 k152 n v10 v11 = some x → ev_V mm_L_trial none (ev_XR mm_L_trial (fun r w => r = none ∧ w = W_XE x)) 173 [some (.ref 0), some (.ref 1), some (.ref 2), some (.ref 3), some (.int v4), some (.int v5), some (.int v6), none, some (.int v8), some (.int v9), some (.int v10), some (.int v11)] [] (W_XE u) 0 0 := by
  intro n
  induction n with
  | zero => intro v10 v11 hR; cases hR
  | succ n hk173 =>
    intro v10 v11 hR
    unfold s_L_trial_l173 at hR
    refine ev_run (cs := []) (pc' := 177) (L' := [some (.ref 0), some (.ref 1), some (.ref 2), some (.ref 3), some (.int v4), some (.int v5), some (.int v6), none, some (.int v8), some (.int v9), some (.int v10), some (.int v11)]) (st' := [.int 24, .int v11]) (w' := W_XE u) [] 2 (by with_unfolding_all rfl) trivial ?_
    refine ev_br rfl rfl (fun h1 => ?_) (fun h1 => ?_)
    · replace hR := lf_t h1 hR
      exact ev_to2 (t_L_trial_b218 F k39 k152 u v4 v5 v6 v8 v9 v10 _ hk39 hk152 hR) ⟨rfl, rfl, rfl, rfl, rfl, rfl, rfl, rfl, rfl, rfl, trivial⟩ rfl rfl
    · replace hR := lf_f h1 hR
      refine ev_run (cs := [¬ (4 : Int32) = 0]) (pc' := 192) (L' := [some (.ref 0), some (.ref 1), some (.ref 2), some (.ref 3), some (.int v4), some (.int v5), some (.int v6), none, some (.int v8), some (.int v9), some (.int v10), some (.int v11)]) (st' := [.int 1, .int ((v6 >>> ((v11 / 4) &&& 31)) &&& 1), .int v10]) (w' := W_XE u) [] 9 (by with_unfolding_all rfl) (by show ¬ _; decide) ?_
      refine ev_br rfl rfl (fun h2 => ?_) (fun h2 => ?_)
      · replace hR := lf_f h2 hR
        refine ev_run (cs := []) (pc' := 173) (L' := [some (.ref 0), some (.ref 1), some (.ref 2), some (.ref 3), some (.int v4), some (.int v5), some (.int v6), none, some (.int v8), some (.int v9), some (.int (v10 - 0)), some (.int (v11 + 1))]) (st' := []) (w' := W_XE u) [] 5 (by with_unfolding_all rfl) trivial ?_
        exact ev_to2 (hk173 _ _ hR) ⟨rfl, rfl, rfl, rfl, rfl, rfl, rfl, rfl, rfl, rfl, rfl, trivial⟩ rfl rfl
      · replace hR := lf_t h2 hR
        obtain ⟨h3, hR⟩ := lf_g hR
        refine ev_run (cs := [lf_ix v11 28]) (pc' := 201) (L' := [some (.ref 0), some (.ref 1), some (.ref 2), some (.ref 3), some (.int v4), some (.int v5), some (.int v6), none, some (.int v8), some (.int v9), some (.int v10), some (.int v11)]) (st' := [.int v9, .int ((a_XE_sl u) v11.toNatClampNeg), .int v10]) (w' := W_XE u) [] 4 (by with_unfolding_all rfl) (h3) ?_
        refine ev_br rfl rfl (fun h4 => ?_) (fun h4 => ?_)
        · replace hR := lf_f h4 hR
          refine ev_run (cs := []) (pc' := 173) (L' := [some (.ref 0), some (.ref 1), some (.ref 2), some (.ref 3), some (.int v4), some (.int v5), some (.int v6), none, some (.int v8), some (.int v9), some (.int (v10 - 0)), some (.int (v11 + 1))]) (st' := []) (w' := W_XE u) [] 5 (by with_unfolding_all rfl) trivial ?_
          exact ev_to2 (hk173 _ _ hR) ⟨rfl, rfl, rfl, rfl, rfl, rfl, rfl, rfl, rfl, rfl, rfl, trivial⟩ rfl rfl
        · replace hR := lf_t h4 hR
          refine ev_run (cs := []) (pc' := 173) (L' := [some (.ref 0), some (.ref 1), some (.ref 2), some (.ref 3), some (.int v4), some (.int v5), some (.int v6), none, some (.int v8), some (.int v9), some (.int (v10 - 1)), some (.int (v11 + 1))]) (st' := []) (w' := W_XE u) [] 6 (by with_unfolding_all rfl) trivial ?_
          exact ev_to2 (hk173 _ _ hR) ⟨rfl, rfl, rfl, rfl, rfl, rfl, rfl, rfl, rfl, rfl, rfl, trivial⟩ rfl rfl

def s_L_trial_l152 (F : Nat) (u : S_XE) (v4 : Int32) (v5 : Int32) (v6 : Int32) (k39 : S_XE → Int32 → Option S_XE) : Nat → Int32 → Int32 → Option S_XE
  | 0 => fun _ _ => none
  | n + 1 => fun v8 v9 => if 6 ≤ v9 then (s_L_trial_b253 F k39 u v4 v5 v6 v8) else (if lf_ix ((8 * v9) + 2) 48 then (s_L_trial_l173 F u v4 v5 v6 v8 v9 k39 (s_L_trial_l152 F u v4 v5 v6 k39 n) F ((a_XE_th u) (((8 * v9) + 2).toNatClampNeg)) 0) else none)
theorem e_L_trial_l152 (F : Nat) (u : S_XE) (v4 : Int32) (v5 : Int32) (v6 : Int32) (k39 : S_XE → Int32 → Option S_XE) (n : Nat) (v8 : Int32) (v9 : Int32) : s_L_trial_l152 F u v4 v5 v6 k39 (n + 1) v8 v9 = if 6 ≤ v9 then (s_L_trial_b253 F k39 u v4 v5 v6 v8) else (if lf_ix ((8 * v9) + 2) 48 then (s_L_trial_l173 F u v4 v5 v6 v8 v9 k39 (s_L_trial_l152 F u v4 v5 v6 k39 n) F ((a_XE_th u) (((8 * v9) + 2).toNatClampNeg)) 0) else none) := rfl
set_option maxHeartbeats 4000000 in
set_option maxRecDepth 20000 in
theorem t_L_trial_l152 (F : Nat) (u : S_XE) (v4 : Int32) (v5 : Int32) (v6 : Int32) (k39 : S_XE → Int32 → Option S_XE) (x : S_XE) (hk39 : ∀ (u : S_XE) (v5 : Int32), k39 u v5 = some x → ev_V mm_L_trial none (ev_XR mm_L_trial (fun r w => r = none ∧ w = W_XE x)) 39 [some (.ref 0), some (.ref 1), some (.ref 2), some (.ref 3), some (.int v4), some (.int v5), none, none, none, none, none, none] [] (W_XE u) 0 0) : ∀ (n : Nat) (v8 : Int32) (v9 : Int32), s_L_trial_l152 F u v4 v5 v6 k39 n v8 v9 = some x → ev_V mm_L_trial none (ev_XR mm_L_trial (fun r w => r = none ∧ w = W_XE x)) 152 [some (.ref 0), some (.ref 1), some (.ref 2), some (.ref 3), some (.int v4), some (.int v5), some (.int v6), none, some (.int v8), some (.int v9), none, none] [] (W_XE u) 0 0 := by
  intro n
  induction n with
  | zero => intro v8 v9 hR; cases hR
  | succ n hk152 =>
    intro v8 v9 hR
    unfold s_L_trial_l152 at hR
    refine ev_run (cs := []) (pc' := 156) (L' := [some (.ref 0), some (.ref 1), some (.ref 2), some (.ref 3), some (.int v4), some (.int v5), some (.int v6), none, some (.int v8), some (.int v9), none, none]) (st' := [.int 6, .int v9]) (w' := W_XE u) [] 2 (by with_unfolding_all rfl) trivial ?_
    refine ev_br rfl rfl (fun h1 => ?_) (fun h1 => ?_)
    · replace hR := lf_t h1 hR
      exact ev_to2 (t_L_trial_b253 F k39 u v4 v5 v6 v8 _ hk39 hR) ⟨rfl, rfl, rfl, rfl, rfl, rfl, rfl, rfl, trivial⟩ rfl rfl
    · replace hR := lf_f h1 hR
      obtain ⟨h2, hR⟩ := lf_g hR
      refine ev_run (cs := [lf_ix ((8 * v9) + 2) 48]) (pc' := 173) (L' := [some (.ref 0), some (.ref 1), some (.ref 2), some (.ref 3), some (.int v4), some (.int v5), some (.int v6), none, some (.int v8), some (.int v9), some (.int ((a_XE_th u) (((8 * v9) + 2).toNatClampNeg))), some (.int 0)]) (st' := []) (w' := W_XE u) [] 10 (by with_unfolding_all rfl) (h2) ?_
      exact ev_to2 (t_L_trial_l173 F u v4 v5 v6 v8 v9 k39 (s_L_trial_l152 F u v4 v5 v6 k39 n) _ hk39 hk152 F ((a_XE_th u) (((8 * v9) + 2).toNatClampNeg)) 0 hR) ⟨rfl, rfl, rfl, rfl, rfl, rfl, rfl, rfl, rfl, rfl, rfl, trivial⟩ rfl rfl

def s_L_trial_b128 (F : Nat) (k39 : S_XE → Int32 → Option S_XE) (u : S_XE) (v4 : Int32) (v5 : Int32) (v6 : Int32) (v7 : Int32) : Option S_XE := if v7 ≤ 0 then (if lf_ix ((8 * v5) + 3) 48 then (s_L_trial_l152 F (m_XE_th (upd (a_XE_th u) (((8 * v5) + 3).toNatClampNeg) 0) u) v4 v5 v6 k39 F 0 0) else none) else (k39 u (v5 + 1))
set_option maxHeartbeats 4000000 in
set_option maxRecDepth 20000 in
theorem t_L_trial_b128 (F : Nat) (k39 : S_XE → Int32 → Option S_XE) (u : S_XE) (v4 : Int32) (v5 : Int32) (v6 : Int32) (v7 : Int32) (x : S_XE) (hk39 : ∀ (u : S_XE) (v5 : Int32), k39 u v5 = some x → ev_V mm_L_trial none (ev_XR mm_L_trial (fun r w => r = none ∧ w = W_XE x)) 39 [some (.ref 0), some (.ref 1), some (.ref 2), some (.ref 3), some (.int v4), some (.int v5), none, none, none, none, none, none] [] (W_XE u) 0 0) (hR : s_L_trial_b128 F k39 u v4 v5 v6 v7 = some x) : ev_V mm_L_trial none (ev_XR mm_L_trial (fun r w => r = none ∧ w = W_XE x)) 128 [some (.ref 0), some (.ref 1), some (.ref 2), some (.ref 3), some (.int v4), some (.int v5), some (.int v6), some (.int v7), none, none, none, none] [] (W_XE u) 0 0 := by
  unfold s_L_trial_b128 at hR
  refine ev_run (cs := []) (pc' := 130) (L' := [some (.ref 0), some (.ref 1), some (.ref 2), some (.ref 3), some (.int v4), some (.int v5), some (.int v6), some (.int v7), none, none, none, none]) (st' := [.int v7]) (w' := W_XE u) [] 1 (by with_unfolding_all rfl) trivial ?_
  refine ev_br rfl rfl (fun h1 => ?_) (fun h1 => ?_)
  · replace hR := lf_t h1 hR
    obtain ⟨h2, hR⟩ := lf_g hR
    refine ev_run (cs := [lf_ix ((8 * v5) + 3) 48]) (pc' := 152) (L' := [some (.ref 0), some (.ref 1), some (.ref 2), some (.ref 3), some (.int v4), some (.int v5), some (.int v6), some (.int v7), some (.int 0), some (.int 0), none, none]) (st' := []) (w' := W_XE (m_XE_th (upd (a_XE_th u) (((8 * v5) + 3).toNatClampNeg) 0) u)) [] 12 (by with_unfolding_all rfl) (h2) ?_
    exact ev_to2 (t_L_trial_l152 F (m_XE_th (upd (a_XE_th u) (((8 * v5) + 3).toNatClampNeg) 0) u) v4 v5 v6 k39 _ hk39 F 0 0 hR) ⟨rfl, rfl, rfl, rfl, rfl, rfl, rfl, rfl, rfl, trivial⟩ rfl rfl
  · replace hR := lf_f h1 hR
    refine ev_run (cs := []) (pc' := 39) (L' := [some (.ref 0), some (.ref 1), some (.ref 2), some (.ref 3), some (.int v4), some (.int (v5 + 1)), some (.int v6), some (.int v7), none, none, none, none]) (st' := []) (w' := W_XE u) [] 3 (by with_unfolding_all rfl) trivial ?_
    exact ev_to2 (hk39 _ _ hR) ⟨rfl, rfl, rfl, rfl, rfl, rfl, trivial⟩ rfl rfl

def s_L_trial_l88 (F : Nat) (u : S_XE) (v4 : Int32) (v5 : Int32) (v6 : Int32) (k39 : S_XE → Int32 → Option S_XE) : Nat → Int32 → Int32 → Option S_XE
  | 0 => fun _ _ => none
  | n + 1 => fun v7 v8 => if 6 ≤ v8 then (s_L_trial_b128 F k39 u v4 v5 v6 v7) else (if ((v6 >>> (v8 &&& 31)) &&& 1) = 1 then ((s_L_underWay F 12 64 (a_XE_q u) (a_XE_re u) v8).bind fun y1 => (s_L_trial_l88 F u v4 v5 v6 k39 n (v7 + y1) (v8 + 1))) else (s_L_trial_l88 F u v4 v5 v6 k39 n (v7 + 0) (v8 + 1)))
theorem e_L_trial_l88 (F : Nat) (u : S_XE) (v4 : Int32) (v5 : Int32) (v6 : Int32) (k39 : S_XE → Int32 → Option S_XE) (n : Nat) (v7 : Int32) (v8 : Int32) : s_L_trial_l88 F u v4 v5 v6 k39 (n + 1) v7 v8 = if 6 ≤ v8 then (s_L_trial_b128 F k39 u v4 v5 v6 v7) else (if ((v6 >>> (v8 &&& 31)) &&& 1) = 1 then ((s_L_underWay F 12 64 (a_XE_q u) (a_XE_re u) v8).bind fun y1 => (s_L_trial_l88 F u v4 v5 v6 k39 n (v7 + y1) (v8 + 1))) else (s_L_trial_l88 F u v4 v5 v6 k39 n (v7 + 0) (v8 + 1))) := rfl
set_option maxHeartbeats 4000000 in
set_option maxRecDepth 20000 in
theorem t_L_trial_l88 (F : Nat) (u : S_XE) (v4 : Int32) (v5 : Int32) (v6 : Int32) (k39 : S_XE → Int32 → Option S_XE) (x : S_XE) (hk39 : ∀ (u : S_XE) (v5 : Int32), k39 u v5 = some x → ev_V mm_L_trial none (ev_XR mm_L_trial (fun r w => r = none ∧ w = W_XE x)) 39 [some (.ref 0), some (.ref 1), some (.ref 2), some (.ref 3), some (.int v4), some (.int v5), none, none, none, none, none, none] [] (W_XE u) 0 0) : ∀ (n : Nat) (v7 : Int32) (v8 : Int32), s_L_trial_l88 F u v4 v5 v6 k39 n v7 v8 = some x → ev_V mm_L_trial none (ev_XR mm_L_trial (fun r w => r = none ∧ w = W_XE x)) 88 [some (.ref 0), some (.ref 1), some (.ref 2), some (.ref 3), some (.int v4), some (.int v5), some (.int v6), some (.int v7), some (.int v8), none, none, none] [] (W_XE u) 0 0 := by
  intro n
  induction n with
  | zero => intro v7 v8 hR; cases hR
  | succ n hk88 =>
    intro v7 v8 hR
    unfold s_L_trial_l88 at hR
    refine ev_run (cs := []) (pc' := 92) (L' := [some (.ref 0), some (.ref 1), some (.ref 2), some (.ref 3), some (.int v4), some (.int v5), some (.int v6), some (.int v7), some (.int v8), none, none, none]) (st' := [.int 6, .int v8]) (w' := W_XE u) [] 2 (by with_unfolding_all rfl) trivial ?_
    refine ev_br rfl rfl (fun h1 => ?_) (fun h1 => ?_)
    · replace hR := lf_t h1 hR
      exact ev_to2 (t_L_trial_b128 F k39 u v4 v5 v6 v7 _ hk39 hR) ⟨rfl, rfl, rfl, rfl, rfl, rfl, rfl, rfl, trivial⟩ rfl rfl
    · replace hR := lf_f h1 hR
      refine ev_run (cs := []) (pc' := 105) (L' := [some (.ref 0), some (.ref 1), some (.ref 2), some (.ref 3), some (.int v4), some (.int v5), some (.int v6), some (.int v7), some (.int v8), none, none, none]) (st' := [.int 1, .int ((v6 >>> (v8 &&& 31)) &&& 1), .int v7]) (w' := W_XE u) [] 7 (by with_unfolding_all rfl) trivial ?_
      refine ev_br rfl rfl (fun h2 => ?_) (fun h2 => ?_)
      · replace hR := lf_f h2 hR
        refine ev_run (cs := []) (pc' := 88) (L' := [some (.ref 0), some (.ref 1), some (.ref 2), some (.ref 3), some (.int v4), some (.int v5), some (.int v6), some (.int (v7 + 0)), some (.int (v8 + 1)), none, none, none]) (st' := []) (w' := W_XE u) [] 5 (by with_unfolding_all rfl) trivial ?_
        exact ev_to2 (hk88 _ _ hR) ⟨rfl, rfl, rfl, rfl, rfl, rfl, rfl, rfl, rfl, trivial⟩ rfl rfl
      · replace hR := lf_t h2 hR
        refine ev_run (cs := []) (pc' := 112) (L' := [some (.ref 0), some (.ref 1), some (.ref 2), some (.ref 3), some (.int v4), some (.int v5), some (.int v6), some (.int v7), some (.int v8), none, none, none]) (st' := [.ref 3, .ref 0, .int v8, .int v7]) (w' := W_XE u) [] 3 (by with_unfolding_all rfl) trivial ?_
        obtain ⟨y1, h3, hR⟩ := lf_b hR
        refine ev_callL [0, 3] (t_L_underWay F 12 64 (a_XE_q u) (a_XE_re u) v8 _ h3) cs_L_underWay ml_L_34 rfl rfl rfl rfl (by with_unfolding_all rfl) (by decide) (Nat.le_of_ble_eq_true rfl) ⟨Nat.le_of_ble_eq_true rfl, Nat.le_of_ble_eq_true rfl⟩ ⟨Nat.le_refl _, Nat.le_refl _⟩ ?_ ?_
        · rintro r w ⟨rfl, rfl⟩; rfl
        rintro r w ⟨rfl, rfl⟩
        refine ev_nx (pc' := 115) (st' := [.int y1, .int v7]) (w' := W_XE u) rfl rfl (by with_unfolding_all rfl) rfl rfl ?_
        refine ev_run (cs := []) (pc' := 88) (L' := [some (.ref 0), some (.ref 1), some (.ref 2), some (.ref 3), some (.int v4), some (.int v5), some (.int v6), some (.int (v7 + y1)), some (.int (v8 + 1)), none, none, none]) (st' := []) (w' := W_XE u) [] 5 (by with_unfolding_all rfl) trivial ?_
        exact ev_to2 (hk88 _ _ hR) ⟨rfl, rfl, rfl, rfl, rfl, rfl, rfl, rfl, rfl, trivial⟩ rfl rfl

def s_L_trial_l39 (F : Nat) (v4 : Int32) : Nat → S_XE → Int32 → Option S_XE
  | 0 => fun _ _ => none
  | n + 1 => fun u v5 => if 6 ≤ v5 then (some (u)) else (if ((v4 >>> (v5 &&& 31)) &&& 1) = 0 then (s_L_trial_l39 F v4 n u (v5 + 1)) else (if lf_ix ((8 * v5) + 3) 48 then (if ((a_XE_th u) (((8 * v5) + 3).toNatClampNeg)) = 0 then (s_L_trial_l39 F v4 n u (v5 + 1)) else ((s_L_reach F 48 28 (a_XE_th u) (a_XE_sl u) (1 <<< (v5 &&& 31))).bind fun y1 => (s_L_trial_l88 F u v4 v5 y1 (s_L_trial_l39 F v4 n) F 0 0))) else none))
theorem e_L_trial_l39 (F : Nat) (v4 : Int32) (n : Nat) (u : S_XE) (v5 : Int32) : s_L_trial_l39 F v4 (n + 1) u v5 = if 6 ≤ v5 then (some (u)) else (if ((v4 >>> (v5 &&& 31)) &&& 1) = 0 then (s_L_trial_l39 F v4 n u (v5 + 1)) else (if lf_ix ((8 * v5) + 3) 48 then (if ((a_XE_th u) (((8 * v5) + 3).toNatClampNeg)) = 0 then (s_L_trial_l39 F v4 n u (v5 + 1)) else ((s_L_reach F 48 28 (a_XE_th u) (a_XE_sl u) (1 <<< (v5 &&& 31))).bind fun y1 => (s_L_trial_l88 F u v4 v5 y1 (s_L_trial_l39 F v4 n) F 0 0))) else none)) := rfl
set_option maxHeartbeats 4000000 in
set_option maxRecDepth 20000 in
theorem t_L_trial_l39 (F : Nat) (v4 : Int32) (x : S_XE)  : ∀ (n : Nat) (u : S_XE) (v5 : Int32), s_L_trial_l39 F v4 n u v5 = some x → ev_V mm_L_trial none (ev_XR mm_L_trial (fun r w => r = none ∧ w = W_XE x)) 39 [some (.ref 0), some (.ref 1), some (.ref 2), some (.ref 3), some (.int v4), some (.int v5), none, none, none, none, none, none] [] (W_XE u) 0 0 := by
  intro n
  induction n with
  | zero => intro u v5 hR; cases hR
  | succ n hk39 =>
    intro u v5 hR
    unfold s_L_trial_l39 at hR
    refine ev_run (cs := []) (pc' := 43) (L' := [some (.ref 0), some (.ref 1), some (.ref 2), some (.ref 3), some (.int v4), some (.int v5), none, none, none, none, none, none]) (st' := [.int 6, .int v5]) (w' := W_XE u) [] 2 (by with_unfolding_all rfl) trivial ?_
    refine ev_br rfl rfl (fun h1 => ?_) (fun h1 => ?_)
    · replace hR := lf_t h1 hR
      cases hR
      exact ev_exit ⟨_, _, rfl, ⟨rfl, rfl⟩, ⟨rfl, rfl⟩, Nat.le_refl _, Nat.le_refl _⟩
    · replace hR := lf_f h1 hR
      refine ev_run (cs := []) (pc' := 53) (L' := [some (.ref 0), some (.ref 1), some (.ref 2), some (.ref 3), some (.int v4), some (.int v5), none, none, none, none, none, none]) (st' := [.int ((v4 >>> (v5 &&& 31)) &&& 1)]) (w' := W_XE u) [] 5 (by with_unfolding_all rfl) trivial ?_
      refine ev_br rfl rfl (fun h2 => ?_) (fun h2 => ?_)
      · replace hR := lf_t h2 hR
        refine ev_run (cs := []) (pc' := 39) (L' := [some (.ref 0), some (.ref 1), some (.ref 2), some (.ref 3), some (.int v4), some (.int (v5 + 1)), none, none, none, none, none, none]) (st' := []) (w' := W_XE u) [] 2 (by with_unfolding_all rfl) trivial ?_
        exact ev_to2 (hk39 _ _ hR) ⟨rfl, rfl, rfl, rfl, rfl, rfl, trivial⟩ rfl rfl
      · replace hR := lf_f h2 hR
        obtain ⟨h3, hR⟩ := lf_g hR
        refine ev_run (cs := [lf_ix ((8 * v5) + 3) 48]) (pc' := 65) (L' := [some (.ref 0), some (.ref 1), some (.ref 2), some (.ref 3), some (.int v4), some (.int v5), none, none, none, none, none, none]) (st' := [.int ((a_XE_th u) (((8 * v5) + 3).toNatClampNeg))]) (w' := W_XE u) [] 7 (by with_unfolding_all rfl) (h3) ?_
        refine ev_br rfl rfl (fun h4 => ?_) (fun h4 => ?_)
        · replace hR := lf_f h4 hR
          refine ev_run (cs := []) (pc' := 77) (L' := [some (.ref 0), some (.ref 1), some (.ref 2), some (.ref 3), some (.int v4), some (.int v5), none, none, none, none, none, none]) (st' := [.ref 2, .ref 1, .int (1 <<< (v5 &&& 31))]) (w' := W_XE u) [] 5 (by with_unfolding_all rfl) trivial ?_
          obtain ⟨y1, h5, hR⟩ := lf_b hR
          refine ev_callL [1, 2] (t_L_reach F 48 28 (a_XE_th u) (a_XE_sl u) (1 <<< (v5 &&& 31)) _ h5) cs_L_reach ml_L_45 rfl rfl rfl rfl (by with_unfolding_all rfl) (by decide) (Nat.le_of_ble_eq_true rfl) ⟨Nat.le_of_ble_eq_true rfl, Nat.le_of_ble_eq_true rfl⟩ ⟨Nat.le_refl _, Nat.le_refl _⟩ ?_ ?_
          · rintro r w ⟨rfl, rfl⟩; rfl
          rintro r w ⟨rfl, rfl⟩
          refine ev_nx (pc' := 80) (st' := [.int y1]) (w' := W_XE u) rfl rfl (by with_unfolding_all rfl) rfl rfl ?_
          refine ev_run (cs := []) (pc' := 88) (L' := [some (.ref 0), some (.ref 1), some (.ref 2), some (.ref 3), some (.int v4), some (.int v5), some (.int y1), some (.int 0), some (.int 0), none, none, none]) (st' := []) (w' := W_XE u) [] 5 (by with_unfolding_all rfl) trivial ?_
          exact ev_to2 (t_L_trial_l88 F u v4 v5 y1 (s_L_trial_l39 F v4 n) _ hk39 F 0 0 hR) ⟨rfl, rfl, rfl, rfl, rfl, rfl, rfl, rfl, rfl, trivial⟩ rfl rfl
        · replace hR := lf_t h4 hR
          refine ev_run (cs := []) (pc' := 39) (L' := [some (.ref 0), some (.ref 1), some (.ref 2), some (.ref 3), some (.int v4), some (.int (v5 + 1)), none, none, none, none, none, none]) (st' := []) (w' := W_XE u) [] 3 (by with_unfolding_all rfl) trivial ?_
          exact ev_to2 (hk39 _ _ hR) ⟨rfl, rfl, rfl, rfl, rfl, rfl, trivial⟩ rfl rfl

def s_L_trial_l6 (F : Nat) (u : S_XE) : Nat → Int32 → Int32 → Option S_XE
  | 0 => fun _ _ => none
  | n + 1 => fun v4 v5 => if 6 ≤ v5 then (s_L_trial_l39 F v4 F u 0) else (if lf_ix ((8 * v5) + 3) 48 then (s_L_trial_l6 F u n (v4 ||| (((a_XE_th u) (((8 * v5) + 3).toNatClampNeg)) <<< (v5 &&& 31))) (v5 + 1)) else none)
theorem e_L_trial_l6 (F : Nat) (u : S_XE) (n : Nat) (v4 : Int32) (v5 : Int32) : s_L_trial_l6 F u (n + 1) v4 v5 = if 6 ≤ v5 then (s_L_trial_l39 F v4 F u 0) else (if lf_ix ((8 * v5) + 3) 48 then (s_L_trial_l6 F u n (v4 ||| (((a_XE_th u) (((8 * v5) + 3).toNatClampNeg)) <<< (v5 &&& 31))) (v5 + 1)) else none) := rfl
set_option maxHeartbeats 4000000 in
set_option maxRecDepth 20000 in
theorem t_L_trial_l6 (F : Nat) (u : S_XE) (x : S_XE)  : ∀ (n : Nat) (v4 : Int32) (v5 : Int32), s_L_trial_l6 F u n v4 v5 = some x → ev_V mm_L_trial none (ev_XR mm_L_trial (fun r w => r = none ∧ w = W_XE x)) 6 [some (.ref 0), some (.ref 1), some (.ref 2), some (.ref 3), some (.int v4), some (.int v5), none, none, none, none, none, none] [] (W_XE u) 0 0 := by
  intro n
  induction n with
  | zero => intro v4 v5 hR; cases hR
  | succ n hk6 =>
    intro v4 v5 hR
    unfold s_L_trial_l6 at hR
    refine ev_run (cs := []) (pc' := 10) (L' := [some (.ref 0), some (.ref 1), some (.ref 2), some (.ref 3), some (.int v4), some (.int v5), none, none, none, none, none, none]) (st' := [.int 6, .int v5]) (w' := W_XE u) [] 2 (by with_unfolding_all rfl) trivial ?_
    refine ev_br rfl rfl (fun h1 => ?_) (fun h1 => ?_)
    · replace hR := lf_t h1 hR
      refine ev_run (cs := []) (pc' := 39) (L' := [some (.ref 0), some (.ref 1), some (.ref 2), some (.ref 3), some (.int v4), some (.int 0), none, none, none, none, none, none]) (st' := []) (w' := W_XE u) [] 2 (by with_unfolding_all rfl) trivial ?_
      exact ev_to2 (t_L_trial_l39 F v4 _ F u 0 hR) ⟨rfl, rfl, rfl, rfl, rfl, rfl, trivial⟩ rfl rfl
    · replace hR := lf_f h1 hR
      obtain ⟨h2, hR⟩ := lf_g hR
      refine ev_run (cs := [lf_ix ((8 * v5) + 3) 48]) (pc' := 30) (L' := [some (.ref 0), some (.ref 1), some (.ref 2), some (.ref 3), some (.int (v4 ||| (((a_XE_th u) (((8 * v5) + 3).toNatClampNeg)) <<< (v5 &&& 31)))), some (.int v5), none, none, none, none, none, none]) (st' := []) (w' := W_XE u) [] 12 (by with_unfolding_all rfl) (h2) ?_
      refine ev_run (cs := []) (pc' := 6) (L' := [some (.ref 0), some (.ref 1), some (.ref 2), some (.ref 3), some (.int (v4 ||| (((a_XE_th u) (((8 * v5) + 3).toNatClampNeg)) <<< (v5 &&& 31)))), some (.int (v5 + 1)), none, none, none, none, none, none]) (st' := []) (w' := W_XE u) [] 2 (by with_unfolding_all rfl) trivial ?_
      exact ev_to2 (hk6 _ _ hR) ⟨rfl, rfl, rfl, rfl, rfl, rfl, trivial⟩ rfl rfl

def s_L_trial (F : Nat) (u : S_XE) : Option S_XE := s_L_trial_l6 F u F 0 0
set_option maxHeartbeats 4000000 in
set_option maxRecDepth 20000 in
theorem t_L_trial (F : Nat) (u : S_XE) (x : S_XE) (hR : s_L_trial F u = some x) : ev_A yL_trial mm_L_trial none [.ref 0, .ref 1, .ref 2, .ref 3] (W_XE u) (fun r w => r = none ∧ w = W_XE x) := by
  unfold s_L_trial at hR
  refine ev_start ok_L_trial (by decide +kernel) rfl rfl (Nat.le_of_ble_eq_true rfl) ?_
  refine ev_run (cs := []) (pc' := 6) (L' := [some (.ref 0), some (.ref 1), some (.ref 2), some (.ref 3), some (.int 0), some (.int 0), none, none, none, none, none, none]) (st' := []) (w' := W_XE u) [] 4 (by with_unfolding_all rfl) trivial ?_
  exact ev_to2 (t_L_trial_l6 F u _ F 0 0 hR) ⟨rfl, rfl, rfl, rfl, rfl, rfl, trivial⟩ rfl rfl

def s_L_tick (F : Nat) (u : S_XE) : Option S_XE := (s_L_hear F (m_XE_q (upd (a_XE_q u) (0 : Int32).toNatClampNeg (((a_XE_q u) (0 : Int32).toNatClampNeg) + 1)) u)).bind fun y1 => (if ((a_XE_q y1) (11 : Int32).toNatClampNeg) ≤ 0 then (some (y1)) else (if ¬ ((a_XE_q y1) (11 : Int32).toNatClampNeg) = 0 then (if (((a_XE_q y1) (0 : Int32).toNatClampNeg) - ((a_XE_q y1) (0 : Int32).toNatClampNeg) / ((a_XE_q y1) (11 : Int32).toNatClampNeg) * ((a_XE_q y1) (11 : Int32).toNatClampNeg)) = 0 then ((s_L_trial F y1).bind fun y2 => (some (y2))) else (some (y1))) else none))
set_option maxHeartbeats 4000000 in
set_option maxRecDepth 20000 in
theorem t_L_tick (F : Nat) (u : S_XE) (x : S_XE) (hR : s_L_tick F u = some x) : ev_A yL_tick mm_L_tick none [.ref 0, .ref 1, .ref 2, .ref 3] (W_XE u) (fun r w => r = none ∧ w = W_XE x) := by
  unfold s_L_tick at hR
  refine ev_start ok_L_tick (by decide +kernel) rfl rfl (Nat.le_of_ble_eq_true rfl) ?_
  refine ev_run (cs := [lf_ix 0 12, lf_ix 0 12]) (pc' := 11) (L' := [some (.ref 0), some (.ref 1), some (.ref 2), some (.ref 3)]) (st' := [.ref 3, .ref 2, .ref 1, .ref 0]) (w' := W_XE (m_XE_q (upd (a_XE_q u) (0 : Int32).toNatClampNeg (((a_XE_q u) (0 : Int32).toNatClampNeg) + 1)) u)) [] 11 (by with_unfolding_all rfl) ⟨by show ¬ _; decide, by show ¬ _; decide⟩ ?_
  obtain ⟨y1, h1, hR⟩ := lf_b hR
  refine ev_callL [0, 1, 2, 3] (t_L_hear F (m_XE_q (upd (a_XE_q u) (0 : Int32).toNatClampNeg (((a_XE_q u) (0 : Int32).toNatClampNeg) + 1)) u) _ h1) cs_L_hear ml_L_48 rfl rfl rfl rfl (by with_unfolding_all rfl) (by decide) (Nat.le_of_ble_eq_true rfl) ⟨Nat.le_of_ble_eq_true rfl, Nat.le_of_ble_eq_true rfl⟩ ⟨Nat.le_refl _, Nat.le_refl _⟩ ?_ ?_
  · rintro r w ⟨rfl, rfl⟩; rfl
  rintro r w ⟨rfl, rfl⟩
  refine ev_nx (pc' := 14) (st' := []) (w' := W_XE y1) rfl rfl (by with_unfolding_all rfl) rfl rfl ?_
  refine ev_run (cs := [lf_ix 11 12]) (pc' := 18) (L' := [some (.ref 0), some (.ref 1), some (.ref 2), some (.ref 3)]) (st' := [.int ((a_XE_q y1) (11 : Int32).toNatClampNeg)]) (w' := W_XE y1) [] 3 (by with_unfolding_all rfl) (by show ¬ _; decide) ?_
  refine ev_br rfl rfl (fun h2 => ?_) (fun h2 => ?_)
  · replace hR := lf_t h2 hR
    cases hR
    exact ev_exit ⟨_, _, rfl, ⟨rfl, rfl⟩, ⟨rfl, rfl⟩, Nat.le_refl _, Nat.le_refl _⟩
  · replace hR := lf_f h2 hR
    obtain ⟨h3, hR⟩ := lf_g hR
    refine ev_run (cs := [lf_ix 0 12, lf_ix 11 12, ¬ ((a_XE_q y1) (11 : Int32).toNatClampNeg) = 0]) (pc' := 29) (L' := [some (.ref 0), some (.ref 1), some (.ref 2), some (.ref 3)]) (st' := [.int (((a_XE_q y1) (0 : Int32).toNatClampNeg) - ((a_XE_q y1) (0 : Int32).toNatClampNeg) / ((a_XE_q y1) (11 : Int32).toNatClampNeg) * ((a_XE_q y1) (11 : Int32).toNatClampNeg))]) (w' := W_XE y1) [] 7 (by with_unfolding_all rfl) ⟨by show ¬ _; decide, by show ¬ _; decide, h3⟩ ?_
    refine ev_br rfl rfl (fun h4 => ?_) (fun h4 => ?_)
    · replace hR := lf_f h4 hR
      cases hR
      exact ev_exit ⟨_, _, rfl, ⟨rfl, rfl⟩, ⟨rfl, rfl⟩, Nat.le_refl _, Nat.le_refl _⟩
    · replace hR := lf_t h4 hR
      refine ev_run (cs := []) (pc' := 36) (L' := [some (.ref 0), some (.ref 1), some (.ref 2), some (.ref 3)]) (st' := [.ref 3, .ref 2, .ref 1, .ref 0]) (w' := W_XE y1) [] 4 (by with_unfolding_all rfl) trivial ?_
      obtain ⟨y2, h5, hR⟩ := lf_b hR
      refine ev_callL [0, 1, 2, 3] (t_L_trial F y1 _ h5) cs_L_trial ml_L_52 rfl rfl rfl rfl (by with_unfolding_all rfl) (by decide) (Nat.le_of_ble_eq_true rfl) ⟨Nat.le_of_ble_eq_true rfl, Nat.le_of_ble_eq_true rfl⟩ ⟨Nat.le_refl _, Nat.le_refl _⟩ ?_ ?_
      · rintro r w ⟨rfl, rfl⟩; rfl
      rintro r w ⟨rfl, rfl⟩
      refine ev_nx (pc' := 39) (st' := []) (w' := W_XE y2) rfl rfl (by with_unfolding_all rfl) rfl rfl ?_
      cases hR
      exact ev_exit ⟨_, _, rfl, ⟨rfl, rfl⟩, ⟨rfl, rfl⟩, Nat.le_refl _, Nat.le_refl _⟩

def s_L_held_b35 (F : Nat) (n0 : Nat) (n1 : Nat) (f : (Nat → Int32)) (g : (Nat → Int32)) (v2 : Int32) : Option Int32 := (s_L_reach F n0 n1 f g v2).bind fun y1 => (some (y1))
set_option maxHeartbeats 4000000 in
set_option maxRecDepth 20000 in
theorem t_L_held_b35 (F : Nat) (n0 : Nat) (n1 : Nat) (f : (Nat → Int32)) (g : (Nat → Int32)) (v2 : Int32) (x : Int32)  (hR : s_L_held_b35 F n0 n1 f g v2 = some x) : ev_V mm_L_held none (ev_XR mm_L_held (fun r w => r = some (.int x) ∧ w = [.inl (0, n0, .inl (f)), .inl (0, n1, .inl (g))])) 35 [some (.ref 0), some (.ref 1), some (.int v2), none] [] ([.inl (0, n0, .inl (f)), .inl (0, n1, .inl (g))]) 0 0 := by
  unfold s_L_held_b35 at hR
  refine ev_run (cs := []) (pc' := 38) (L' := [some (.ref 0), some (.ref 1), some (.int v2), none]) (st' := [.ref 1, .ref 0, .int v2]) (w' := [.inl (0, n0, .inl (f)), .inl (0, n1, .inl (g))]) [] 3 (by with_unfolding_all rfl) trivial ?_
  obtain ⟨y1, h1, hR⟩ := lf_b hR
  refine ev_callL [0, 1] (t_L_reach F n0 n1 f g v2 _ h1) cs_L_reach ml_L_45 rfl rfl rfl rfl (by with_unfolding_all rfl) (by decide) (Nat.le_of_ble_eq_true rfl) ⟨Nat.le_of_ble_eq_true rfl, Nat.le_of_ble_eq_true rfl⟩ ⟨Nat.le_refl _, Nat.le_refl _⟩ ?_ ?_
  · rintro r w ⟨rfl, rfl⟩; rfl
  rintro r w ⟨rfl, rfl⟩
  refine ev_nx (pc' := 41) (st' := [.int y1]) (w' := [.inl (0, n0, .inl (f)), .inl (0, n1, .inl (g))]) rfl rfl (by with_unfolding_all rfl) rfl rfl ?_
  cases hR
  exact ev_exit ⟨_, _, rfl, ⟨rfl, Or.inl rfl⟩, ⟨rfl, rfl⟩, Nat.le_refl _, Nat.le_refl _⟩

def s_L_held_l5 (F : Nat) (n0 : Nat) (n1 : Nat) (f : (Nat → Int32)) (g : (Nat → Int32)) : Nat → Int32 → Int32 → Option Int32
  | 0 => fun _ _ => none
  | n + 1 => fun v2 v3 => if 28 ≤ v3 then (s_L_held_b35 F n0 n1 f g v2) else (if lf_ix v3 n1 then (if (g v3.toNatClampNeg) < 0 then (s_L_held_l5 F n0 n1 f g n (v2 ||| 0) (v3 + 1)) else (if lf_ix v3 n1 then (s_L_held_l5 F n0 n1 f g n (v2 ||| (1 <<< ((g v3.toNatClampNeg) &&& 31))) (v3 + 1)) else none)) else none)
theorem e_L_held_l5 (F : Nat) (n0 : Nat) (n1 : Nat) (f : (Nat → Int32)) (g : (Nat → Int32)) (n : Nat) (v2 : Int32) (v3 : Int32) : s_L_held_l5 F n0 n1 f g (n + 1) v2 v3 = if 28 ≤ v3 then (s_L_held_b35 F n0 n1 f g v2) else (if lf_ix v3 n1 then (if (g v3.toNatClampNeg) < 0 then (s_L_held_l5 F n0 n1 f g n (v2 ||| 0) (v3 + 1)) else (if lf_ix v3 n1 then (s_L_held_l5 F n0 n1 f g n (v2 ||| (1 <<< ((g v3.toNatClampNeg) &&& 31))) (v3 + 1)) else none)) else none) := rfl
set_option maxHeartbeats 4000000 in
set_option maxRecDepth 20000 in
theorem t_L_held_l5 (F : Nat) (n0 : Nat) (n1 : Nat) (f : (Nat → Int32)) (g : (Nat → Int32)) (x : Int32)  : ∀ (n : Nat) (v2 : Int32) (v3 : Int32), s_L_held_l5 F n0 n1 f g n v2 v3 = some x → ev_V mm_L_held none (ev_XR mm_L_held (fun r w => r = some (.int x) ∧ w = [.inl (0, n0, .inl (f)), .inl (0, n1, .inl (g))])) 5 [some (.ref 0), some (.ref 1), some (.int v2), some (.int v3)] [] ([.inl (0, n0, .inl (f)), .inl (0, n1, .inl (g))]) 0 0 := by
  intro n
  induction n with
  | zero => intro v2 v3 hR; cases hR
  | succ n hk5 =>
    intro v2 v3 hR
    unfold s_L_held_l5 at hR
    refine ev_run (cs := []) (pc' := 8) (L' := [some (.ref 0), some (.ref 1), some (.int v2), some (.int v3)]) (st' := [.int 28, .int v3]) (w' := [.inl (0, n0, .inl (f)), .inl (0, n1, .inl (g))]) [] 2 (by with_unfolding_all rfl) trivial ?_
    refine ev_br rfl rfl (fun h1 => ?_) (fun h1 => ?_)
    · replace hR := lf_t h1 hR
      exact ev_to2 (t_L_held_b35 F n0 n1 f g v2 _ hR) ⟨rfl, rfl, rfl, trivial⟩ rfl rfl
    · replace hR := lf_f h1 hR
      obtain ⟨h2, hR⟩ := lf_g hR
      refine ev_run (cs := [lf_ix v3 n1]) (pc' := 15) (L' := [some (.ref 0), some (.ref 1), some (.int v2), some (.int v3)]) (st' := [.int (g v3.toNatClampNeg), .int v2]) (w' := [.inl (0, n0, .inl (f)), .inl (0, n1, .inl (g))]) [] 4 (by with_unfolding_all rfl) (h2) ?_
      refine ev_br rfl rfl (fun h3 => ?_) (fun h3 => ?_)
      · replace hR := lf_t h3 hR
        refine ev_run (cs := []) (pc' := 5) (L' := [some (.ref 0), some (.ref 1), some (.int (v2 ||| 0)), some (.int (v3 + 1))]) (st' := []) (w' := [.inl (0, n0, .inl (f)), .inl (0, n1, .inl (g))]) [] 5 (by with_unfolding_all rfl) trivial ?_
        exact ev_to2 (hk5 _ _ hR) ⟨rfl, rfl, rfl, rfl, trivial⟩ rfl rfl
      · replace hR := lf_f h3 hR
        obtain ⟨h4, hR⟩ := lf_g hR
        refine ev_run (cs := [lf_ix v3 n1]) (pc' := 5) (L' := [some (.ref 0), some (.ref 1), some (.int (v2 ||| (1 <<< ((g v3.toNatClampNeg) &&& 31)))), some (.int (v3 + 1))]) (st' := []) (w' := [.inl (0, n0, .inl (f)), .inl (0, n1, .inl (g))]) [] 10 (by with_unfolding_all rfl) (h4) ?_
        exact ev_to2 (hk5 _ _ hR) ⟨rfl, rfl, rfl, rfl, trivial⟩ rfl rfl

def s_L_held (F : Nat) (n0 : Nat) (n1 : Nat) (f : (Nat → Int32)) (g : (Nat → Int32)) : Option Int32 := s_L_held_l5 F n0 n1 f g F 0 24
set_option maxHeartbeats 4000000 in
set_option maxRecDepth 20000 in
theorem t_L_held (F : Nat) (n0 : Nat) (n1 : Nat) (f : (Nat → Int32)) (g : (Nat → Int32)) (x : Int32) (hR : s_L_held F n0 n1 f g = some x) : ev_A yL_held mm_L_held none [.ref 0, .ref 1] ([.inl (0, n0, .inl (f)), .inl (0, n1, .inl (g))]) (fun r w => r = some (.int x) ∧ w = [.inl (0, n0, .inl (f)), .inl (0, n1, .inl (g))]) := by
  unfold s_L_held at hR
  refine ev_start ok_L_held (by decide +kernel) rfl rfl (Nat.le_of_ble_eq_true rfl) ?_
  refine ev_run (cs := []) (pc' := 5) (L' := [some (.ref 0), some (.ref 1), some (.int 0), some (.int 24)]) (st' := []) (w' := [.inl (0, n0, .inl (f)), .inl (0, n1, .inl (g))]) [] 4 (by with_unfolding_all rfl) trivial ?_
  exact ev_to2 (t_L_held_l5 F n0 n1 f g _ F 0 24 hR) ⟨rfl, rfl, rfl, rfl, trivial⟩ rfl rfl

def s_L_bits_l4 (F : Nat) (v0 : Int32) : Nat → Int32 → Int32 → Option Int32
  | 0 => fun _ _ => none
  | n + 1 => fun v1 v2 => if 6 ≤ v2 then (some (v1)) else (s_L_bits_l4 F v0 n (v1 + ((v0 >>> (v2 &&& 31)) &&& 1)) (v2 + 1))
theorem e_L_bits_l4 (F : Nat) (v0 : Int32) (n : Nat) (v1 : Int32) (v2 : Int32) : s_L_bits_l4 F v0 (n + 1) v1 v2 = if 6 ≤ v2 then (some (v1)) else (s_L_bits_l4 F v0 n (v1 + ((v0 >>> (v2 &&& 31)) &&& 1)) (v2 + 1)) := rfl
set_option maxHeartbeats 4000000 in
set_option maxRecDepth 20000 in
theorem t_L_bits_l4 (F : Nat) (v0 : Int32) (x : Int32)  : ∀ (n : Nat) (v1 : Int32) (v2 : Int32), s_L_bits_l4 F v0 n v1 v2 = some x → ev_V mm_L_bits none (ev_XR mm_L_bits (fun r w => r = some (.int x) ∧ w = ([] : List ev_E))) 4 [some (.int v0), some (.int v1), some (.int v2)] [] (([] : List ev_E)) 0 0 := by
  intro n
  induction n with
  | zero => intro v1 v2 hR; cases hR
  | succ n hk4 =>
    intro v1 v2 hR
    unfold s_L_bits_l4 at hR
    refine ev_run (cs := []) (pc' := 7) (L' := [some (.int v0), some (.int v1), some (.int v2)]) (st' := [.int 6, .int v2]) (w' := ([] : List ev_E)) [] 2 (by with_unfolding_all rfl) trivial ?_
    refine ev_br rfl rfl (fun h1 => ?_) (fun h1 => ?_)
    · replace hR := lf_t h1 hR
      refine ev_run (cs := []) (pc' := 25) (L' := [some (.int v0), some (.int v1), some (.int v2)]) (st' := [.int v1]) (w' := ([] : List ev_E)) [] 1 (by with_unfolding_all rfl) trivial ?_
      cases hR
      exact ev_exit ⟨_, _, rfl, ⟨rfl, Or.inl rfl⟩, ⟨rfl, rfl⟩, Nat.le_refl _, Nat.le_refl _⟩
    · replace hR := lf_f h1 hR
      refine ev_run (cs := []) (pc' := 4) (L' := [some (.int v0), some (.int (v1 + ((v0 >>> (v2 &&& 31)) &&& 1))), some (.int (v2 + 1))]) (st' := []) (w' := ([] : List ev_E)) [] 10 (by with_unfolding_all rfl) trivial ?_
      exact ev_to2 (hk4 _ _ hR) ⟨rfl, rfl, rfl, trivial⟩ rfl rfl

def s_L_bits (F : Nat) (v0 : Int32) : Option Int32 := s_L_bits_l4 F v0 F 0 0
set_option maxHeartbeats 4000000 in
set_option maxRecDepth 20000 in
theorem t_L_bits (F : Nat) (v0 : Int32) (x : Int32) (hR : s_L_bits F v0 = some x) : ev_A yL_bits mm_L_bits none [.int v0] (([] : List ev_E)) (fun r w => r = some (.int x) ∧ w = ([] : List ev_E)) := by
  unfold s_L_bits at hR
  refine ev_start ok_L_bits (by decide +kernel) rfl rfl (Nat.le_of_ble_eq_true rfl) ?_
  refine ev_run (cs := []) (pc' := 4) (L' := [some (.int v0), some (.int 0), some (.int 0)]) (st' := []) (w' := ([] : List ev_E)) [] 4 (by with_unfolding_all rfl) trivial ?_
  exact ev_to2 (t_L_bits_l4 F v0 _ F 0 0 hR) ⟨rfl, rfl, rfl, trivial⟩ rfl rfl

def s_L_sum_l5 (F : Nat) (n0 : Nat) (n1 : Nat) (f : (Nat → Int32)) (g : (Nat → Int32)) (v0 : Int32) : Nat → Int32 → Int32 → Option Int32
  | 0 => fun _ _ => none
  | n + 1 => fun v3 v4 => if lf_ix 2 n0 then (if (f (2 : Int32).toNatClampNeg) ≤ v4 then (some (v3)) else (if lf_ix v4 n1 then (if (((g v4.toNatClampNeg) / 2) - ((g v4.toNatClampNeg) / 2) / 8 * 8) = v0 then (if lf_ix v4 n1 then (s_L_sum_l5 F n0 n1 f g v0 n (v3 + ((2 * ((g v4.toNatClampNeg) - (g v4.toNatClampNeg) / 2 * 2)) - 1)) (v4 + 1)) else none) else (s_L_sum_l5 F n0 n1 f g v0 n (v3 + 0) (v4 + 1))) else none)) else none
theorem e_L_sum_l5 (F : Nat) (n0 : Nat) (n1 : Nat) (f : (Nat → Int32)) (g : (Nat → Int32)) (v0 : Int32) (n : Nat) (v3 : Int32) (v4 : Int32) : s_L_sum_l5 F n0 n1 f g v0 (n + 1) v3 v4 = if lf_ix 2 n0 then (if (f (2 : Int32).toNatClampNeg) ≤ v4 then (some (v3)) else (if lf_ix v4 n1 then (if (((g v4.toNatClampNeg) / 2) - ((g v4.toNatClampNeg) / 2) / 8 * 8) = v0 then (if lf_ix v4 n1 then (s_L_sum_l5 F n0 n1 f g v0 n (v3 + ((2 * ((g v4.toNatClampNeg) - (g v4.toNatClampNeg) / 2 * 2)) - 1)) (v4 + 1)) else none) else (s_L_sum_l5 F n0 n1 f g v0 n (v3 + 0) (v4 + 1))) else none)) else none := rfl
set_option maxHeartbeats 4000000 in
set_option maxRecDepth 20000 in
theorem t_L_sum_l5 (F : Nat) (n0 : Nat) (n1 : Nat) (f : (Nat → Int32)) (g : (Nat → Int32)) (v0 : Int32) (x : Int32)  : ∀ (n : Nat) (v3 : Int32) (v4 : Int32), s_L_sum_l5 F n0 n1 f g v0 n v3 v4 = some x → ev_V mm_L_sum none (ev_XR mm_L_sum (fun r w => r = some (.int x) ∧ w = [.inl (0, n0, .inl (f)), .inl (0, n1, .inl (g))])) 5 [some (.int v0), some (.ref 0), some (.ref 1), some (.int v3), some (.int v4)] [] ([.inl (0, n0, .inl (f)), .inl (0, n1, .inl (g))]) 0 0 := by
  intro n
  induction n with
  | zero => intro v3 v4 hR; cases hR
  | succ n hk5 =>
    intro v3 v4 hR
    unfold s_L_sum_l5 at hR
    obtain ⟨h1, hR⟩ := lf_g hR
    refine ev_run (cs := [lf_ix 2 n0]) (pc' := 10) (L' := [some (.int v0), some (.ref 0), some (.ref 1), some (.int v3), some (.int v4)]) (st' := [.int (f (2 : Int32).toNatClampNeg), .int v4]) (w' := [.inl (0, n0, .inl (f)), .inl (0, n1, .inl (g))]) [] 4 (by with_unfolding_all rfl) (h1) ?_
    refine ev_br rfl rfl (fun h2 => ?_) (fun h2 => ?_)
    · replace hR := lf_t h2 hR
      refine ev_run (cs := []) (pc' := 50) (L' := [some (.int v0), some (.ref 0), some (.ref 1), some (.int v3), some (.int v4)]) (st' := [.int v3]) (w' := [.inl (0, n0, .inl (f)), .inl (0, n1, .inl (g))]) [] 1 (by with_unfolding_all rfl) trivial ?_
      cases hR
      exact ev_exit ⟨_, _, rfl, ⟨rfl, Or.inl rfl⟩, ⟨rfl, rfl⟩, Nat.le_refl _, Nat.le_refl _⟩
    · replace hR := lf_f h2 hR
      obtain ⟨h3, hR⟩ := lf_g hR
      refine ev_run (cs := [lf_ix v4 n1, ¬ (2 : Int32) = 0, ¬ (8 : Int32) = 0]) (pc' := 24) (L' := [some (.int v0), some (.ref 0), some (.ref 1), some (.int v3), some (.int v4)]) (st' := [.int v0, .int (((g v4.toNatClampNeg) / 2) - ((g v4.toNatClampNeg) / 2) / 8 * 8), .int v3]) (w' := [.inl (0, n0, .inl (f)), .inl (0, n1, .inl (g))]) [] 9 (by with_unfolding_all rfl) ⟨h3, by show ¬ _; decide, by show ¬ _; decide⟩ ?_
      refine ev_br rfl rfl (fun h4 => ?_) (fun h4 => ?_)
      · replace hR := lf_f h4 hR
        refine ev_run (cs := []) (pc' := 5) (L' := [some (.int v0), some (.ref 0), some (.ref 1), some (.int (v3 + 0)), some (.int (v4 + 1))]) (st' := []) (w' := [.inl (0, n0, .inl (f)), .inl (0, n1, .inl (g))]) [] 5 (by with_unfolding_all rfl) trivial ?_
        exact ev_to2 (hk5 _ _ hR) ⟨rfl, rfl, rfl, rfl, rfl, trivial⟩ rfl rfl
      · replace hR := lf_t h4 hR
        obtain ⟨h5, hR⟩ := lf_g hR
        refine ev_run (cs := [lf_ix v4 n1, ¬ (2 : Int32) = 0]) (pc' := 43) (L' := [some (.int v0), some (.ref 0), some (.ref 1), some (.int (v3 + ((2 * ((g v4.toNatClampNeg) - (g v4.toNatClampNeg) / 2 * 2)) - 1))), some (.int v4)]) (st' := []) (w' := [.inl (0, n0, .inl (f)), .inl (0, n1, .inl (g))]) [] 12 (by with_unfolding_all rfl) ⟨h5, by show ¬ _; decide⟩ ?_
        refine ev_run (cs := []) (pc' := 5) (L' := [some (.int v0), some (.ref 0), some (.ref 1), some (.int (v3 + ((2 * ((g v4.toNatClampNeg) - (g v4.toNatClampNeg) / 2 * 2)) - 1))), some (.int (v4 + 1))]) (st' := []) (w' := [.inl (0, n0, .inl (f)), .inl (0, n1, .inl (g))]) [] 2 (by with_unfolding_all rfl) trivial ?_
        exact ev_to2 (hk5 _ _ hR) ⟨rfl, rfl, rfl, rfl, rfl, trivial⟩ rfl rfl

def s_L_sum (F : Nat) (n0 : Nat) (n1 : Nat) (f : (Nat → Int32)) (g : (Nat → Int32)) (v0 : Int32) : Option Int32 := s_L_sum_l5 F n0 n1 f g v0 F 0 0
set_option maxHeartbeats 4000000 in
set_option maxRecDepth 20000 in
theorem t_L_sum (F : Nat) (n0 : Nat) (n1 : Nat) (f : (Nat → Int32)) (g : (Nat → Int32)) (v0 : Int32) (x : Int32) (hR : s_L_sum F n0 n1 f g v0 = some x) : ev_A yL_sum mm_L_sum none [.int v0, .ref 0, .ref 1] ([.inl (0, n0, .inl (f)), .inl (0, n1, .inl (g))]) (fun r w => r = some (.int x) ∧ w = [.inl (0, n0, .inl (f)), .inl (0, n1, .inl (g))]) := by
  unfold s_L_sum at hR
  refine ev_start ok_L_sum (by decide +kernel) rfl rfl (Nat.le_of_ble_eq_true rfl) ?_
  refine ev_run (cs := []) (pc' := 5) (L' := [some (.int v0), some (.ref 0), some (.ref 1), some (.int 0), some (.int 0)]) (st' := []) (w' := [.inl (0, n0, .inl (f)), .inl (0, n1, .inl (g))]) [] 4 (by with_unfolding_all rfl) trivial ?_
  exact ev_to2 (t_L_sum_l5 F n0 n1 f g v0 _ F 0 0 hR) ⟨rfl, rfl, rfl, rfl, rfl, trivial⟩ rfl rfl

def s_L_low (F : Nat) (v0 : Int32) (v1 : Int32) : Option Int32 := if ¬ v1 = 0 then (some ((v0 &&& 2147483647) - (v0 &&& 2147483647) / v1 * v1)) else none
set_option maxHeartbeats 4000000 in
set_option maxRecDepth 20000 in
theorem t_L_low (F : Nat) (v0 : Int32) (v1 : Int32) (x : Int32) (hR : s_L_low F v0 v1 = some x) : ev_A yL_low mm_L_low none [.int v0, .int v1] (([] : List ev_E)) (fun r w => r = some (.int x) ∧ w = ([] : List ev_E)) := by
  unfold s_L_low at hR
  refine ev_start ok_L_low (by decide +kernel) rfl rfl (Nat.le_of_ble_eq_true rfl) ?_
  obtain ⟨h1, hR⟩ := lf_g hR
  refine ev_run (cs := [¬ v1 = 0]) (pc' := 6) (L' := [some (.int v0), some (.int v1)]) (st' := [.int ((v0 &&& 2147483647) - (v0 &&& 2147483647) / v1 * v1)]) (w' := ([] : List ev_E)) [] 5 (by with_unfolding_all rfl) (h1) ?_
  cases hR
  exact ev_exit ⟨_, _, rfl, ⟨rfl, Or.inl rfl⟩, ⟨rfl, rfl⟩, Nat.le_refl _, Nat.le_refl _⟩
