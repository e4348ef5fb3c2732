/-! the six saved worlds: a class's own row of references -/
theorem ev_aald {μ : ev_M} {N0 : Option Nat} {X : ev_X} {pc : Nat} {L : ev_L} {rest : List Value} {w : List ev_E} {kc ks nx kk x y q n b : Nat} {v : Value} {f : Nat → Option Nat} {i : Int32} (hlk : ev_look (ev_tab μ) pc = some (.aaload, nx, kk, x, y, v)) (hw : ev_wg w q = some (.inl (2, n, .inr (.inr (.inr (.inr f)))))) (hi : lf_ix i n) (hf : f i.toNatClampNeg = some b) (k : ev_V μ N0 X (pc + 1) L (.ref b :: rest) w kc ks) : ev_V μ N0 X pc L (.int i :: .ref q :: rest) w kc ks := by
  intro p l e R s m args below meth c D ct ad0 A Q h0 hx ad H locs ls I
  have h0' := h0
  obtain ⟨hok, ⟨hx1, hb, -⟩, hK, hA⟩ := h0
  obtain ⟨hd, -, -⟩ := ev_use hok hlk
  rw [ev_wg_eq] at hw
  have hk := k p l e R s m args below meth c D ct ad0 A Q h0' hx ad H locs ls I
  refine va_aldq (C := "GossipCounts$World") (f := fun i => (f i).map ad) hx1 hb hK I.1 q 2 (ev_lay_get (ad := ad) (ct := ct) hw) rfl hi hd ?_
  rw [hf]
  exact hk
theorem ev_aast {μ : ev_M} {N0 : Option Nat} {X : ev_X} {pc : Nat} {L : ev_L} {rest : List Value} {w : List ev_E} {kc ks nx kk x y q n b : Nat} {v : Value} {vs : List Value} {f : Nat → Option Nat} {i : Int32} (hlk : ev_look (ev_tab μ) pc = some (.aastore, nx, kk, x, y, v)) (hw : ev_wg w q = some (.inl (2, n, .inr (.inr (.inr (.inr f)))))) (hv : ev_wg w b = some (.inr (3, vs))) (hi : lf_ix i n) (k : ev_V μ N0 X (pc + 1) L rest (ev_ws w q (.inl (2, n, .inr (.inr (.inr (.inr (va_up f i.toNatClampNeg (some b)))))))) kc ks) : ev_V μ N0 X pc L (.ref b :: .int i :: .ref q :: rest) w kc ks := by
  intro p l e R s m args below meth c D ct ad0 A Q h0 hx ad H locs ls I
  have h0' := h0
  obtain ⟨hok, ⟨hx1, hb, -⟩, hK, hA⟩ := h0
  obtain ⟨hd, -, -⟩ := ev_use hok hlk
  rw [ev_wg_eq] at hw hv
  obtain ⟨hP, hD, hS, hE, hL⟩ := I
  refine va_astq (r := (ev_R 3, ev_F 3, ev_N 3)) (f := fun i => (f i).map ad) hx1 hb hK hP hD hS q 2 b 3 (ev_lay_get (ad := ad) (ct := ct) hw) rfl (ev_lay_get (ad := ad) (ct := ct) hv) (ev_cl (by decide)) hi hd fun H1 locs1 q1 q2 q3 => ?_
  have ee : ev_ce ad ct (.inl (2, n, .inr (.inr (.inr (.inr (va_up f i.toNatClampNeg (some b))))))) = .inl (ct 2, n, .inr (.inr (.inr (.inr (va_up (fun i => (f i).map ad) i.toNatClampNeg (some (ad b))))))) := by
    show Sum.inl (ct 2, n, Sum.inr (Sum.inr (Sum.inr (Sum.inr _)))) = _
    refine congrArg (fun z => Sum.inl (ct 2, n, Sum.inr (Sum.inr (Sum.inr (Sum.inr z))))) ?_
    funext j
    unfold va_up
    by_cases h : j = i.toNatClampNeg
    · rw [if_pos h, if_pos h]; rfl
    · rw [if_neg h, if_neg h]
  rw [← ee, ev_lay_set, ← ev_ws_eq] at q1 q2
  exact k p l e R s m args below meth c D ct ad0 A Q h0' hx ad H1 locs1 ls ⟨q1, q2, q3, hE, hL⟩
theorem ev_ren_id (E : ev_E) : ev_ren (fun k => k) E = E := by
  have hv : ∀ v : Value, ev_cv (fun k => k) v = v := fun v => by cases v <;> rfl
  cases E with
  | inl a =>
    obtain ⟨c, n, g⟩ := a
    match g with
    | .inl h => rfl
    | .inr (.inl h) => rfl
    | .inr (.inr (.inl h)) => rfl
    | .inr (.inr (.inr (.inl h))) => rfl
    | .inr (.inr (.inr (.inr h))) =>
      show Sum.inl (c, n, Sum.inr (Sum.inr (Sum.inr (Sum.inr (fun i => (h i).map fun k => k))))) = _
      refine congrArg (fun z => Sum.inl (c, n, Sum.inr (Sum.inr (Sum.inr (Sum.inr z))))) ?_
      funext i
      cases h i <;> rfl
  | inr o =>
    show Sum.inr (o.1, o.2.map (ev_cv fun k => k)) = Sum.inr o
    rw [show (ev_cv fun k => k) = id from funext hv, List.map_id]
theorem ev_map_id (l : List ev_E) : l.map (ev_ren fun k => k) = l := by
  rw [show (ev_ren fun k => k) = id from funext ev_ren_id, List.map_id]
theorem ev_cv_id (v : Value) : ev_cv (fun k => k) v = v := by cases v <;> rfl
/-- a virtual call on the whole of one's own cells -/
theorem ev_callV0 {μ μc : ev_M} {N0 : Option Nat} {X : ev_X} {pc : Nat} {L : ev_L} {st rest : List Value} {w : List ev_E} {kc ks ci n idx nx k x yy : Nat} {v : Value} {y : MethodName} {as1 : List Value} {fs : List Value} {wt : List ev_E} {post : Option Value → List ev_E → Prop}
    (hM : ev_A y μc none (.ref 0 :: as1) w post) (hw : w = .inr (ci, fs) :: wt) (cv : ev_CV y μc ci n) (hl : ev_ml (ev_own μ) idx y) (hlk : ev_look (ev_tab μ) pc = some (.invokevirtual idx, nx, k, x, yy, v))
    (hst : as1.reverse ++ (.ref 0 :: rest) = st) (hn : as1.length = n)
    (hW : (rest.map fun v => v.category).sum ≤ 8) (hroom : ev_fr μc + 1 ≤ ev_fr μ ∧ 8 + (ev_nL μc + 11) + ev_lo μc ≤ ev_lo μ) (hmc : kc + ev_mc μc ≤ ev_mc μ ∧ ks + ev_ms μc ≤ ev_ms μ) (hlen : ∀ r w', post r w' → w'.length = w.length)
    (kk : ∀ r w', post r w' → ev_V μ N0 X (pc + 3) L (r.toList ++ rest) w' (kc + ev_mc μc) (ks + ev_ms μc)) : ev_V μ N0 X pc L st w kc ks := by
  subst hw
  have hmi : ∀ l : List Value, l.map (ev_cv fun k => k) = l := fun l => by rw [show (ev_cv fun k => k) = id from funext ev_cv_id, List.map_id]
  refine ev_callV (fun k => k) hM cv hl hlk (by rw [hmi]; exact hst) hn ?_ (fun i _ j _ h => h) hW hroom hmc hlen fun r w' hp => ?_
  · rw [ev_map_id, ev_pick_row _ 0 0 (fun i _ => rfl) (by omega), List.drop_zero, List.take_length]
  · have hl' := hlen r w' hp
    have e1 : ev_putm (fun k => k) (.inr (ci, fs) :: wt) 0 w' = w' := by
      rw [ev_putm_row w' _ 0 0 (fun i _ => rfl) (by omega), ev_map_id]
      unfold ev_sput
      rw [List.take_zero, Nat.zero_add, hl', List.drop_length, List.append_nil]
      rfl
    have e2 : r.map (ev_cv fun k => k) = r := by
      cases r with
      | none => rfl
      | some z => exact congrArg some (ev_cv_id z)
    rw [e1, e2]
    exact kk r w' hp
/-- the class with all its cells: the six worlds by their cells, and which of them stands at which place -/
abbrev S_X6 : Type := S_X4 × (Nat → S_X3) × (Nat → Nat)
abbrev a_X6_g (u : S_X6) : S_X4 := u.1
abbrev m_X6_g (v : S_X4) (u : S_X6) : S_X6 := (v, u.2.1, u.2.2)
def TLw (b : Nat) (u : S_X3) : List ev_E := (W_X3 u).map (ev_ren fun k => b + k)
def TL (sv : Nat → S_X3) (pi : Nat → Nat) : List ev_E := .inl (2, 6, .inr (.inr (.inr (.inr fun p => some (50 + 15 * pi p))))) :: (TLw 50 (sv 0) ++ (TLw 65 (sv 1) ++ (TLw 80 (sv 2) ++ (TLw 95 (sv 3) ++ (TLw 110 (sv 4) ++ (TLw 125 (sv 5) ++ []))))))
abbrev W_X6 (u : S_X6) : List ev_E := W_X4 u.1 ++ TL u.2.1 u.2.2
set_option maxRecDepth 20000 in
theorem W6_len (u : S_X6) : (W_X6 u).length = 140 := rfl
theorem W6_row (g : S_X4) (sv : Nat → S_X3) (pi : Nat → Nat) : ev_wg (W_X6 (g, sv, pi)) 49 = some (.inl (2, 6, .inr (.inr (.inr (.inr fun p => some (50 + 15 * pi p)))))) := rfl
theorem W6_one (g : S_X4) (sv : Nat → S_X3) (pi : Nat → Nat) {q : Nat} (h : q < 6) : ∃ vs, ev_wg (W_X6 (g, sv, pi)) (50 + 15 * q) = some (.inr (3, vs)) := by
  match q, h with
  | 0, _ => exact ⟨_, rfl⟩
  | 1, _ => exact ⟨_, rfl⟩
  | 2, _ => exact ⟨_, rfl⟩
  | 3, _ => exact ⟨_, rfl⟩
  | 4, _ => exact ⟨_, rfl⟩
  | 5, _ => exact ⟨_, rfl⟩
theorem W6_up (g : S_X4) (sv : Nat → S_X3) (pi : Nat → Nat) (j q : Nat) : ev_ws (W_X6 (g, sv, pi)) 49 (.inl (2, 6, .inr (.inr (.inr (.inr (va_up (fun p => some (50 + 15 * pi p)) j (some (50 + 15 * q)))))))) = W_X6 (g, sv, va_up pi j q) := by
  have e : va_up (fun p => some (50 + 15 * pi p)) j (some (50 + 15 * q)) = fun p => some (50 + 15 * va_up pi j q p) := by
    funext p
    unfold va_up
    by_cases h : p = j
    · rw [if_pos h, if_pos h]
    · rw [if_neg h, if_neg h]
  rw [e]
  rfl
-- copying between the world now and a saved one
theorem six_in (S : S_X4) (sv : Nat → S_X3) (pi : Nat → Nat) {q : Nat} (h : q < 6) : ((W_X6 (S, sv, pi)).drop (50 + 15 * q)).take 15 ++ ((W_X6 (S, sv, pi)).drop 1).take 15 = (W2_X3 (sv q) (a_X4_now S)).map (ev_ren (lf_em 15 (50 + 15 * q) 1)) := by
  match q, h with
  | 0, _ => with_unfolding_all rfl
  | 1, _ => with_unfolding_all rfl
  | 2, _ => with_unfolding_all rfl
  | 3, _ => with_unfolding_all rfl
  | 4, _ => with_unfolding_all rfl
  | 5, _ => with_unfolding_all rfl
theorem six_out (S : S_X4) (sv : Nat → S_X3) (pi : Nat → Nat) (y : S_X3) {q : Nat} (h : q < 6) : ev_sput 1 (ev_sput (50 + 15 * q) (W_X6 (S, sv, pi)) (((W2_X3 y (a_X4_now S)).take 15).map (ev_ren (lf_em 15 (50 + 15 * q) 1)))) (((W2_X3 y (a_X4_now S)).drop 15).map (ev_ren (lf_em 15 (50 + 15 * q) 1))) = W_X6 (S, va_up sv q y, pi) := by
  match q, h with
  | 0, _ => with_unfolding_all rfl
  | 1, _ => with_unfolding_all rfl
  | 2, _ => with_unfolding_all rfl
  | 3, _ => with_unfolding_all rfl
  | 4, _ => with_unfolding_all rfl
  | 5, _ => with_unfolding_all rfl
theorem now_in (S : S_X4) (sv : Nat → S_X3) (pi : Nat → Nat) {q : Nat} (h : q < 6) : ((W_X6 (S, sv, pi)).drop 1).take 15 ++ ((W_X6 (S, sv, pi)).drop (50 + 15 * q)).take 15 = (W2_X3 (a_X4_now S) (sv q)).map (ev_ren (lf_em 15 1 (50 + 15 * q))) := by
  match q, h with
  | 0, _ => with_unfolding_all rfl
  | 1, _ => with_unfolding_all rfl
  | 2, _ => with_unfolding_all rfl
  | 3, _ => with_unfolding_all rfl
  | 4, _ => with_unfolding_all rfl
  | 5, _ => with_unfolding_all rfl
theorem now_out (S : S_X4) (sv : Nat → S_X3) (pi : Nat → Nat) (y : S_X3) {q : Nat} (h : q < 6) : ev_sput (50 + 15 * q) (ev_sput 1 (W_X6 (S, sv, pi)) (((W2_X3 y (sv q)).take 15).map (ev_ren (lf_em 15 1 (50 + 15 * q))))) (((W2_X3 y (sv q)).drop 15).map (ev_ren (lf_em 15 1 (50 + 15 * q)))) = W_X6 (m_X4_now y S, sv, pi) := by
  match q, h with
  | 0, _ => with_unfolding_all rfl
  | 1, _ => with_unfolding_all rfl
  | 2, _ => with_unfolding_all rfl
  | 3, _ => with_unfolding_all rfl
  | 4, _ => with_unfolding_all rfl
  | 5, _ => with_unfolding_all rfl
