/-! laws for what lift.py prints -/
abbrev lf_ix (i : Int32) (n : Nat) : Prop := ¬ (i < 0 ∨ n ≤ i.toNatClampNeg)
abbrev lf_cp (sp dp n : Int32) (n0 n1 : Nat) : Prop := ¬ sp < 0 ∧ ¬ dp < 0 ∧ ¬ n < 0 ∧ sp.toNatClampNeg + n.toNatClampNeg ≤ n0 ∧ dp.toNatClampNeg + n.toNatClampNeg ≤ n1
theorem lf_t {α : Type} {P : Prop} [Decidable P] {A B : Option α} {x : α} (h : P) (hR : (if P then A else B) = some x) : A = some x := by rwa [if_pos h] at hR
theorem lf_f {α : Type} {P : Prop} [Decidable P] {A B : Option α} {x : α} (h : ¬ P) (hR : (if P then A else B) = some x) : B = some x := by rwa [if_neg h] at hR
theorem lf_g {α : Type} {P : Prop} [Decidable P] {A : Option α} {x : α} (hR : (if P then A else none) = some x) : P ∧ A = some x := by
  by_cases h : P
  · exact ⟨h, by rwa [if_pos h] at hR⟩
  · rw [if_neg h] at hR; cases hR
theorem lf_b {α β : Type} {o : Option α} {f : α → Option β} {x : β} (hR : o.bind f = some x) : ∃ y, o = some y ∧ f y = some x := by
  cases o with
  | none => cases hR
  | some y => exact ⟨y, rfl, hR⟩
theorem lf_z0 {α : Type} {b : Bool} {A B : Option α} {x : α} (h : ev_b b = 0) (hR : (if b then A else B) = some x) : B = some x := by
  cases b
  · exact hR
  · exact absurd h (by decide)
theorem lf_z1 {α : Type} {b : Bool} {A B : Option α} {x : α} (h : ¬ ev_b b = 0) (hR : (if b then A else B) = some x) : A = some x := by
  cases b
  · exact absurd rfl h
  · exact hR
def lf_let {α β : Type} (a : α) (f : α → Option β) : Option β := f a
theorem lf_l {α β : Type} {a : α} {f : α → Option β} {x : β} (hR : lf_let a f = some x) : ∃ z, z = a ∧ f z = some x := ⟨a, rfl, hR⟩
theorem lf_nt {a c : Int32} (h : ¬ a = c) : ¬ a.toInt = c.toInt := fun q => h (Int32.toInt_inj.mp q)
theorem ev_lit {μ : ev_M} {N0 : Option Nat} {X : ev_X} {pc : Nat} {L : ev_L} {a c : Int32} {r : List Value} {w : List ev_E} {kc ks : Nat} (h : a = c) (k : ev_V μ N0 X pc L (.int c :: r) w kc ks) : ev_V μ N0 X pc L (.int a :: r) w kc ks := by subst h; exact k
theorem ev_nx {μ : ev_M} {N0 : Option Nat} {X : ev_X} {pc pc' : Nat} {L : ev_L} {st st' : List Value} {w w' : List ev_E} {kc ks : Nat} (h1 : pc = pc') (h2 : st = st') (h3 : w = w') (h4 : kc = 0) (h5 : ks = 0) (k : ev_V μ N0 X pc' L st' w' 0 0) : ev_V μ N0 X pc L st w kc ks := by subst h1; subst h2; subst h3; subst h4; subst h5; exact k
theorem ev_nw {μ : ev_M} {N0 : Option Nat} {X : ev_X} {pc : Nat} {L : ev_L} {st : List Value} {w w' : List ev_E} {kc ks : Nat} (h : w = w') (k : ev_V μ N0 X pc L st w' kc ks) : ev_V μ N0 X pc L st w kc ks := by subst h; exact k
def lf_em (n a b k : Nat) : Nat := if k < n then a + k else b + (k - n)
theorem lf_emi {n a b : Nat} (h : a + n ≤ b ∨ b + n ≤ a) : ∀ i, i < n + n → ∀ j, j < n + n → lf_em n a b i = lf_em n a b j → i = j := by
  intro i hi j hj e
  unfold lf_em at e
  split at e <;> split at e <;> omega
/-! calls where the callee's cells lie in one row, or in two -/
abbrev ev_sput (b : Nat) (w l : List ev_E) : List ev_E := w.take b ++ (l ++ w.drop (b + l.length))
theorem ev_pick_row {w : List ev_E} {em : Nat → Nat} (n : Nat) : ∀ (k c : Nat), (∀ i, i < n → em (k + i) = c + i) → c + n ≤ w.length → ev_pick w em k n = (w.drop c).take n := by
  induction n with
  | zero => intro k c _ _; rw [ev_pick, List.take_zero]
  | succ n ih =>
    intro k c h hl
    have h0 := h 0 (by omega)
    rw [Nat.add_zero, Nat.add_zero] at h0
    have hc : c < w.length := by omega
    rw [ev_pick, h0, ev_wg_eq, List.getElem?_eq_getElem hc]
    dsimp only
    rw [ih (k + 1) (c + 1) (fun i hi => by have := h (i + 1) (by omega); rw [show k + 1 + i = k + (i + 1) by omega, this]; omega) (by omega), List.drop_eq_getElem_cons hc, List.take_succ_cons]
theorem ev_putm_row {em : Nat → Nat} (l : List ev_E) : ∀ (w : List ev_E) (k c : Nat), (∀ i, i < l.length → em (k + i) = c + i) → c + l.length ≤ w.length → ev_putm em w k l = ev_sput c w (l.map (ev_ren em)) := by
  induction l with
  | nil => intro w k c _ _; simp [ev_putm, ev_sput]
  | cons a l ih =>
    intro w k c h hl
    have h0 := h 0 (by simp)
    rw [Nat.add_zero, Nat.add_zero] at h0
    rw [List.length_cons] at hl
    have hc : c < w.length := by omega
    rw [ev_putm, h0, ev_ws_eq, ih (w.set c (ev_ren em a)) (k + 1) (c + 1) (fun i hi => by have := h (i + 1) (by rw [List.length_cons]; omega); rw [show k + 1 + i = k + (i + 1) by omega, this]; omega) (by rw [List.length_set]; omega)]
    unfold ev_sput
    apply List.ext_getElem?
    intro j
    simp only [List.getElem?_append, List.length_take, List.length_set, List.length_map, List.getElem?_take, List.getElem?_drop, List.getElem?_set, List.length_cons, List.map_cons, List.getElem?_cons]
    by_cases h1 : j < c
    · have h2 : j < c + 1 := by omega
      have h3 : ¬ c = j := by omega
      simp [h1, h2, h3, show j < min (c + 1) w.length by omega, show j < min c w.length by omega]
    · by_cases h2 : j = c
      · subst h2
        simp [show j < min (j + 1) w.length by omega, show ¬ j < min j w.length by omega, hc, show min j w.length = j by omega]
      · rw [if_neg (show ¬ j < min (c + 1) w.length by omega), if_neg (show ¬ j < min c w.length by omega), show min (c + 1) w.length = c + 1 by omega, show min c w.length = c by omega]
        by_cases h3 : j - (c + 1) < l.length
        · rw [if_pos h3, if_pos (show j - c < l.length + 1 by omega), if_neg (show ¬ j - c = 0 by omega), show j - c - 1 = j - (c + 1) by omega]
        · rw [if_neg h3, if_neg (show ¬ j - c < l.length + 1 by omega)]
          rw [if_neg (show ¬ c = c + 1 + l.length + (j - (c + 1) - l.length) by omega)]
          congr 1
          omega
theorem ev_pick_app {w : List ev_E} {em : Nat → Nat} (n m : Nat) : ∀ k, (ev_pick w em k n).length = n → ev_pick w em k (n + m) = ev_pick w em k n ++ ev_pick w em (k + n) m := by
  induction n with
  | zero => intro k _; rw [ev_pick, List.nil_append, Nat.zero_add, Nat.add_zero]
  | succ n ih =>
    intro k h
    rw [show n + 1 + m = (n + m) + 1 by omega, ev_pick, ev_pick]
    rw [ev_pick] at h
    cases hw : ev_wg w (em k) with
    | none => rw [hw] at h; cases h
    | some E =>
      rw [hw] at h
      dsimp only at h ⊢
      rw [ih (k + 1) (by simpa using h), List.cons_append, show k + 1 + n = k + (n + 1) by omega]
theorem ev_putm_app {em : Nat → Nat} (l : List ev_E) : ∀ (m w : List ev_E) (k : Nat), ev_putm em w k (l ++ m) = ev_putm em (ev_putm em w k l) (k + l.length) m := by
  induction l with
  | nil => intro m w k; simp [ev_putm]
  | cons a l ih => intro m w k; rw [List.cons_append, ev_putm, ev_putm, ih, List.length_cons, show k + 1 + l.length = k + (l.length + 1) by omega]
theorem ev_sput_len {b : Nat} {w l : List ev_E} (h : b + l.length ≤ w.length) : (ev_sput b w l).length = w.length := by
  unfold ev_sput
  simp only [List.length_append, List.length_take, List.length_drop]
  omega
/-- the row's own law of selection -/
theorem ev_row1 {w wc : List ev_E} (b : Nat) (h : (w.drop b).take wc.length = wc.map (ev_ren fun k => b + k)) (hb : b ≤ w.length) : b + wc.length ≤ w.length ∧ ev_pick w (fun k => b + k) 0 wc.length = wc.map (ev_ren fun k => b + k) := by
  have hl := congrArg List.length h
  rw [List.length_take, List.length_drop, List.length_map] at hl
  have h1 : b + wc.length ≤ w.length := by omega
  exact ⟨h1, by rw [ev_pick_row wc.length 0 b (fun i _ => by rw [Nat.zero_add]) h1, h]⟩
theorem ev_row2 {w wc : List ev_E} (n a b : Nat) (h : (w.drop a).take n ++ (w.drop b).take n = wc.map (ev_ren (lf_em n a b))) (hn : wc.length = n + n) (ha : a ≤ w.length) (hb : b ≤ w.length) : a + n ≤ w.length ∧ b + n ≤ w.length ∧ ev_pick w (lf_em n a b) 0 wc.length = wc.map (ev_ren (lf_em n a b)) := by
  have hl := congrArg List.length h
  rw [List.length_append, List.length_take, List.length_take, List.length_drop, List.length_drop, List.length_map, hn] at hl
  have h1 : a + n ≤ w.length := by omega
  have h2 : b + n ≤ w.length := by omega
  have e1 : ev_pick w (lf_em n a b) 0 n = (w.drop a).take n := ev_pick_row n 0 a (fun i hi => by unfold lf_em; rw [Nat.zero_add, if_pos hi]) h1
  have e2 : ev_pick w (lf_em n a b) (0 + n) n = (w.drop b).take n := ev_pick_row n (0 + n) b (fun i hi => by unfold lf_em; rw [if_neg (by omega)]; omega) h2
  refine ⟨h1, h2, ?_⟩
  rw [hn, ev_pick_app n n 0 (by rw [e1, List.length_take, List.length_drop]; omega), e1, e2, h]
theorem ev_put2 {w : List ev_E} (n a b : Nat) (l : List ev_E) (hn : l.length = n + n) (h1 : a + n ≤ w.length) (h2 : b + n ≤ w.length) : ev_putm (lf_em n a b) w 0 l = ev_sput b (ev_sput a w ((l.take n).map (ev_ren (lf_em n a b)))) ((l.drop n).map (ev_ren (lf_em n a b))) := by
  have e : ev_putm (lf_em n a b) w 0 l = ev_putm (lf_em n a b) w 0 (l.take n ++ l.drop n) := by rw [List.take_append_drop]
  have t1 : (l.take n).length = n := by rw [List.length_take]; omega
  have t2 : (l.drop n).length = n := by rw [List.length_drop]; omega
  rw [e, ev_putm_app, ev_putm_row (l.take n) w 0 a (fun i hi => by unfold lf_em; rw [Nat.zero_add, if_pos (by omega)]) (by omega), t1, ev_putm_row (l.drop n) _ (0 + n) b (fun i hi => by unfold lf_em; rw [if_neg (by omega)]; omega) (by rw [ev_sput_len (by rw [List.length_map]; omega)]; omega)]
theorem ev_callV1 {μ μc : ev_M} {N0 : Option Nat} {X : ev_X} (b : Nat) {pc : Nat} {L : ev_L} {st rest : List Value} {w : List ev_E} {kc ks ci n idx nx k x yy : Nat} {v : Value} {y : MethodName} {as1 : List Value} {fs : List Value} {wt : List ev_E} {post : Option Value → List ev_E → Prop}
    (hM : ev_A y μc none (.ref 0 :: as1) (.inr (ci, fs) :: wt) post) (cv : ev_CV y μc ci n) (hl : ev_ml (ev_own μ) idx y) (hlk : ev_look (ev_tab μ) pc = some (.invokevirtual idx, nx, k, x, yy, v))
    (hst : (as1.map (ev_cv fun k => b + k)).reverse ++ (.ref (b + 0) :: rest) = st) (hn : as1.length = n) (hb : b ≤ w.length) (hsel : (w.drop b).take (.inr (ci, fs) :: wt : List ev_E).length = (.inr (ci, fs) :: wt : List ev_E).map (ev_ren fun k => b + k))
    (hW : (rest.map fun v => v.category).sum ≤ 8) (hroom : ev_fr μc + 1 ≤ ev_fr μ ∧ 8 + (ev_nL μc + 11) + ev_lo μc ≤ ev_lo μ) (hmc : kc + ev_mc μc ≤ ev_mc μ ∧ ks + ev_ms μc ≤ ev_ms μ) (hlen : ∀ r w', post r w' → w'.length = (.inr (ci, fs) :: wt : List ev_E).length)
    (kk : ∀ r w', post r w' → ev_V μ N0 X (pc + 3) L ((r.map (ev_cv fun k => b + k)).toList ++ rest) (ev_sput b w (w'.map (ev_ren fun k => b + k))) (kc + ev_mc μc) (ks + ev_ms μc)) : ev_V μ N0 X pc L st w kc ks := by
  obtain ⟨h1, h2⟩ := ev_row1 b hsel hb
  refine ev_callV (fun k => b + k) hM cv hl hlk hst hn h2 (fun i _ j _ h => by omega) hW hroom hmc hlen fun r w' hp => ?_
  rw [ev_putm_row w' w 0 b (fun i _ => by rw [Nat.zero_add]) (by rw [hlen r w' hp]; exact h1)]
  exact kk r w' hp
theorem ev_callS1 {μ μc : ev_M} {N0 : Option Nat} {X : ev_X} (b : Nat) {pc : Nat} {L : ev_L} {st rest : List Value} {w : List ev_E} {kc ks n idx nx k x yy : Nat} {v : Value} {y : MethodName} {as1 : List Value} {wt : List ev_E} {post : Option Value → List ev_E → Prop}
    (hM : ev_A y μc none as1 wt post) (cv : ev_CS y μc n) (hl : ev_ml (ev_own μ) idx y) (hlk : ev_look (ev_tab μ) pc = some (.invokestatic idx, nx, k, x, yy, v))
    (hst : (as1.map (ev_cv fun k => b + k)).reverse ++ rest = st) (hn : as1.length = n) (hb : b ≤ w.length) (hsel : (w.drop b).take wt.length = wt.map (ev_ren fun k => b + k))
    (hW : (rest.map fun v => v.category).sum ≤ 8) (hroom : ev_fr μc + 1 ≤ ev_fr μ ∧ 8 + (ev_nL μc + 11) + ev_lo μc ≤ ev_lo μ) (hmc : kc + ev_mc μc ≤ ev_mc μ ∧ ks + ev_ms μc ≤ ev_ms μ) (hlen : ∀ r w', post r w' → w'.length = wt.length)
    (kk : ∀ r w', post r w' → ev_V μ N0 X (pc + 3) L ((r.map (ev_cv fun k => b + k)).toList ++ rest) (ev_sput b w (w'.map (ev_ren fun k => b + k))) (kc + ev_mc μc) (ks + ev_ms μc)) : ev_V μ N0 X pc L st w kc ks := by
  obtain ⟨h1, h2⟩ := ev_row1 b hsel hb
  refine ev_callS (fun k => b + k) hM cv hl hlk hst hn h2 (fun i _ j _ h => by omega) hW hroom hmc hlen fun r w' hp => ?_
  rw [ev_putm_row w' w 0 b (fun i _ => by rw [Nat.zero_add]) (by rw [hlen r w' hp]; exact h1)]
  exact kk r w' hp
theorem ev_callV2 {μ μc : ev_M} {N0 : Option Nat} {X : ev_X} (m a b : Nat) {pc : Nat} {L : ev_L} {st rest : List Value} {w : List ev_E} {kc ks ci n idx nx k x yy : Nat} {v : Value} {y : MethodName} {as1 : List Value} {fs : List Value} {wt : List ev_E} {post : Option Value → List ev_E → Prop}
    (hM : ev_A y μc none (.ref 0 :: as1) (.inr (ci, fs) :: wt) post) (cv : ev_CV y μc ci n) (hl : ev_ml (ev_own μ) idx y) (hlk : ev_look (ev_tab μ) pc = some (.invokevirtual idx, nx, k, x, yy, v))
    (hst : (as1.map (ev_cv (lf_em m a b))).reverse ++ (.ref (lf_em m a b 0) :: rest) = st) (hn : as1.length = n) (hm : (.inr (ci, fs) :: wt : List ev_E).length = m + m) (ha : a ≤ w.length) (hb : b ≤ w.length) (hab : a + m ≤ b ∨ b + m ≤ a) (hsel : (w.drop a).take m ++ (w.drop b).take m = (.inr (ci, fs) :: wt : List ev_E).map (ev_ren (lf_em m a b)))
    (hW : (rest.map fun v => v.category).sum ≤ 8) (hroom : ev_fr μc + 1 ≤ ev_fr μ ∧ 8 + (ev_nL μc + 11) + ev_lo μc ≤ ev_lo μ) (hmc : kc + ev_mc μc ≤ ev_mc μ ∧ ks + ev_ms μc ≤ ev_ms μ) (hlen : ∀ r w', post r w' → w'.length = (.inr (ci, fs) :: wt : List ev_E).length)
    (kk : ∀ r w', post r w' → ev_V μ N0 X (pc + 3) L ((r.map (ev_cv (lf_em m a b))).toList ++ rest) (ev_sput b (ev_sput a w ((w'.take m).map (ev_ren (lf_em m a b)))) ((w'.drop m).map (ev_ren (lf_em m a b)))) (kc + ev_mc μc) (ks + ev_ms μc)) : ev_V μ N0 X pc L st w kc ks := by
  obtain ⟨h1, h2, h3⟩ := ev_row2 m a b hsel hm ha hb
  refine ev_callV (lf_em m a b) hM cv hl hlk hst hn h3 (hm ▸ lf_emi hab) hW hroom hmc hlen fun r w' hp => ?_
  rw [ev_put2 m a b w' (by rw [hlen r w' hp]; exact hm) h1 h2]
  exact kk r w' hp
theorem ev_callS2 {μ μc : ev_M} {N0 : Option Nat} {X : ev_X} (m a b : Nat) {pc : Nat} {L : ev_L} {st rest : List Value} {w : List ev_E} {kc ks n idx nx k x yy : Nat} {v : Value} {y : MethodName} {as1 : List Value} {wt : List ev_E} {post : Option Value → List ev_E → Prop}
    (hM : ev_A y μc none as1 wt post) (cv : ev_CS y μc n) (hl : ev_ml (ev_own μ) idx y) (hlk : ev_look (ev_tab μ) pc = some (.invokestatic idx, nx, k, x, yy, v))
    (hst : (as1.map (ev_cv (lf_em m a b))).reverse ++ rest = st) (hn : as1.length = n) (hm : wt.length = m + m) (ha : a ≤ w.length) (hb : b ≤ w.length) (hab : a + m ≤ b ∨ b + m ≤ a) (hsel : (w.drop a).take m ++ (w.drop b).take m = wt.map (ev_ren (lf_em m a b)))
    (hW : (rest.map fun v => v.category).sum ≤ 8) (hroom : ev_fr μc + 1 ≤ ev_fr μ ∧ 8 + (ev_nL μc + 11) + ev_lo μc ≤ ev_lo μ) (hmc : kc + ev_mc μc ≤ ev_mc μ ∧ ks + ev_ms μc ≤ ev_ms μ) (hlen : ∀ r w', post r w' → w'.length = wt.length)
    (kk : ∀ r w', post r w' → ev_V μ N0 X (pc + 3) L ((r.map (ev_cv (lf_em m a b))).toList ++ rest) (ev_sput b (ev_sput a w ((w'.take m).map (ev_ren (lf_em m a b)))) ((w'.drop m).map (ev_ren (lf_em m a b)))) (kc + ev_mc μc) (ks + ev_ms μc)) : ev_V μ N0 X pc L st w kc ks := by
  obtain ⟨h1, h2, h3⟩ := ev_row2 m a b hsel hm ha hb
  refine ev_callS (lf_em m a b) hM cv hl hlk hst hn h3 (hm ▸ lf_emi hab) hW hroom hmc hlen fun r w' hp => ?_
  rw [ev_put2 m a b w' (by rw [hlen r w' hp]; exact hm) h1 h2]
  exact kk r w' hp
abbrev S_X0 : Type := (Nat → Int32)
abbrev a_X0_held (u : S_X0) : Nat → Int32 := u
abbrev m_X0_held (v : Nat → Int32) (u : S_X0) : S_X0 := v
abbrev W_X0 (u : S_X0) : List ev_E := [.inr (0, [.ref 1]), .inl (0, 100, .inl (a_X0_held u))]
abbrev S_X1 : Type := Int32 × Int32 × (Nat → Int32) × (Nat → Int32) × (Nat → Int32)
abbrev a_X1_heard (u : S_X1) : Int32 := u.1
abbrev m_X1_heard (v : Int32) (u : S_X1) : S_X1 := (v, u.2.1, u.2.2.1, u.2.2.2.1, u.2.2.2.2)
abbrev a_X1_made (u : S_X1) : Int32 := u.2.1
abbrev m_X1_made (v : Int32) (u : S_X1) : S_X1 := (u.1, v, u.2.2.1, u.2.2.2.1, u.2.2.2.2)
abbrev a_X1_rows (u : S_X1) : Nat → Int32 := u.2.2.1
abbrev m_X1_rows (v : Nat → Int32) (u : S_X1) : S_X1 := (u.1, u.2.1, v, u.2.2.2.1, u.2.2.2.2)
abbrev a_X1_numbers (u : S_X1) : Nat → Int32 := u.2.2.2.1
abbrev m_X1_numbers (v : Nat → Int32) (u : S_X1) : S_X1 := (u.1, u.2.1, u.2.2.1, v, u.2.2.2.2)
abbrev a_X1_sums (u : S_X1) : Nat → Int32 := u.2.2.2.2
abbrev m_X1_sums (v : Nat → Int32) (u : S_X1) : S_X1 := (u.1, u.2.1, u.2.2.1, u.2.2.2.1, v)
abbrev W_X1 (u : S_X1) : List ev_E := [.inr (1, [.int (a_X1_heard u), .int (a_X1_made u), .ref 1, .ref 2, .ref 3]), .inl (0, 6000, .inl (a_X1_rows u)), .inl (0, 24, .inl (a_X1_numbers u)), .inl (0, 24, .inl (a_X1_sums u))]
abbrev S_X2 : Type := Int32 × Int32 × Int32 × (Nat → Int32) × (Nat → Int32)
abbrev a_X2_length (u : S_X2) : Int32 := u.1
abbrev m_X2_length (v : Int32) (u : S_X2) : S_X2 := (v, u.2.1, u.2.2.1, u.2.2.2.1, u.2.2.2.2)
abbrev a_X2_letter (u : S_X2) : Int32 := u.2.1
abbrev m_X2_letter (v : Int32) (u : S_X2) : S_X2 := (u.1, v, u.2.2.1, u.2.2.2.1, u.2.2.2.2)
abbrev a_X2_at (u : S_X2) : Int32 := u.2.2.1
abbrev m_X2_at (v : Int32) (u : S_X2) : S_X2 := (u.1, u.2.1, v, u.2.2.2.1, u.2.2.2.2)
abbrev a_X2_codes (u : S_X2) : Nat → Int32 := u.2.2.2.1
abbrev m_X2_codes (v : Nat → Int32) (u : S_X2) : S_X2 := (u.1, u.2.1, u.2.2.1, v, u.2.2.2.2)
abbrev a_X2_numbers (u : S_X2) : Nat → Int32 := u.2.2.2.2
abbrev m_X2_numbers (v : Nat → Int32) (u : S_X2) : S_X2 := (u.1, u.2.1, u.2.2.1, u.2.2.2.1, v)
abbrev W_X2 (u : S_X2) : List ev_E := [.inr (2, [.int (a_X2_length u), .ref 1, .int (a_X2_letter u), .ref 2, .int (a_X2_at u)]), .inl (0, 60, .inl (a_X2_codes u)), .inl (0, 3, .inl (a_X2_numbers u))]
abbrev S_X3 : Type := Int32 × Int32 × Int32 × Int32 × Int32 × Int32 × Int32 × (Nat → Int32) × (Nat → Int32) × (Nat → Int32) × (Nat → Int32) × (Nat → Int32) × (Nat → Int32) × (Nat → Int32) × (Nat → Int32) × S_X0 × S_X1
abbrev a_X3_time (u : S_X3) : Int32 := u.1
abbrev m_X3_time (v : Int32) (u : S_X3) : S_X3 := (v, u.2.1, u.2.2.1, u.2.2.2.1, u.2.2.2.2.1, u.2.2.2.2.2.1, u.2.2.2.2.2.2.1, u.2.2.2.2.2.2.2.1, u.2.2.2.2.2.2.2.2.1, u.2.2.2.2.2.2.2.2.2.1, u.2.2.2.2.2.2.2.2.2.2.1, u.2.2.2.2.2.2.2.2.2.2.2.1, u.2.2.2.2.2.2.2.2.2.2.2.2.1, u.2.2.2.2.2.2.2.2.2.2.2.2.2.1, u.2.2.2.2.2.2.2.2.2.2.2.2.2.2.1, u.2.2.2.2.2.2.2.2.2.2.2.2.2.2.2.1, u.2.2.2.2.2.2.2.2.2.2.2.2.2.2.2.2)
abbrev a_X3_things (u : S_X3) : Int32 := u.2.1
abbrev m_X3_things (v : Int32) (u : S_X3) : S_X3 := (u.1, v, u.2.2.1, u.2.2.2.1, u.2.2.2.2.1, u.2.2.2.2.2.1, u.2.2.2.2.2.2.1, u.2.2.2.2.2.2.2.1, u.2.2.2.2.2.2.2.2.1, u.2.2.2.2.2.2.2.2.2.1, u.2.2.2.2.2.2.2.2.2.2.1, u.2.2.2.2.2.2.2.2.2.2.2.1, u.2.2.2.2.2.2.2.2.2.2.2.2.1, u.2.2.2.2.2.2.2.2.2.2.2.2.2.1, u.2.2.2.2.2.2.2.2.2.2.2.2.2.2.1, u.2.2.2.2.2.2.2.2.2.2.2.2.2.2.2.1, u.2.2.2.2.2.2.2.2.2.2.2.2.2.2.2.2)
abbrev a_X3_living (u : S_X3) : Int32 := u.2.2.1
abbrev m_X3_living (v : Int32) (u : S_X3) : S_X3 := (u.1, u.2.1, v, u.2.2.2.1, u.2.2.2.2.1, u.2.2.2.2.2.1, u.2.2.2.2.2.2.1, u.2.2.2.2.2.2.2.1, u.2.2.2.2.2.2.2.2.1, u.2.2.2.2.2.2.2.2.2.1, u.2.2.2.2.2.2.2.2.2.2.1, u.2.2.2.2.2.2.2.2.2.2.2.1, u.2.2.2.2.2.2.2.2.2.2.2.2.1, u.2.2.2.2.2.2.2.2.2.2.2.2.2.1, u.2.2.2.2.2.2.2.2.2.2.2.2.2.2.1, u.2.2.2.2.2.2.2.2.2.2.2.2.2.2.2.1, u.2.2.2.2.2.2.2.2.2.2.2.2.2.2.2.2)
abbrev a_X3_suspects (u : S_X3) : Int32 := u.2.2.2.1
abbrev m_X3_suspects (v : Int32) (u : S_X3) : S_X3 := (u.1, u.2.1, u.2.2.1, v, u.2.2.2.2.1, u.2.2.2.2.2.1, u.2.2.2.2.2.2.1, u.2.2.2.2.2.2.2.1, u.2.2.2.2.2.2.2.2.1, u.2.2.2.2.2.2.2.2.2.1, u.2.2.2.2.2.2.2.2.2.2.1, u.2.2.2.2.2.2.2.2.2.2.2.1, u.2.2.2.2.2.2.2.2.2.2.2.2.1, u.2.2.2.2.2.2.2.2.2.2.2.2.2.1, u.2.2.2.2.2.2.2.2.2.2.2.2.2.2.1, u.2.2.2.2.2.2.2.2.2.2.2.2.2.2.2.1, u.2.2.2.2.2.2.2.2.2.2.2.2.2.2.2.2)
abbrev a_X3_wronged (u : S_X3) : Int32 := u.2.2.2.2.1
abbrev m_X3_wronged (v : Int32) (u : S_X3) : S_X3 := (u.1, u.2.1, u.2.2.1, u.2.2.2.1, v, u.2.2.2.2.2.1, u.2.2.2.2.2.2.1, u.2.2.2.2.2.2.2.1, u.2.2.2.2.2.2.2.2.1, u.2.2.2.2.2.2.2.2.2.1, u.2.2.2.2.2.2.2.2.2.2.1, u.2.2.2.2.2.2.2.2.2.2.2.1, u.2.2.2.2.2.2.2.2.2.2.2.2.1, u.2.2.2.2.2.2.2.2.2.2.2.2.2.1, u.2.2.2.2.2.2.2.2.2.2.2.2.2.2.1, u.2.2.2.2.2.2.2.2.2.2.2.2.2.2.2.1, u.2.2.2.2.2.2.2.2.2.2.2.2.2.2.2.2)
abbrev a_X3_ends (u : S_X3) : Int32 := u.2.2.2.2.2.1
abbrev m_X3_ends (v : Int32) (u : S_X3) : S_X3 := (u.1, u.2.1, u.2.2.1, u.2.2.2.1, u.2.2.2.2.1, v, u.2.2.2.2.2.2.1, u.2.2.2.2.2.2.2.1, u.2.2.2.2.2.2.2.2.1, u.2.2.2.2.2.2.2.2.2.1, u.2.2.2.2.2.2.2.2.2.2.1, u.2.2.2.2.2.2.2.2.2.2.2.1, u.2.2.2.2.2.2.2.2.2.2.2.2.1, u.2.2.2.2.2.2.2.2.2.2.2.2.2.1, u.2.2.2.2.2.2.2.2.2.2.2.2.2.2.1, u.2.2.2.2.2.2.2.2.2.2.2.2.2.2.2.1, u.2.2.2.2.2.2.2.2.2.2.2.2.2.2.2.2)
abbrev a_X3_slanderFound (u : S_X3) : Int32 := u.2.2.2.2.2.2.1
abbrev m_X3_slanderFound (v : Int32) (u : S_X3) : S_X3 := (u.1, u.2.1, u.2.2.1, u.2.2.2.1, u.2.2.2.2.1, u.2.2.2.2.2.1, v, u.2.2.2.2.2.2.2.1, u.2.2.2.2.2.2.2.2.1, u.2.2.2.2.2.2.2.2.2.1, u.2.2.2.2.2.2.2.2.2.2.1, u.2.2.2.2.2.2.2.2.2.2.2.1, u.2.2.2.2.2.2.2.2.2.2.2.2.1, u.2.2.2.2.2.2.2.2.2.2.2.2.2.1, u.2.2.2.2.2.2.2.2.2.2.2.2.2.2.1, u.2.2.2.2.2.2.2.2.2.2.2.2.2.2.2.1, u.2.2.2.2.2.2.2.2.2.2.2.2.2.2.2.2)
abbrev a_X3_settings (u : S_X3) : Nat → Int32 := u.2.2.2.2.2.2.2.1
abbrev m_X3_settings (v : Nat → Int32) (u : S_X3) : S_X3 := (u.1, u.2.1, u.2.2.1, u.2.2.2.1, u.2.2.2.2.1, u.2.2.2.2.2.1, u.2.2.2.2.2.2.1, v, u.2.2.2.2.2.2.2.2.1, u.2.2.2.2.2.2.2.2.2.1, u.2.2.2.2.2.2.2.2.2.2.1, u.2.2.2.2.2.2.2.2.2.2.2.1, u.2.2.2.2.2.2.2.2.2.2.2.2.1, u.2.2.2.2.2.2.2.2.2.2.2.2.2.1, u.2.2.2.2.2.2.2.2.2.2.2.2.2.2.1, u.2.2.2.2.2.2.2.2.2.2.2.2.2.2.2.1, u.2.2.2.2.2.2.2.2.2.2.2.2.2.2.2.2)
abbrev a_X3_ranks (u : S_X3) : Nat → Int32 := u.2.2.2.2.2.2.2.2.1
abbrev m_X3_ranks (v : Nat → Int32) (u : S_X3) : S_X3 := (u.1, u.2.1, u.2.2.1, u.2.2.2.1, u.2.2.2.2.1, u.2.2.2.2.2.1, u.2.2.2.2.2.2.1, u.2.2.2.2.2.2.2.1, v, u.2.2.2.2.2.2.2.2.2.1, u.2.2.2.2.2.2.2.2.2.2.1, u.2.2.2.2.2.2.2.2.2.2.2.1, u.2.2.2.2.2.2.2.2.2.2.2.2.1, u.2.2.2.2.2.2.2.2.2.2.2.2.2.1, u.2.2.2.2.2.2.2.2.2.2.2.2.2.2.1, u.2.2.2.2.2.2.2.2.2.2.2.2.2.2.2.1, u.2.2.2.2.2.2.2.2.2.2.2.2.2.2.2.2)
abbrev a_X3_counts (u : S_X3) : Nat → Int32 := u.2.2.2.2.2.2.2.2.2.1
abbrev m_X3_counts (v : Nat → Int32) (u : S_X3) : S_X3 := (u.1, u.2.1, u.2.2.1, u.2.2.2.1, u.2.2.2.2.1, u.2.2.2.2.2.1, u.2.2.2.2.2.2.1, u.2.2.2.2.2.2.2.1, u.2.2.2.2.2.2.2.2.1, v, u.2.2.2.2.2.2.2.2.2.2.1, u.2.2.2.2.2.2.2.2.2.2.2.1, u.2.2.2.2.2.2.2.2.2.2.2.2.1, u.2.2.2.2.2.2.2.2.2.2.2.2.2.1, u.2.2.2.2.2.2.2.2.2.2.2.2.2.2.1, u.2.2.2.2.2.2.2.2.2.2.2.2.2.2.2.1, u.2.2.2.2.2.2.2.2.2.2.2.2.2.2.2.2)
abbrev a_X3_came (u : S_X3) : Nat → Int32 := u.2.2.2.2.2.2.2.2.2.2.1
abbrev m_X3_came (v : Nat → Int32) (u : S_X3) : S_X3 := (u.1, u.2.1, u.2.2.1, u.2.2.2.1, u.2.2.2.2.1, u.2.2.2.2.2.1, u.2.2.2.2.2.2.1, u.2.2.2.2.2.2.2.1, u.2.2.2.2.2.2.2.2.1, u.2.2.2.2.2.2.2.2.2.1, v, u.2.2.2.2.2.2.2.2.2.2.2.1, u.2.2.2.2.2.2.2.2.2.2.2.2.1, u.2.2.2.2.2.2.2.2.2.2.2.2.2.1, u.2.2.2.2.2.2.2.2.2.2.2.2.2.2.1, u.2.2.2.2.2.2.2.2.2.2.2.2.2.2.2.1, u.2.2.2.2.2.2.2.2.2.2.2.2.2.2.2.2)
abbrev a_X3_endNumbers (u : S_X3) : Nat → Int32 := u.2.2.2.2.2.2.2.2.2.2.2.1
abbrev m_X3_endNumbers (v : Nat → Int32) (u : S_X3) : S_X3 := (u.1, u.2.1, u.2.2.1, u.2.2.2.1, u.2.2.2.2.1, u.2.2.2.2.2.1, u.2.2.2.2.2.2.1, u.2.2.2.2.2.2.2.1, u.2.2.2.2.2.2.2.2.1, u.2.2.2.2.2.2.2.2.2.1, u.2.2.2.2.2.2.2.2.2.2.1, v, u.2.2.2.2.2.2.2.2.2.2.2.2.1, u.2.2.2.2.2.2.2.2.2.2.2.2.2.1, u.2.2.2.2.2.2.2.2.2.2.2.2.2.2.1, u.2.2.2.2.2.2.2.2.2.2.2.2.2.2.2.1, u.2.2.2.2.2.2.2.2.2.2.2.2.2.2.2.2)
abbrev a_X3_endTimes (u : S_X3) : Nat → Int32 := u.2.2.2.2.2.2.2.2.2.2.2.2.1
abbrev m_X3_endTimes (v : Nat → Int32) (u : S_X3) : S_X3 := (u.1, u.2.1, u.2.2.1, u.2.2.2.1, u.2.2.2.2.1, u.2.2.2.2.2.1, u.2.2.2.2.2.2.1, u.2.2.2.2.2.2.2.1, u.2.2.2.2.2.2.2.2.1, u.2.2.2.2.2.2.2.2.2.1, u.2.2.2.2.2.2.2.2.2.2.1, u.2.2.2.2.2.2.2.2.2.2.2.1, v, u.2.2.2.2.2.2.2.2.2.2.2.2.2.1, u.2.2.2.2.2.2.2.2.2.2.2.2.2.2.1, u.2.2.2.2.2.2.2.2.2.2.2.2.2.2.2.1, u.2.2.2.2.2.2.2.2.2.2.2.2.2.2.2.2)
abbrev a_X3_endKinds (u : S_X3) : Nat → Int32 := u.2.2.2.2.2.2.2.2.2.2.2.2.2.1
abbrev m_X3_endKinds (v : Nat → Int32) (u : S_X3) : S_X3 := (u.1, u.2.1, u.2.2.1, u.2.2.2.1, u.2.2.2.2.1, u.2.2.2.2.2.1, u.2.2.2.2.2.2.1, u.2.2.2.2.2.2.2.1, u.2.2.2.2.2.2.2.2.1, u.2.2.2.2.2.2.2.2.2.1, u.2.2.2.2.2.2.2.2.2.2.1, u.2.2.2.2.2.2.2.2.2.2.2.1, u.2.2.2.2.2.2.2.2.2.2.2.2.1, v, u.2.2.2.2.2.2.2.2.2.2.2.2.2.2.1, u.2.2.2.2.2.2.2.2.2.2.2.2.2.2.2.1, u.2.2.2.2.2.2.2.2.2.2.2.2.2.2.2.2)
abbrev a_X3_endOrder (u : S_X3) : Nat → Int32 := u.2.2.2.2.2.2.2.2.2.2.2.2.2.2.1
abbrev m_X3_endOrder (v : Nat → Int32) (u : S_X3) : S_X3 := (u.1, u.2.1, u.2.2.1, u.2.2.2.1, u.2.2.2.2.1, u.2.2.2.2.2.1, u.2.2.2.2.2.2.1, u.2.2.2.2.2.2.2.1, u.2.2.2.2.2.2.2.2.1, u.2.2.2.2.2.2.2.2.2.1, u.2.2.2.2.2.2.2.2.2.2.1, u.2.2.2.2.2.2.2.2.2.2.2.1, u.2.2.2.2.2.2.2.2.2.2.2.2.1, u.2.2.2.2.2.2.2.2.2.2.2.2.2.1, v, u.2.2.2.2.2.2.2.2.2.2.2.2.2.2.2.1, u.2.2.2.2.2.2.2.2.2.2.2.2.2.2.2.2)
abbrev a_X3_hold (u : S_X3) : S_X0 := u.2.2.2.2.2.2.2.2.2.2.2.2.2.2.2.1
abbrev m_X3_hold (v : S_X0) (u : S_X3) : S_X3 := (u.1, u.2.1, u.2.2.1, u.2.2.2.1, u.2.2.2.2.1, u.2.2.2.2.2.1, u.2.2.2.2.2.2.1, u.2.2.2.2.2.2.2.1, u.2.2.2.2.2.2.2.2.1, u.2.2.2.2.2.2.2.2.2.1, u.2.2.2.2.2.2.2.2.2.2.1, u.2.2.2.2.2.2.2.2.2.2.2.1, u.2.2.2.2.2.2.2.2.2.2.2.2.1, u.2.2.2.2.2.2.2.2.2.2.2.2.2.1, u.2.2.2.2.2.2.2.2.2.2.2.2.2.2.1, v, u.2.2.2.2.2.2.2.2.2.2.2.2.2.2.2.2)
abbrev a_X3_rep (u : S_X3) : S_X1 := u.2.2.2.2.2.2.2.2.2.2.2.2.2.2.2.2
abbrev m_X3_rep (v : S_X1) (u : S_X3) : S_X3 := (u.1, u.2.1, u.2.2.1, u.2.2.2.1, u.2.2.2.2.1, u.2.2.2.2.2.1, u.2.2.2.2.2.2.1, u.2.2.2.2.2.2.2.1, u.2.2.2.2.2.2.2.2.1, u.2.2.2.2.2.2.2.2.2.1, u.2.2.2.2.2.2.2.2.2.2.1, u.2.2.2.2.2.2.2.2.2.2.2.1, u.2.2.2.2.2.2.2.2.2.2.2.2.1, u.2.2.2.2.2.2.2.2.2.2.2.2.2.1, u.2.2.2.2.2.2.2.2.2.2.2.2.2.2.1, u.2.2.2.2.2.2.2.2.2.2.2.2.2.2.2.1, v)
abbrev W_X3 (u : S_X3) : List ev_E := [.inr (3, [.int (a_X3_time u), .int (a_X3_things u), .int (a_X3_living u), .int (a_X3_suspects u), .int (a_X3_wronged u), .int (a_X3_ends u), .int (a_X3_slanderFound u), .ref 1, .ref 2, .ref 3, .ref 4, .ref 5, .ref 6, .ref 7, .ref 8, .ref 9, .ref 11]), .inl (0, 5, .inl (a_X3_settings u)), .inl (0, 24, .inl (a_X3_ranks u)), .inl (0, 24, .inl (a_X3_counts u)), .inl (0, 24, .inl (a_X3_came u)), .inl (0, 24, .inl (a_X3_endNumbers u)), .inl (0, 24, .inl (a_X3_endTimes u)), .inl (0, 24, .inl (a_X3_endKinds u)), .inl (0, 24, .inl (a_X3_endOrder u)), .inr (0, [.ref 10]), .inl (0, 100, .inl (a_X0_held (a_X3_hold u))), .inr (1, [.int (a_X1_heard (a_X3_rep u)), .int (a_X1_made (a_X3_rep u)), .ref 12, .ref 13, .ref 14]), .inl (0, 6000, .inl (a_X1_rows (a_X3_rep u))), .inl (0, 24, .inl (a_X1_numbers (a_X3_rep u))), .inl (0, 24, .inl (a_X1_sums (a_X3_rep u)))]
abbrev S_X4 : Type := Int32 × S_X3 × S_X3 × S_X3 × S_X2
abbrev a_X4_savedStates (u : S_X4) : Int32 := u.1
abbrev m_X4_savedStates (v : Int32) (u : S_X4) : S_X4 := (v, u.2.1, u.2.2.1, u.2.2.2.1, u.2.2.2.2)
abbrev a_X4_now (u : S_X4) : S_X3 := u.2.1
abbrev m_X4_now (v : S_X3) (u : S_X4) : S_X4 := (u.1, v, u.2.2.1, u.2.2.2.1, u.2.2.2.2)
abbrev a_X4_ahead (u : S_X4) : S_X3 := u.2.2.1
abbrev m_X4_ahead (v : S_X3) (u : S_X4) : S_X4 := (u.1, u.2.1, v, u.2.2.2.1, u.2.2.2.2)
abbrev a_X4_slandered (u : S_X4) : S_X3 := u.2.2.2.1
abbrev m_X4_slandered (v : S_X3) (u : S_X4) : S_X4 := (u.1, u.2.1, u.2.2.1, v, u.2.2.2.2)
abbrev a_X4_text (u : S_X4) : S_X2 := u.2.2.2.2
abbrev m_X4_text (v : S_X2) (u : S_X4) : S_X4 := (u.1, u.2.1, u.2.2.1, u.2.2.2.1, v)
abbrev W_X4 (u : S_X4) : List ev_E := [.inr (4, [.ref 1, .ref 16, .ref 31, .ref 49, .int (a_X4_savedStates u), .ref 46]), .inr (3, [.int (a_X3_time (a_X4_now u)), .int (a_X3_things (a_X4_now u)), .int (a_X3_living (a_X4_now u)), .int (a_X3_suspects (a_X4_now u)), .int (a_X3_wronged (a_X4_now u)), .int (a_X3_ends (a_X4_now u)), .int (a_X3_slanderFound (a_X4_now u)), .ref 2, .ref 3, .ref 4, .ref 5, .ref 6, .ref 7, .ref 8, .ref 9, .ref 10, .ref 12]), .inl (0, 5, .inl (a_X3_settings (a_X4_now u))), .inl (0, 24, .inl (a_X3_ranks (a_X4_now u))), .inl (0, 24, .inl (a_X3_counts (a_X4_now u))), .inl (0, 24, .inl (a_X3_came (a_X4_now u))), .inl (0, 24, .inl (a_X3_endNumbers (a_X4_now u))), .inl (0, 24, .inl (a_X3_endTimes (a_X4_now u))), .inl (0, 24, .inl (a_X3_endKinds (a_X4_now u))), .inl (0, 24, .inl (a_X3_endOrder (a_X4_now u))), .inr (0, [.ref 11]), .inl (0, 100, .inl (a_X0_held (a_X3_hold (a_X4_now u)))), .inr (1, [.int (a_X1_heard (a_X3_rep (a_X4_now u))), .int (a_X1_made (a_X3_rep (a_X4_now u))), .ref 13, .ref 14, .ref 15]), .inl (0, 6000, .inl (a_X1_rows (a_X3_rep (a_X4_now u)))), .inl (0, 24, .inl (a_X1_numbers (a_X3_rep (a_X4_now u)))), .inl (0, 24, .inl (a_X1_sums (a_X3_rep (a_X4_now u)))), .inr (3, [.int (a_X3_time (a_X4_ahead u)), .int (a_X3_things (a_X4_ahead u)), .int (a_X3_living (a_X4_ahead u)), .int (a_X3_suspects (a_X4_ahead u)), .int (a_X3_wronged (a_X4_ahead u)), .int (a_X3_ends (a_X4_ahead u)), .int (a_X3_slanderFound (a_X4_ahead u)), .ref 17, .ref 18, .ref 19, .ref 20, .ref 21, .ref 22, .ref 23, .ref 24, .ref 25, .ref 27]), .inl (0, 5, .inl (a_X3_settings (a_X4_ahead u))), .inl (0, 24, .inl (a_X3_ranks (a_X4_ahead u))), .inl (0, 24, .inl (a_X3_counts (a_X4_ahead u))), .inl (0, 24, .inl (a_X3_came (a_X4_ahead u))), .inl (0, 24, .inl (a_X3_endNumbers (a_X4_ahead u))), .inl (0, 24, .inl (a_X3_endTimes (a_X4_ahead u))), .inl (0, 24, .inl (a_X3_endKinds (a_X4_ahead u))), .inl (0, 24, .inl (a_X3_endOrder (a_X4_ahead u))), .inr (0, [.ref 26]), .inl (0, 100, .inl (a_X0_held (a_X3_hold (a_X4_ahead u)))), .inr (1, [.int (a_X1_heard (a_X3_rep (a_X4_ahead u))), .int (a_X1_made (a_X3_rep (a_X4_ahead u))), .ref 28, .ref 29, .ref 30]), .inl (0, 6000, .inl (a_X1_rows (a_X3_rep (a_X4_ahead u)))), .inl (0, 24, .inl (a_X1_numbers (a_X3_rep (a_X4_ahead u)))), .inl (0, 24, .inl (a_X1_sums (a_X3_rep (a_X4_ahead u)))), .inr (3, [.int (a_X3_time (a_X4_slandered u)), .int (a_X3_things (a_X4_slandered u)), .int (a_X3_living (a_X4_slandered u)), .int (a_X3_suspects (a_X4_slandered u)), .int (a_X3_wronged (a_X4_slandered u)), .int (a_X3_ends (a_X4_slandered u)), .int (a_X3_slanderFound (a_X4_slandered u)), .ref 32, .ref 33, .ref 34, .ref 35, .ref 36, .ref 37, .ref 38, .ref 39, .ref 40, .ref 42]), .inl (0, 5, .inl (a_X3_settings (a_X4_slandered u))), .inl (0, 24, .inl (a_X3_ranks (a_X4_slandered u))), .inl (0, 24, .inl (a_X3_counts (a_X4_slandered u))), .inl (0, 24, .inl (a_X3_came (a_X4_slandered u))), .inl (0, 24, .inl (a_X3_endNumbers (a_X4_slandered u))), .inl (0, 24, .inl (a_X3_endTimes (a_X4_slandered u))), .inl (0, 24, .inl (a_X3_endKinds (a_X4_slandered u))), .inl (0, 24, .inl (a_X3_endOrder (a_X4_slandered u))), .inr (0, [.ref 41]), .inl (0, 100, .inl (a_X0_held (a_X3_hold (a_X4_slandered u)))), .inr (1, [.int (a_X1_heard (a_X3_rep (a_X4_slandered u))), .int (a_X1_made (a_X3_rep (a_X4_slandered u))), .ref 43, .ref 44, .ref 45]), .inl (0, 6000, .inl (a_X1_rows (a_X3_rep (a_X4_slandered u)))), .inl (0, 24, .inl (a_X1_numbers (a_X3_rep (a_X4_slandered u)))), .inl (0, 24, .inl (a_X1_sums (a_X3_rep (a_X4_slandered u)))), .inr (2, [.int (a_X2_length (a_X4_text u)), .ref 47, .int (a_X2_letter (a_X4_text u)), .ref 48, .int (a_X2_at (a_X4_text u))]), .inl (0, 60, .inl (a_X2_codes (a_X4_text u))), .inl (0, 3, .inl (a_X2_numbers (a_X4_text u)))]
abbrev S_X5 : Type := Int32 × Int32 × Int32 × Int32 × Int32 × Int32 × Int32 × (Nat → Int32) × (Nat → Int32) × (Nat → Int32) × (Nat → Int32) × (Nat → Int32) × (Nat → Int32) × (Nat → Int32) × (Nat → Int32)
abbrev a_X5_thrown (u : S_X5) : Int32 := u.1
abbrev m_X5_thrown (v : Int32) (u : S_X5) : S_X5 := (v, u.2.1, u.2.2.1, u.2.2.2.1, u.2.2.2.2.1, u.2.2.2.2.2.1, u.2.2.2.2.2.2.1, u.2.2.2.2.2.2.2.1, u.2.2.2.2.2.2.2.2.1, u.2.2.2.2.2.2.2.2.2.1, u.2.2.2.2.2.2.2.2.2.2.1, u.2.2.2.2.2.2.2.2.2.2.2.1, u.2.2.2.2.2.2.2.2.2.2.2.2.1, u.2.2.2.2.2.2.2.2.2.2.2.2.2.1, u.2.2.2.2.2.2.2.2.2.2.2.2.2.2)
abbrev a_X5_savedMany (u : S_X5) : Int32 := u.2.1
abbrev m_X5_savedMany (v : Int32) (u : S_X5) : S_X5 := (u.1, v, u.2.2.1, u.2.2.2.1, u.2.2.2.2.1, u.2.2.2.2.2.1, u.2.2.2.2.2.2.1, u.2.2.2.2.2.2.2.1, u.2.2.2.2.2.2.2.2.1, u.2.2.2.2.2.2.2.2.2.1, u.2.2.2.2.2.2.2.2.2.2.1, u.2.2.2.2.2.2.2.2.2.2.2.1, u.2.2.2.2.2.2.2.2.2.2.2.2.1, u.2.2.2.2.2.2.2.2.2.2.2.2.2.1, u.2.2.2.2.2.2.2.2.2.2.2.2.2.2)
abbrev a_X5_textLength (u : S_X5) : Int32 := u.2.2.1
abbrev m_X5_textLength (v : Int32) (u : S_X5) : S_X5 := (u.1, u.2.1, v, u.2.2.2.1, u.2.2.2.2.1, u.2.2.2.2.2.1, u.2.2.2.2.2.2.1, u.2.2.2.2.2.2.2.1, u.2.2.2.2.2.2.2.2.1, u.2.2.2.2.2.2.2.2.2.1, u.2.2.2.2.2.2.2.2.2.2.1, u.2.2.2.2.2.2.2.2.2.2.2.1, u.2.2.2.2.2.2.2.2.2.2.2.2.1, u.2.2.2.2.2.2.2.2.2.2.2.2.2.1, u.2.2.2.2.2.2.2.2.2.2.2.2.2.2)
abbrev a_X5_kind (u : S_X5) : Int32 := u.2.2.2.1
abbrev m_X5_kind (v : Int32) (u : S_X5) : S_X5 := (u.1, u.2.1, u.2.2.1, v, u.2.2.2.2.1, u.2.2.2.2.2.1, u.2.2.2.2.2.2.1, u.2.2.2.2.2.2.2.1, u.2.2.2.2.2.2.2.2.1, u.2.2.2.2.2.2.2.2.2.1, u.2.2.2.2.2.2.2.2.2.2.1, u.2.2.2.2.2.2.2.2.2.2.2.1, u.2.2.2.2.2.2.2.2.2.2.2.2.1, u.2.2.2.2.2.2.2.2.2.2.2.2.2.1, u.2.2.2.2.2.2.2.2.2.2.2.2.2.2)
abbrev a_X5_first (u : S_X5) : Int32 := u.2.2.2.2.1
abbrev m_X5_first (v : Int32) (u : S_X5) : S_X5 := (u.1, u.2.1, u.2.2.1, u.2.2.2.1, v, u.2.2.2.2.2.1, u.2.2.2.2.2.2.1, u.2.2.2.2.2.2.2.1, u.2.2.2.2.2.2.2.2.1, u.2.2.2.2.2.2.2.2.2.1, u.2.2.2.2.2.2.2.2.2.2.1, u.2.2.2.2.2.2.2.2.2.2.2.1, u.2.2.2.2.2.2.2.2.2.2.2.2.1, u.2.2.2.2.2.2.2.2.2.2.2.2.2.1, u.2.2.2.2.2.2.2.2.2.2.2.2.2.2)
abbrev a_X5_second (u : S_X5) : Int32 := u.2.2.2.2.2.1
abbrev m_X5_second (v : Int32) (u : S_X5) : S_X5 := (u.1, u.2.1, u.2.2.1, u.2.2.2.1, u.2.2.2.2.1, v, u.2.2.2.2.2.2.1, u.2.2.2.2.2.2.2.1, u.2.2.2.2.2.2.2.2.1, u.2.2.2.2.2.2.2.2.2.1, u.2.2.2.2.2.2.2.2.2.2.1, u.2.2.2.2.2.2.2.2.2.2.2.1, u.2.2.2.2.2.2.2.2.2.2.2.2.1, u.2.2.2.2.2.2.2.2.2.2.2.2.2.1, u.2.2.2.2.2.2.2.2.2.2.2.2.2.2)
abbrev a_X5_held (u : S_X5) : Int32 := u.2.2.2.2.2.2.1
abbrev m_X5_held (v : Int32) (u : S_X5) : S_X5 := (u.1, u.2.1, u.2.2.1, u.2.2.2.1, u.2.2.2.2.1, u.2.2.2.2.2.1, v, u.2.2.2.2.2.2.2.1, u.2.2.2.2.2.2.2.2.1, u.2.2.2.2.2.2.2.2.2.1, u.2.2.2.2.2.2.2.2.2.2.1, u.2.2.2.2.2.2.2.2.2.2.2.1, u.2.2.2.2.2.2.2.2.2.2.2.2.1, u.2.2.2.2.2.2.2.2.2.2.2.2.2.1, u.2.2.2.2.2.2.2.2.2.2.2.2.2.2)
abbrev a_X5_state (u : S_X5) : Nat → Int32 := u.2.2.2.2.2.2.2.1
abbrev m_X5_state (v : Nat → Int32) (u : S_X5) : S_X5 := (u.1, u.2.1, u.2.2.1, u.2.2.2.1, u.2.2.2.2.1, u.2.2.2.2.2.1, u.2.2.2.2.2.2.1, v, u.2.2.2.2.2.2.2.2.1, u.2.2.2.2.2.2.2.2.2.1, u.2.2.2.2.2.2.2.2.2.2.1, u.2.2.2.2.2.2.2.2.2.2.2.1, u.2.2.2.2.2.2.2.2.2.2.2.2.1, u.2.2.2.2.2.2.2.2.2.2.2.2.2.1, u.2.2.2.2.2.2.2.2.2.2.2.2.2.2)
abbrev a_X5_kept (u : S_X5) : Nat → Int32 := u.2.2.2.2.2.2.2.2.1
abbrev m_X5_kept (v : Nat → Int32) (u : S_X5) : S_X5 := (u.1, u.2.1, u.2.2.1, u.2.2.2.1, u.2.2.2.2.1, u.2.2.2.2.2.1, u.2.2.2.2.2.2.1, u.2.2.2.2.2.2.2.1, v, u.2.2.2.2.2.2.2.2.2.1, u.2.2.2.2.2.2.2.2.2.2.1, u.2.2.2.2.2.2.2.2.2.2.2.1, u.2.2.2.2.2.2.2.2.2.2.2.2.1, u.2.2.2.2.2.2.2.2.2.2.2.2.2.1, u.2.2.2.2.2.2.2.2.2.2.2.2.2.2)
abbrev a_X5_saved (u : S_X5) : Nat → Int32 := u.2.2.2.2.2.2.2.2.2.1
abbrev m_X5_saved (v : Nat → Int32) (u : S_X5) : S_X5 := (u.1, u.2.1, u.2.2.1, u.2.2.2.1, u.2.2.2.2.1, u.2.2.2.2.2.1, u.2.2.2.2.2.2.1, u.2.2.2.2.2.2.2.1, u.2.2.2.2.2.2.2.2.1, v, u.2.2.2.2.2.2.2.2.2.2.1, u.2.2.2.2.2.2.2.2.2.2.2.1, u.2.2.2.2.2.2.2.2.2.2.2.2.1, u.2.2.2.2.2.2.2.2.2.2.2.2.2.1, u.2.2.2.2.2.2.2.2.2.2.2.2.2.2)
abbrev a_X5_text (u : S_X5) : Nat → Int32 := u.2.2.2.2.2.2.2.2.2.2.1
abbrev m_X5_text (v : Nat → Int32) (u : S_X5) : S_X5 := (u.1, u.2.1, u.2.2.1, u.2.2.2.1, u.2.2.2.2.1, u.2.2.2.2.2.1, u.2.2.2.2.2.2.1, u.2.2.2.2.2.2.2.1, u.2.2.2.2.2.2.2.2.1, u.2.2.2.2.2.2.2.2.2.1, v, u.2.2.2.2.2.2.2.2.2.2.2.1, u.2.2.2.2.2.2.2.2.2.2.2.2.1, u.2.2.2.2.2.2.2.2.2.2.2.2.2.1, u.2.2.2.2.2.2.2.2.2.2.2.2.2.2)
abbrev a_X5_isReached (u : S_X5) : Nat → Int32 := u.2.2.2.2.2.2.2.2.2.2.2.1
abbrev m_X5_isReached (v : Nat → Int32) (u : S_X5) : S_X5 := (u.1, u.2.1, u.2.2.1, u.2.2.2.1, u.2.2.2.2.1, u.2.2.2.2.2.1, u.2.2.2.2.2.2.1, u.2.2.2.2.2.2.2.1, u.2.2.2.2.2.2.2.2.1, u.2.2.2.2.2.2.2.2.2.1, u.2.2.2.2.2.2.2.2.2.2.1, v, u.2.2.2.2.2.2.2.2.2.2.2.2.1, u.2.2.2.2.2.2.2.2.2.2.2.2.2.1, u.2.2.2.2.2.2.2.2.2.2.2.2.2.2)
abbrev a_X5_isInSet (u : S_X5) : Nat → Int32 := u.2.2.2.2.2.2.2.2.2.2.2.2.1
abbrev m_X5_isInSet (v : Nat → Int32) (u : S_X5) : S_X5 := (u.1, u.2.1, u.2.2.1, u.2.2.2.1, u.2.2.2.2.1, u.2.2.2.2.2.1, u.2.2.2.2.2.2.1, u.2.2.2.2.2.2.2.1, u.2.2.2.2.2.2.2.2.1, u.2.2.2.2.2.2.2.2.2.1, u.2.2.2.2.2.2.2.2.2.2.1, u.2.2.2.2.2.2.2.2.2.2.2.1, v, u.2.2.2.2.2.2.2.2.2.2.2.2.2.1, u.2.2.2.2.2.2.2.2.2.2.2.2.2.2)
abbrev a_X5_isInnocent (u : S_X5) : Nat → Int32 := u.2.2.2.2.2.2.2.2.2.2.2.2.2.1
abbrev m_X5_isInnocent (v : Nat → Int32) (u : S_X5) : S_X5 := (u.1, u.2.1, u.2.2.1, u.2.2.2.1, u.2.2.2.2.1, u.2.2.2.2.2.1, u.2.2.2.2.2.2.1, u.2.2.2.2.2.2.2.1, u.2.2.2.2.2.2.2.2.1, u.2.2.2.2.2.2.2.2.2.1, u.2.2.2.2.2.2.2.2.2.2.1, u.2.2.2.2.2.2.2.2.2.2.2.1, u.2.2.2.2.2.2.2.2.2.2.2.2.1, v, u.2.2.2.2.2.2.2.2.2.2.2.2.2.2)
abbrev a_X5_isSuspect (u : S_X5) : Nat → Int32 := u.2.2.2.2.2.2.2.2.2.2.2.2.2.2
abbrev m_X5_isSuspect (v : Nat → Int32) (u : S_X5) : S_X5 := (u.1, u.2.1, u.2.2.1, u.2.2.2.1, u.2.2.2.2.1, u.2.2.2.2.2.1, u.2.2.2.2.2.2.1, u.2.2.2.2.2.2.2.1, u.2.2.2.2.2.2.2.2.1, u.2.2.2.2.2.2.2.2.2.1, u.2.2.2.2.2.2.2.2.2.2.1, u.2.2.2.2.2.2.2.2.2.2.2.1, u.2.2.2.2.2.2.2.2.2.2.2.2.1, u.2.2.2.2.2.2.2.2.2.2.2.2.2.1, v)
abbrev W_X5 (u : S_X5) : List ev_E := [.inr (5, [.int (a_X5_thrown u), .ref 1, .ref 2, .ref 3, .int (a_X5_savedMany u), .ref 4, .int (a_X5_textLength u), .ref 5, .ref 6, .ref 7, .ref 8, .int (a_X5_kind u), .int (a_X5_first u), .int (a_X5_second u), .int (a_X5_held u)]), .inl (0, 20377, .inl (a_X5_state u)), .inl (0, 20377, .inl (a_X5_kept u)), .inl (0, 122262, .inl (a_X5_saved u)), .inl (0, 60, .inl (a_X5_text u)), .inl (0, 24, .inl (a_X5_isReached u)), .inl (0, 24, .inl (a_X5_isInSet u)), .inl (0, 24, .inl (a_X5_isInnocent u)), .inl (0, 24, .inl (a_X5_isSuspect u))]
abbrev W2_X0 (u v : S_X0) : List ev_E := [.inr (0, [.ref 1]), .inl (0, 100, .inl (a_X0_held u)), .inr (0, [.ref 3]), .inl (0, 100, .inl (a_X0_held v))]
abbrev W2_X1 (u v : S_X1) : List ev_E := [.inr (1, [.int (a_X1_heard u), .int (a_X1_made u), .ref 1, .ref 2, .ref 3]), .inl (0, 6000, .inl (a_X1_rows u)), .inl (0, 24, .inl (a_X1_numbers u)), .inl (0, 24, .inl (a_X1_sums u)), .inr (1, [.int (a_X1_heard v), .int (a_X1_made v), .ref 5, .ref 6, .ref 7]), .inl (0, 6000, .inl (a_X1_rows v)), .inl (0, 24, .inl (a_X1_numbers v)), .inl (0, 24, .inl (a_X1_sums v))]
abbrev W2_X3 (u v : S_X3) : List ev_E := [.inr (3, [.int (a_X3_time u), .int (a_X3_things u), .int (a_X3_living u), .int (a_X3_suspects u), .int (a_X3_wronged u), .int (a_X3_ends u), .int (a_X3_slanderFound u), .ref 1, .ref 2, .ref 3, .ref 4, .ref 5, .ref 6, .ref 7, .ref 8, .ref 9, .ref 11]), .inl (0, 5, .inl (a_X3_settings u)), .inl (0, 24, .inl (a_X3_ranks u)), .inl (0, 24, .inl (a_X3_counts u)), .inl (0, 24, .inl (a_X3_came u)), .inl (0, 24, .inl (a_X3_endNumbers u)), .inl (0, 24, .inl (a_X3_endTimes u)), .inl (0, 24, .inl (a_X3_endKinds u)), .inl (0, 24, .inl (a_X3_endOrder u)), .inr (0, [.ref 10]), .inl (0, 100, .inl (a_X0_held (a_X3_hold u))), .inr (1, [.int (a_X1_heard (a_X3_rep u)), .int (a_X1_made (a_X3_rep u)), .ref 12, .ref 13, .ref 14]), .inl (0, 6000, .inl (a_X1_rows (a_X3_rep u))), .inl (0, 24, .inl (a_X1_numbers (a_X3_rep u))), .inl (0, 24, .inl (a_X1_sums (a_X3_rep u))), .inr (3, [.int (a_X3_time v), .int (a_X3_things v), .int (a_X3_living v), .int (a_X3_suspects v), .int (a_X3_wronged v), .int (a_X3_ends v), .int (a_X3_slanderFound v), .ref 16, .ref 17, .ref 18, .ref 19, .ref 20, .ref 21, .ref 22, .ref 23, .ref 24, .ref 26]), .inl (0, 5, .inl (a_X3_settings v)), .inl (0, 24, .inl (a_X3_ranks v)), .inl (0, 24, .inl (a_X3_counts v)), .inl (0, 24, .inl (a_X3_came v)), .inl (0, 24, .inl (a_X3_endNumbers v)), .inl (0, 24, .inl (a_X3_endTimes v)), .inl (0, 24, .inl (a_X3_endKinds v)), .inl (0, 24, .inl (a_X3_endOrder v)), .inr (0, [.ref 25]), .inl (0, 100, .inl (a_X0_held (a_X3_hold v))), .inr (1, [.int (a_X1_heard (a_X3_rep v)), .int (a_X1_made (a_X3_rep v)), .ref 27, .ref 28, .ref 29]), .inl (0, 6000, .inl (a_X1_rows (a_X3_rep v))), .inl (0, 24, .inl (a_X1_numbers (a_X3_rep v))), .inl (0, 24, .inl (a_X1_sums (a_X3_rep v)))]
