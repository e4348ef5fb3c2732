/-! ===== the law, from its entry ===== -/
theorem stk_off {l : Launch} (hflags : l.flags = flags0) : l.stackTraces = false := by
  unfold Launch.stackTraces
  rw [hflags]
  decide +kernel
def emL (k : Nat) : Nat := if k < 140 then k else if k = 140 then 149 else k - 1
theorem emL_inj : ∀ i, i < 150 → ∀ j, j < 150 → emL i = emL j → i = j := by
  intro i hi j hj h
  unfold emL at h
  repeat' (split at h)
  all_goals omega
theorem ev_ren_fix {n : Nat} {em : Nat → Nat} (he : ∀ k, k < n → em k = k) {w : List ev_E} (h : ev_bW n w) : w.map (ev_ren em) = w := by
  induction w with
  | nil => rfl
  | cons E w ih =>
    rw [List.map_cons, ih h.2]
    refine congrArg (fun z => z :: w) ?_
    have hE := h.1
    cases E with
    | inr o =>
      show Sum.inr (o.1, o.2.map (ev_cv em)) = Sum.inr o
      have e1 : o.2.map (ev_cv em) = o.2.map (ev_cv fun k => k) := ev_bS_cv he hE
      have e2 : o.2.map (ev_cv fun k => k) = o.2 := by rw [show (ev_cv fun k => k) = id from funext ev_cv_id, List.map_id]
      rw [e1, e2]
    | inl a =>
      obtain ⟨c, m, g⟩ := a
      match g, hE with
      | .inl f, _ => rfl
      | .inr (.inl f), _ => rfl
      | .inr (.inr (.inl f)), _ => rfl
      | .inr (.inr (.inr (.inl f))), _ => rfl
      | .inr (.inr (.inr (.inr f))), h =>
        show Sum.inl (c, m, Sum.inr (Sum.inr (Sum.inr (Sum.inr (fun i => (f i).map em))))) = Sum.inl (c, m, Sum.inr (Sum.inr (Sum.inr (Sum.inr f))))
        refine congrArg (fun z => Sum.inl (c, m, Sum.inr (Sum.inr (Sum.inr (Sum.inr z))))) ?_
        funext i
        cases hf : f i with
        | none => rfl
        | some b => exact congrArg some (he b (h i b hf))
theorem ev_bE_mono {n n2 : Nat} (hn : n ≤ n2) {E : ev_E} (h : ev_bE n E) : ev_bE n2 E := by
  cases E with
  | inr o =>
    refine List.all_eq_true.mpr fun v hv => ?_
    have := List.all_eq_true.mp h v hv
    cases v with
    | ref a => exact Nat.blt_eq.mpr (Nat.lt_of_lt_of_le (Nat.blt_eq.mp this) hn)
    | int _ => rfl
    | long _ => rfl
    | float _ => rfl
    | double _ => rfl
    | null => rfl
    | retAddr _ => rfl
  | inl a =>
    obtain ⟨c, m, g⟩ := a
    match g, h with
    | .inl f, _ => exact trivial
    | .inr (.inl f), _ => exact trivial
    | .inr (.inr (.inl f)), _ => exact trivial
    | .inr (.inr (.inr (.inl f))), _ => exact trivial
    | .inr (.inr (.inr (.inr f))), h => exact fun i b hb => Nat.lt_of_lt_of_le (h i b hb) hn
theorem ev_bW_mono {n n2 : Nat} (hn : n ≤ n2) {w : List ev_E} (h : ev_bW n w) : ev_bW n2 w := by
  induction w with
  | nil => trivial
  | cons E w ih => exact ⟨ev_bE_mono hn h.1, ih h.2⟩
set_option maxRecDepth 20000 in
theorem bW_X4 (u : S_X4) : ev_bW 140 (W_X4 u) := ⟨rfl, rfl, trivial, trivial, trivial, trivial, trivial, trivial, trivial, trivial, rfl, trivial, rfl, trivial, trivial, trivial, rfl, trivial, trivial, trivial, trivial, trivial, trivial, trivial, trivial, rfl, trivial, rfl, trivial, trivial, trivial, rfl, trivial, trivial, trivial, trivial, trivial, trivial, trivial, trivial, rfl, trivial, rfl, trivial, trivial, trivial, rfl, trivial, trivial, trivial⟩
theorem bW_X6 {S : S_X6} (hp : ∀ p, S.2.2 p < 6) : ev_bW 140 (W_X6 S) := by
  refine ev_bW_app (bW_X4 S.1) ⟨fun i b h => ?_, ev_bW_app (bW_T _ rfl) (ev_bW_app (bW_T _ rfl) (ev_bW_app (bW_T _ rfl) (ev_bW_app (bW_T _ rfl) (ev_bW_app (bW_T _ rfl) (ev_bW_app (bW_T _ rfl) trivial)))))⟩
  have h1 : 50 + 15 * S.2.2 i = b := Option.some.inj h
  have := hp i
  omega
theorem bW_5 (w : S_X5) : ev_bW 149 ((W_X5 w).map (ev_ren fun k => 140 + k)) := ⟨rfl, trivial, trivial, trivial, trivial, trivial, trivial, trivial, trivial, trivial⟩
theorem bW_5o (w : S_X5) : ev_bW 150 (WMo w) := ⟨rfl, trivial, trivial, trivial, trivial, trivial, trivial, trivial, trivial, trivial⟩
theorem pickL (P M : List ev_E) (c : ev_E) (h1 : P.length = 140) (h2 : M.length = 9) : ev_pick ((P ++ M) ++ [c]) emL 0 150 = (P ++ [c]) ++ M := by
  have hw : ((P ++ M) ++ [c]).length = 150 := by simp only [List.length_append, List.length_cons, List.length_nil, h1, h2]
  have e1 : ev_pick ((P ++ M) ++ [c]) emL 0 140 = P := by
    rw [ev_pick_row _ 0 0 (fun i hi => by unfold emL; rw [if_pos (by omega)]) (by omega), List.drop_zero, ← h1, List.append_assoc, List.take_left]
  have e2 : ev_pick ((P ++ M) ++ [c]) emL (0 + 140) 1 = [c] := by
    rw [ev_pick_row _ (0 + 140) 149 (fun i hi => by unfold emL; rw [if_neg (by omega), if_pos (by omega)]; omega) (by omega)]
    have hl : (P ++ M).length = 149 := by simp only [List.length_append, h1, h2]
    rw [← hl, List.drop_left]
    rfl
  have e3 : ev_pick ((P ++ M) ++ [c]) emL (0 + 140 + 1) 9 = M := by
    rw [ev_pick_row _ (0 + 140 + 1) 140 (fun i hi => by unfold emL; rw [if_neg (by omega), if_neg (by omega)]; omega) (by omega), List.append_assoc, ← h1, List.drop_left, ← h2, List.take_left]
  rw [show (150 : Nat) = 140 + (1 + 9) from rfl, ev_pick_add 140 _ 0 (by rw [e1]; exact h1), ev_pick_add 1 _ _ (by rw [e2]; rfl), e1, e2, e3, List.append_assoc]
theorem permL {S : S_X6} (hp : ∀ p, S.2.2 p < 6) (w : S_X5) : (WLW S (fun _ => 0) w).map (ev_ren emL) = (W_X6 S ++ [.inl (1, 1, .inr (.inl fun _ => 0))]) ++ (W_X5 w).map (ev_ren fun k => 140 + k) := by
  unfold WLW WL
  rw [List.map_append, List.map_append, ev_ren_fix (n := 140) (em := emL) (fun k hk => if_pos hk) (bW_X6 hp)]
  have e5 : (WMo w).map (ev_ren emL) = (W_X5 w).map (ev_ren fun k => 140 + k) := by with_unfolding_all rfl
  rw [e5]
  rfl
theorem tys_ct {s : State} {args : Array Value} (hts : ∀ w ∈ lw_tbl, w.before args s = true) (hO : va_AO "GossipCounts$World" s) : ∃ ct : Nat → ClassId, ∀ (k : Nat) (q : ClassId × FieldType), (ev_tys ct)[k]? = some q → ArrOfT s q.1 q.2 ∧ va_RA s q.1 q.2 := by
  obtain ⟨c0, k0, p0, a1, a2, a3⟩ := Cond.arrayClass_spec (hts _ (List.mem_filter.mp w_int).1)
  obtain ⟨c1, k1, p1, b1, b2, b3⟩ := Cond.arrayClass_spec (hts _ (List.mem_filter.mp w_long).1)
  obtain ⟨comp, c2, k2, d1, d2, d3, d4, d5⟩ := Cond.arrayOver_spec hO
  refine ⟨fun k => if k = 0 then c0 else if k = 1 then c1 else c2, fun k q hq => ?_⟩
  match k, hq with
  | 0, hq => cases hq; exact ⟨fun n z => ⟨(fun k h => by cases h), k0, a2, p0, a3⟩, a1⟩
  | 1, hq => cases hq; exact ⟨fun n z => ⟨(fun k h => by cases h), k1, b2, p1, b3⟩, b1⟩
  | 2, hq => cases hq; exact ⟨fun n z => ⟨(fun k h => by cases h), k2, d3, comp, d4⟩, k2, comp, d3, d4, d1, d5⟩
  | k + 3, hq => cases hq
theorem cls_D {s : State} {args : Array Value} (hts : ∀ w ∈ lw_tbl, w.before args s = true) : ∃ D : va_G, ∀ (c : Nat) (q : vw_C), vwCl[c]? = some q → u_Kn s q.1 q.2.1 q.2.2 (D.1 c) (D.2 c) := by
  have one : ∀ ci, ci < 6 → ∃ (cC : ClassId) (iS : Nat → Nat), u_Kn s (ev_R ci) (ev_F ci) (ev_N ci) cC iS := by
    intro ci hci
    have hi : Jvm.Cond.instantiable (ev_R ci) (ev_N ci) ∈ ev_WA := by
      match ci, hci with
      | 0, _ => exact w_in_X0
      | 1, _ => exact w_in_X1
      | 2, _ => exact w_in_X2
      | 3, _ => exact w_in_X3
      | 4, _ => exact w_in_X4
      | 5, _ => exact w_in_X5
    exact u_known (n := ev_N ci) (fun w hw => hts w (List.mem_filter.mp hw).1) (ev_wsin hci) (hts _ (List.mem_filter.mp hi).1)
  have h : ∀ ci, ∃ (x : ClassId × (Nat → Nat)), ci < 6 → u_Kn s (ev_R ci) (ev_F ci) (ev_N ci) x.1 x.2 := by
    intro ci
    by_cases hci : ci < 6
    · obtain ⟨a, b, h⟩ := one ci hci
      exact ⟨(a, b), fun _ => h⟩
    · exact ⟨(0, fun _ => 0), fun h => absurd h hci⟩
  refine ⟨(fun c => (h c).choose.1, fun c => (h c).choose.2), fun c q hq => ?_⟩
  have hc : c < 6 := (List.getElem?_eq_some_iff.mp hq).1
  have hq2 := ev_cl hc
  rw [hq] at hq2
  cases hq2
  exact (h c).choose_spec hc
theorem lay_perm {D : va_G} {ct ad : Nat → Nat} {A : Nat → Prop} {H : Heap} {w : List ev_E} (em : Nat → Nat) (w2 : List ev_E) (hP : va_P D vwCl (ev_lay ad ct w) H) (hD : va_D A (ev_lay ad ct w)) (hsel : ev_pick w em 0 w2.length = w2.map (ev_ren em)) (hinj : ∀ i, i < w2.length → ∀ j, j < w2.length → em i = em j → i = j) :
    va_P D vwCl (ev_lay (fun k => ad (em k)) ct w2) H ∧ va_D A (ev_lay (fun k => ad (em k)) ct w2) := by
  have hg := ev_pick_get w2 0 hsel
  have hat : ∀ (k : Nat) (q : Nat × va_E), (ev_lay (fun k => ad (em k)) ct w2)[k]? = some q → k < w2.length ∧ (ev_lay ad ct w)[em k]? = some q := by
    intro k q hq
    obtain ⟨E, h1, h2⟩ := ev_lay_inv hq
    have h3 := hg k E h1
    rw [Nat.zero_add] at h3
    exact ⟨(List.getElem?_eq_some_iff.mp h1).1, by rw [ev_lay_get h3, ev_ce_ren, h2]⟩
  refine ⟨fun k q hq => hP _ q (hat k q hq).2, ⟨fun i j a b hi hj hab => ?_, fun k q hq => hD.2 _ q (hat k q hq).2⟩⟩
  obtain ⟨i1, i2⟩ := hat i a hi
  obtain ⟨j1, j2⟩ := hat j b hj
  exact hinj i i1 j j1 (hD.1 _ _ a b i2 j2 hab)
theorem lay_5 {q : Nat} {ct : Nat → ClassId} : ev_lay (fun _ => q) ct [.inr (5, [.int 0, .null, .null, .null, .int 0, .null, .int 0, .null, .null, .null, .null, .int 0, .int 0, .int 0, .int 0])] = [(q, .inr (5, [.int 0, .null, .null, .null, .int 0, .null, .int 0, .null, .null, .null, .null, .int 0, .int 0, .int 0, .int 0]))] := rfl
theorem mL_fr {nm : String} {t : ev_T} : ev_fr (mL nm t) = 13 := rfl
theorem mL_lo {nm : String} {t : ev_T} : ev_lo (mL nm t) = 500 := rfl
theorem mL_mc {nm : String} {t : ev_T} : ev_mc (mL nm t) = 601024 := rfl
theorem mL_ms {nm : String} {t : ev_T} : ev_ms (mL nm t) = 7293034 := rfl
theorem one_D {q : Nat} {E : va_E} : va_D (fun _ => True) [(q, E)] := by
  refine ⟨fun i j a b hi hj _ => ?_, fun _ _ _ => trivial⟩
  have h1 := (List.getElem?_eq_some_iff.mp hi).1
  have h2 := (List.getElem?_eq_some_iff.mp hj).1
  simp only [List.length_cons, List.length_nil] at h1 h2
  omega
theorem WLW_len (S : S_X6) (f : Nat → Int64) (w : S_X5) : (WLW S f w).length = 150 := by
  unfold WLW
  rw [List.length_append, WL_len, WM_len]
theorem REL_start {S : S_X6} {w : S_X5} (z : Z_X6 S) (z5 : Z_X5 w) : REL 0 S w := by
  obtain ⟨⟨a1, a2, a3, a4, a5, a6, a7, a8, a9, a10, a11, a12, a13, a14, a15⟩, b1, b2, b3, -⟩ := z
  obtain ⟨c1, c2, c3, c4, c5⟩ := z5
  exact REL_0 (WX_0 a1 a2 a3 a4 a5 a6 a7 a8 (fun t _ => a9 t) (fun t _ => a10 t) a11 a12 a13 (fun t _ => a14 t) (fun t _ => a15 t) c1 c2 c3) b1 c4 b2 c5 b3
theorem th_all_in : ∀ w ∈ th_all, w ∈ lw_tbl := by
  intro w hw
  have key : ∀ k, k < 3 → ∀ w ∈ th_ws k, w ∈ lw_tbl := fun k hk w hw => of_decide_eq_true ((Bool.and_eq_true _ _).mp (List.all_eq_true.mp (List.all_eq_true.mp th_in k (List.mem_range.mpr hk)) w hw)).1
  unfold th_all at hw
  rcases List.mem_append.mp hw with h | h
  · exact key 0 (by omega) w h
  · rcases List.mem_append.mp h with h | h
    · exact key 1 (by omega) w h
    · exact key 2 (by omega) w h
set_option maxHeartbeats 8000000 in
set_option maxRecDepth 100000 in
theorem ws_tail {p : Program} {l : Launch} {e : Env} {s : State} {m : MethodId} {below : List Frame} {meth : Method} {c : Code} (hflags : l.flags = flags0) {b L : Nat} {xs : Nat → Int32} (hL : L ≤ 2048) (hr : meth.sig.returnType = ret) (hX : va_X b L xs s s.heap) (hbl : b < s.heap.size) (hts : ∀ w ∈ lw_tbl, w.before #[Value.ref b] s = true) (hgv : (Jvm.Cond.and given_1 narrow_1).before #[Value.ref b] s = true)
    {D : va_G} {ct ad1 ad2 : Nat → Nat} (hK : va_K D vwCl (ev_tys ct) s) (hfix : ev_Fix (mL meth.name []) p room_1 s m #[Value.ref b] meth c) {S : S_X6} {w5 : S_X5} (hz : Z_X6 S) (hz5 : Z_X5 w5) {q : Nat} {H3 : Heap} {locs2 : List Loc} {ls : Array Slot} (he2 : ∀ k, k < 140 → ad2 k = ad1 k)
    (hP3 : va_P D vwCl (ev_lay ad2 ct (W_X6 S ++ (W_X5 w5).map (ev_ren fun k => 140 + k)) ++ [(q, .inl (ct 1, (1, .inr (.inl fun _ => 0))))]) H3) (hD3 : va_D (LAq s) (ev_lay ad2 ct (W_X6 S ++ (W_X5 w5).map (ev_ren fun k => 140 + k)) ++ [(q, .inl (ct 1, (1, .inr (.inl fun _ => 0))))])) (hS3 : va_S (LAq s) s.heap H3 locs2) (hl : lv_has ls 9 [(4, .int 0), (3, .ref q), (2, .ref (ad2 140)), (1, .ref (ad1 0)), (0, .ref b)]) {kc ks : Nat} (hkc : kc ≤ 1000) (hks : ks ≤ 1000000) : W p l e room_1 s m #[Value.ref b] below meth c H3 locs2 kc ks (lw_Z below #[Value.ref b] s) (F0 m 23 ls []) := by
  have hA : ∀ q, s.heap.size ≤ q → LAq s q := fun _ h => h
  have hlen9 : (W_X6 S ++ (W_X5 w5).map (ev_ren fun k => 140 + k)).length = 149 := by rw [List.length_append, W6_len]; rfl
  have hbW9 : ev_bW 149 (W_X6 S ++ (W_X5 w5).map (ev_ren fun k => 140 + k)) := ev_bW_app (ev_bW_mono (by decide) (bW_X6 hz.2.2.2.2)) (bW_5 w5)
  have I3 := ev_I2_push (μ := mL meth.name []) (ad0 := ad2) (n0 := 0) (L := []) (ls := ls) (E := .inl (1, 1, .inr (.inl fun _ => 0))) (Nat.zero_le _) rfl (by rw [hlen9]; exact hbW9) (fun _ => rfl) hP3 hD3 hS3 (fun k hk => absurd hk (Nat.not_lt_zero k)) ⟨hl.1, hl.2.1, fun i v hv => by cases i <;> cases hv⟩
  rw [hlen9] at I3
  obtain ⟨hP4, hD4⟩ := lay_perm emL (WLW S (fun _ => 0) w5) I3.1 I3.2.1 (by rw [WLW_len, permL hz.2.2.2.2]; exact pickL _ _ _ (W6_len S) rfl) (by rw [WLW_len]; exact emL_inj)
  obtain ⟨ad0, had0⟩ : ∃ f : Nat → Nat, f = fun k => if k = 999 then b else ev_adx ad2 149 q (emL k) := ⟨_, rfl⟩
  have a9 : ad0 999 = b := by rw [had0]; exact if_pos rfl
  have alt : ∀ k, k < 150 → ad0 k = ev_adx ad2 149 q (emL k) := fun k hk => by rw [had0]; exact if_neg (by omega)
  have a0 : ad0 0 = ad1 0 := by rw [alt 0 (by decide)]; exact (ev_adx_lt 0 (by decide)).trans (he2 0 (by decide))
  have a141 : ad0 141 = ad2 140 := by rw [alt 141 (by decide)]; exact ev_adx_lt 140 (by decide)
  have a140 : ad0 140 = q := by rw [alt 140 (by decide)]; exact ev_adx_at
  have elay : ev_lay ad0 ct (WLW S (fun _ => 0) w5) = ev_lay (fun k => ev_adx ad2 149 q (emL k)) ct (WLW S (fun _ => 0) w5) := ev_bW_lay alt (by rw [WLW_len]; exact Nat.le_refl _) (ev_bW_app (ev_bW_app (ev_bW_mono (by decide) (bW_X6 hz.2.2.2.2)) ⟨trivial, trivial⟩) (bW_5o w5))
  have hi0 : nI (4 * 0) = 0 := nI_0
  have hLH : ev_LH ad0 ls 9 (L0 (nI (4 * 0))) := by
    refine ev_LH.of hl (fun i v hv => ?_)
    rw [hi0] at hv
    match i, hv with
    | 0, hv => cases hv; show (0, Value.ref (ad0 999)) ∈ _; rw [a9]; simp
    | 1, hv => cases hv; show (1, Value.ref (ad0 0)) ∈ _; rw [a0]; simp
    | 2, hv => cases hv; show (2, Value.ref (ad0 141)) ∈ _; rw [a141]; simp
    | 3, hv => cases hv; show (3, Value.ref (ad0 140)) ∈ _; rw [a140]; simp
    | 4, hv => cases hv; show (4, Value.int 0) ∈ _; simp
    | 5, hv => cases hv
    | 6, hv => cases hv
    | 7, hv => cases hv
    | 8, hv => cases hv
    | _ + 9, hv => cases hv
  have hstk : l.stackTraces = false := stk_off hflags
  have hth : ∀ w ∈ th_all, w.before #[Value.ref b] s = true := fun w hw => hts w (th_all_in w hw)
  have hex : ∀ w ∈ th_ex, w.before #[Value.ref b] s = true := fun w hw => hts w (of_decide_eq_true ((Bool.and_eq_true _ _).mp (List.all_eq_true.mp th_ex_in w hw)).1)
  have C : LC p l s m b meth c D ct ad0 L xs := ⟨⟨rfl, hfix, hK, hA⟩, ⟨hX, hbl, a9⟩, hstk, hth, hex, th_G_start hts hgv ⟨_, (hK.1 4 (RX4, TX4, 6) rfl).2.1⟩ (fun a ha => Nat.not_le.mpr ha)⟩
  have hloop := law_loop (e := e) (below := below) (F := 6401) (by decide) C hr hL 512 0 S w5 (fun _ => 0) 1000 1000000 rfl (REL_start hz hz5) (Nat.le_of_ble_eq_true rfl) (Nat.le_of_ble_eq_true rfl)
  refine W.widen (k := 1000) (n := 1000000) hkc hks ?_
  exact hloop ad0 H3 locs2 ls ⟨by rw [elay]; exact hP4, by rw [elay]; exact hD4, hS3, rfl, hLH⟩
set_option maxHeartbeats 8000000 in
set_option maxRecDepth 100000 in
/-- YOUR PART: from the entry, for every script of at most 2048 ints, the law comes to its end with true -/
theorem whole_start {p : Program} {e : Env} {s : State} {m : MethodId} {below : List Frame} {meth : Method} {c : Code} (l : Launch) (hflags : l.flags = flags0) {b L : Nat} {xs : Nat → Int32} (hL : L ≤ 2048) (C0 : lw_At p s m meth c b L xs) : W p l e room_1 s m #[Value.ref b] below meth c s.heap [] 0 0 (lw_Z below #[Value.ref b] s) (entryFrame m ([Value.ref b] : List Value).toArray 9) := by
  obtain ⟨hx, hb, hr, hml, hown, hts, hX, hbl, hlocks, hgv⟩ := C0
  have hO : va_AO "GossipCounts$World" s := va_AO.of (hts (.arrayOver (.object "GossipCounts$World")) (List.mem_of_getElem? (i := 210) (by decide +kernel)))
  obtain ⟨D, hKc⟩ := cls_D hts
  obtain ⟨ct, hKt⟩ := tys_ct hts hO
  have hK : va_K D vwCl (ev_tys ct) s := ⟨hKc, hKt⟩
  have hA : ∀ q, s.heap.size ≤ q → LAq s q := fun _ h => h
  have hS : va_S (LAq s) s.heap s.heap [] := va_S.rf
  have hW : ∀ w ∈ ev_WA, w.before #[Value.ref b] s = true := fun w hw => hts w (List.mem_filter.mp hw).1
  have hfix : ev_Fix (mL meth.name []) p room_1 s m #[Value.ref b] meth c := ⟨hx, hb, hml, hr, hown, hW, hlocks, rfl, by rw [mL_fr]; exact Nat.le_of_ble_eq_true rfl, by rw [mL_lo]; exact Nat.le_of_ble_eq_true rfl, by rw [mL_mc]; exact Nat.le_of_ble_eq_true rfl, by rw [mL_ms]; exact Nat.le_of_ble_eq_true rfl⟩
  have I0 : ev_I0 (mL meth.name tL_start) p room_1 s m #[Value.ref b] meth c D ct (LAq s) := ⟨oL_start _, hfix, hK, hA⟩
  have d7 : decode cL_law 7 = .ok (.astore_n 1, 1) := (ev_use (μ := mL meth.name tL_start) (oL_start _) (pc := 7) (ins := .astore_n 1) rfl).1
  have d15 : decode cL_law 15 = .ok (.astore_n 2, 1) := (ev_use (μ := mL meth.name tL_start) (oL_start _) (pc := 15) (ins := .astore_n 2) rfl).1
  have d16 : decode cL_law 16 = .ok (.iconst 1, 1) := (ev_use (μ := mL meth.name tL_start) (oL_start _) (pc := 16) (ins := .iconst 1) rfl).1
  have d17 : decode cL_law 17 = .ok (.newarray .long, 2) := (ev_use (μ := mL meth.name tL_start) (oL_start _) (pc := 17) (ins := .newarray .long) rfl).1
  have d19 : decode cL_law 19 = .ok (.astore_n 3, 1) := (ev_use (μ := mL meth.name tL_start) (oL_start _) (pc := 19) (ins := .astore_n 3) rfl).1
  have d20 : decode cL_law 20 = .ok (.iconst 0, 1) := (ev_use (μ := mL meth.name tL_start) (oL_start _) (pc := 20) (ins := .iconst 0) rfl).1
  have d21 : decode cL_law 21 = .ok (.istore 4, 2) := (ev_use (μ := mL meth.name tL_start) (oL_start _) (pc := 21) (ins := .istore 4) rfl).1
  have hl := lv_entry ([Value.ref b]) (n := 9) (Nat.le_of_ble_eq_true rfl)
  rw [lg_entry_eq]
  generalize (lg_sl ([Value.ref b]) ++ List.replicate (9 - (lg_sl ([Value.ref b])).length) Slot.unset).toArray = ls at hl ⊢
  have hl : lv_has ls 9 [(0, .ref b)] := hl
  have hP : va_P D vwCl (ev_lay (fun k => k) ct []) s.heap := fun k q h => by simp [ev_lay] at h
  have hD : va_D (LAq s) (ev_lay (fun k => k) ct []) := ⟨fun i j p q h => by simp [ev_lay] at h, fun k q h => by simp [ev_lay] at h⟩
  refine mk_W (μ := mL meth.name tL_start) (μc := mn_X4_init) (pc := 0) (w := []) (ad := fun k => k) (PcF := fun q sz => ev_PcO D ct (fun _ => q) sz [.ref 0] w0_X4) (post := P_X6) (ci := 4) (fs := [.null, .null, .null, .null, .int 0, .null]) I0 (fun q sz => ?_) (fun q H1 hPq => ?_) (by decide) cn_X4_init rfl w_lw_88 rfl rfl rfl w_cl_L_8 w_in_X4 w_id_X4 df_X4 ⟨by rw [mL_fr]; rfl, by rw [mL_lo]; rfl⟩ ⟨by rw [mL_mc]; rfl, by rw [mL_ms]; rfl⟩ hP hD hS hl.1 0 rfl trivial (by decide) (fun r w h => h.1) (fun w' ad1 H1 locs1 hp1 he1 hP1 hD1 hS1 => ?_)
  · have elay : ev_lay (fun _ => q) ct w0_X4 = [(q, .inr (4, [.null, .null, .null, .null, .int 0, .null]))] := rfl
    have := tO_X4_init l D ct (fun _ => q) sz
    rw [elay] at this
    exact this
  · have elay : ev_lay (fun _ => q) ct w0_X4 = [(q, .inr (4, [.null, .null, .null, .null, .int 0, .null]))] := rfl
    exact ⟨ev_blindO, fun U hU hWu => ⟨⟨rfl, by rw [hU], by rw [elay, hU]; exact hPq, va_K.moved hWu.alike hK, by rw [elay]; exact one_D⟩, va_AO.moved hWu.alike hO⟩⟩
  obtain ⟨-, S, hz, rfl⟩ := hp1
  have e1 : ([] : List ev_E) ++ (W_X6 S).map (ev_ren fun k => 0 + k) = W_X6 S := by
    rw [List.nil_append, show (fun k => 0 + k) = (fun k : Nat => k) from funext Nat.zero_add, ev_map_id]
  rw [e1] at hP1 hD1
  refine lv_astore_n (lv' := [(1, .ref (ad1 0)), (0, .ref b)]) hx hb d7 rfl hl (by decide) rfl (fun ls hl => ?_)
  refine mk_W (μ := mL meth.name tL_start) (μc := mn_X5_init) (pc := 8) (w := W_X6 S) (ad := ad1) (PcF := fun q sz => ev_Pc D ct (fun _ => q) sz [.ref 0] [.inr (5, [.int 0, .null, .null, .null, .int 0, .null, .int 0, .null, .null, .null, .null, .int 0, .int 0, .int 0, .int 0])]) (post := fun r w => r = none ∧ ∃ u : S_X5, Z_X5 u ∧ w = W_X5 u) (ci := 5) (fs := [.int 0, .null, .null, .null, .int 0, .null, .int 0, .null, .null, .null, .null, .int 0, .int 0, .int 0, .int 0]) I0 (fun q sz => ?_) (fun q H2 hPq => ?_) (by decide) cn_X5_init rfl w_lw_91 rfl rfl rfl w_cl_L_89 w_in_X5 w_id_X5 df_X5 ⟨by rw [mL_fr]; rfl, by rw [mL_lo]; rfl⟩ ⟨by rw [mL_mc]; rfl, by rw [mL_ms]; rfl⟩ hP1 hD1 hS1 hl.1 140 (W6_len S) (bW_X6 hz.2.2.2.2) (by decide) (fun r w h => h.1) (fun w' ad2 H2 locs2 hp2 he2 hP2 hD2 hS2 => ?_)
  · have := tn_X5_init l D ct (fun _ => q) sz
    rw [lay_5] at this
    exact this
  · exact ⟨ev_blind, fun U hU hWu => ⟨rfl, by rw [hU], by rw [lay_5, hU]; exact hPq, va_K.moved hWu.alike hK, by rw [lay_5]; exact one_D⟩⟩
  obtain ⟨-, w5, hz5, rfl⟩ := hp2
  refine lv_astore_n (lv' := [(2, .ref (ad2 140)), (1, .ref (ad1 0)), (0, .ref b)]) hx hb d15 rfl hl (by decide) rfl (fun ls hl => ?_)
  refine lv_iconst (v := 1) hx hb d16 (by decide) ?_
  refine va_newa (atype := .long) (ty := .long) (a0 := (1, .inr (.inl fun _ => 0))) (N' := 1) hx hb (hW _ w_long) rfl hK hP2 hD2 hS2 hA (fun _ => rfl) (by decide) (by decide +kernel) (by decide) (Nat.le_of_ble_eq_true rfl) (Nat.le_of_ble_eq_true rfl) d17 (fun q cA H3 hK3 hP3 hD3 hS3 => ?_)
  have hcA : cA = ct 1 := by
    have h1 := (hK3.2 3 (cA, .long) rfl).2
    have h2 := (hK.2 1 (ct 1, .long) rfl).2
    exact Option.some.inj (h1.symm.trans h2)
  subst hcA
  refine lv_astore_n (lv' := [(3, .ref q), (2, .ref (ad2 140)), (1, .ref (ad1 0)), (0, .ref b)]) hx hb d19 rfl hl (by decide) rfl (fun ls hl => ?_)
  refine lv_iconst (v := 0) hx hb d20 (by decide) ?_
  refine lv_istore (lv' := [(4, .int 0), (3, .ref q), (2, .ref (ad2 140)), (1, .ref (ad1 0)), (0, .ref b)]) hx hb d21 hl (by decide) rfl (fun ls hl => ?_)
  exact ws_tail hflags hL hr hX hbl hts hgv hK hfix hz hz5 he2 hP3 hD3 hS3 hl (Nat.le_of_ble_eq_true rfl) (Nat.le_of_ble_eq_true rfl)
