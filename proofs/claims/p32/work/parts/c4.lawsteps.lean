/-! ===== the law's body: its steps ===== -/
def LAq (s : State) : Nat → Prop := fun q => s.heap.size ≤ q
def LV (p : Program) (l : Launch) (e : Env) (s : State) (m : MethodId) (b : Nat) (below : List Frame) (meth : Method) (c : Code) (D : va_G) (ct ad0 : Nat → Nat) (pc : Nat) (L : ev_L) (st : List Value) (w : List ev_E) (kc ks : Nat) : Prop :=
  ev_k2 (mL meth.name []) p l e room_1 s m #[Value.ref b] below meth c D ct ad0 (LAq s) none (lw_Z below #[Value.ref b] s) pc L st w kc ks
/-- what stays over the loop -/
def LC (p : Program) (l : Launch) (s : State) (m : MethodId) (b : Nat) (meth : Method) (c : Code) (D : va_G) (ct ad0 : Nat → Nat) (Ln : Nat) (xs : Nat → Int32) : Prop :=
  ev_I0 (mL meth.name []) p room_1 s m #[Value.ref b] meth c D ct (LAq s) ∧ (va_X b Ln xs s s.heap ∧ b < s.heap.size ∧ ad0 999 = b) ∧ l.stackTraces = false ∧ (∀ w ∈ th_all, w.before #[Value.ref b] s = true) ∧ (∀ w ∈ th_ex, w.before #[Value.ref b] s = true) ∧ th_G (LAq s) s
theorem th_G.at {A A' : Nat → Prop} {s U : State} {H : Heap} {locs : List Loc} (h : th_G A s) (hS : va_S A s.heap H locs) (hU : U.heap = H) (hW : s.WarmedH U.vm) (hA : ∀ q, A' q → A q) : th_G A' U := ⟨h.1.at hS hU hW hA, fun i hi j hj hij => va_Nc.moved hW.alike (h.2 i hi j hj hij)⟩
theorem th_blindH {D : va_G} {ct ad : Nat → Nat} {sz : Nat} {as : List Value} {w : List ev_E} {A : Nat → Prop} : FrameBlind (ev_PcH D ct ad sz as w A) := fun a U g mk q => by
  obtain ⟨q0, q1, qP, qK, qD, qT⟩ := q
  have h := th_blind (D := D) (ct := ct) (ad := ad) (sz := sz) (as := as) (w := w) (A := A) a U g mk ⟨q0, q1, qP, qK, qD, qT.1⟩
  exact ⟨h.1, h.2.1, h.2.2.1, h.2.2.2.1, h.2.2.2.2.1, h.2.2.2.2.2, fun i hi j hj hij => va_Nc.moved (u := U) (U := U.calling g mk a) (Vm.Alike.refl U.vm) (qT.2 i hi j hj hij)⟩
theorem ev_payH {y : MethodName} {μ : ev_M} {hh : List (Nat × Nat × Nat × Nat)} {args : Array Value} {s : State} (hts : ∀ w ∈ ev_WA, w.before args s = true) (hth : ∀ w ∈ th_all, w.before args s = true) (hex : ∀ w ∈ th_ex, w.before args s = true) (h : Jvm.Cond.codeWith y (ev_cc μ) (ev_nL μ) (ev_rt μ) hh ∈ ev_WA) : ∀ w ∈ ev_wsH y μ hh, ∀ (a' : Array Value) (U : State), s.WarmedH U.vm → w.before a' U = true := by
  intro w hw a' U hW
  have good : ∀ w ∈ ev_WA, w.before a' U = true := fun w hw => ev_okw_warm (List.mem_filter.mp hw).2 hW (hts w hw)
  rcases List.mem_cons.mp hw with rfl | hw
  · exact good _ h
  · rcases List.mem_append.mp hw with hw | hw
    · exact good _ hw
    · rcases List.mem_append.mp hw with hw | hw
      · exact th_warm (th_ot_warm hw) hW (hth w hw)
      · exact th_warm ((Bool.and_eq_true _ _).mp (List.all_eq_true.mp th_ex_in w hw)).2 hW (hex w hw)
section LAWS
variable {p : Program} {l : Launch} {e : Env} {s : State} {m : MethodId} {b : Nat} {below : List Frame} {meth : Method} {c : Code} {D : va_G} {ct ad0 : Nat → Nat} {Ln : Nat} {xs : Nat → Int32}
theorem LV_of {t : ev_T} (ho : ∀ nm, ev_OK (mL nm t)) (C : LC p l s m b meth c D ct ad0 Ln xs) {X : ev_X} {pc : Nat} {L : ev_L} {st : List Value} {w : List ev_E} {kc ks : Nat} (h : ev_V (mL meth.name t) none X pc L st w kc ks) (hx : ∀ pc' L' st' w' kc' ks', X pc' L' st' w' kc' ks' → LV p l e s m b below meth c D ct ad0 pc' L' st' w' kc' ks') : LV p l e s m b below meth c D ct ad0 pc L st w kc ks :=
  h p l e room_1 s m #[Value.ref b] below meth c D ct ad0 (LAq s) _ ⟨ho meth.name, C.1.2⟩ hx
theorem LV_run {t : ev_T} (ho : ∀ nm, ev_OK (mL nm t)) (C : LC p l s m b meth c D ct ad0 Ln xs) (cuts : List Nat) (n : Nat) {pc : Nat} {L : ev_L} {st : List Value} {w : List ev_E} {kc ks : Nat} {cs : List Prop} {pc' : Nat} {L' : ev_L} {st' : List Value} {w' : List ev_E} (h : ev_fO (ev_go t cuts n [] pc L st w) = (cs, pc', L', st', w')) (hc : ev_all cs)
    (k : LV p l e s m b below meth c D ct ad0 pc' L' st' w' kc ks) : LV p l e s m b below meth c D ct ad0 pc L st w kc ks :=
  LV_of ho C (ev_run (μ := mL meth.name t) (X := fun a1 a2 a3 a4 a5 a6 => a1 = pc' ∧ a2 = L' ∧ a3 = st' ∧ a4 = w' ∧ a5 = kc ∧ a6 = ks) cuts n h hc (ev_exit ⟨rfl, rfl, rfl, rfl, rfl, rfl⟩)) fun _ _ _ _ _ _ hX => by
    obtain ⟨rfl, rfl, rfl, rfl, rfl, rfl⟩ := hX
    exact k
theorem LV_br {t : ev_T} (ho : ∀ nm, ev_OK (mL nm t)) (C : LC p l s m b meth c D ct ad0 Ln xs) {pc : Nat} {L : ev_L} {st : List Value} {w : List ev_E} {kc ks : Nat} {ins : Instr} {nx k x y : Nat} {v : Value} {P N : Prop} {r : List Value} (hlk : ev_look t pc = some (ins, nx, k, x, y, v)) (ht : ev_test ins st = some (P, N, r))
    (kt : P → LV p l e s m b below meth c D ct ad0 x L r w kc ks) (kf : N → LV p l e s m b below meth c D ct ad0 nx L r w kc ks) : LV p l e s m b below meth c D ct ad0 pc L st w kc ks :=
  LV_of ho C (ev_br (μ := mL meth.name t) (X := fun a1 a2 a3 a4 a5 a6 => ((P ∧ a1 = x) ∨ (N ∧ a1 = nx)) ∧ a2 = L ∧ a3 = r ∧ a4 = w ∧ a5 = kc ∧ a6 = ks) hlk ht (fun h => ev_exit ⟨Or.inl ⟨h, rfl⟩, rfl, rfl, rfl, rfl, rfl⟩) (fun h => ev_exit ⟨Or.inr ⟨h, rfl⟩, rfl, rfl, rfl, rfl, rfl⟩)) fun _ _ _ _ _ _ hX => by
    obtain ⟨⟨h, rfl⟩ | ⟨h, rfl⟩, rfl, rfl, rfl, rfl, rfl⟩ := hX
    · exact kt h
    · exact kf h
theorem LV_nx {pc pc' : Nat} {L : ev_L} {st st' : List Value} {w w' : List ev_E} {kc ks kc' ks' : Nat} (h1 : pc = pc') (h2 : st = st') (h3 : w = w') (h4 : kc = kc') (h5 : ks = ks') (k : LV p l e s m b below meth c D ct ad0 pc' L st' w' kc' ks') : LV p l e s m b below meth c D ct ad0 pc L st w kc ks := by subst h1; subst h2; subst h3; subst h4; subst h5; exact k
theorem LV_weak {pc : Nat} {L L' : ev_L} {st : List Value} {w : List ev_E} {kc ks : Nat} (hw : ∀ i v, ev_nth L' i = some v → ev_nth L i = some v) (k : LV p l e s m b below meth c D ct ad0 pc L' st w kc ks) : LV p l e s m b below meth c D ct ad0 pc L st w kc ks :=
  fun ad H locs ls I => k ad H locs ls ⟨I.1, I.2.1, I.2.2.1, I.2.2.2.1, I.2.2.2.2.1, I.2.2.2.2.2.1, fun i v hv => I.2.2.2.2.2.2 i v (hw i v hv)⟩
theorem LV_up {pc : Nat} {L : ev_L} {st : List Value} {w : List ev_E} {kc ks kc' ks' : Nat} (h1 : kc ≤ kc') (h2 : ks ≤ ks') (k : LV p l e s m b below meth c D ct ad0 pc L st w kc' ks') : LV p l e s m b below meth c D ct ad0 pc L st w kc ks :=
  fun ad H locs ls I => W.widen h1 h2 (k ad H locs ls I)
theorem LV_sld {t : ev_T} (ho : ∀ nm, ev_OK (mL nm t)) (C : LC p l s m b meth c D ct ad0 Ln xs) {pc nx k x y : Nat} {v : Value} {L : ev_L} {rest : List Value} {w : List ev_E} {kc ks : Nat} {i : Int32} (hlk : ev_look t pc = some (.iaload, nx, k, x, y, v)) (hin : vp_in i Ln)
    (kk : LV p l e s m b below meth c D ct ad0 (pc + 1) L (.int (xs i.toNatClampNeg) :: rest) w kc ks) : LV p l e s m b below meth c D ct ad0 pc L (.int i :: .ref 999 :: rest) w kc ks := by
  intro ad H locs ls I
  obtain ⟨⟨hok, ⟨hx, hb, -⟩, -⟩, ⟨hX, hbl, h9⟩, -⟩ := C
  obtain ⟨hd, -, -⟩ := ev_use (μ := mL meth.name t) (ho _) hlk
  have he : ad = ad0 := I.2.2.2.1
  have eqs : ([Value.int i, .ref 999] ++ rest).map (ev_cv ad) = .int i :: .ref b :: rest.map (ev_cv ad) := by
    show Value.int i :: .ref (ad 999) :: rest.map (ev_cv ad) = _
    rw [he, h9]
  show W p l e room_1 s m #[Value.ref b] below meth c H locs kc ks _ (F0 m pc ls (([Value.int i, .ref 999] ++ rest).map (ev_cv ad)))
  rw [eqs]
  exact va_sld hx hb hX hbl (A := LAq s) (Nat.not_le.mpr hbl) I.2.2.1 hin hd (kk ad H locs ls I)
theorem LV_slen {t : ev_T} (ho : ∀ nm, ev_OK (mL nm t)) (C : LC p l s m b meth c D ct ad0 Ln xs) {pc nx k x y : Nat} {v : Value} {L : ev_L} {rest : List Value} {w : List ev_E} {kc ks : Nat} (hlk : ev_look t pc = some (.arraylength, nx, k, x, y, v))
    (kk : LV p l e s m b below meth c D ct ad0 (pc + 1) L (.int (nI Ln) :: rest) w kc ks) : LV p l e s m b below meth c D ct ad0 pc L (.ref 999 :: rest) w kc ks := by
  intro ad H locs ls I
  obtain ⟨⟨hok, ⟨hx, hb, -⟩, -⟩, ⟨hX, hbl, h9⟩, -⟩ := C
  obtain ⟨hd, -, -⟩ := ev_use (μ := mL meth.name t) (ho _) hlk
  have he : ad = ad0 := I.2.2.2.1
  have eqs : ([Value.ref 999] ++ rest).map (ev_cv ad) = .ref b :: rest.map (ev_cv ad) := by
    show Value.ref (ad 999) :: rest.map (ev_cv ad) = _
    rw [he, h9]
  show W p l e room_1 s m #[Value.ref b] below meth c H locs kc ks _ (F0 m pc ls (([Value.ref 999] ++ rest).map (ev_cv ad)))
  rw [eqs]
  exact va_slen hx hb hX hbl (A := LAq s) (Nat.not_le.mpr hbl) I.2.2.1 hd (kk ad H locs ls I)
set_option maxHeartbeats 1000000 in
/-- one of the law's small methods is called, on the first of the law's cells -/
theorem LV_callH {t : ev_T} (ho : ∀ nm, ev_OK (mL nm t)) (C : LC p l s m b meth c D ct ad0 Ln xs) {μc : ev_M} {yc : MethodName} {hh : List (Nat × Nat × Nat × Nat)} {pc idx nx k x yy n : Nat} {v : Value} {L : ev_L} {st rest as1 : List Value} {w wc tl : List ev_E} {kc ks : Nat} {post : Option Value → List ev_E → Prop}
    (hM : ev_AH yc μc hh as1 wc post) (cw : ev_CW yc μc hh n) (hl : Jvm.Cond.methodLink RL idx yc ∈ ev_WA) (hlk : ev_look t pc = some (.invokestatic idx, nx, k, x, yy, v)) (hw : w = wc ++ tl) (hst : as1.reverse ++ rest = st) (hn : as1.length = n) (hW : Nat.ble (rest.map fun v => v.category).sum 8 = true)
    (hroom : Nat.ble ((ev_rmH μc).frames + 1) 11 = true ∧ Nat.ble (8 + (ev_nL μc + 11) + (ev_rmH μc).locals) 470 = true) (hmc : kc + 1 ≤ 600130 ∧ ks + 6 ≤ 7301080) (hlen : ∀ r w', post r w' → w'.length = wc.length)
    (kk : ∀ r w', post r w' → LV p l e s m b below meth c D ct ad0 (pc + 3) L (r.toList ++ rest) (w' ++ tl) (kc + 1) (ks + 6)) : LV p l e s m b below meth c D ct ad0 pc L st w kc ks := by
  subst hst
  intro ad H locs ls I
  obtain ⟨⟨hok, ⟨hx, hb, hml, hr, hown, hts, hlocks, hnm, hR1, hR2, hR3, hR4⟩, hK, hA⟩, -, hstk, hth, hex, hG⟩ := C
  obtain ⟨hP, hD, hS, hE, hL⟩ := I
  obtain ⟨hd, -, -⟩ := ev_use (μ := mL meth.name t) (ho _) hlk
  have hsel := ev_pick_pre hw
  obtain ⟨hPc, hDc, hFc⟩ := ev_cut (em := fun k => k) (H := H) (locs := locs) (s := s) hP hD hA hS hsel (fun i _ j _ h => h)
  obtain ⟨w1, w2, w3, w5⟩ := cw
  have hlen2 : ∀ sig, parseMethodDescriptor yc.desc = some sig → n = sig.parameters.length := by
    intro sig h
    have h2 := w5.2.2
    rw [h] at h2
    exact (Option.some.inj h2).symm
  have hf := Nat.le_of_ble_eq_true hroom.1
  have ho := Nat.le_of_ble_eq_true hroom.2
  have hrun := vx_runSW (R := room_1) (l := l) (e := e) (below := below) (meth := meth) (locs := locs) (H := H) (cells := kc) (slots := ks) (As := as1.map (ev_cv ad)) (rest := rest.map (ev_cv ad)) (g := F0 m pc ls ((as1.map (ev_cv ad)).reverse ++ rest.map (ev_cv ad))) ⟨hx, hb, hml, hown, hts⟩ (hM l hstk D ct ad H.size)
    ⟨⟨rfl, rfl, Nat.le_trans hf hR1, Nat.le_trans ho hR2, ev_payH hts hth hex w1, List.mem_cons_self⟩, hts _ w1, hts _ w2, ⟨w5.1, w5.2.1⟩, hlen2, hts _ hl, hts _ w3⟩
    ⟨th_blindH, fun U hU hWu => ⟨rfl, by rw [hU], by rw [hU]; exact hPc, va_K.moved hWu.alike hK, hDc, hG.at hS hU hWu hFc⟩⟩ rfl (by rw [List.length_map]; exact hn) hL.1 rfl (by
      show 2 * 0 + ((rest.map (ev_cv ad)).map fun v => v.category).sum ≤ 8
      rw [ev_sum_cat]
      have := Nat.le_of_ble_eq_true hW
      omega) hd ⟨Nat.le_trans hmc.1 hR3, Nat.le_trans hmc.2 hR4⟩
  have e1 : (as1.reverse ++ rest).map (ev_cv ad) = (as1.map (ev_cv ad)).reverse ++ rest.map (ev_cv ad) := by
    rw [List.map_append, List.map_reverse]
  rw [e1]
  refine ev_back hrun hS hFc hFc fun r w' ad' H1 locs1 hp hn' hP1 hD1 hz hk hS1 => ?_
  have hn2 : ad' = ad := hn'
  subst hn2
  obtain ⟨hP2, hD2⟩ := ev_paste (em := fun k => k) hP hD hsel (hlen r w' hp) hP1 hk
  have e2 : ev_putm (fun k => k) w 0 w' = w' ++ tl := by
    rw [ev_putm_row w' w 0 0 (fun i _ => rfl) (by rw [hw, List.length_append, hlen r w' hp]; omega), ev_map_id]
    unfold ev_sput
    rw [List.take_zero, Nat.zero_add, hlen r w' hp, hw, List.drop_left]
    rfl
  rw [e2] at hP2 hD2
  have := kk r w' hp ad' H1 locs1 ls ⟨hP2, hD2, hS1, hE, hL⟩
  rw [List.map_append] at this
  cases r with
  | none => exact this
  | some z => exact this
theorem LV_end {t : ev_T} (ho : ∀ nm, ev_OK (mL nm t)) (C : LC p l s m b meth c D ct ad0 Ln xs) {pc nx k x y : Nat} {v : Value} {L : ev_L} {w : List ev_E} {kc ks : Nat} (hr : meth.sig.returnType = ret) (hlk : ev_look t pc = some (.ireturn, nx, k, x, y, v)) (h1 : kc ≤ 600130) (h2 : ks ≤ 7301080) : LV p l e s m b below meth c D ct ad0 pc L [.int 1] w kc ks := by
  intro ad H locs ls I
  obtain ⟨⟨hok, ⟨hx, hb, hml, -, hown, hts, hlocks, -⟩, hK, hA⟩, -⟩ := C
  obtain ⟨hd, -, -⟩ := ev_use (μ := mL meth.name t) (ho _) hlk
  refine va_forget (fun q hq => I.2.2.1.2.2 q hq) ?_
  refine W.widen h1 h2 ?_
  exact lw_ret (d0 := s.drawn) (Drawn.sameBut.refl s.drawn lw_cs) hx hb hr hlocks hd
end LAWS
