/-! the class's own constructor as a contract: it asks of the tables that an array of its worlds can be made -/
def ev_PcO (D : va_G) (ct : Nat → ClassId) (ad : Nat → Nat) (sz : Nat) (as : List Value) (w : List ev_E) : Array Value → State → Prop := fun a U => ev_Pc D ct ad sz as w a U ∧ va_AO "GossipCounts$World" U
theorem ev_blindO {D : va_G} {ct ad : Nat → Nat} {sz : Nat} {as : List Value} {w : List ev_E} : FrameBlind (ev_PcO D ct ad sz as w) := fun a U g mk q => ⟨ev_blind a U g mk q.1, va_AO.moved (u := U) (U := U.calling g mk a) (Vm.Alike.refl U.vm) q.2⟩
def P_X6 : Option Value → List ev_E → Prop := fun r w => r = none ∧ ∃ S : S_X6, Z_X6 S ∧ w = W_X6 S
def w0_X4 : List ev_E := [.inr (4, [.null, .null, .null, .null, .int 0, .null])]
set_option maxRecDepth 20000 in
set_option maxHeartbeats 4000000 in
theorem tO_X4_init (l : Launch) (D : va_G) (ct ad : Nat → Nat) (sz : Nat) : Met l yX4_init (ev_wsm yX4_init mn_X4_init) (ev_rm mn_X4_init) (ev_PcO D ct ad sz [.ref 0] w0_X4) (ev_Qc D ct ad (some 1) (va_A (ev_lay ad ct w0_X4) sz) P_X6) (ev_mc mn_X4_init) (ev_ms mn_X4_init) (va_A (ev_lay ad ct w0_X4) sz) := by
  refine Met.ofW (cc := ev_cc mn_X4_init) (maxL := ev_nL mn_X4_init) (ret := ev_rt mn_X4_init) (by decide +kernel) rfl ?_
  intro p e s m args below meth c s₁ B hml hv
  obtain ⟨⟨rfl, hsz, hP, hK, hD0⟩, hO⟩ := hv
  have hts := atoms_spec (ws := ev_wsm yX4_init mn_X4_init) B.pre
  have hD := hD0.self (sz := s.heap.size)
  subst hsz
  have hl := lv_entry ([Value.ref 0].map (ev_cv ad)) (n := 2) (Nat.le_of_ble_eq_true rfl)
  have hcls : s.vm.findClass RX4 = some m.cls := findClass_of_methodNamed B.named
  have hW : ∀ w ∈ ev_WA, w.before ([Value.ref 0].map (ev_cv ad)).toArray s = true := fun w hw => hts w (List.mem_cons_of_mem _ hw)
  have hA : ∀ q, s.heap.size ≤ q → va_A (ev_lay ad ct w0_X4) s.heap.size q := fun q hq => Or.inr hq
  rw [lg_entry_eq]
  have I0 : ev_I0 mn_X4_init p (headSpec (ev_wsm yX4_init mn_X4_init) (ev_rm mn_X4_init)).room s m ([Value.ref 0].map (ev_cv ad)).toArray meth c D ct (va_A (ev_lay ad ct w0_X4) s.heap.size) := ⟨on_X4_init, ⟨B.exec, B.bytes, hml, B.returns, hcls, hW, B.notSynchronized, (name_of_methodNamed B.named B.method).1, Nat.le_refl _, Nat.le_refl _, Nat.le_refl _, Nat.le_refl _⟩, hK, hA⟩
  refine iA_X4 p l e _ s m _ below meth c D ct ad _ _ I0 ?_ ad s.heap [] _ ⟨hP, hD, va_S.rf, fun _ _ => rfl, ev_LH.of hl (fun i v h => by simpa using ev_ent_ok ad [Value.ref 0] 2 0 i v h)⟩
  intro pc' L' st' w' kc' ks' hX ad' H locs ls I
  obtain ⟨u1, u2, u3, z1, rfl, rfl, rfl, rfl, rfl, rfl⟩ := hX
  obtain ⟨hd, -, -⟩ := ev_use (μ := mn_X4_init) on_X4_init (pc := 40) (ins := .anewarray 9) rfl
  refine va_newq (own := RX4) (C := "GossipCounts$World") (index := 9) (N' := 6) B.exec B.bytes hcls (hW _ w_cl_X4_9) hO hK I.1 I.2.1 I.2.2.1 hA (n := 6) (by decide) (by decide +kernel) (Nat.le_of_ble_eq_true rfl) (Nat.le_of_ble_eq_true rfl) (Nat.le_of_ble_eq_true rfl) hd (fun q cA H1 hK2 hP2 hD2 hS2 => ?_)
  have hcA : cA = ct 2 := by
    obtain ⟨_, _, -, -, -, h1⟩ := (hK2.2 3 (cA, .object "GossipCounts$World") rfl).2
    obtain ⟨_, _, -, -, -, h2⟩ := (hK.2 2 (ct 2, .object "GossipCounts$World") rfl).2
    exact Option.some.inj (h1.symm.trans h2)
  subst hcA
  refine iB_X4 u1 u2 u3 z1 p l e _ s m _ below meth c D ct ad _ _ I0 ?_ (ev_adx ad' 46 q) H1 locs ls (ev_I2_push (w := .inr (4, [.ref 1, .ref 16, .ref 31, .null, .int 0, .null]) :: ((TLw 1 u1 ++ TLw 16 u2) ++ TLw 31 u3)) (E := .inl (2, 6, .inr (.inr (.inr (.inr fun _ => none))))) (Nat.le_of_ble_eq_true rfl) rfl ⟨rfl, ev_bW_app (ev_bW_app (bW_T u1 rfl) (bW_T u2 rfl)) (bW_T u3 rfl)⟩ (fun _ => rfl) hP2 hD2 hS2 I.2.2.2.1 I.2.2.2.2)
  intro pc' L' st' w' kc' ks' hX ad' H locs ls I
  obtain ⟨i, r, hlk, hrk, hpost, hkc, hks⟩ := hX
  obtain ⟨ins, nx, kk, x, yy, v⟩ := i
  obtain ⟨hd, -, -⟩ := ev_use (μ := mn_X4_init) on_X4_init hlk
  obtain ⟨hP2, hD2, hS2, hE2, -⟩ := I
  refine W.widen hkc hks ?_
  have hr := B.returns
  have hlocks := B.notSynchronized
  unfold ev_rk at hrk
  dsimp only at hrk
  split at hrk
  · obtain ⟨rfl, hrt⟩ := hrk
    rcases hrt with hrt | ⟨hrt, -⟩ <;> cases hrt
  · cases hrk.2
  · cases hrk.2
  · obtain ⟨rfl, hrt⟩ := hrk
    exact W.vret B.exec B.bytes hr (fun t ht hW => ⟨⟨_, w', ad', rfl, hpost, hE2, by rw [ht]; exact hP2, va_K.moved hW.alike hK, hD2⟩, hS2.F ht⟩) hS2.2.2 hd
  · exact hrk.elim
