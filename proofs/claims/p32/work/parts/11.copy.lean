/-! System.arraycopy over rows of ints -/
theorem ev_sysw : (Jvm.Cond.native arraycopyName ∈ ev_WA ∧ Jvm.Cond.static arraycopyName ∈ ev_WA) ∧ Jvm.Cond.initialized "java/lang/System" ∈ ev_WA := by
  refine ⟨⟨List.mem_filter.mpr ⟨?_, ?_⟩, List.mem_filter.mpr ⟨?_, ?_⟩⟩, List.mem_filter.mpr ⟨?_, ?_⟩⟩ <;> decide +kernel
theorem ev_cpy {μ : ev_M} {N0 : Option Nat} {X : ev_X} {pc : Nat} {L : ev_L} {rest : List Value} {w : List ev_E} {kc ks idx nx k x yy n0 n1 a0 a : Nat} {v : Value} {sp dp n : Int32} {f g : Nat → Int32}
    (hl : Jvm.Cond.methodLink (ev_own μ) idx arraycopyName ∈ ev_WA) (hlk : ev_look (ev_tab μ) pc = some (.invokestatic idx, nx, k, x, yy, v)) (h0 : ev_wg w a0 = some (.inl (0, n0, .inl f))) (h1 : ev_wg w a = some (.inl (0, n1, .inl g)))
    (hc : ¬ sp < 0 ∧ ¬ dp < 0 ∧ ¬ n < 0 ∧ sp.toNatClampNeg + n.toNatClampNeg ≤ n0 ∧ dp.toNatClampNeg + n.toNatClampNeg ≤ n1) (hW : (rest.map fun v => v.category).sum ≤ 8) (hR : 1 ≤ ev_fr μ ∧ 8 + (nativeFrameWords "java/lang/System" "arraycopy" 5 + 11) ≤ ev_lo μ)
    (kk : ev_V μ N0 X (pc + 3) L rest (ev_ws w a (.inl (0, n1, .inl (va_cpy f g sp.toNatClampNeg dp.toNatClampNeg n.toNatClampNeg)))) kc ks) : ev_V μ N0 X pc L (.int n :: .int dp :: .ref a :: .int sp :: .ref a0 :: rest) w kc ks := by
  intro p l e R s m args below meth c D ct ad0 A Q hi hx ad H locs ls I
  have hi' := hi
  obtain ⟨hP, hD, hS, hE, hL⟩ := I
  obtain ⟨hok, ⟨hx1, hb, hml, hr, hown, hts, hlocks, hnm, hR1, hR2, -⟩, hK, hA⟩ := hi
  obtain ⟨hd, -, -⟩ := ev_use hok hlk
  rw [ev_wg_eq] at h0 h1
  have g0 := ev_lay_get (ad := ad) (ct := ct) h0
  have g1 := ev_lay_get (ad := ad) (ct := ct) h1
  refine va_copyi (t0 := 0) (t1 := 0) (ty := .int) hx1 hb (hml.trans hL.1.symm) hown (hts _ hl) (hts _ ev_sysw.1.1) (hts _ ev_sysw.1.2) (hts _ ev_sysw.2) hK hP hD hS a0 a g0 g1 rfl rfl rfl hc.1 hc.2.1 hc.2.2.1 hc.2.2.2.1 hc.2.2.2.2 (fun _ _ => rfl) (Nat.le_trans hR.1 hR1) ?_ hd ?_
  · rw [ev_sum_cat]
    have h2 := hR.2
    omega
  · intro H1 locs1 q1 q2 q3
    have ee : ev_ce ad ct (.inl (0, n1, .inl (va_cpy f g sp.toNatClampNeg dp.toNatClampNeg n.toNatClampNeg))) = .inl (ct 0, n1, .inl (va_cpy f g sp.toNatClampNeg dp.toNatClampNeg n.toNatClampNeg)) := rfl
    rw [← ee, ev_lay_set, ← ev_ws_eq] at q1 q2
    exact kk p l e R s m args below meth c D ct ad0 A Q hi' hx ad H1 locs1 ls ⟨q1, q2, q3, hE, hL⟩
/-- Met.ofW for a method of a class some of whose methods the machine overrides, itself not among them -/
theorem ev_ofWF {l : Launch} {y : MethodName} {ws ws' : List Jvm.Cond} {rm : Room} {Pc : Array Value → State → Prop} {Qc : Array Value → State → Outcome → State → Prop} {mc ms : Nat} {free : Addr → Prop} {cc : ByteArray} {maxL : Nat} {ret : Option FieldType}
    (hy : plainFor y = true) (hw : ws = Cond.code y cc maxL ret :: ws')
    (body : ∀ p e s m args below meth c s₁, BodyLoose p l y (headSpec ws rm) cc maxL ret e s m args below meth c s₁ → c.maxLocals = maxL → Pc args s →
      W p l e (headSpec ws rm).room s m args below meth c s.heap [] 0 0 (MQ below Qc args s mc ms free) (entryFrame m args maxL)) : Met l y ws rm Pc Qc mc ms free := by
  refine MetFree.of_bodySF (code := cc) (maxLocals := maxL) (ret := ret) hy ?_ ?_
  · intro args s m h hn
    obtain ⟨meth, c, h1, h2, h3, h4, h5, h6, -, -⟩ := Cond.code_spec hn (atoms_spec (ws := ws) h _ (by rw [hw]; exact List.mem_cons_self))
    exact ⟨meth, c, h1, h2, h3, h4, h5, h6⟩
  · intro p e s m args below meth c s₁ B hml hP _
    have hh0 : s₁.heap = s.heap := by rw [B.state]; rfl
    obtain ⟨t, a1, o, b1, b2, b3⟩ := body p e s m args below meth c s₁ B hml hP s₁ hh0 (Stand.of_body B)
    exact ⟨t, o, a1, b1, b2, ⟨b3.1, b3.2⟩⟩
set_option maxHeartbeats 1000000 in
theorem ev_startF {y : MethodName} {μ : ev_M} {N0 : Option Nat} {as : List Value} {w : List ev_E} {post : Option Value → List ev_E → Prop} (hok : ev_OK μ) (hy : plainFor y = true) (hc : y.cls = ev_own μ) (hn : y.name = ev_mn μ) (hsl : (lg_sl as).length ≤ ev_nL μ) (k : ev_V μ N0 (ev_XR μ post) 0 (ev_ent as (ev_nL μ)) [] w 0 0) : ev_A y μ N0 as w post := by
  intro l D ct ad sz
  refine ev_ofWF (cc := ev_cc μ) (maxL := ev_nL μ) (ret := ev_rt μ) hy rfl ?_
  intro p e s m args below meth c s₁ B hml hv
  obtain ⟨rfl, hsz, hP, hK, hD0⟩ := hv
  have hts := atoms_spec (ws := ev_wsm y μ) B.pre
  have hD := hD0.self (sz := s.heap.size)
  subst hsz
  have hsl2 : (lg_sl (as.map (ev_cv ad))).length ≤ ev_nL μ := by
    have : (lg_sl (as.map (ev_cv ad))).length = (lg_sl as).length := by
      clear k hsl hP hD hD0 B hts
      induction as with
      | nil => rfl
      | cons a l ih =>
        unfold lg_sl at ih ⊢
        rw [List.map_cons, List.flatMap_cons, List.flatMap_cons, List.length_append, List.length_append, ih, ev_cv_cat]
        by_cases h : a.category = 2 <;> simp [h]
    omega
  have hl := lv_entry (as.map (ev_cv ad)) (n := ev_nL μ) hsl2
  rw [lg_entry_eq]
  refine k p l e _ s m _ below meth c D ct ad _ _ ⟨hok, ⟨B.exec, B.bytes, hml, B.returns, hc ▸ findClass_of_methodNamed B.named, fun w hw => hts w (List.mem_cons_of_mem _ hw), B.notSynchronized, (name_of_methodNamed B.named B.method).1.trans hn, Nat.le_refl _, Nat.le_refl _, Nat.le_refl _, Nat.le_refl _⟩, hK, fun q hq => Or.inr hq⟩ ?_ ad s.heap [] _ ⟨hP, hD, va_S.rf, (by cases N0 with
    | none => rfl
    | some n => exact fun _ _ => rfl), ev_LH.of hl (fun i v h => by simpa using ev_ent_ok ad as (ev_nL μ) 0 i v h)⟩
  intro pc' L' st' w' kc' ks' hX ad' H locs ls I
  obtain ⟨i, r, hlk, hrk, hpost, hkc, hks⟩ := hX
  obtain ⟨ins, nx, kk, x, yy, v⟩ := i
  obtain ⟨hd, -, -⟩ := ev_use hok hlk
  obtain ⟨hP2, hD2, hS2, hE2, -⟩ := I
  refine W.widen hkc hks ?_
  have hr := B.returns
  have hlocks := B.notSynchronized
  unfold ev_rk at hrk
  dsimp only at hrk
  split at hrk
  · obtain ⟨rfl, hrt⟩ := hrk
    rcases hrt with hrt | ⟨hrt, hnar⟩
    · exact W.iret B.exec B.bytes (hr.trans hrt) (fun t ht hW => ⟨⟨_, w', ad', rfl, hpost, hE2, by rw [ht]; exact hP2, va_K.moved hW.alike hK, hD2⟩, hS2.F ht⟩) hS2.2.2 hd
    · exact W.zret B.exec B.bytes (hr.trans hrt) hnar (fun t ht hW => ⟨⟨_, w', ad', rfl, hpost, hE2, by rw [ht]; exact hP2, va_K.moved hW.alike hK, hD2⟩, hS2.F ht⟩) hS2.2.2 hd
  · obtain ⟨rfl, hrt⟩ := hrk
    exact W.lret B.exec B.bytes (hr.trans hrt) (fun t ht hW => ⟨⟨_, w', ad', rfl, hpost, hE2, by rw [ht]; exact hP2, va_K.moved hW.alike hK, hD2⟩, hS2.F ht⟩) hS2.2.2 hd
  · obtain ⟨rfl, hrt⟩ := hrk
    exact W.dret B.exec B.bytes (hr.trans hrt) (fun t ht hW => ⟨⟨_, w', ad', rfl, hpost, hE2, by rw [ht]; exact hP2, va_K.moved hW.alike hK, hD2⟩, hS2.F ht⟩) hS2.2.2 hd
  · obtain ⟨rfl, hrt⟩ := hrk
    exact W.vret B.exec B.bytes (hr.trans hrt) (fun t ht hW => ⟨⟨_, w', ad', rfl, hpost, hE2, by rw [ht]; exact hP2, va_K.moved hW.alike hK, hD2⟩, hS2.F ht⟩) hS2.2.2 hd
  · exact hrk.elim
