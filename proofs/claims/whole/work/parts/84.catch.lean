/-! .. and where something is thrown and caught -/
theorem th_ot_warm {w : Jvm.Cond} (hw : w ∈ th_all) : th_okw w = true := by
  have key : ∀ k, k < 3 → ∀ w ∈ th_ws k, th_okw w = true := fun k hk w hw => List.all_eq_true.mp (List.all_eq_true.mp th_ok k (List.mem_range.mpr hk)) w hw
  unfold th_all at hw
  rcases List.mem_append.mp hw with h | h
  · exact key 0 (by omega) w h
  · rcases List.mem_append.mp h with h | h
    · exact key 1 (by omega) w h
    · exact key 2 (by omega) w h
theorem th_payT {y : MethodName} {μ : ev_M} {args : Array Value} {s : State} (hts : ∀ w ∈ ev_WA, w.before args s = true) (hth : ∀ w ∈ th_all, w.before args s = true) (h : Jvm.Cond.code y (ev_cc μ) (ev_nL μ) (ev_rt μ) ∈ ev_WA) : ∀ w ∈ ev_wsT y μ, ∀ (a' : Array Value) (U : State), s.WarmedH U.vm → w.before a' U = true := by
  intro w hw a' U hW
  rcases List.mem_cons.mp hw with rfl | hw
  · exact ev_pay (y := y) (μ := μ) hts h _ List.mem_cons_self a' U hW
  · rcases List.mem_append.mp hw with hw | hw
    · exact ev_pay (y := y) (μ := μ) hts h w (List.mem_cons_of_mem _ hw) a' U hW
    · exact th_warm (th_ot_warm hw) hW (hth w hw)
theorem th_F.at {A A' : Nat → Prop} {s U : State} {H : Heap} {locs : List Loc} (h : th_F A s) (hS : va_S A s.heap H locs) (hU : U.heap = H) (hW : s.WarmedH U.vm) (hA : ∀ q, A' q → A q) : th_F A' U := by
  refine ⟨fun q hq => ?_, ?_, ?_⟩
  · obtain ⟨sa, h1⟩ := h.1 q hq
    exact ⟨sa, vk_R.warm hW h1⟩
  · rw [hU]
    exact ((h.2.1.kept hS.2.1).moved hW.alike).narrow hA
  · rw [hU]
    exact ((h.2.2.kept hS.2.1).moved hW.alike).narrow hA
theorem th_blind {D : va_G} {ct ad : Nat → Nat} {sz : Nat} {as : List Value} {w : List ev_E} {A : Nat → Prop} : FrameBlind (ev_PcT D ct ad sz as w A) := fun a U g mk q => by
  obtain ⟨q0, q1, qP, qK, qD, qT⟩ := q
  refine ⟨q0, q1, qP, va_K.moved (u := U) (U := U.calling g mk a) (Vm.Alike.refl U.vm) qK, qD, fun z hz => ?_, ?_, ?_⟩
  · obtain ⟨sa, h1⟩ := qT.1 z hz
    exact ⟨sa, vk_R.same rfl h1⟩
  · exact vx_Zq.moved (u := U) (U := U.calling g mk a) (Vm.Alike.refl U.vm) qT.2.1
  · exact vx_Zq.moved (u := U) (U := U.calling g mk a) (Vm.Alike.refl U.vm) qT.2.2
theorem ev_pick_pre {w wc tl : List ev_E} (h : w = wc ++ tl) : ev_pick w (fun k => k) 0 wc.length = wc.map (ev_ren fun k => k) := by
  rw [ev_map_id, ev_pick_row _ 0 0 (fun i _ => rfl) (by rw [h, List.length_append]; omega), List.drop_zero, h, List.take_left]
theorem ev_putm_pre {w wc tl : List ev_E} (h : w = wc ++ tl) : ev_putm (fun k => k) w 0 wc = w := by
  rw [ev_putm_row wc w 0 0 (fun i _ => rfl) (by rw [h, List.length_append]; omega), ev_map_id]
  unfold ev_sput
  rw [List.take_zero, Nat.zero_add, h, List.drop_left]
  rfl
set_option maxHeartbeats 1000000 in
theorem ev_thrown {μ μc : ev_M} {p : Program} {l : Launch} {e : Env} {R : Room} {s : State} {m : MethodId} {args : Array Value} {below : List Frame} {meth : Method} {c : Code} {D : va_G} {ct : Nat → ClassId} {ad0 ad : Nat → Nat} {A : Nat → Prop} {Q : State → Prop} {H : Heap} {locs : List Loc} {ls : Array Slot} {L : ev_L} {w wc wt tl : List ev_E} {fs as1 rest : List Value} {yc : MethodName} {ci n idx pc : Nat} {E : String}
    (h0 : ev_I0 μ p R s m args meth c D ct A) (hth : ∀ w ∈ th_all, w.before args s = true) (hG : th_F A s) (I : ev_I2 μ s D ct ad0 A none ad H locs ls L w)
    (hM : vx_Met l yc (ev_wsT yc μc) (ev_rmT μc) (ev_PcT D ct ad H.size (.ref 0 :: as1) wc (va_A (ev_lay ad ct wc) H.size)) (fun _ _ _ _ => False) (ev_XC D ct ad wc (va_A (ev_lay ad ct wc) H.size) E) 1 6 (va_A (ev_lay ad ct wc) H.size))
    (cv : ev_CV yc μc ci n) (hl : Jvm.Cond.methodLink (ev_own μ) idx yc ∈ ev_WA) (hdg : decode (ev_cc μ) pc = .ok (.invokevirtual idx, 3)) (hwc : wc = .inr (ci, fs) :: wt) (hw : w = wc ++ tl) (hn : as1.length = n) (hW : ((rest.map (ev_cv ad)).map fun v => v.category).sum ≤ 8)
    (hR : (ev_rmT μc).frames + 1 ≤ R.frames ∧ 8 + (ev_nL μc + 11) + (ev_rmT μc).locals ≤ R.locals ∧ 1 ≤ R.cells ∧ 6 ≤ R.slots)
    (kk : ∀ (q : Addr) (ce : Cell) (H1 : Heap) (locs1 : List Loc), H1[q]? = some ce → ce.vm = .none → s.vm.findClass E = some ce.cls → ev_I2 μ s D ct ad0 A none ad H1 locs1 ls L w → vx_W p l e R s m args below meth c H1 locs1 1 6 Q (F0 m pc ls (rest.map (ev_cv ad))) q) :
    W p l e R s m args below meth c H locs 0 0 Q (F0 m pc ls ((as1.map (ev_cv ad)).reverse ++ .ref (ad 0) :: rest.map (ev_cv ad))) := by
  obtain ⟨hP, hD, hS, hE, hL⟩ := I
  obtain ⟨hok, ⟨hx, hb, hml, hr, hown, hts, hlocks, hnm, hR1, hR2, hR3, hR4⟩, hK, hA⟩ := h0
  have hsel := ev_pick_pre hw
  obtain ⟨hPc, hDc, hFc⟩ := ev_cut (em := fun k => k) (H := H) (locs := locs) (s := s) hP hD hA hS hsel (fun i _ j _ h => h)
  obtain ⟨w1, w2, w3, w4, w5, w6⟩ := cv
  have hlen : ∀ sig, parseMethodDescriptor yc.desc = some sig → n = sig.parameters.length := by
    intro sig h
    have h2 := w5.2.2
    rw [h] at h2
    exact (Option.some.inj h2).symm
  have hrun := vx_runV (l := l) (e := e) (below := below) (meth := meth) (locs := locs) (H := H) (cells := 0) (slots := 0) (C := yc.cls) (b := ad 0) (As := as1.map (ev_cv ad)) (rest := rest.map (ev_cv ad)) (g := F0 m pc ls ((as1.map (ev_cv ad)).reverse ++ .ref (ad 0) :: rest.map (ev_cv ad))) ⟨hx, hb, hml, hown, hts⟩ hM ⟨⟨rfl, rfl, hR.1, hR.2.1, th_payT hts hth w1, List.mem_cons_self, hts _ w1, hts _ w2, ⟨w5.1, w5.2.1⟩, hlen, hts _ hl⟩, hts _ w3, hts _ w4⟩
    ⟨th_blind, by
      rw [w6.1]
      exact va_recv (a := ad 0) (fs := fs.map (ev_cv ad)) hK hPc (ci := ci) (q0 := 0) (ev_cl w6.2) (ev_lay_get (ad := ad) (ct := ct) (w := wc) (k := 0) (E := .inr (ci, fs)) (by rw [hwc]; rfl)), fun U hU hWu => ⟨rfl, by rw [hU], by rw [hU]; exact hPc, va_K.moved hWu.alike hK, hDc, hG.at hS hU hWu hFc⟩⟩ rfl (by rw [List.length_map]; exact hn) hL.1 rfl (by
      show 2 * 0 + _ ≤ 8
      omega) hdg ⟨by omega, by omega⟩
  intro T hT X
  rcases hrun T hT X with ⟨v, st₀, t, T', Lx, z0, X', hLx, e1, e2, hf, -⟩ | ⟨q, st₀, t, T', Lx, E', ce, z0, X', hLx, e1, e2, ⟨rfl, hP', hK', hD', hF'⟩, hce, hcv, hcl, st⟩
  · exact hf.elim
  · obtain ⟨k1, k2, k3⟩ := vx_keep z0 e1 hS (fun q _ h => hFc q h) hFc hLx hF'
    obtain ⟨hP2, hD2⟩ := ev_paste (em := fun k => k) hP hD hsel rfl (by rw [e1]; exact hP') k2
    rw [ev_putm_pre hw] at hP2 hD2
    obtain ⟨t2, a1, b1⟩ := kk q ce T'.heap (locs ++ Lx) (by rw [e1]; exact hce) hcv hcl ⟨hP2, hD2, k3, hE, hL⟩ T' rfl X'
    exact ⟨t2, st.trans a1, b1⟩
