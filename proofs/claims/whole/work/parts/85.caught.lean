set_option maxHeartbeats 2000000 in
/-- a small method of the law, where its call throws: it answers by the handler -/
theorem ev_catchH {y yc : MethodName} {μ μc : ev_M} {hh : List (Nat × Nat × Nat × Nat)} {as as1 rest fs : List Value} {w wc wt tl : List ev_E} {post : Option Value → List ev_E → Prop} {pci idx ci n cl i npc : Nat} {Li : ev_L}
    (hok : ev_OK μ) (hy : plainName y.cls = true) (hc : y.cls = ev_own μ) (hn : y.name = ev_mn μ) (hsl : (lg_sl as).length ≤ ev_nL μ) (hrt : ev_rt μ = some .int) (h00 : ev_mc μ = 0 ∧ ev_ms μ = 0) (hown : ev_own μ = RL)
    (kpre : ev_V μ none (fun pc L st w' kc ks => pc = pci ∧ L = Li ∧ st = as1.reverse ++ .ref 0 :: rest ∧ w' = w ∧ kc = 0 ∧ ks = 0) 0 (ev_ent as (ev_nL μ)) [] w 0 0)
    (hM : ∀ (l : Launch), l.stackTraces = false → ∀ (D : va_G) (ct ad : Nat → Nat) (sz : Nat), vx_Met l yc (ev_wsT yc μc) (ev_rmT μc) (ev_PcT D ct ad sz (.ref 0 :: as1) wc (va_A (ev_lay ad ct wc) sz)) (fun _ _ _ _ => False) (ev_XC D ct ad wc (va_A (ev_lay ad ct wc) sz) (th_cls cl)) 1 6 (va_A (ev_lay ad ct wc) sz))
    (cv : ev_CV yc μc ci n) (hl : Jvm.Cond.methodLink (ev_own μ) idx yc ∈ ev_WA) (hdg : decode (ev_cc μ) pci = .ok (.invokevirtual idx, 3)) (hwc : wc = .inr (ci, fs) :: wt) (hw : w = wc ++ tl) (hn1 : as1.length = n) (hW : (rest.map fun v => v.category).sum ≤ 8)
    (hR : (ev_rmT μc).frames + 1 ≤ (ev_rmH μ).frames ∧ 8 + (ev_nL μc + 11) + (ev_rmT μc).locals ≤ (ev_rmH μ).locals)
    (hcl : cl < 3) (pre : List ExceptionTableEntry) (x : ExceptionTableEntry) (suf : List ExceptionTableEntry) (htab : tableOf hh = pre ++ x :: suf) (hcov : covers x pci = true) (hx0 : x.catchType = th_lk cl) (hpre : ∀ z ∈ pre, ∃ j, j < 3 ∧ cl ≠ j ∧ z.catchType = th_lk j)
    (hi : i < ev_nL μ) (hast : (∃ k : Fin 4, decode (ev_cc μ) x.handlerPc = .ok (.astore_n k, 1) ∧ (k : Nat) = i ∧ npc = x.handlerPc + 1) ∨ (decode (ev_cc μ) x.handlerPc = .ok (.astore i, 2) ∧ npc = x.handlerPc + 2))
    (khand : ev_V μ none (fun pc _ st w kc ks => ∃ (i : ev_I) (r : Option Value), ev_look (ev_tab μ) pc = some i ∧ ev_rk (ev_rt μ) i.1 st r ∧ post r w ∧ kc ≤ 1 ∧ ks ≤ 6) npc (ev_pad (ev_nL μ)) [] w 1 6) : ev_AH y μ hh as w post := by
  intro l hst D ct ad sz
  refine ev_ofWH (cc := ev_cc μ) (maxL := ev_nL μ) (ret := ev_rt μ) hy rfl ?_
  intro p e s m args below meth c s₁ B hml hv
  obtain ⟨rfl, hsz, hP, hK, hD0, hG⟩ := hv
  have hts := atoms_spec (ws := ev_wsH y μ hh) B.pre
  have hD := hD0.self (sz := s.heap.size)
  subst hsz
  have hl2 := lv_entry (as.map (ev_cv ad)) (n := ev_nL μ) (by rw [ev_sl]; exact hsl)
  have hcls : s.vm.findClass (ev_own μ) = some m.cls := hc ▸ findClass_of_methodNamed B.named
  have htb : c.exceptionTable.toList = tableOf hh := vx_table (x := y) B (hts _ List.mem_cons_self)
  rw [lg_entry_eq]
  have I0 : ev_I0 μ p (headSpec (ev_wsH y μ hh) (ev_rmH μ)).room s m (as.map (ev_cv ad)).toArray meth c D ct (va_A (ev_lay ad ct w) s.heap.size) := ⟨hok, ⟨B.exec, B.bytes, hml, B.returns, hcls, fun w hw => hts w (List.mem_cons_of_mem _ (List.mem_append_left _ hw)), B.notSynchronized, (name_of_methodNamed B.named B.method).1.trans hn, Nat.le_max_left _ _, Nat.le_max_left _ _, by rw [h00.1]; exact Nat.zero_le _, by rw [h00.2]; exact Nat.zero_le _⟩, hK, fun q hq => Or.inr hq⟩
  have hth : ∀ w ∈ th_all, w.before (as.map (ev_cv ad)).toArray s = true := fun w hw => hts w (List.mem_cons_of_mem _ (List.mem_append_right _ (List.mem_append_left _ hw)))
  have hex : ∀ w ∈ th_ex, w.before (as.map (ev_cv ad)).toArray s = true := fun w hw => hts w (List.mem_cons_of_mem _ (List.mem_append_right _ (List.mem_append_right _ hw)))
  have hlk : ∀ j, j < 3 → (Cond.classLink RL (th_lk j) (th_cls j)).before (as.map (ev_cv ad)).toArray s = true := fun j hj => hex _ (List.mem_append_left _ (List.mem_map.mpr ⟨j, List.mem_range.mpr hj, rfl⟩))
  have hca : (Cond.castable (th_cls cl) (th_cls cl)).before (as.map (ev_cv ad)).toArray s = true := hex _ (List.mem_append_right _ (List.mem_map.mpr ⟨cl, List.mem_range.mpr hcl, rfl⟩))
  have hne : ∀ j, th_lk j ≠ 0 := fun j => by unfold th_lk; split <;> decide
  refine kpre p l e _ s m _ below meth c D ct ad _ _ I0 ?_ ad s.heap [] _ ⟨hP, hD, va_S.rf, rfl, ev_LH.of hl2 (fun i v h => by simpa using ev_ent_ok ad as (ev_nL μ) 0 i v h)⟩
  intro pc' L' st' w' kc' ks' hX ad' H locs ls I
  obtain ⟨rfl, rfl, rfl, rfl, rfl, rfl⟩ := hX
  have hE3 : ad' = ad := I.2.2.2.1
  subst hE3
  have hst' : (as1.reverse ++ Value.ref 0 :: rest).map (ev_cv ad') = (as1.map (ev_cv ad')).reverse ++ .ref (ad' 0) :: rest.map (ev_cv ad') := by
    rw [List.map_append, List.map_reverse]
    rfl
  rw [hst']
  refine ev_thrown (μc := μc) I0 hth hG.1 I (hM l hst D ct ad' H.size) cv hl hdg hwc hw hn1 (by rw [ev_sum_cat]; exact hW) ⟨hR.1, hR.2, Nat.le_refl _, Nat.le_refl _⟩ ?_
  intro q ce H1 locs1 hq hv hclq I1
  refine vx_catch (own := RL) (name := th_cls cl) (E := th_cls cl) (hown ▸ hcls) pre x suf (htb.trans htab) (fun z hz => ?_) hcov (by rw [hx0]; exact hne cl) (by rw [hx0]; exact hlk cl hcl) hca hq hv hclq ?_
  · obtain ⟨j, hj, hcj, hzj⟩ := hpre z hz
    exact Or.inr ⟨by rw [hzj]; exact hne j, th_cls j, by rw [hzj]; exact hlk j hj, hG.2 cl hcl j hj hcj⟩
  · have hh0 : lv_has ls (ev_nL μ) [] := ⟨I1.2.2.2.2.1, I1.2.2.2.2.2.1, fun q hq => absurd hq List.not_mem_nil⟩
    have go : ∀ ls' lv', lv_has ls' (ev_nL μ) lv' → W p l e (headSpec (ev_wsH y μ hh) (ev_rmH μ)).room s m (as.map (ev_cv ad')).toArray below meth c H1 locs1 1 6 (MQ below (ev_Qc D ct ad' none (va_A (ev_lay ad' ct w') s.heap.size) post) (as.map (ev_cv ad')).toArray s 1 6 (va_A (ev_lay ad' ct w') s.heap.size)) (F0 m npc ls' []) := fun ls' lv' hh' => by
      refine khand p l e _ s m _ below meth c D ct ad' _ _ I0 ?_ ad' H1 locs1 ls' ⟨I1.1, I1.2.1, I1.2.2.1, I1.2.2.2.1, hh'.1, hh'.2.1, fun j v hj => ?_⟩
      · intro pc2 L2 st2 w2 kc2 ks2 hX2
        exact ev_endH I0 hrt 1 6 (Nat.le_refl _) (Nat.le_refl _) _ (fun q h => h) B.exec B.bytes B.returns B.notSynchronized _ _ _ _ _ _ hX2
      · exact absurd hj (ev_ent_nil (ev_nL μ) j v)
    rcases hast with ⟨k, a1, a2, rfl⟩ | ⟨a1, rfl⟩
    · exact lv_astore_n B.exec B.bytes a1 a2 hh0 hi rfl fun ls' h' => go ls' _ h'
    · exact lv_astore B.exec B.bytes a1 hh0 hi rfl fun ls' h' => go ls' _ h'
