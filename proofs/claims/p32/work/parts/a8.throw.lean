/-! what a throw needs of the tables -/
def th_cls : Nat → String
  | 0 => "java/lang/IllegalStateException"
  | _ => "java/lang/IndexOutOfBoundsException"
def th_ik : Nat → Nat
  | 0 => 44
  | _ => 63
def th_ic : Nat → Nat
  | 0 => 48
  | _ => 67
def th_names : List String := ["java/lang/RuntimeException", "java/lang/Exception"]
def th_ws (k : Nat) : List Cond := Cond.classLink RX4 (th_ik k) (th_cls k) :: Cond.initialized (th_cls k) :: vx_atS RX4 (th_ic k) (th_cls k) th_names
set_option maxRecDepth 100000 in
theorem th_in : ((List.range 2).all fun k => (th_ws k).all fun w => decide (w ∈ lw_tbl) && vx_ot w) = true := by decide +kernel
def th_strs : List (Nat × String) := [(71, "the thing has ended"), (88, "the thing or the other one has ended")]
set_option maxRecDepth 100000 in
theorem th_str_in : (th_strs.all fun q => decide (Cond.stringRef RX4 q.1 q.2 ∈ lw_tbl)) = true := by decide +kernel
def th_okw (w : Jvm.Cond) : Bool := goodWord w || match w with
  | .castable _ _ => true
  | .declares _ => true
  | _ => false
set_option maxRecDepth 100000 in
theorem th_ok : ((List.range 2).all fun k => (th_ws k).all fun w => th_okw w) = true := by decide +kernel
theorem th_warm {w : Jvm.Cond} (h : th_okw w = true) {args a' : Array Value} {s U : State} (hW : s.WarmedH U.vm) (hb : w.before args s = true) : w.before a' U = true := by
  unfold th_okw at h
  rw [Bool.or_eq_true] at h
  rcases h with h | h
  · exact word_at hW (good_of_word h) hb
  · split at h
    · exact va_Nw.use rfl (va_Nw.warmC hW (va_Nw.of rfl hb))
    · exact va_Nw.use rfl (va_Nw.warmD hW (va_Nw.of rfl hb))
    · cases h
/-- one throw: its place, its class, its text -/
def th_site (μ : ev_M) (pc cl i : Nat) (tx : String) : Prop :=
  cl < 2 ∧ (i, tx) ∈ th_strs ∧ decode (ev_cc μ) pc = .ok (.new (th_ik cl), 3) ∧ decode (ev_cc μ) (pc + 3) = .ok (.dup, 1) ∧ decode (ev_cc μ) (pc + 4) = .ok (.ldc i, 2) ∧ decode (ev_cc μ) (pc + 6) = .ok (.invokespecial (th_ic cl), 3) ∧ decode (ev_cc μ) (pc + 9) = .ok (.athrow, 1)
def th_all : List Jvm.Cond := th_ws 0 ++ th_ws 1
def ev_wsT (y : MethodName) (μ : ev_M) : List Jvm.Cond := .code y (ev_cc μ) (ev_nL μ) (ev_rt μ) :: (ev_WA ++ th_all)
def ev_rmT (μ : ev_M) : Room := { frames := max (ev_fr μ) 6, cells := 1, slots := 6, locals := max (ev_lo μ) 90 }
/-- what the heap and the machine hold for a throw -/
def th_F (A : Nat → Prop) (U : State) : Prop := (∀ q, q ∈ th_strs → ∃ sa, vk_R RX4 q.1 q.2 sa U) ∧ vx_Zq Bundle.tN "UNASSIGNED_STACK" Bundle.steD A U U.heap ∧ vx_Zq Bundle.tN "SUPPRESSED_SENTINEL" Bundle.listD A U U.heap
def ev_PcT (D : va_G) (ct : Nat → ClassId) (ad : Nat → Nat) (sz : Nat) (as : List Value) (w : List ev_E) (A : Nat → Prop) : Array Value → State → Prop := va_Pc (as.map (ev_cv ad)) (fun U => U.heap.size = sz ∧ va_P D vwCl (ev_lay ad ct w) U.heap ∧ va_K D vwCl (ev_tys ct) U ∧ va_D (fun _ => True) (ev_lay ad ct w) ∧ th_F A U)
def ev_XC (D : va_G) (ct : Nat → ClassId) (ad : Nat → Nat) (w : List ev_E) (A : Nat → Prop) (E : String) : String → State → State → Prop := fun E' st t => E' = E ∧ va_P D vwCl (ev_lay ad ct w) t.heap ∧ va_K D vwCl (ev_tys ct) t ∧ va_D A (ev_lay ad ct w) ∧ va_F A st t
theorem th_mem {k : Nat} (hk : k < 2) {w : Jvm.Cond} (hw : w ∈ th_ws k) : w ∈ th_all := by
  unfold th_all
  match k, hk with
  | 0, _ => exact List.mem_append_left _ hw
  | 1, _ => exact List.mem_append_right _ hw
theorem th_ot {k : Nat} (hk : k < 2) {w : Jvm.Cond} (hw : w ∈ th_ws k) : vx_ot w = true := by
  have := List.all_eq_true.mp (List.all_eq_true.mp th_in k (List.mem_range.mpr hk)) w hw
  exact ((Bool.and_eq_true _ _).mp this).2
theorem th_fit {k : Nat} (hk : k < 2) : Bundle.fit (th_cls k) = true := by
  match k, hk with
  | 0, _ => decide +kernel
  | 1, _ => decide +kernel
theorem th_fits : ∀ n ∈ th_names, Bundle.fit n = true := by decide +kernel
set_option maxHeartbeats 1000000 in
theorem ev_startT {y : MethodName} {μ : ev_M} {as : List Value} {w : List ev_E} {xt : Nat → Option Nat} {k cl : Nat} (hok : ev_OK μ) (hy : plainName y.cls = true) (hc : y.cls = ev_own μ) (hn : y.name = ev_mn μ) (hsl : (lg_sl as).length ≤ ev_nL μ) (hown4 : ev_own μ = RX4) (h00 : ev_mc μ = 0 ∧ ev_ms μ = 0)
    (hxt : ∀ pc, xt pc = some k → ∃ i tx, th_site μ pc cl i tx) (kk : ev_V μ none (ev_XT xt k w) 0 (ev_ent as (ev_nL μ)) [] w 0 0) (l : Launch) (hl : l.stackTraces = false) (D : va_G) (ct ad : Nat → Nat) (sz : Nat) :
    vx_Met l y (ev_wsT y μ) (ev_rmT μ) (ev_PcT D ct ad sz as w (va_A (ev_lay ad ct w) sz)) (fun _ _ _ _ => False) (ev_XC D ct ad w (va_A (ev_lay ad ct w) sz) (th_cls cl)) 1 6 (va_A (ev_lay ad ct w) sz) := by
  refine vx_ofW (cc := ev_cc μ) (maxL := ev_nL μ) (ret := ev_rt μ) hy rfl ?_
  intro p e s m args below meth c s₁ B hml htab hv
  obtain ⟨rfl, hsz, hP, hK, hD0, hTF⟩ := hv
  have hts := atoms_spec (ws := ev_wsT y μ) B.pre
  have hD := hD0.self (sz := s.heap.size)
  subst hsz
  have hsl2 : (lg_sl (as.map (ev_cv ad))).length ≤ ev_nL μ := by
    have : (lg_sl (as.map (ev_cv ad))).length = (lg_sl as).length := by
      clear kk hsl hP hD hD0 B hts hTF
      induction as with
      | nil => rfl
      | cons a l ih =>
        unfold lg_sl at ih ⊢
        rw [List.map_cons, List.flatMap_cons, List.flatMap_cons, List.length_append, List.length_append, ih, ev_cv_cat]
        by_cases h : a.category = 2 <;> simp [h]
    omega
  have hl2 := lv_entry (as.map (ev_cv ad)) (n := ev_nL μ) hsl2
  have hcls : s.vm.findClass (ev_own μ) = some m.cls := hc ▸ findClass_of_methodNamed B.named
  rw [lg_entry_eq]
  refine kk p l e _ s m _ below meth c D ct ad _ _ ⟨hok, ⟨B.exec, B.bytes, hml, B.returns, hcls, fun w hw => hts w (List.mem_cons_of_mem _ (List.mem_append_left _ hw)), B.notSynchronized, (name_of_methodNamed B.named B.method).1.trans hn, Nat.le_max_left _ _, Nat.le_max_left _ _, by rw [h00.1]; exact Nat.zero_le _, by rw [h00.2]; exact Nat.zero_le _⟩, hK, fun q hq => Or.inr hq⟩ ?_ ad s.heap [] _ ⟨hP, hD, va_S.rf, rfl, ev_LH.of hl2 (fun i v h => by simpa using ev_ent_ok ad as (ev_nL μ) 0 i v h)⟩
  intro pc' L' st' w' kc' ks' hX ad' H locs ls I
  obtain ⟨hx, rfl, rfl, rfl, rfl⟩ := hX
  obtain ⟨hP2, hD2, hS2, hE2, hL2⟩ := I
  have hE3 : ad' = ad := hE2
  subst hE3
  obtain ⟨i, tx, hcl, hi, d0, d3, d4, d6, d9⟩ := hxt pc' hx
  obtain ⟨sa, hsa⟩ := hTF.1 _ hi
  have hw : ∀ w ∈ th_ws cl, w.before (as.map (ev_cv ad')).toArray s = true := fun w hw => hts w (List.mem_cons_of_mem _ (List.mem_append_right _ (th_mem hcl hw)))
  refine vx_throwS (own := RX4) (cls := th_cls cl) (text := tx) (names := th_names) (ik := th_ik cl) (is := i) (ic := th_ic cl) (sa := sa) (A := va_A (ev_lay ad' ct w') s.heap.size) B.exec B.bytes hl (hown4 ▸ hcls) (th_fit hcl) th_fits (hw _ List.mem_cons_self) (hw _ (List.mem_cons_of_mem _ List.mem_cons_self)) hsa (fun w h => hw w (List.mem_cons_of_mem _ (List.mem_cons_of_mem _ h))) (fun w h => th_ot hcl h) hTF.2.1 hTF.2.2 hS2 (hL2.1.trans hml.symm) d0 d3 d4 d6 d9 (fun x h => (htab x h).elim) ?_ ?_ (Nat.le_refl _) (Nat.le_refl _) B.notSynchronized ?_ (fun z hz => hS2.2.2 z hz) (Nat.le_refl _) (Nat.le_refl _)
  · show 2 + 3 < max (ev_fr μ) 6
    omega
  · show 0 + (13 * (2 + 1) + 43) ≤ max (ev_lo μ) 90
    omega
  · intro t hal hsz2 hq
    refine ⟨rfl, hP2.kept fun k q h => hq _ (vx_lt hP2 h), va_K.moved hal hK, hD2, Nat.le_trans hS2.1 hsz2, fun q h1 h2 => ?_⟩
    rw [hq q (Nat.lt_of_lt_of_le h1 hS2.1)]
    exact hS2.2.1 q h1 h2

theorem h_X4_take_2 : ∀ pc, xt_X4_take pc = some 2 → ∃ i tx, th_site mm_X4_take pc 0 i tx := by
  intro pc h
  unfold xt_X4_take at h
  by_cases e0 : pc = 15
  · rw [if_pos e0] at h
    cases h
  rw [if_neg e0] at h
  by_cases e1 : pc = 36
  · subst e1
    exact ⟨71, "the thing has ended", by unfold th_site; decide +kernel⟩
  rw [if_neg e1] at h
  cases h
theorem th_X4_take_2 (F : Nat) (u : S_X4) (v1 v2 : Int32) (hR : s_X4_take_e F u v1 v2 = some 2) (l : Launch) (hl : l.stackTraces = false) (D : va_G) (ct ad : Nat → Nat) (sz : Nat) : vx_Met l yX4_take (ev_wsT yX4_take mm_X4_take) (ev_rmT mm_X4_take) (ev_PcT D ct ad sz [.ref 0, .int v1, .int v2] (W_X4 u) (va_A (ev_lay ad ct (W_X4 u)) sz)) (fun _ _ _ _ => False) (ev_XC D ct ad (W_X4 u) (va_A (ev_lay ad ct (W_X4 u)) sz) (th_cls 0)) 1 6 (va_A (ev_lay ad ct (W_X4 u)) sz) :=
  ev_startT (cl := 0) (as := [.ref 0, .int v1, .int v2]) ok_X4_take (by decide +kernel) rfl rfl (Nat.le_of_ble_eq_true rfl) rfl ⟨rfl, rfl⟩ h_X4_take_2 (t_X4_take_e F u v1 v2 2 hR) l hl D ct ad sz
theorem h_X4_put_2 : ∀ pc, xt_X4_put pc = some 2 → ∃ i tx, th_site mm_X4_put pc 0 i tx := by
  intro pc h
  unfold xt_X4_put at h
  by_cases e0 : pc = 23
  · rw [if_pos e0] at h
    cases h
  rw [if_neg e0] at h
  by_cases e1 : pc = 55
  · subst e1
    exact ⟨88, "the thing or the other one has ended", by unfold th_site; decide +kernel⟩
  rw [if_neg e1] at h
  cases h
theorem th_X4_put_2 (F : Nat) (u : S_X4) (v1 v2 v3 : Int32) (hR : s_X4_put_e F u v1 v2 v3 = some 2) (l : Launch) (hl : l.stackTraces = false) (D : va_G) (ct ad : Nat → Nat) (sz : Nat) : vx_Met l yX4_put (ev_wsT yX4_put mm_X4_put) (ev_rmT mm_X4_put) (ev_PcT D ct ad sz [.ref 0, .int v1, .int v2, .int v3] (W_X4 u) (va_A (ev_lay ad ct (W_X4 u)) sz)) (fun _ _ _ _ => False) (ev_XC D ct ad (W_X4 u) (va_A (ev_lay ad ct (W_X4 u)) sz) (th_cls 0)) 1 6 (va_A (ev_lay ad ct (W_X4 u)) sz) :=
  ev_startT (cl := 0) (as := [.ref 0, .int v1, .int v2, .int v3]) ok_X4_put (by decide +kernel) rfl rfl (Nat.le_of_ble_eq_true rfl) rfl ⟨rfl, rfl⟩ h_X4_put_2 (t_X4_put_e F u v1 v2 v3 2 hR) l hl D ct ad sz

/-! the law's own small methods, each with a table of what it catches -/
theorem ev_ofWH {l : Launch} {y : MethodName} {ws ws' : List Cond} {rm : Room} {Pc : Array Value → State → Prop} {Qc : Array Value → State → Outcome → State → Prop} {mc ms : Nat} {free : Addr → Prop} {cc : ByteArray} {maxL : Nat} {ret : Option FieldType} {hh : List (Nat × Nat × Nat × Nat)}
    (hy : plainName y.cls = true) (hw : ws = Cond.codeWith y cc maxL ret hh :: ws')
    (body : ∀ p e s m args below meth c s₁, BodyLoose p l y (headSpec ws rm) cc maxL ret e s m args below meth c s₁ → c.maxLocals = maxL → Pc args s →
      W p l e (headSpec ws rm).room s m args below meth c s.heap [] 0 0 (MQ below Qc args s mc ms free) (entryFrame m args maxL)) : Met l y ws rm Pc Qc mc ms free := by
  refine MetFree.of_bodyS (code := cc) (maxLocals := maxL) (ret := ret) hy ?_ ?_
  · intro args s m h hn
    obtain ⟨m9, meth, c, hn9, h1, h2, h3, h4, -, h5, h6, -⟩ := Cond.codeWith_spec (atoms_spec (ws := ws) h _ (by rw [hw]; exact List.mem_cons_self))
    cases hn.symm.trans hn9
    exact ⟨meth, c, h1, h2, h3, h4, h5, h6⟩
  · intro p e s m args below meth c s₁ B hml hP _
    have hh0 : s₁.heap = s.heap := by rw [B.state]; rfl
    obtain ⟨t, a1, o, b1, b2, b3⟩ := body p e s m args below meth c s₁ B hml hP s₁ hh0 (Stand.of_body B)
    exact ⟨t, o, a1, b1, b2, ⟨b3.1, b3.2⟩⟩
def th_lk : Nat → Nat
  | 0 => 18
  | _ => 16
def th_ex : List Jvm.Cond := (List.range 2).map (fun k => Cond.classLink RL (th_lk k) (th_cls k)) ++ (List.range 2).map (fun k => Cond.castable (th_cls k) (th_cls k))
theorem th_ex_in : (th_ex.all fun w => decide (w ∈ lw_tbl) && th_okw w) = true := by decide +kernel
def ev_wsH (y : MethodName) (μ : ev_M) (hh : List (Nat × Nat × Nat × Nat)) : List Jvm.Cond := .codeWith y (ev_cc μ) (ev_nL μ) (ev_rt μ) hh :: (ev_WA ++ (th_all ++ th_ex))
def ev_rmH (μ : ev_M) : Room := { frames := max (ev_fr μ) 7, cells := 1, slots := 6, locals := max (ev_lo μ) 130 }
def th_G (A : Nat → Prop) (U : State) : Prop := th_F A U ∧ ∀ i, i < 2 → ∀ j, j < 2 → i ≠ j → va_Nc (th_cls i) (th_cls j) U
def ev_PcH (D : va_G) (ct : Nat → ClassId) (ad : Nat → Nat) (sz : Nat) (as : List Value) (w : List ev_E) (A : Nat → Prop) : Array Value → State → Prop := va_Pc (as.map (ev_cv ad)) (fun U => U.heap.size = sz ∧ va_P D vwCl (ev_lay ad ct w) U.heap ∧ va_K D vwCl (ev_tys ct) U ∧ va_D (fun _ => True) (ev_lay ad ct w) ∧ th_G A U)
theorem ev_sl (ad : Nat → Nat) (as : List Value) : (lg_sl (as.map (ev_cv ad))).length = (lg_sl as).length := by
  induction as with
  | nil => rfl
  | cons a l ih =>
    unfold lg_sl at ih ⊢
    rw [List.map_cons, List.flatMap_cons, List.flatMap_cons, List.length_append, List.length_append, ih, ev_cv_cat]
    by_cases h : a.category = 2 <;> simp [h]
/-- where nothing is thrown -/
def ev_AH (y : MethodName) (μ : ev_M) (hh : List (Nat × Nat × Nat × Nat)) (as : List Value) (w : List ev_E) (post : Option Value → List ev_E → Prop) : Prop := ∀ (l : Launch), l.stackTraces = false → ∀ (D : va_G) (ct ad : Nat → Nat) (sz : Nat),
    Met l y (ev_wsH y μ hh) (ev_rmH μ) (ev_PcH D ct ad sz as w (va_A (ev_lay ad ct w) sz)) (ev_Qc D ct ad none (va_A (ev_lay ad ct w) sz) post) 1 6 (va_A (ev_lay ad ct w) sz)
/-- an int comes back: the end of such a method -/
theorem ev_endH {μ : ev_M} {post : Option Value → List ev_E → Prop} {p : Program} {l : Launch} {e : Env} {R : Room} {s : State} {m : MethodId} {args : Array Value} {below : List Frame} {meth : Method} {c : Code} {D : va_G} {ct ad : Nat → Nat} {A : Nat → Prop} (h0 : ev_I0 μ p R s m args meth c D ct A) (hrt : ev_rt μ = some .int) (k0 : Nat) (s0 : Nat) (h1 : k0 ≤ 1) (h6 : s0 ≤ 6)
    (free : Addr → Prop) (hf : ∀ q, A q → free q) (hx : p.tables.exec = Jvm.exec) (hb : c.code = ev_cc μ) (hr : meth.sig.returnType = ev_rt μ) (hlocks : meth.locks = false) :
    ∀ pc' L' st' w' kc' ks', (fun pc _ st w kc ks => ∃ (i : ev_I) (r : Option Value), ev_look (ev_tab μ) pc = some i ∧ ev_rk (ev_rt μ) i.1 st r ∧ post r w ∧ kc ≤ k0 ∧ ks ≤ s0 : ev_X) pc' L' st' w' kc' ks' → ev_k2 μ p l e R s m args below meth c D ct ad A none (MQ below (ev_Qc D ct ad none A post) args s 1 6 free) pc' L' st' w' kc' ks' := by
  intro pc' L' st' w' kc' ks' hX ad' H locs ls I
  obtain ⟨i, r, hlk, hrk, hpost, hkc, hks⟩ := hX
  obtain ⟨hok, -, hK, -⟩ := h0
  obtain ⟨ins, nx, kk, x, yy, v⟩ := i
  obtain ⟨hd, -, -⟩ := ev_use hok hlk
  obtain ⟨hP2, hD2, hS2, hE2, -⟩ := I
  refine W.widen (Nat.le_trans hkc h1) (Nat.le_trans hks h6) ?_
  unfold ev_rk at hrk
  dsimp only at hrk
  split at hrk
  · obtain ⟨rfl, -⟩ := hrk
    exact W.iret hx hb (hr.trans hrt) (fun t ht hW => ⟨⟨_, w', ad', rfl, hpost, hE2, by rw [ht]; exact hP2, va_K.moved hW.alike hK, hD2⟩, hS2.F ht⟩) (fun z hz => hf _ (hS2.2.2 z hz)) hd
  · rw [hrt] at hrk; exact absurd hrk.2 (by intro h; cases h)
  · rw [hrt] at hrk; exact absurd hrk.2 (by intro h; cases h)
  · rw [hrt] at hrk; exact absurd hrk.2 (by intro h; cases h)
  · exact hrk.elim
set_option maxHeartbeats 1000000 in
theorem ev_startH {y : MethodName} {μ : ev_M} {hh : List (Nat × Nat × Nat × Nat)} {as : List Value} {w : List ev_E} {post : Option Value → List ev_E → Prop} (hok : ev_OK μ) (hy : plainName y.cls = true) (hc : y.cls = ev_own μ) (hn : y.name = ev_mn μ) (hsl : (lg_sl as).length ≤ ev_nL μ) (hrt : ev_rt μ = some .int) (h00 : ev_mc μ = 0 ∧ ev_ms μ = 0) (k : ev_V μ none (ev_XR μ post) 0 (ev_ent as (ev_nL μ)) [] w 0 0) : ev_AH y μ hh as w post := by
  intro l _ D ct ad sz
  refine ev_ofWH (cc := ev_cc μ) (maxL := ev_nL μ) (ret := ev_rt μ) hy rfl ?_
  intro p e s m args below meth c s₁ B hml hv
  obtain ⟨rfl, hsz, hP, hK, hD0, -⟩ := hv
  have hts := atoms_spec (ws := ev_wsH y μ hh) B.pre
  have hD := hD0.self (sz := s.heap.size)
  subst hsz
  have hl := lv_entry (as.map (ev_cv ad)) (n := ev_nL μ) (by rw [ev_sl]; exact hsl)
  rw [lg_entry_eq]
  have I0 : ev_I0 μ p (headSpec (ev_wsH y μ hh) (ev_rmH μ)).room s m (as.map (ev_cv ad)).toArray meth c D ct (va_A (ev_lay ad ct w) s.heap.size) := ⟨hok, ⟨B.exec, B.bytes, hml, B.returns, hc ▸ findClass_of_methodNamed B.named, fun w hw => hts w (List.mem_cons_of_mem _ (List.mem_append_left _ hw)), B.notSynchronized, (name_of_methodNamed B.named B.method).1.trans hn, Nat.le_max_left _ _, Nat.le_max_left _ _, by rw [h00.1]; exact Nat.zero_le _, by rw [h00.2]; exact Nat.zero_le _⟩, hK, fun q hq => Or.inr hq⟩
  refine k p l e _ s m _ below meth c D ct ad _ _ I0 ?_ ad s.heap [] _ ⟨hP, hD, va_S.rf, rfl, ev_LH.of hl (fun i v h => by simpa using ev_ent_ok ad as (ev_nL μ) 0 i v h)⟩
  intro pc' L' st' w' kc' ks' hX
  exact ev_endH I0 hrt (ev_mc μ) (ev_ms μ) (by rw [h00.1]; omega) (by rw [h00.2]; omega) _ (fun q h => h) B.exec B.bytes B.returns B.notSynchronized _ _ _ _ _ _ hX

/-! .. and where something is thrown and caught -/
theorem th_ot_warm {w : Jvm.Cond} (hw : w ∈ th_all) : th_okw w = true := by
  have key : ∀ k, k < 2 → ∀ w ∈ th_ws k, th_okw w = true := fun k hk w hw => List.all_eq_true.mp (List.all_eq_true.mp th_ok k (List.mem_range.mpr hk)) w hw
  unfold th_all at hw
  rcases List.mem_append.mp hw with h | h
  · exact key 0 (by omega) w h
  · exact key 1 (by omega) w h
theorem th_payT {y : MethodName} {μ : ev_M} {args : Array Value} {s : State} (hts : ∀ w ∈ ev_WA, w.before args s = true) (hth : ∀ w ∈ th_all, w.before args s = true) (h : Jvm.Cond.code y (ev_cc μ) (ev_nL μ) (ev_rt μ) ∈ ev_WA) : ∀ w ∈ ev_wsT y μ, ∀ (a' : Array Value) (U : State), s.WarmedH U.vm → w.before a' U = true := by
  intro w hw a' U hW
  rcases List.mem_cons.mp hw with rfl | hw
  · exact ev_pay (y := y) (μ := μ) hts h _ List.mem_cons_self a' U hW
  · rcases List.mem_append.mp hw with hw | hw
    · exact ev_pay (y := y) (μ := μ) hts h w (List.mem_cons_of_mem _ hw) a' U hW
    · exact th_warm (th_ot_warm hw) hW (hth w hw)
theorem th_F.at {A A' : Nat → Prop} {s U : State} {H : Heap} {locs : List Loc} (h : th_F A s) (hS : va_S A s.heap H locs) (hU : U.heap = H) (hW : s.WarmedH U.vm) (hA : ∀ q, A' q → A q) : th_F A' U := by
  refine ⟨fun q hq => ?_, ?_, ?_⟩
  · obtain ⟨sa, h1⟩ := h.1 q hq
    exact ⟨sa, vk_R.warm hW h1⟩
  · rw [hU]
    exact ((h.2.1.kept hS.2.1).moved hW.alike).narrow hA
  · rw [hU]
    exact ((h.2.2.kept hS.2.1).moved hW.alike).narrow hA
theorem th_blind {D : va_G} {ct ad : Nat → Nat} {sz : Nat} {as : List Value} {w : List ev_E} {A : Nat → Prop} : FrameBlind (ev_PcT D ct ad sz as w A) := fun a U g mk q => by
  obtain ⟨q0, q1, qP, qK, qD, qT⟩ := q
  refine ⟨q0, q1, qP, va_K.moved (u := U) (U := U.calling g mk a) (Vm.Alike.refl U.vm) qK, qD, fun z hz => ?_, ?_, ?_⟩
  · obtain ⟨sa, h1⟩ := qT.1 z hz
    exact ⟨sa, vk_R.same rfl h1⟩
  · exact vx_Zq.moved (u := U) (U := U.calling g mk a) (Vm.Alike.refl U.vm) qT.2.1
  · exact vx_Zq.moved (u := U) (U := U.calling g mk a) (Vm.Alike.refl U.vm) qT.2.2
theorem ev_pick_pre {w wc tl : List ev_E} (h : w = wc ++ tl) : ev_pick w (fun k => k) 0 wc.length = wc.map (ev_ren fun k => k) := by
  rw [ev_map_id, ev_pick_row _ 0 0 (fun i _ => rfl) (by rw [h, List.length_append]; omega), List.drop_zero, h, List.take_left]
theorem ev_putm_pre {w wc tl : List ev_E} (h : w = wc ++ tl) : ev_putm (fun k => k) w 0 wc = w := by
  rw [ev_putm_row wc w 0 0 (fun i _ => rfl) (by rw [h, List.length_append]; omega), ev_map_id]
  unfold ev_sput
  rw [List.take_zero, Nat.zero_add, h, List.drop_left]
  rfl
set_option maxHeartbeats 1000000 in
theorem ev_thrown {μ μc : ev_M} {p : Program} {l : Launch} {e : Env} {R : Room} {s : State} {m : MethodId} {args : Array Value} {below : List Frame} {meth : Method} {c : Code} {D : va_G} {ct : Nat → ClassId} {ad0 ad : Nat → Nat} {A : Nat → Prop} {Q : State → Prop} {H : Heap} {locs : List Loc} {ls : Array Slot} {L : ev_L} {w wc wt tl : List ev_E} {fs as1 rest : List Value} {yc : MethodName} {ci n idx pc : Nat} {E : String}
    (h0 : ev_I0 μ p R s m args meth c D ct A) (hth : ∀ w ∈ th_all, w.before args s = true) (hG : th_F A s) (I : ev_I2 μ s D ct ad0 A none ad H locs ls L w)
    (hM : vx_Met l yc (ev_wsT yc μc) (ev_rmT μc) (ev_PcT D ct ad H.size (.ref 0 :: as1) wc (va_A (ev_lay ad ct wc) H.size)) (fun _ _ _ _ => False) (ev_XC D ct ad wc (va_A (ev_lay ad ct wc) H.size) E) 1 6 (va_A (ev_lay ad ct wc) H.size))
    (cv : ev_CV yc μc ci n) (hl : Jvm.Cond.methodLink (ev_own μ) idx yc ∈ ev_WA) (hdg : decode (ev_cc μ) pc = .ok (.invokevirtual idx, 3)) (hwc : wc = .inr (ci, fs) :: wt) (hw : w = wc ++ tl) (hn : as1.length = n) (hW : ((rest.map (ev_cv ad)).map fun v => v.category).sum ≤ 8)
    (hR : (ev_rmT μc).frames + 1 ≤ R.frames ∧ 8 + (ev_nL μc + 11) + (ev_rmT μc).locals ≤ R.locals ∧ 1 ≤ R.cells ∧ 6 ≤ R.slots)
    (kk : ∀ (q : Addr) (ce : Cell) (H1 : Heap) (locs1 : List Loc), H1[q]? = some ce → ce.vm = .none → s.vm.findClass E = some ce.cls → ev_I2 μ s D ct ad0 A none ad H1 locs1 ls L w → vx_W p l e R s m args below meth c H1 locs1 1 6 Q (F0 m pc ls (rest.map (ev_cv ad))) q) :
    W p l e R s m args below meth c H locs 0 0 Q (F0 m pc ls ((as1.map (ev_cv ad)).reverse ++ .ref (ad 0) :: rest.map (ev_cv ad))) := by
  obtain ⟨hP, hD, hS, hE, hL⟩ := I
  obtain ⟨hok, ⟨hx, hb, hml, hr, hown, hts, hlocks, hnm, hR1, hR2, hR3, hR4⟩, hK, hA⟩ := h0
  have hsel := ev_pick_pre hw
  obtain ⟨hPc, hDc, hFc⟩ := ev_cut (em := fun k => k) (H := H) (locs := locs) (s := s) hP hD hA hS hsel (fun i _ j _ h => h)
  obtain ⟨w1, w2, w3, w4, w5, w6⟩ := cv
  have hlen : ∀ sig, parseMethodDescriptor yc.desc = some sig → n = sig.parameters.length := by
    intro sig h
    have h2 := w5.2.2
    rw [h] at h2
    exact (Option.some.inj h2).symm
  have hrun := vx_runV (l := l) (e := e) (below := below) (meth := meth) (locs := locs) (H := H) (cells := 0) (slots := 0) (C := yc.cls) (b := ad 0) (As := as1.map (ev_cv ad)) (rest := rest.map (ev_cv ad)) (g := F0 m pc ls ((as1.map (ev_cv ad)).reverse ++ .ref (ad 0) :: rest.map (ev_cv ad))) ⟨hx, hb, hml, hown, hts⟩ hM ⟨⟨rfl, rfl, hR.1, hR.2.1, th_payT hts hth w1, List.mem_cons_self, hts _ w1, hts _ w2, ⟨w5.1, w5.2.1⟩, hlen, hts _ hl⟩, hts _ w3, hts _ w4⟩
    ⟨th_blind, by
      rw [w6.1]
      exact va_recv (a := ad 0) (fs := fs.map (ev_cv ad)) hK hPc (ci := ci) (q0 := 0) (ev_cl w6.2) (ev_lay_get (ad := ad) (ct := ct) (w := wc) (k := 0) (E := .inr (ci, fs)) (by rw [hwc]; rfl)), fun U hU hWu => ⟨rfl, by rw [hU], by rw [hU]; exact hPc, va_K.moved hWu.alike hK, hDc, hG.at hS hU hWu hFc⟩⟩ rfl (by rw [List.length_map]; exact hn) hL.1 rfl (by
      show 2 * 0 + _ ≤ 8
      omega) hdg ⟨by omega, by omega⟩
  intro T hT X
  rcases hrun T hT X with ⟨v, st₀, t, T', Lx, z0, X', hLx, e1, e2, hf, -⟩ | ⟨q, st₀, t, T', Lx, E', ce, z0, X', hLx, e1, e2, ⟨rfl, hP', hK', hD', hF'⟩, hce, hcv, hcl, st⟩
  · exact hf.elim
  · obtain ⟨k1, k2, k3⟩ := vx_keep z0 e1 hS (fun q _ h => hFc q h) hFc hLx hF'
    obtain ⟨hP2, hD2⟩ := ev_paste (em := fun k => k) hP hD hsel rfl (by rw [e1]; exact hP') k2
    rw [ev_putm_pre hw] at hP2 hD2
    obtain ⟨t2, a1, b1⟩ := kk q ce T'.heap (locs ++ Lx) (by rw [e1]; exact hce) hcv hcl ⟨hP2, hD2, k3, hE, hL⟩ T' rfl X'
    exact ⟨t2, st.trans a1, b1⟩

set_option maxHeartbeats 2000000 in
/-- a small method of the law, where its call throws: it answers by the handler -/
theorem ev_catchH {y yc : MethodName} {μ μc : ev_M} {hh : List (Nat × Nat × Nat × Nat)} {as as1 rest fs : List Value} {w wc wt tl : List ev_E} {post : Option Value → List ev_E → Prop} {pci idx ci n cl i npc : Nat} {Li : ev_L}
    (hok : ev_OK μ) (hy : plainName y.cls = true) (hc : y.cls = ev_own μ) (hn : y.name = ev_mn μ) (hsl : (lg_sl as).length ≤ ev_nL μ) (hrt : ev_rt μ = some .int) (h00 : ev_mc μ = 0 ∧ ev_ms μ = 0) (hown : ev_own μ = RL)
    (kpre : ev_V μ none (fun pc L st w' kc ks => pc = pci ∧ L = Li ∧ st = as1.reverse ++ .ref 0 :: rest ∧ w' = w ∧ kc = 0 ∧ ks = 0) 0 (ev_ent as (ev_nL μ)) [] w 0 0)
    (hM : ∀ (l : Launch), l.stackTraces = false → ∀ (D : va_G) (ct ad : Nat → Nat) (sz : Nat), vx_Met l yc (ev_wsT yc μc) (ev_rmT μc) (ev_PcT D ct ad sz (.ref 0 :: as1) wc (va_A (ev_lay ad ct wc) sz)) (fun _ _ _ _ => False) (ev_XC D ct ad wc (va_A (ev_lay ad ct wc) sz) (th_cls cl)) 1 6 (va_A (ev_lay ad ct wc) sz))
    (cv : ev_CV yc μc ci n) (hl : Jvm.Cond.methodLink (ev_own μ) idx yc ∈ ev_WA) (hdg : decode (ev_cc μ) pci = .ok (.invokevirtual idx, 3)) (hwc : wc = .inr (ci, fs) :: wt) (hw : w = wc ++ tl) (hn1 : as1.length = n) (hW : (rest.map fun v => v.category).sum ≤ 8)
    (hR : (ev_rmT μc).frames + 1 ≤ (ev_rmH μ).frames ∧ 8 + (ev_nL μc + 11) + (ev_rmT μc).locals ≤ (ev_rmH μ).locals)
    (hcl : cl < 2) (pre : List ExceptionTableEntry) (x : ExceptionTableEntry) (suf : List ExceptionTableEntry) (htab : tableOf hh = pre ++ x :: suf) (hcov : covers x pci = true) (hx0 : x.catchType = th_lk cl) (hpre : ∀ z ∈ pre, ∃ j, j < 2 ∧ cl ≠ j ∧ z.catchType = th_lk j)
    (hi : i < ev_nL μ) (hast : (∃ k : Fin 4, decode (ev_cc μ) x.handlerPc = .ok (.astore_n k, 1) ∧ (k : Nat) = i ∧ npc = x.handlerPc + 1) ∨ (decode (ev_cc μ) x.handlerPc = .ok (.astore i, 2) ∧ npc = x.handlerPc + 2))
    (khand : ev_V μ none (fun pc _ st w kc ks => ∃ (i : ev_I) (r : Option Value), ev_look (ev_tab μ) pc = some i ∧ ev_rk (ev_rt μ) i.1 st r ∧ post r w ∧ kc ≤ 1 ∧ ks ≤ 6) npc (ev_pad (ev_nL μ)) [] w 1 6) : ev_AH y μ hh as w post := by
  intro l hst D ct ad sz
  refine ev_ofWH (cc := ev_cc μ) (maxL := ev_nL μ) (ret := ev_rt μ) hy rfl ?_
  intro p e s m args below meth c s₁ B hml hv
  obtain ⟨rfl, hsz, hP, hK, hD0, hG⟩ := hv
  have hts := atoms_spec (ws := ev_wsH y μ hh) B.pre
  have hD := hD0.self (sz := s.heap.size)
  subst hsz
  have hl2 := lv_entry (as.map (ev_cv ad)) (n := ev_nL μ) (by rw [ev_sl]; exact hsl)
  have hcls : s.vm.findClass (ev_own μ) = some m.cls := hc ▸ findClass_of_methodNamed B.named
  have htb : c.exceptionTable.toList = tableOf hh := vx_table (x := y) B (hts _ List.mem_cons_self)
  rw [lg_entry_eq]
  have I0 : ev_I0 μ p (headSpec (ev_wsH y μ hh) (ev_rmH μ)).room s m (as.map (ev_cv ad)).toArray meth c D ct (va_A (ev_lay ad ct w) s.heap.size) := ⟨hok, ⟨B.exec, B.bytes, hml, B.returns, hcls, fun w hw => hts w (List.mem_cons_of_mem _ (List.mem_append_left _ hw)), B.notSynchronized, (name_of_methodNamed B.named B.method).1.trans hn, Nat.le_max_left _ _, Nat.le_max_left _ _, by rw [h00.1]; exact Nat.zero_le _, by rw [h00.2]; exact Nat.zero_le _⟩, hK, fun q hq => Or.inr hq⟩
  have hth : ∀ w ∈ th_all, w.before (as.map (ev_cv ad)).toArray s = true := fun w hw => hts w (List.mem_cons_of_mem _ (List.mem_append_right _ (List.mem_append_left _ hw)))
  have hex : ∀ w ∈ th_ex, w.before (as.map (ev_cv ad)).toArray s = true := fun w hw => hts w (List.mem_cons_of_mem _ (List.mem_append_right _ (List.mem_append_right _ hw)))
  have hlk : ∀ j, j < 2 → (Cond.classLink RL (th_lk j) (th_cls j)).before (as.map (ev_cv ad)).toArray s = true := fun j hj => hex _ (List.mem_append_left _ (List.mem_map.mpr ⟨j, List.mem_range.mpr hj, rfl⟩))
  have hca : (Cond.castable (th_cls cl) (th_cls cl)).before (as.map (ev_cv ad)).toArray s = true := hex _ (List.mem_append_right _ (List.mem_map.mpr ⟨cl, List.mem_range.mpr hcl, rfl⟩))
  have hne : ∀ j, th_lk j ≠ 0 := fun j => by unfold th_lk; split <;> decide
  refine kpre p l e _ s m _ below meth c D ct ad _ _ I0 ?_ ad s.heap [] _ ⟨hP, hD, va_S.rf, rfl, ev_LH.of hl2 (fun i v h => by simpa using ev_ent_ok ad as (ev_nL μ) 0 i v h)⟩
  intro pc' L' st' w' kc' ks' hX ad' H locs ls I
  obtain ⟨rfl, rfl, rfl, rfl, rfl, rfl⟩ := hX
  have hE3 : ad' = ad := I.2.2.2.1
  subst hE3
  have hst' : (as1.reverse ++ Value.ref 0 :: rest).map (ev_cv ad') = (as1.map (ev_cv ad')).reverse ++ .ref (ad' 0) :: rest.map (ev_cv ad') := by
    rw [List.map_append, List.map_reverse]
    rfl
  rw [hst']
  refine ev_thrown (μc := μc) I0 hth hG.1 I (hM l hst D ct ad' H.size) cv hl hdg hwc hw hn1 (by rw [ev_sum_cat]; exact hW) ⟨hR.1, hR.2, Nat.le_refl _, Nat.le_refl _⟩ ?_
  intro q ce H1 locs1 hq hv hclq I1
  refine vx_catch (own := RL) (name := th_cls cl) (E := th_cls cl) (hown ▸ hcls) pre x suf (htb.trans htab) (fun z hz => ?_) hcov (by rw [hx0]; exact hne cl) (by rw [hx0]; exact hlk cl hcl) hca hq hv hclq ?_
  · obtain ⟨j, hj, hcj, hzj⟩ := hpre z hz
    exact Or.inr ⟨by rw [hzj]; exact hne j, th_cls j, by rw [hzj]; exact hlk j hj, hG.2 cl hcl j hj hcj⟩
  · have hh0 : lv_has ls (ev_nL μ) [] := ⟨I1.2.2.2.2.1, I1.2.2.2.2.2.1, fun q hq => absurd hq List.not_mem_nil⟩
    have go : ∀ ls' lv', lv_has ls' (ev_nL μ) lv' → W p l e (headSpec (ev_wsH y μ hh) (ev_rmH μ)).room s m (as.map (ev_cv ad')).toArray below meth c H1 locs1 1 6 (MQ below (ev_Qc D ct ad' none (va_A (ev_lay ad' ct w') s.heap.size) post) (as.map (ev_cv ad')).toArray s 1 6 (va_A (ev_lay ad' ct w') s.heap.size)) (F0 m npc ls' []) := fun ls' lv' hh' => by
      refine khand p l e _ s m _ below meth c D ct ad' _ _ I0 ?_ ad' H1 locs1 ls' ⟨I1.1, I1.2.1, I1.2.2.1, I1.2.2.2.1, hh'.1, hh'.2.1, fun j v hj => ?_⟩
      · intro pc2 L2 st2 w2 kc2 ks2 hX2
        exact ev_endH I0 hrt 1 6 (Nat.le_refl _) (Nat.le_refl _) _ (fun q h => h) B.exec B.bytes B.returns B.notSynchronized _ _ _ _ _ _ hX2
      · exact absurd hj (ev_ent_nil (ev_nL μ) j v)
    rcases hast with ⟨k, a1, a2, rfl⟩ | ⟨a1, rfl⟩
    · exact lv_astore_n B.exec B.bytes a1 a2 hh0 hi rfl fun ls' h' => go ls' _ h'
    · exact lv_astore B.exec B.bytes a1 hh0 hi rfl fun ls' h' => go ls' _ h'

/-- a virtual call on the first of one's own cells -/
theorem ev_callVp {μ μc : ev_M} {N0 : Option Nat} {X : ev_X} {pc : Nat} {L : ev_L} {st rest : List Value} {w wc tl : List ev_E} {kc ks ci n idx nx k x yy : Nat} {v : Value} {y : MethodName} {as1 : List Value} {fs : List Value} {wt : List ev_E} {post : Option Value → List ev_E → Prop}
    (hM : ev_A y μc none (.ref 0 :: as1) wc post) (hwc : wc = .inr (ci, fs) :: wt) (hw : w = wc ++ tl) (cv : ev_CV y μc ci n) (hl : ev_ml (ev_own μ) idx y) (hlk : ev_look (ev_tab μ) pc = some (.invokevirtual idx, nx, k, x, yy, v))
    (hst : as1.reverse ++ (.ref 0 :: rest) = st) (hn : as1.length = n)
    (hW : (rest.map fun v => v.category).sum ≤ 8) (hroom : ev_fr μc + 1 ≤ ev_fr μ ∧ 8 + (ev_nL μc + 11) + ev_lo μc ≤ ev_lo μ) (hmc : kc + ev_mc μc ≤ ev_mc μ ∧ ks + ev_ms μc ≤ ev_ms μ) (hlen : ∀ r w', post r w' → w'.length = wc.length)
    (kk : ∀ r w', post r w' → ev_V μ N0 X (pc + 3) L (r.toList ++ rest) (w' ++ tl) (kc + ev_mc μc) (ks + ev_ms μc)) : ev_V μ N0 X pc L st w kc ks := by
  have hsel := ev_pick_pre hw
  subst hwc
  have hmi : ∀ l : List Value, l.map (ev_cv fun k => k) = l := fun l => by rw [show (ev_cv fun k => k) = id from funext ev_cv_id, List.map_id]
  refine ev_callV (fun k => k) hM cv hl hlk (by rw [hmi]; exact hst) hn hsel (fun i _ j _ h => h) hW hroom hmc hlen fun r w' hp => ?_
  have hl' := hlen r w' hp
  have e1 : ev_putm (fun k => k) w 0 w' = w' ++ tl := by
    rw [ev_putm_row w' w 0 0 (fun i _ => rfl) (by rw [hw, List.length_append]; omega), ev_map_id]
    unfold ev_sput
    rw [List.take_zero, Nat.zero_add, hl', hw, List.drop_left]
    rfl
  have e2 : r.map (ev_cv fun k => k) = r := by
    cases r with
    | none => rfl
    | some z => exact congrArg some (ev_cv_id z)
  rw [e1, e2]
  exact kk r w' hp
