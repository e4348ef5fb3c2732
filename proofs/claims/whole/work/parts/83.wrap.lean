/-! the law's own small methods, each with a table of what it catches -/
theorem ev_ofWH {l : Launch} {y : MethodName} {ws ws' : List Cond} {rm : Room} {Pc : Array Value → State → Prop} {Qc : Array Value → State → Outcome → State → Prop} {mc ms : Nat} {free : Addr → Prop} {cc : ByteArray} {maxL : Nat} {ret : Option FieldType} {hh : List (Nat × Nat × Nat × Nat)}
    (hy : plainName y.cls = true) (hw : ws = Cond.codeWith y cc maxL ret hh :: ws')
    (body : ∀ p e s m args below meth c s₁, BodyLoose p l y (headSpec ws rm) cc maxL ret e s m args below meth c s₁ → c.maxLocals = maxL → Pc args s →
      W p l e (headSpec ws rm).room s m args below meth c s.heap [] 0 0 (MQ below Qc args s mc ms free) (entryFrame m args maxL)) : Met l y ws rm Pc Qc mc ms free := by
  refine MetFree.of_bodyS (code := cc) (maxLocals := maxL) (ret := ret) hy ?_ ?_
  · intro args s m h hn
    obtain ⟨m9, meth, c, hn9, h1, h2, h3, h4, -, h5, h6, -⟩ := Cond.codeWith_spec (atoms_spec (ws := ws) h _ (by rw [hw]; exact List.mem_cons_self))
    cases hn.symm.trans hn9
    exact ⟨meth, c, h1, h2, h3, h4, h5, h6⟩
  · intro p e s m args below meth c s₁ B hml hP _
    have hh0 : s₁.heap = s.heap := by rw [B.state]; rfl
    obtain ⟨t, a1, o, b1, b2, b3⟩ := body p e s m args below meth c s₁ B hml hP s₁ hh0 (Stand.of_body B)
    exact ⟨t, o, a1, b1, b2, ⟨b3.1, b3.2⟩⟩
def th_lk : Nat → Nat
  | 0 => 13
  | 1 => 15
  | _ => 21
def th_ex : List Jvm.Cond := (List.range 3).map (fun k => Cond.classLink RL (th_lk k) (th_cls k)) ++ (List.range 3).map (fun k => Cond.castable (th_cls k) (th_cls k))
theorem th_ex_in : (th_ex.all fun w => decide (w ∈ lw_tbl) && th_okw w) = true := by decide +kernel
def ev_wsH (y : MethodName) (μ : ev_M) (hh : List (Nat × Nat × Nat × Nat)) : List Jvm.Cond := .codeWith y (ev_cc μ) (ev_nL μ) (ev_rt μ) hh :: (ev_WA ++ (th_all ++ th_ex))
def ev_rmH (μ : ev_M) : Room := { frames := max (ev_fr μ) 7, cells := 1, slots := 6, locals := max (ev_lo μ) 130 }
def th_G (A : Nat → Prop) (U : State) : Prop := th_F A U ∧ ∀ i, i < 3 → ∀ j, j < 3 → i ≠ j → va_Nc (th_cls i) (th_cls j) U
def ev_PcH (D : va_G) (ct : Nat → ClassId) (ad : Nat → Nat) (sz : Nat) (as : List Value) (w : List ev_E) (A : Nat → Prop) : Array Value → State → Prop := va_Pc (as.map (ev_cv ad)) (fun U => U.heap.size = sz ∧ va_P D vwCl (ev_lay ad ct w) U.heap ∧ va_K D vwCl (ev_tys ct) U ∧ va_D (fun _ => True) (ev_lay ad ct w) ∧ th_G A U)
theorem ev_sl (ad : Nat → Nat) (as : List Value) : (lg_sl (as.map (ev_cv ad))).length = (lg_sl as).length := by
  induction as with
  | nil => rfl
  | cons a l ih =>
    unfold lg_sl at ih ⊢
    rw [List.map_cons, List.flatMap_cons, List.flatMap_cons, List.length_append, List.length_append, ih, ev_cv_cat]
    by_cases h : a.category = 2 <;> simp [h]
/-- where nothing is thrown -/
def ev_AH (y : MethodName) (μ : ev_M) (hh : List (Nat × Nat × Nat × Nat)) (as : List Value) (w : List ev_E) (post : Option Value → List ev_E → Prop) : Prop := ∀ (l : Launch), l.stackTraces = false → ∀ (D : va_G) (ct ad : Nat → Nat) (sz : Nat),
    Met l y (ev_wsH y μ hh) (ev_rmH μ) (ev_PcH D ct ad sz as w (va_A (ev_lay ad ct w) sz)) (ev_Qc D ct ad none (va_A (ev_lay ad ct w) sz) post) 1 6 (va_A (ev_lay ad ct w) sz)
/-- an int comes back: the end of such a method -/
theorem ev_endH {μ : ev_M} {post : Option Value → List ev_E → Prop} {p : Program} {l : Launch} {e : Env} {R : Room} {s : State} {m : MethodId} {args : Array Value} {below : List Frame} {meth : Method} {c : Code} {D : va_G} {ct ad : Nat → Nat} {A : Nat → Prop} (h0 : ev_I0 μ p R s m args meth c D ct A) (hrt : ev_rt μ = some .int) (k0 : Nat) (s0 : Nat) (h1 : k0 ≤ 1) (h6 : s0 ≤ 6)
    (free : Addr → Prop) (hf : ∀ q, A q → free q) (hx : p.tables.exec = Jvm.exec) (hb : c.code = ev_cc μ) (hr : meth.sig.returnType = ev_rt μ) (hlocks : meth.locks = false) :
    ∀ pc' L' st' w' kc' ks', (fun pc _ st w kc ks => ∃ (i : ev_I) (r : Option Value), ev_look (ev_tab μ) pc = some i ∧ ev_rk (ev_rt μ) i.1 st r ∧ post r w ∧ kc ≤ k0 ∧ ks ≤ s0 : ev_X) pc' L' st' w' kc' ks' → ev_k2 μ p l e R s m args below meth c D ct ad A none (MQ below (ev_Qc D ct ad none A post) args s 1 6 free) pc' L' st' w' kc' ks' := by
  intro pc' L' st' w' kc' ks' hX ad' H locs ls I
  obtain ⟨i, r, hlk, hrk, hpost, hkc, hks⟩ := hX
  obtain ⟨hok, -, hK, -⟩ := h0
  obtain ⟨ins, nx, kk, x, yy, v⟩ := i
  obtain ⟨hd, -, -⟩ := ev_use hok hlk
  obtain ⟨hP2, hD2, hS2, hE2, -⟩ := I
  refine W.widen (Nat.le_trans hkc h1) (Nat.le_trans hks h6) ?_
  unfold ev_rk at hrk
  dsimp only at hrk
  split at hrk
  · obtain ⟨rfl, -⟩ := hrk
    exact W.iret hx hb (hr.trans hrt) (fun t ht hW => ⟨⟨_, w', ad', rfl, hpost, hE2, by rw [ht]; exact hP2, va_K.moved hW.alike hK, hD2⟩, hS2.F ht⟩) (fun z hz => hf _ (hS2.2.2 z hz)) hd
  · rw [hrt] at hrk; exact absurd hrk.2 (by intro h; cases h)
  · rw [hrt] at hrk; exact absurd hrk.2 (by intro h; cases h)
  · rw [hrt] at hrk; exact absurd hrk.2 (by intro h; cases h)
  · exact hrk.elim
set_option maxHeartbeats 1000000 in
theorem ev_startH {y : MethodName} {μ : ev_M} {hh : List (Nat × Nat × Nat × Nat)} {as : List Value} {w : List ev_E} {post : Option Value → List ev_E → Prop} (hok : ev_OK μ) (hy : plainName y.cls = true) (hc : y.cls = ev_own μ) (hn : y.name = ev_mn μ) (hsl : (lg_sl as).length ≤ ev_nL μ) (hrt : ev_rt μ = some .int) (h00 : ev_mc μ = 0 ∧ ev_ms μ = 0) (k : ev_V μ none (ev_XR μ post) 0 (ev_ent as (ev_nL μ)) [] w 0 0) : ev_AH y μ hh as w post := by
  intro l _ D ct ad sz
  refine ev_ofWH (cc := ev_cc μ) (maxL := ev_nL μ) (ret := ev_rt μ) hy rfl ?_
  intro p e s m args below meth c s₁ B hml hv
  obtain ⟨rfl, hsz, hP, hK, hD0, -⟩ := hv
  have hts := atoms_spec (ws := ev_wsH y μ hh) B.pre
  have hD := hD0.self (sz := s.heap.size)
  subst hsz
  have hl := lv_entry (as.map (ev_cv ad)) (n := ev_nL μ) (by rw [ev_sl]; exact hsl)
  rw [lg_entry_eq]
  have I0 : ev_I0 μ p (headSpec (ev_wsH y μ hh) (ev_rmH μ)).room s m (as.map (ev_cv ad)).toArray meth c D ct (va_A (ev_lay ad ct w) s.heap.size) := ⟨hok, ⟨B.exec, B.bytes, hml, B.returns, hc ▸ findClass_of_methodNamed B.named, fun w hw => hts w (List.mem_cons_of_mem _ (List.mem_append_left _ hw)), B.notSynchronized, (name_of_methodNamed B.named B.method).1.trans hn, Nat.le_max_left _ _, Nat.le_max_left _ _, by rw [h00.1]; exact Nat.zero_le _, by rw [h00.2]; exact Nat.zero_le _⟩, hK, fun q hq => Or.inr hq⟩
  refine k p l e _ s m _ below meth c D ct ad _ _ I0 ?_ ad s.heap [] _ ⟨hP, hD, va_S.rf, rfl, ev_LH.of hl (fun i v h => by simpa using ev_ent_ok ad as (ev_nL μ) 0 i v h)⟩
  intro pc' L' st' w' kc' ks' hX
  exact ev_endH I0 hrt (ev_mc μ) (ev_ms μ) (by rw [h00.1]; omega) (by rw [h00.2]; omega) _ (fun q h => h) B.exec B.bytes B.returns B.notSynchronized _ _ _ _ _ _ hX
