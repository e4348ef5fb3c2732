/-! ===== calls ===== -/
def ev_ren (em : Nat → Nat) (E : ev_E) : ev_E := match E with
  | .inl a => .inl (a.1, ev_ca em a.2)
  | .inr o => .inr (o.1, o.2.map (ev_cv em))
theorem ev_cv_cv (f g : Nat → Nat) (v : Value) : ev_cv f (ev_cv g v) = ev_cv (fun k => f (g k)) v := by cases v <;> rfl
theorem ev_ca_ca (f g : Nat → Nat) (a : vp_A) : ev_ca f (ev_ca g a) = ev_ca (fun k => f (g k)) a := by
  match a with
  | (n, .inl h) => rfl
  | (n, .inr (.inl h)) => rfl
  | (n, .inr (.inr (.inl h))) => rfl
  | (n, .inr (.inr (.inr (.inl h)))) => rfl
  | (n, .inr (.inr (.inr (.inr h)))) =>
    show (n, _) = (n, _)
    refine congrArg (fun z => (n, z)) ?_
    show Sum.inr (Sum.inr (Sum.inr (Sum.inr _))) = Sum.inr (Sum.inr (Sum.inr (Sum.inr _)))
    refine congrArg (fun z => Sum.inr (Sum.inr (Sum.inr (Sum.inr z)))) ?_
    funext i
    show Option.map f (Option.map g (h i)) = _
    rw [Option.map_map]
    rfl
theorem ev_ce_ren (ad em : Nat → Nat) (ct : Nat → ClassId) (E : ev_E) : ev_ce ad ct (ev_ren em E) = ev_ce (fun k => ad (em k)) ct E := by
  cases E with
  | inl a => show Sum.inl _ = Sum.inl _; rw [ev_ca_ca]
  | inr o => show Sum.inr (o.1, _) = Sum.inr (o.1, _); rw [List.map_map]; exact congrArg (fun z => Sum.inr (o.1, z)) (List.map_congr_left fun v _ => ev_cv_cv ad em v)
def ev_pick (w : List ev_E) (em : Nat → Nat) : Nat → Nat → List ev_E
  | _, 0 => []
  | k, n + 1 => match ev_wg w (em k) with
    | some E => E :: ev_pick w em (k + 1) n
    | none => []
theorem ev_pick_get {w : List ev_E} {em : Nat → Nat} (l : List ev_E) : ∀ (k0 : Nat), ev_pick w em k0 l.length = l.map (ev_ren em) → ∀ (k : Nat) (E : ev_E), l[k]? = some E → w[em (k0 + k)]? = some (ev_ren em E) := by
  induction l with
  | nil => intro k0 _ k E h; simp at h
  | cons a l ih =>
    intro k0 h k E hk
    rw [List.length_cons, ev_pick, List.map_cons] at h
    split at h
    · next E0 hE =>
      injection h with h1 h2
      cases k with
      | zero => simp at hk; subst hk; rw [ev_wg_eq] at hE; rw [Nat.add_zero, hE, h1]
      | succ k =>
        have := ih (k0 + 1) h2 k E (by simpa using hk)
        rw [show k0 + (k + 1) = k0 + 1 + k by omega]
        exact this
    · cases h
def ev_putm (em : Nat → Nat) : List ev_E → Nat → List ev_E → List ev_E
  | w, _, [] => w
  | w, k, E :: l => ev_putm em (ev_ws w (em k) (ev_ren em E)) (k + 1) l
theorem ev_putm_len {em : Nat → Nat} (l : List ev_E) : ∀ (w : List ev_E) (k : Nat), (ev_putm em w k l).length = w.length := by
  induction l with
  | nil => intro w k; rfl
  | cons a l ih => intro w k; rw [ev_putm, ih, ev_ws_eq, List.length_set]
theorem ev_putm_get {em : Nat → Nat} (l : List ev_E) : ∀ (w : List ev_E) (k0 j : Nat) (E : ev_E), (ev_putm em w k0 l)[j]? = some E →
    (∃ i E0, l[i]? = some E0 ∧ j = em (k0 + i) ∧ E = ev_ren em E0) ∨ ((∀ i, i < l.length → ¬ em (k0 + i) = j) ∧ w[j]? = some E) := by
  induction l with
  | nil => intro w k0 j E h; exact Or.inr ⟨fun i hi => absurd hi (Nat.not_lt_zero _), h⟩
  | cons a l ih =>
    intro w k0 j E h
    rw [ev_putm] at h
    rcases ih _ _ _ _ h with ⟨i, E0, h1, h2, h3⟩ | ⟨h1, h2⟩
    · exact Or.inl ⟨i + 1, E0, by simpa using h1, by rw [h2]; congr 1; omega, h3⟩
    · rw [ev_ws_eq, List.getElem?_set] at h2
      by_cases hj : em k0 = j
      · rw [if_pos hj] at h2
        split at h2
        · cases h2; exact Or.inl ⟨0, a, rfl, hj.symm, rfl⟩
        · cases h2
      · rw [if_neg hj] at h2
        refine Or.inr ⟨fun i hi => ?_, h2⟩
        cases i with
        | zero => exact hj
        | succ i =>
          have := h1 i (by simpa using hi)
          rw [show k0 + (i + 1) = k0 + 1 + i by omega]
          exact this
/-- what the tables say of a callee: found by the receiver's class; static; a constructor -/
def ev_CV (y : MethodName) (μ : ev_M) (ci n : Nat) : Prop := Jvm.Cond.code y (ev_cc μ) (ev_nL μ) (ev_rt μ) ∈ ev_WA ∧ Jvm.Cond.initialized y.cls ∈ ev_WA ∧ Jvm.Cond.instanceMethod y ∈ ev_WA ∧ Jvm.Cond.selects y.cls y y ∈ ev_WA ∧ (y.cls ≠ "java/lang/invoke/MethodHandle" ∧ y.cls ≠ "java/lang/invoke/VarHandle" ∧ (parseMethodDescriptor y.desc).map (fun d => d.parameters.length) = some n) ∧ y.cls = ev_R ci ∧ ci < 5
def ev_CS (y : MethodName) (μ : ev_M) (n : Nat) : Prop := Jvm.Cond.code y (ev_cc μ) (ev_nL μ) (ev_rt μ) ∈ ev_WA ∧ Jvm.Cond.initialized y.cls ∈ ev_WA ∧ Jvm.Cond.static y ∈ ev_WA ∧ (y.cls ≠ "java/lang/invoke/MethodHandle" ∧ y.cls ≠ "java/lang/invoke/VarHandle" ∧ (parseMethodDescriptor y.desc).map (fun d => d.parameters.length) = some n)
def ev_CI (y : MethodName) (μ : ev_M) (n : Nat) : Prop := Jvm.Cond.code y (ev_cc μ) (ev_nL μ) (ev_rt μ) ∈ ev_WA ∧ Jvm.Cond.initialized y.cls ∈ ev_WA ∧ Jvm.Cond.instanceMethod y ∈ ev_WA ∧ (y.cls ≠ "java/lang/invoke/MethodHandle" ∧ y.cls ≠ "java/lang/invoke/VarHandle" ∧ (parseMethodDescriptor y.desc).map (fun d => d.parameters.length) = some n) ∧ y.name = "<init>"
def ev_ml (own : String) (idx : Nat) (y : MethodName) : Prop := Jvm.Cond.methodLink own idx y ∈ ev_WA ∨ ∃ host, Jvm.Cond.methodLinkNest own idx y host ∈ ev_WA
theorem ev_pay {y : MethodName} {μ : ev_M} {args : Array Value} {s : State} (hts : ∀ w ∈ ev_WA, w.before args s = true) (h : Jvm.Cond.code y (ev_cc μ) (ev_nL μ) (ev_rt μ) ∈ ev_WA) : ∀ w ∈ ev_wsm y μ, ∀ (a' : Array Value) (U : State), s.WarmedH U.vm → w.before a' U = true := by
  intro w hw a' U hW
  have h1 : w ∈ ev_WA := by
    rcases List.mem_cons.mp hw with rfl | hw
    · exact h
    · exact hw
  exact ev_okw_warm (List.mem_filter.mp h1).2 hW (hts w h1)
theorem ev_blind {D : va_G} {ct ad : Nat → Nat} {sz : Nat} {as : List Value} {w : List ev_E} : FrameBlind (ev_Pc D ct ad sz as w) := fun a U g mk q => by
  obtain ⟨q0, q1, qP, qK, qD⟩ := q
  exact ⟨q0, q1, qP, va_K.moved (u := U) (U := U.calling g mk a) (Vm.Alike.refl U.vm) qK, qD⟩
section EVC
variable {μ μc : ev_M} {p : Program} {l : Launch} {e : Env} {R : Room} {s : State} {m : MethodId} {args : Array Value} {below : List Frame} {meth : Method} {c : Code} {D : va_G} {ct : Nat → ClassId} {ad0 ad : Nat → Nat} {A : Nat → Prop} {N0 : Option Nat} {Q : State → Prop} {kc ks pc n idx ci : Nat} {H : Heap} {locs : List Loc} {ls : Array Slot} {y : MethodName} {Pc : Array Value → State → Prop} {Qc : Array Value → State → Outcome → State → Prop} {free : Addr → Prop} {b : Addr} {As rest : List Value}
theorem ev_runV (h0 : ev_I0 μ p R s m args meth c D ct A) (hM : Met l y (ev_wsm y μc) (ev_rm μc) Pc Qc (ev_mc μc) (ev_ms μc) free) (cv : ev_CV y μc ci n) (hl : ev_ml (ev_own μ) idx y) (hroom : ev_fr μc + 1 ≤ ev_fr μ ∧ 8 + (ev_nL μc + 11) + ev_lo μc ≤ ev_lo μ) (hmc : kc + ev_mc μc ≤ ev_mc μ ∧ ks + ev_ms μc ≤ ev_ms μ)
    (hp : PreV s H y.cls b Pc As) (hn : As.length = n) (hsize : ls.size = ev_nL μ) (hW : (rest.map fun v => v.category).sum ≤ 8) (hdg : decode (ev_cc μ) pc = .ok (.invokevirtual idx, 3)) :
    va_Run p l e R s m args below meth c H locs kc ks (ev_mc μc) (ev_ms μc) (F0 m pc ls (As.reverse ++ .ref b :: rest)) rest (Qc (Value.ref b :: As).toArray) free := by
  obtain ⟨hok, ⟨hx, hb, hml, hr, hown, hts, hlocks, hnm, hR1, hR2, hR3, hR4⟩, hK, hA⟩ := h0
  obtain ⟨w1, w2, w3, w4, w5, w6⟩ := cv
  have hRR : (ev_rm μc).frames + 1 ≤ R.frames ∧ 8 + (ev_nL μc + 11) + (ev_rm μc).locals ≤ R.locals := ⟨Nat.le_trans hroom.1 hR1, Nat.le_trans hroom.2 hR2⟩
  have hmm : kc + ev_mc μc ≤ R.cells ∧ ks + ev_ms μc ≤ R.slots := ⟨Nat.le_trans hmc.1 hR3, Nat.le_trans hmc.2 hR4⟩
  have hW0 : 2 * (F0 m pc ls (As.reverse ++ .ref b :: rest)).monitorRoom + (rest.map fun v => v.category).sum ≤ 8 := by
    have : (F0 m pc ls (As.reverse ++ .ref b :: rest)).monitorRoom = 0 := rfl
    rw [this]; omega
  have hlen : ∀ sig, parseMethodDescriptor y.desc = some sig → n = sig.parameters.length := by
    intro sig h
    have h2 := w5.2.2
    rw [h] at h2
    exact (Option.some.inj h2).symm
  rcases hl with hl | ⟨host, hl⟩
  · exact va_runV ⟨hx, hb, hml, hown, hts⟩ hM ⟨⟨rfl, rfl, hRR.1, hRR.2, ev_pay hts w1, List.mem_cons_self, hts _ w1, hts _ w2, ⟨w5.1, w5.2.1⟩, hlen, hts _ hl⟩, hts _ w3, hts _ w4⟩ hp rfl hn hsize rfl hW0 hdg hmm
  · exact va_runVN ⟨hx, hb, hml, hown, hts⟩ hM ⟨⟨⟨rfl, rfl, hRR.1, hRR.2, ev_pay hts w1, List.mem_cons_self⟩, hts _ w1, hts _ w2, ⟨w5.1, w5.2.1⟩, hlen, hts _ hl⟩, hts _ w3, hts _ w4⟩ hp rfl hn hsize rfl hW0 hdg hmm
theorem ev_runS (h0 : ev_I0 μ p R s m args meth c D ct A) (hM : Met l y (ev_wsm y μc) (ev_rm μc) Pc Qc (ev_mc μc) (ev_ms μc) free) (cv : ev_CS y μc n) (hl : ev_ml (ev_own μ) idx y) (hroom : ev_fr μc + 1 ≤ ev_fr μ ∧ 8 + (ev_nL μc + 11) + ev_lo μc ≤ ev_lo μ) (hmc : kc + ev_mc μc ≤ ev_mc μ ∧ ks + ev_ms μc ≤ ev_ms μ)
    (hp : PreS s H Pc As) (hn : As.length = n) (hsize : ls.size = ev_nL μ) (hW : (rest.map fun v => v.category).sum ≤ 8) (hdg : decode (ev_cc μ) pc = .ok (.invokestatic idx, 3)) :
    va_Run p l e R s m args below meth c H locs kc ks (ev_mc μc) (ev_ms μc) (F0 m pc ls (As.reverse ++ rest)) rest (Qc As.toArray) free := by
  obtain ⟨hok, ⟨hx, hb, hml, hr, hown, hts, hlocks, hnm, hR1, hR2, hR3, hR4⟩, hK, hA⟩ := h0
  obtain ⟨w1, w2, w3, w5⟩ := cv
  have hRR : (ev_rm μc).frames + 1 ≤ R.frames ∧ 8 + (ev_nL μc + 11) + (ev_rm μc).locals ≤ R.locals := ⟨Nat.le_trans hroom.1 hR1, Nat.le_trans hroom.2 hR2⟩
  have hmm : kc + ev_mc μc ≤ R.cells ∧ ks + ev_ms μc ≤ R.slots := ⟨Nat.le_trans hmc.1 hR3, Nat.le_trans hmc.2 hR4⟩
  have hW0 : 2 * (F0 m pc ls (As.reverse ++ rest)).monitorRoom + (rest.map fun v => v.category).sum ≤ 8 := by
    have : (F0 m pc ls (As.reverse ++ rest)).monitorRoom = 0 := rfl
    rw [this]; omega
  have hlen : ∀ sig, parseMethodDescriptor y.desc = some sig → n = sig.parameters.length := by
    intro sig h
    have h2 := w5.2.2
    rw [h] at h2
    exact (Option.some.inj h2).symm
  rcases hl with hl | ⟨host, hl⟩
  · exact va_runS ⟨hx, hb, hml, hown, hts⟩ hM ⟨⟨rfl, rfl, hRR.1, hRR.2, ev_pay hts w1, List.mem_cons_self, hts _ w1, hts _ w2, ⟨w5.1, w5.2.1⟩, hlen, hts _ hl⟩, hts _ w3⟩ hp rfl hn hsize rfl hW0 hdg hmm
  · exact va_runSN ⟨hx, hb, hml, hown, hts⟩ hM ⟨⟨⟨rfl, rfl, hRR.1, hRR.2, ev_pay hts w1, List.mem_cons_self⟩, hts _ w1, hts _ w2, ⟨w5.1, w5.2.1⟩, hlen, hts _ hl⟩, hts _ w3, trivial⟩ hp rfl hn hsize rfl hW0 hdg hmm
/-- behind the call -/
theorem ev_back {adc : Nat → Nat} {Nc : Option Nat} {A1 : Nat → Prop} {post : Option Value → List ev_E → Prop} {a : Array Value} {mc ms : Nat} {st0 : List Value} (hr : va_Run p l e R s m args below meth c H locs kc ks mc ms (F0 m pc ls st0) rest (ev_Qc D ct adc Nc A1 post a) free) (hS : va_S A s.heap H locs) (hA : ∀ q, A1 q → A q) (hf : ∀ q, free q → A q)
    (kk : ∀ (r : Option Value) (w' : List ev_E) (ad' : Nat → Nat) (H1 : Heap) (locs1 : List Loc), post r w' → ev_eqn Nc ad' adc → va_P D vwCl (ev_lay ad' ct w') H1 → va_D A1 (ev_lay ad' ct w') → H.size ≤ H1.size → (∀ q : Nat, q < H.size → ¬ A1 q → H1[q]? = H[q]?) → va_S A s.heap H1 locs1 → W p l e R s m args below meth c H1 locs1 (kc + mc) (ks + ms) Q (F0 m (pc + 3) ls ((r.map (ev_cv ad')).toList ++ rest))) : W p l e R s m args below meth c H locs kc ks Q (F0 m pc ls st0) := by
  intro T hT X
  obtain ⟨v, st₀, t, T', L, h0, X', hL, e1, e2, ⟨⟨r, w', ad', hv, hp, hn, hP1, hK1, hD1⟩, hz, hk⟩, st⟩ := hr T hT X
  cases hv
  rw [h0] at hz hk
  rw [← e1] at hP1
  obtain ⟨t2, a1, b1⟩ := kk r w' ad' T'.heap (locs ++ L) hp hn hP1 hD1 (by rw [e1]; exact hz) (fun q h1 h2 => by rw [e1]; exact hk q h1 h2)
    ⟨Nat.le_trans hS.1 (by rw [e1]; exact hz), fun q h1 h2 => by rw [e1, hk q (Nat.lt_of_lt_of_le h1 hS.1) (fun z => h2 (hA q z))]; exact hS.2.1 q h1 h2, fun q hq => by
      rcases List.mem_append.mp hq with h | h
      · exact hS.2.2 q h
      · exact hf _ (hL q h)⟩ T' rfl X'
  exact ⟨t2, st t2 a1, b1⟩
/-- the callee's cells, cut out -/
theorem ev_cut {w wc : List ev_E} {em : Nat → Nat} (hP : va_P D vwCl (ev_lay ad ct w) H) (hD : va_D A (ev_lay ad ct w)) (hA : ∀ q, s.heap.size ≤ q → A q) (hS : va_S A s.heap H locs) (hsel : ev_pick w em 0 wc.length = wc.map (ev_ren em)) (hinj : ∀ i, i < wc.length → ∀ j, j < wc.length → em i = em j → i = j) :
    va_P D vwCl (ev_lay (fun k => ad (em k)) ct wc) H ∧ va_D (fun _ => True) (ev_lay (fun k => ad (em k)) ct wc) ∧ (∀ q, va_A (ev_lay (fun k => ad (em k)) ct wc) H.size q → A q) := by
  have hg := ev_pick_get wc 0 hsel
  have hat : ∀ (k : Nat) (q : Nat × va_E), (ev_lay (fun k => ad (em k)) ct wc)[k]? = some q → k < wc.length ∧ (ev_lay ad ct w)[em k]? = some q := by
    intro k q hq
    obtain ⟨E, h1, h2⟩ := ev_lay_inv hq
    have h3 := hg k E h1
    rw [Nat.zero_add] at h3
    exact ⟨(List.getElem?_eq_some_iff.mp h1).1, by rw [ev_lay_get h3, ev_ce_ren, h2]⟩
  refine ⟨fun k q hq => hP _ q (hat k q hq).2, ⟨fun i j a b hi hj hab => ?_, fun _ _ _ => trivial⟩, fun q hq => ?_⟩
  · obtain ⟨i1, i2⟩ := hat i a hi
    obtain ⟨j1, j2⟩ := hat j b hj
    exact hinj i i1 j j1 (hD.1 _ _ a b i2 j2 hab)
  · rcases hq with ⟨k, E, h⟩ | h
    · exact hD.2 _ (q, E) (hat k (q, E) h).2
    · exact hA q (Nat.le_trans hS.1 h)
/-- the callee's cells, put back -/
theorem ev_paste {w wc w' : List ev_E} {em : Nat → Nat} {H1 : Heap} (hP : va_P D vwCl (ev_lay ad ct w) H) (hD : va_D A (ev_lay ad ct w)) (hsel : ev_pick w em 0 wc.length = wc.map (ev_ren em)) (hlen : w'.length = wc.length)
    (hP1 : va_P D vwCl (ev_lay (fun k => ad (em k)) ct w') H1) (hk : ∀ q : Nat, q < H.size → ¬ va_A (ev_lay (fun k => ad (em k)) ct wc) H.size q → H1[q]? = H[q]?) :
    va_P D vwCl (ev_lay ad ct (ev_putm em w 0 w')) H1 ∧ va_D A (ev_lay ad ct (ev_putm em w 0 w')) := by
  have hg := ev_pick_get wc 0 hsel
  have hin : ∀ (j : Nat) (E : ev_E), (ev_putm em w 0 w')[j]? = some E → ∃ E0, w[j]? = some E0 := by
    intro j E h
    have h1 := (List.getElem?_eq_some_iff.mp h).1
    rw [ev_putm_len] at h1
    exact ⟨_, List.getElem?_eq_getElem h1⟩
  refine ⟨fun j q hq => ?_, ⟨fun i j a b hi hj hab => ?_, fun j q hq => ?_⟩⟩
  · obtain ⟨E, h1, rfl⟩ := ev_lay_inv hq
    rcases ev_putm_get w' w 0 j E h1 with ⟨i, E0, g1, g2, g3⟩ | ⟨g1, g2⟩
    · rw [Nat.zero_add] at g2
      subst g2; subst g3
      have := hP1 i _ (ev_lay_get g1)
      rw [ev_ce_ren]
      exact this
    · have h2 := hP j _ (ev_lay_get g2)
      refine h2.kept (hk _ h2.lt fun hq => ?_)
      rcases hq with ⟨k, E1, h⟩ | h
      · obtain ⟨E2, k1, k2⟩ := ev_lay_inv h
        have k3 := hg k E2 k1
        rw [Nat.zero_add] at k3
        have k4 := hD.1 _ _ _ _ (ev_lay_get g2) (ev_lay_get k3) (by have := congrArg Prod.fst k2; exact this)
        exact g1 k (by rw [hlen]; exact (List.getElem?_eq_some_iff.mp k1).1) (by rw [Nat.zero_add]; exact k4.symm)
      · have := h2.lt
        dsimp only at this h
        omega
  · obtain ⟨E1, h1, rfl⟩ := ev_lay_inv hi
    obtain ⟨E2, h2, rfl⟩ := ev_lay_inv hj
    obtain ⟨F1, g1⟩ := hin i E1 h1
    obtain ⟨F2, g2⟩ := hin j E2 h2
    exact hD.1 i j (ad i, ev_ce ad ct F1) (ad j, ev_ce ad ct F2) (ev_lay_get g1) (ev_lay_get g2) hab
  · obtain ⟨E1, h1, rfl⟩ := ev_lay_inv hq
    obtain ⟨F1, g1⟩ := hin j E1 h1
    exact hD.2 j (ad j, ev_ce ad ct F1) (ev_lay_get g1)
end EVC
theorem ev_sum_cat (ad : Nat → Nat) (l : List Value) : ((l.map (ev_cv ad)).map fun v => v.category).sum = (l.map fun v => v.category).sum := by
  rw [List.map_map]
  exact congrArg List.sum (List.map_congr_left fun v _ => ev_cv_cat ad v)
/-- a virtual call: the callee's cells at the places em 0, em 1 .. of the caller's -/
theorem ev_callV {μ μc : ev_M} {N0 : Option Nat} {X : ev_X} (em : Nat → Nat) {pc : Nat} {L : ev_L} {st rest : List Value} {w : List ev_E} {kc ks ci n idx nx k x yy : Nat} {v : Value} {y : MethodName} {as1 : List Value} {fs : List Value} {wt : List ev_E} {post : Option Value → List ev_E → Prop}
    (hM : ev_A y μc none (.ref 0 :: as1) (.inr (ci, fs) :: wt) post) (cv : ev_CV y μc ci n) (hl : ev_ml (ev_own μ) idx y) (hlk : ev_look (ev_tab μ) pc = some (.invokevirtual idx, nx, k, x, yy, v))
    (hst : (as1.map (ev_cv em)).reverse ++ (.ref (em 0) :: rest) = st) (hn : as1.length = n) (hsel : ev_pick w em 0 (.inr (ci, fs) :: wt : List ev_E).length = (.inr (ci, fs) :: wt : List ev_E).map (ev_ren em)) (hinj : ∀ i, i < (.inr (ci, fs) :: wt : List ev_E).length → ∀ j, j < (.inr (ci, fs) :: wt : List ev_E).length → em i = em j → i = j)
    (hW : (rest.map fun v => v.category).sum ≤ 8) (hroom : ev_fr μc + 1 ≤ ev_fr μ ∧ 8 + (ev_nL μc + 11) + ev_lo μc ≤ ev_lo μ) (hmc : kc + ev_mc μc ≤ ev_mc μ ∧ ks + ev_ms μc ≤ ev_ms μ) (hlen : ∀ r w', post r w' → w'.length = (.inr (ci, fs) :: wt : List ev_E).length)
    (kk : ∀ r w', post r w' → ev_V μ N0 X (pc + 3) L ((r.map (ev_cv em)).toList ++ rest) (ev_putm em w 0 w') (kc + ev_mc μc) (ks + ev_ms μc)) : ev_V μ N0 X pc L st w kc ks := by
  subst hst
  intro p l e R s m args below meth c D ct ad0 A Q h0 hx ad H locs ls I
  have h0' := h0
  obtain ⟨hP, hD, hS, hE, hL⟩ := I
  obtain ⟨hok, hfix, hK, hA⟩ := h0
  obtain ⟨hd, -, -⟩ := ev_use hok hlk
  obtain ⟨hPc, hDc, hFc⟩ := ev_cut (H := H) (locs := locs) (s := s) hP hD hA hS hsel hinj
  have hrun := ev_runV (l := l) (e := e) (below := below) (locs := locs) (H := H) (kc := kc) (ks := ks) (ls := ls) (pc := pc) (b := ad (em 0)) (As := as1.map (ev_cv fun k => ad (em k))) (rest := rest.map (ev_cv ad)) h0' (hM l D ct (fun k => ad (em k)) H.size) cv hl hroom hmc
    ⟨ev_blind, by rw [cv.2.2.2.2.2.1]; exact va_recv (a := ad (em 0)) (fs := fs.map (ev_cv fun k => ad (em k))) hK hPc (ci := ci) (q0 := 0) (ev_cl cv.2.2.2.2.2.2) (ev_lay_get (ad := fun k => ad (em k)) (ct := ct) (w := .inr (ci, fs) :: wt) (k := 0) (E := .inr (ci, fs)) rfl), fun U hU hWu => ⟨rfl, by rw [hU], by rw [hU]; exact hPc, va_K.moved hWu.alike hK, hDc⟩⟩ (by rw [List.length_map]; exact hn) hL.1 (by rw [ev_sum_cat]; exact hW) hd
  have e1 : ((as1.map (ev_cv em)).reverse ++ (.ref (em 0) :: rest)).map (ev_cv ad) = (as1.map (ev_cv fun k => ad (em k))).reverse ++ .ref (ad (em 0)) :: rest.map (ev_cv ad) := by
    rw [List.map_append, List.map_reverse, List.map_map]
    rw [show (ev_cv ad ∘ ev_cv em) = ev_cv (fun k => ad (em k)) from funext fun v => ev_cv_cv ad em v]
    first | done | rfl
  rw [e1]
  refine ev_back hrun hS hFc hFc fun r w' ad' H1 locs1 hp hn' hP1 hD1 hz hk hS1 => ?_
  cases hn'
  obtain ⟨hP2, hD2⟩ := ev_paste hP hD hsel (hlen r w' hp) hP1 hk
  have := kk r w' hp p l e R s m args below meth c D ct ad0 A Q h0' hx ad H1 locs1 ls ⟨hP2, hD2, hS1, hE, hL⟩
  have e2 : ((r.map (ev_cv em)).toList ++ rest).map (ev_cv ad) = (r.map (ev_cv fun k => ad (em k))).toList ++ rest.map (ev_cv ad) := by
    rw [List.map_append]
    cases r with
    | none => rfl
    | some v => exact congrArg (fun z => z :: rest.map (ev_cv ad)) (ev_cv_cv ad em v)
  rw [e2] at this
  exact this
theorem ev_callS {μ μc : ev_M} {N0 : Option Nat} {X : ev_X} (em : Nat → Nat) {pc : Nat} {L : ev_L} {st rest : List Value} {w : List ev_E} {kc ks n idx nx k x yy : Nat} {v : Value} {y : MethodName} {as1 : List Value} {wt : List ev_E} {post : Option Value → List ev_E → Prop}
    (hM : ev_A y μc none as1 wt post) (cv : ev_CS y μc n) (hl : ev_ml (ev_own μ) idx y) (hlk : ev_look (ev_tab μ) pc = some (.invokestatic idx, nx, k, x, yy, v))
    (hst : (as1.map (ev_cv em)).reverse ++ rest = st) (hn : as1.length = n) (hsel : ev_pick w em 0 wt.length = wt.map (ev_ren em)) (hinj : ∀ i, i < wt.length → ∀ j, j < wt.length → em i = em j → i = j)
    (hW : (rest.map fun v => v.category).sum ≤ 8) (hroom : ev_fr μc + 1 ≤ ev_fr μ ∧ 8 + (ev_nL μc + 11) + ev_lo μc ≤ ev_lo μ) (hmc : kc + ev_mc μc ≤ ev_mc μ ∧ ks + ev_ms μc ≤ ev_ms μ) (hlen : ∀ r w', post r w' → w'.length = wt.length)
    (kk : ∀ r w', post r w' → ev_V μ N0 X (pc + 3) L ((r.map (ev_cv em)).toList ++ rest) (ev_putm em w 0 w') (kc + ev_mc μc) (ks + ev_ms μc)) : ev_V μ N0 X pc L st w kc ks := by
  subst hst
  intro p l e R s m args below meth c D ct ad0 A Q h0 hx ad H locs ls I
  have h0' := h0
  obtain ⟨hP, hD, hS, hE, hL⟩ := I
  obtain ⟨hok, hfix, hK, hA⟩ := h0
  obtain ⟨hd, -, -⟩ := ev_use hok hlk
  obtain ⟨hPc, hDc, hFc⟩ := ev_cut (H := H) (locs := locs) (s := s) hP hD hA hS hsel hinj
  have hrun := ev_runS (l := l) (e := e) (below := below) (locs := locs) (H := H) (kc := kc) (ks := ks) (ls := ls) (pc := pc) (As := as1.map (ev_cv fun k => ad (em k))) (rest := rest.map (ev_cv ad)) h0' (hM l D ct (fun k => ad (em k)) H.size) cv hl hroom hmc
    ⟨ev_blind, fun U hU hWu => ⟨rfl, by rw [hU], by rw [hU]; exact hPc, va_K.moved hWu.alike hK, hDc⟩⟩ (by rw [List.length_map]; exact hn) hL.1 (by rw [ev_sum_cat]; exact hW) hd
  have e1 : ((as1.map (ev_cv em)).reverse ++ rest).map (ev_cv ad) = (as1.map (ev_cv fun k => ad (em k))).reverse ++ rest.map (ev_cv ad) := by
    rw [List.map_append, List.map_reverse, List.map_map]
    rw [show (ev_cv ad ∘ ev_cv em) = ev_cv (fun k => ad (em k)) from funext fun v => ev_cv_cv ad em v]
  rw [e1]
  refine ev_back hrun hS hFc hFc fun r w' ad' H1 locs1 hp hn' hP1 hD1 hz hk hS1 => ?_
  cases hn'
  obtain ⟨hP2, hD2⟩ := ev_paste hP hD hsel (hlen r w' hp) hP1 hk
  have := kk r w' hp p l e R s m args below meth c D ct ad0 A Q h0' hx ad H1 locs1 ls ⟨hP2, hD2, hS1, hE, hL⟩
  have e2 : ((r.map (ev_cv em)).toList ++ rest).map (ev_cv ad) = (r.map (ev_cv fun k => ad (em k))).toList ++ rest.map (ev_cv ad) := by
    rw [List.map_append]
    cases r with
    | none => rfl
    | some v => exact congrArg (fun z => z :: rest.map (ev_cv ad)) (ev_cv_cv ad em v)
  rw [e2] at this
  exact this
