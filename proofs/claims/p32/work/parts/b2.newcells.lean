/-! ===== new cells ===== -/
def ev_bvb (n : Nat) (v : Value) : Bool := match v with
  | .ref a => Nat.blt a n
  | _ => true
def ev_bE (n : Nat) (E : ev_E) : Prop := match E with
  | .inr o => (o.2.all (ev_bvb n)) = true
  | .inl a => match a.2.2 with
    | .inr (.inr (.inr (.inr f))) => ∀ i b, f i = some b → b < n
    | _ => True
def ev_bW (n : Nat) : List ev_E → Prop
  | [] => True
  | E :: l => ev_bE n E ∧ ev_bW n l
def ev_bL (n : Nat) (L : ev_L) : Bool := L.all fun x => match x with
  | some v => ev_bvb n v
  | none => true
theorem ev_bW_get {n : Nat} {w : List ev_E} (h : ev_bW n w) {k : Nat} {E : ev_E} (hk : w[k]? = some E) : ev_bE n E := by
  induction w generalizing k with
  | nil => simp at hk
  | cons a l ih =>
    cases k with
    | zero => simp at hk; subst hk; exact h.1
    | succ k => exact ih h.2 (by simpa using hk)
theorem ev_bW_app {n : Nat} {w w2 : List ev_E} (h : ev_bW n w) (h2 : ev_bW n w2) : ev_bW n (w ++ w2) := by
  induction w with
  | nil => exact h2
  | cons a l ih => exact ⟨h.1, ih h.2⟩
theorem ev_bvb_cv {n : Nat} {ad ad' : Nat → Nat} (he : ∀ k, k < n → ad' k = ad k) {v : Value} (h : ev_bvb n v = true) : ev_cv ad' v = ev_cv ad v := by
  cases v with
  | ref a =>
    have : a < n := Nat.blt_eq.mp h
    show Value.ref _ = Value.ref _
    rw [he a this]
  | int _ => rfl
  | long _ => rfl
  | float _ => rfl
  | double _ => rfl
  | null => rfl
  | retAddr _ => rfl
theorem ev_bS_cv {n : Nat} {ad ad' : Nat → Nat} (he : ∀ k, k < n → ad' k = ad k) {st : List Value} (h : st.all (ev_bvb n) = true) : st.map (ev_cv ad') = st.map (ev_cv ad) := List.map_congr_left fun v hv => ev_bvb_cv he (List.all_eq_true.mp h v hv)
theorem ev_bE_ce {n : Nat} {ad ad' : Nat → Nat} {ct : Nat → ClassId} (he : ∀ k, k < n → ad' k = ad k) {E : ev_E} (h : ev_bE n E) : ev_ce ad' ct E = ev_ce ad ct E := by
  cases E with
  | inr o => exact congrArg (fun z => Sum.inr (o.1, z)) (ev_bS_cv he h)
  | inl a =>
    obtain ⟨c, m, g⟩ := a
    match g, h with
    | .inl f, _ => rfl
    | .inr (.inl f), _ => rfl
    | .inr (.inr (.inl f)), _ => rfl
    | .inr (.inr (.inr (.inl f))), _ => rfl
    | .inr (.inr (.inr (.inr f))), h =>
      show Sum.inl (ct c, m, Sum.inr (Sum.inr (Sum.inr (Sum.inr (fun i => (f i).map ad'))))) = Sum.inl (ct c, m, Sum.inr (Sum.inr (Sum.inr (Sum.inr (fun i => (f i).map ad)))))
      refine congrArg (fun z => Sum.inl (ct c, m, Sum.inr (Sum.inr (Sum.inr (Sum.inr z))))) ?_
      funext i
      cases hf : f i with
      | none => rfl
      | some b => exact congrArg some (he b (h i b hf))
theorem ev_bW_lay {n : Nat} {ad ad' : Nat → Nat} {ct : Nat → ClassId} {w : List ev_E} (he : ∀ k, k < n → ad' k = ad k) (hl : w.length ≤ n) (h : ev_bW n w) : ev_lay ad' ct w = ev_lay ad ct w := by
  apply List.ext_getElem?
  intro k
  cases hk : w[k]? with
  | none =>
    have : w.length ≤ k := List.getElem?_eq_none_iff.mp hk
    rw [List.getElem?_eq_none (by rw [ev_lay_len]; exact this), List.getElem?_eq_none (by rw [ev_lay_len]; exact this)]
  | some E =>
    have hkl : k < w.length := (List.getElem?_eq_some_iff.mp hk).1
    rw [ev_lay_get hk, ev_lay_get hk, he k (by omega), ev_bE_ce he (ev_bW_get h hk)]
theorem ev_lay_app {ad : Nat → Nat} {ct : Nat → ClassId} {w w2 : List ev_E} : ev_lay ad ct (w ++ w2.map (ev_ren fun k => w.length + k)) = ev_lay ad ct w ++ ev_lay (fun k => ad (w.length + k)) ct w2 := by
  unfold ev_lay
  rw [List.mapIdx_append]
  congr 1
  apply List.ext_getElem?
  intro k
  rw [List.getElem?_mapIdx, List.getElem?_map, List.getElem?_mapIdx]
  cases w2[k]? with
  | none => rfl
  | some E =>
    show some (ad (k + w.length), ev_ce ad ct (ev_ren (fun k => w.length + k) E)) = some (ad (w.length + k), ev_ce (fun k => ad (w.length + k)) ct E)
    rw [ev_ce_ren, Nat.add_comm]
theorem ev_lay_push {ad : Nat → Nat} {ct : Nat → ClassId} {w : List ev_E} {E : ev_E} : ev_lay ad ct (w ++ [E]) = ev_lay ad ct w ++ [(ad w.length, ev_ce ad ct E)] := by
  unfold ev_lay
  rw [List.mapIdx_append]
  simp
theorem ev_bL_LH {n : Nat} {ad ad' : Nat → Nat} {ls : Array Slot} {nL : Nat} {L : ev_L} (he : ∀ k, k < n → ad' k = ad k) (h : ev_bL n L = true) (hl : ev_LH ad ls nL L) : ev_LH ad' ls nL L := by
  refine ⟨hl.1, hl.2.1, fun i v hv => ?_⟩
  have hb : ev_bvb n v = true := by
    have : ∀ (L : ev_L) (i : Nat), ev_bL n L = true → ev_nth L i = some v → ev_bvb n v = true := by
      intro L
      induction L with
      | nil => intro i _ h; cases h
      | cons x l ih =>
        intro i hb hv
        have hb2 := (Bool.and_eq_true _ _).mp (show (_ && _) = true from hb)
        cases i with
        | zero =>
          have hx : x = some v := hv
          subst hx
          exact hb2.1
        | succ i => exact ih i hb2.2 hv
    exact this L i h hv
  rw [ev_bvb_cv he hb]
  exact hl.2.2 i v hv
def ev_adx (ad : Nat → Nat) (n q : Nat) : Nat → Nat := fun j => if j = n then q else ad j
theorem ev_adx_lt {ad : Nat → Nat} {n q : Nat} : ∀ k, k < n → ev_adx ad n q k = ad k := fun k h => if_neg (Nat.ne_of_lt h)
theorem ev_adx_at {ad : Nat → Nat} {n q : Nat} : ev_adx ad n q n = q := if_pos rfl
theorem ev_I2_push {μ : ev_M} {s : State} {D : va_G} {ct : Nat → ClassId} {ad0 ad : Nat → Nat} {A : Nat → Prop} {n0 q : Nat} {H1 : Heap} {locs : List Loc} {ls : Array Slot} {L : ev_L} {w : List ev_E} {E : ev_E} {E' : va_E}
    (hn : n0 ≤ w.length) (hbL : ev_bL w.length L = true) (hbW : ev_bW w.length w) (hE : ∀ ad, ev_ce ad ct E = E') (hP : va_P D vwCl (ev_lay ad ct w ++ [(q, E')]) H1) (hD : va_D A (ev_lay ad ct w ++ [(q, E')])) (hS : va_S A s.heap H1 locs) (he : ev_eqn (some n0) ad ad0) (hL : ev_LH ad ls (ev_nL μ) L) :
    ev_I2 μ s D ct ad0 A (some n0) (ev_adx ad w.length q) H1 locs ls L (w ++ [E]) := by
  have e : ev_lay (ev_adx ad w.length q) ct (w ++ [E]) = ev_lay ad ct w ++ [(q, E')] := by
    rw [ev_lay_push, ev_adx_at, hE, ev_bW_lay ev_adx_lt (Nat.le_refl _) hbW]
  refine ⟨by rw [e]; exact hP, by rw [e]; exact hD, hS, fun k hk => ?_, ev_bL_LH ev_adx_lt hbL hL⟩
  rw [ev_adx_lt k (by omega)]
  exact he k hk
theorem ev_nk {μ : ev_M} {N0 : Option Nat} {X : ev_X} {pc pc' : Nat} {L : ev_L} {st st' : List Value} {w w' : List ev_E} {kc ks kc' ks' : Nat} (h1 : pc = pc') (h2 : st = st') (h3 : w = w') (h4 : kc = kc') (h5 : ks = ks') (k : ev_V μ N0 X pc' L st' w' kc' ks') : ev_V μ N0 X pc L st w kc ks := by subst h1; subst h2; subst h3; subst h4; subst h5; exact k
/-- an array made -/
theorem ev_new_int {μ : ev_M} {n0 : Nat} {X : ev_X} {pc : Nat} {L : ev_L} {st : List Value} {w : List ev_E} {kc ks nx k x y N : Nat} {v : Value} {i : Int32} (hlk : ev_look (ev_tab μ) pc = some (.newarray .int, nx, k, x, y, v)) (hc : Jvm.Cond.arrayClass .int ∈ ev_WA) (h0 : ¬ i < 0) (hi : i.toNatClampNeg = N) (hN : Nat.ble (N * 4) 536870912 = true) (hmc : Nat.ble (kc + 1) (ev_mc μ) = true ∧ Nat.ble (ks + N) (ev_ms μ) = true)
    (nl : Nat) (hlenw : w.length = nl) (hn : Nat.ble n0 nl = true) (hbL : ev_bL nl L = true) (hbS : st.all (ev_bvb nl) = true) (hbW : ev_bW nl w)
    (kk : ev_V μ (some n0) X (pc + 2) L (.ref nl :: st) (w ++ [.inl (0, N, .inl fun _ => 0)]) (kc + 1) (ks + N)) : ev_V μ (some n0) X pc L (.int i :: st) w kc ks := by
  subst hlenw
  replace hn := Nat.le_of_ble_eq_true hn
  intro p l e R s m args below meth c D ct ad0 A Q h0' hx ad H locs ls I
  have h00 := h0'
  obtain ⟨hP, hD, hS, hE, hL⟩ := I
  obtain ⟨hok, ⟨hx1, hb, hml, hr, hown, hts, hlocks, hnm, hR1, hR2, hR3, hR4⟩, hK, hA⟩ := h0'
  obtain ⟨hd, -, -⟩ := ev_use hok hlk
  refine va_newa (atype := .int) (ty := .int) (a0 := (N, .inl fun _ => 0)) (N' := N) hx1 hb (hts _ hc) rfl hK hP hD hS hA (fun _ => rfl) h0 hi (Nat.le_of_ble_eq_true hN) (Nat.le_trans (Nat.le_of_ble_eq_true hmc.1) hR3) (Nat.le_trans (Nat.le_of_ble_eq_true hmc.2) hR4) hd (fun q cA H1 hK2 hP2 hD2 hS2 => ?_)
  have hcA : cA = ct 0 := by
    have h1 := (hK2.2 3 (cA, .int) rfl).2
    have h2 := (hK.2 0 (ct 0, .int) rfl).2
    exact Option.some.inj (h1.symm.trans h2)
  subst hcA
  have := kk p l e R s m args below meth c D ct ad0 A Q h00 hx (ev_adx ad w.length q) H1 locs ls (ev_I2_push (E := .inl (0, N, .inl fun _ => 0)) hn hbL hbW (fun _ => rfl) hP2 hD2 hS2 hE hL)
  rw [List.map_cons, ev_bS_cv ev_adx_lt hbS] at this
  rw [show ev_cv (ev_adx ad w.length q) (.ref w.length) = .ref q from congrArg Value.ref ev_adx_at] at this
  exact this
/-- Object's own constructor -/
theorem ev_objInit {μ : ev_M} {N0 : Option Nat} {X : ev_X} {pc : Nat} {L : ev_L} {st : List Value} {w : List ev_E} {kc ks nx k x y idx a : Nat} {v : Value} (hlk : ev_look (ev_tab μ) pc = some (.invokespecial idx, nx, k, x, y, v)) (h1 : Jvm.Cond.methodLink (ev_own μ) idx Lib.objectInit ∈ ev_WA) (h2 : Jvm.Cond.instanceMethod Lib.objectInit ∈ ev_WA) (h3 : Jvm.Cond.code Lib.objectInit ⟨#[0xb1]⟩ 1 none ∈ ev_WA) (hst : st = []) (hr : Nat.ble 1 (ev_fr μ) = true ∧ Nat.ble 12 (ev_lo μ) = true)
    (kk : ev_V μ N0 X (pc + 3) L st w kc ks) : ev_V μ N0 X pc L (.ref a :: st) w kc ks := by
  subst hst
  intro p l e R s m args below meth c D ct ad0 A Q h0' hx ad H locs ls I
  have h00 := h0'
  have hI := I
  obtain ⟨hP, hD, hS, hE, hL⟩ := I
  obtain ⟨hok, ⟨hx1, hb, hml, hr', hown, hts, hlocks, hnm, hR1, hR2, hR3, hR4⟩, hK, hA⟩ := h0'
  obtain ⟨hd, -, -⟩ := ev_use hok hlk
  refine W.objInit hx1 hb hown (hts _ h1) (hts _ h2) (hts _ h3) rfl (by rw [hml]; exact hL.1) rfl hd (Nat.le_trans (Nat.le_of_ble_eq_true hr.1) hR1) ?_ ?_
  · show 2 * 0 + 0 + 12 ≤ R.locals
    have := Nat.le_of_ble_eq_true hr.2
    omega
  · exact kk p l e R s m args below meth c D ct ad0 A Q h00 hx ad H locs ls hI
theorem ev_D_app {A : Nat → Prop} {a b : va_W} (ha : va_D A a) (hb : va_D A b) (hd : ∀ x ∈ a, ∀ y ∈ b, x.1 ≠ y.1) : va_D A (a ++ b) := by
  refine ⟨fun i j p q hi hj hpq => ?_, fun k q hq => ?_⟩
  · by_cases h1 : i < a.length
    · rw [List.getElem?_append_left h1] at hi
      by_cases h2 : j < a.length
      · rw [List.getElem?_append_left h2] at hj
        exact ha.1 i j p q hi hj hpq
      · rw [List.getElem?_append_right (by omega)] at hj
        exact absurd hpq (hd p (List.mem_of_getElem? hi) q (List.mem_of_getElem? hj))
    · rw [List.getElem?_append_right (by omega)] at hi
      by_cases h2 : j < a.length
      · rw [List.getElem?_append_left h2] at hj
        exact absurd hpq.symm (hd q (List.mem_of_getElem? hj) p (List.mem_of_getElem? hi))
      · rw [List.getElem?_append_right (by omega)] at hj
        have := hb.1 _ _ p q hi hj hpq
        omega
  · by_cases h1 : k < a.length
    · rw [List.getElem?_append_left h1] at hq
      exact ha.2 k q hq
    · rw [List.getElem?_append_right (by omega)] at hq
      exact hb.2 _ q hq
def ev_ady (ad ad' : Nat → Nat) (n : Nat) : Nat → Nat := fun j => if j < n then ad j else ad' (j - n)
theorem ev_ady_lt {ad ad' : Nat → Nat} {n : Nat} : ∀ k, k < n → ev_ady ad ad' n k = ad k := fun k h => if_pos h
theorem ev_ady_ge {ad ad' : Nat → Nat} {n : Nat} : (fun k => ev_ady ad ad' n (n + k)) = ad' := funext fun k => by
  unfold ev_ady
  rw [if_neg (by omega), Nat.add_sub_cancel_left]
set_option maxHeartbeats 2000000 in
/-- new, dup, a constructor without arguments: what it makes stands behind one's own cells -/
theorem mk_W {μ μc : ev_M} {p : Program} {l : Launch} {e : Env} {R : Room} {s : State} {m : MethodId} {args : Array Value} {below : List Frame} {meth : Method} {c : Code} {D : va_G} {ct ad : Nat → Nat} {A : Nat → Prop} {Q : State → Prop} {H : Heap} {locs : List Loc} {ls : Array Slot} {pc : Nat} {rest : List Value} {w : List ev_E} {kc ks ci i1 i2 a1 a2 a3 a4 b1 b2 b3 b4 c1 c2 c3 c4 : Nat} {va vb vc : Value} {y : MethodName} {fs : List Value} {post : Option Value → List ev_E → Prop} {PcF : Nat → Nat → Array Value → State → Prop}
    (h0' : ev_I0 μ p R s m args meth c D ct A)
    (hM : ∀ q sz, Met l y (ev_wsm y μc) (ev_rm μc) (PcF q sz) (ev_Qc D ct (fun _ => q) (some 1) (va_A [(q, .inr (ci, fs))] sz) post) (ev_mc μc) (ev_ms μc) (va_A [(q, .inr (ci, fs))] sz)) (hPS : ∀ q H1, va_P D vwCl [(q, .inr (ci, fs))] H1 → PreS s H1 (PcF q H1.size) [.ref q])
    (hci : ci < 5) (cv : ev_CI y μc 0) (hrt : ev_rt μc = none) (hl : Jvm.Cond.methodLink (ev_own μ) i2 y ∈ ev_WA) (k1 : ev_look (ev_tab μ) pc = some (.new i1, a1, a2, a3, a4, va)) (k2 : ev_look (ev_tab μ) (pc + 3) = some (.dup, b1, b2, b3, b4, vb)) (k3 : ev_look (ev_tab μ) (pc + 4) = some (.invokespecial i2, c1, c2, c3, c4, vc))
    (h1 : Jvm.Cond.classLink (ev_own μ) i1 (ev_R ci) ∈ ev_WA) (h2 : Jvm.Cond.instantiable (ev_R ci) (ev_N ci) ∈ ev_WA) (h3 : Jvm.Cond.initialized (ev_R ci) ∈ ev_WA) (hfs : ∀ j, j < ev_N ci → defaultValue (ev_ty ci j) = vp_V fs j)
    (hroom : Nat.ble (ev_fr μc + 1) (ev_fr μ) = true ∧ Nat.ble (8 + (ev_nL μc + 11) + ev_lo μc) (ev_lo μ) = true) (hmc : Nat.ble (kc + 1 + ev_mc μc) (ev_mc μ) = true ∧ Nat.ble (ks + ev_N ci + ev_ms μc) (ev_ms μ) = true)
    (hP : va_P D vwCl (ev_lay ad ct w) H) (hD : va_D A (ev_lay ad ct w)) (hS : va_S A s.heap H locs) (hls : ls.size = ev_nL μ)
    (nl : Nat) (hlenw : w.length = nl) (hbW : ev_bW nl w) (hW : (rest.map fun v => v.category).sum + 1 ≤ 8) (hpost : ∀ r w', post r w' → r = none)
    (kk : ∀ (w' : List ev_E) (ad' : Nat → Nat) (H2 : Heap) (locs2 : List Loc), post none w' → (∀ k, k < nl → ad' k = ad k) → va_P D vwCl (ev_lay ad' ct (w ++ w'.map (ev_ren fun k => nl + k))) H2 → va_D A (ev_lay ad' ct (w ++ w'.map (ev_ren fun k => nl + k))) → va_S A s.heap H2 locs2 → W p l e R s m args below meth c H2 locs2 (kc + 1 + ev_mc μc) (ks + ev_N ci + ev_ms μc) Q (F0 m (pc + 7) ls (.ref (ad' nl) :: rest))) : W p l e R s m args below meth c H locs kc ks Q (F0 m pc ls rest) := by
  subst hlenw
  obtain ⟨hok, ⟨hx1, hb, hml, hr, hown, hts, hlocks, hnm, hR1, hR2, hR3, hR4⟩, hK, hA⟩ := h0'
  obtain ⟨hd1, -, -⟩ := ev_use hok k1
  obtain ⟨hd2, -, -⟩ := ev_use hok k2
  obtain ⟨hd3, -, -⟩ := ev_use hok k3
  have hm1 := Nat.le_of_ble_eq_true hmc.1
  have hm2 := Nat.le_of_ble_eq_true hmc.2
  refine va_new (ci := ci) (fs := fs) (C := ev_R ci) (T := ev_F ci) (N := ev_N ci) hx1 hb hts (ev_wsin hci) (ev_ty ci) (ev_tyok hci) hown (hts _ h1) (hts _ h2) (hts _ h3) hK hP hD hS hA (ev_cl hci) hfs (by omega) (by omega) hd1 (fun q H1 hP1 hD1 hS1 => ?_)
  refine lv_dup hx1 hb hd2 rfl ?_
  obtain ⟨w1, w2, w3, w5, w6⟩ := cv
  have hlen : ∀ sig, parseMethodDescriptor y.desc = some sig → 0 = sig.parameters.length := by
    intro sig h
    have h2 := w5.2.2
    rw [h] at h2
    exact (Option.some.inj h2).symm
  have hPq : va_P D vwCl [(q, Sum.inr (ci, fs))] H1 := by
    intro k x hx
    refine hP1 ((ev_lay ad ct w).length + k) x ?_
    rw [List.getElem?_append_right (by omega), Nat.add_sub_cancel_left]
    exact hx
  have hqA : A q := hD1.2 (ev_lay ad ct w).length (q, Sum.inr (ci, fs)) (by rw [List.getElem?_append_right (by omega), Nat.sub_self]; rfl)
  have hA1 : ∀ z, va_A [(q, Sum.inr (ci, fs))] H1.size z → A z := by
    intro z hz
    rcases hz with ⟨k, E, h⟩ | h
    · have hk0 : k = 0 := by
        have := (List.getElem?_eq_some_iff.mp h).1
        simp at this
        exact this
      subst hk0
      cases h
      exact hqA
    · exact hA z (Nat.le_trans hS1.1 h)
  have hrun := va_runI (l := l) (e := e) (below := below) (meth := meth) (locs := locs) (cells := kc + 1) (slots := ks + ev_N ci) (R := R) (b := q) (As := []) (rest := .ref q :: rest) (g := F0 m (pc + 3 + 1) ls (.ref q :: .ref q :: rest)) ⟨hx1, hb, hml, hown, hts⟩ (hM q H1.size)
    ⟨⟨rfl, rfl, Nat.le_trans (Nat.le_of_ble_eq_true hroom.1) hR1, Nat.le_trans (Nat.le_of_ble_eq_true hroom.2) hR2, ev_pay hts w1, (by rw [← hrt]; exact List.mem_cons_self), (by rw [← hrt]; exact hts _ w1), hts _ w2, ⟨w5.1, w5.2.1⟩, hlen, hts _ hl⟩, w6, hts _ w3⟩
    (hPS q H1 hPq) rfl rfl hls rfl (by
      show 2 * 0 + (1 + (rest.map fun v => v.category).sum) ≤ 8
      omega) hd3 ⟨by omega, by omega⟩
  refine ev_back hrun hS1 hA1 hA1 (fun r w' ad' H2 locs2 hp hn' hP2 hD2 hz hk hS2 => ?_)
  have hr0 := hpost r w' hp
  subst hr0
  have hq0 : ad' 0 = q := hn' 0 (by omega)
  have hlt : ∀ x ∈ ev_lay ad ct w, x.1 < H1.size ∧ x.1 ≠ q := by
    intro x hx
    obtain ⟨k, hk⟩ := List.getElem?_of_mem hx
    have hkl := (List.getElem?_eq_some_iff.mp hk).1
    have hk1 : (ev_lay ad ct w ++ [(q, Sum.inr (ci, fs))])[k]? = some x := by rw [List.getElem?_append_left hkl]; exact hk
    refine ⟨(hP1 k x hk1).lt, fun hxq => ?_⟩
    have := hD1.1 k (ev_lay ad ct w).length x (q, Sum.inr (ci, fs)) hk1 (by rw [List.getElem?_append_right (by omega), Nat.sub_self]; rfl) hxq
    omega
  have hnA : ∀ x ∈ ev_lay ad ct w, ¬ va_A [(q, Sum.inr (ci, fs))] H1.size x.1 := by
    intro x hx hxA
    rcases hxA with ⟨k, E, h⟩ | h
    · have := List.mem_of_getElem? h
      rw [List.mem_singleton] at this
      exact (hlt x hx).2 (congrArg Prod.fst this)
    · exact absurd (hlt x hx).1 (Nat.not_lt.mpr h)
  have e : ev_lay (ev_ady ad ad' w.length) ct (w ++ w'.map (ev_ren fun k => w.length + k)) = ev_lay ad ct w ++ ev_lay ad' ct w' := by
    rw [ev_lay_app, ev_bW_lay ev_ady_lt (Nat.le_refl _) hbW, ev_ady_ge]
  have hP3 : va_P D vwCl (ev_lay ad ct w ++ ev_lay ad' ct w') H2 := by
    refine va_P.app (fun k x hx => ?_) hP2
    have hkl := (List.getElem?_eq_some_iff.mp hx).1
    have hk1 : (ev_lay ad ct w ++ [(q, Sum.inr (ci, fs))])[k]? = some x := by rw [List.getElem?_append_left hkl]; exact hx
    exact (hP1 k x hk1).kept (hk _ (hlt x (List.mem_of_getElem? hx)).1 (hnA x (List.mem_of_getElem? hx)))
  have hD3 : va_D A (ev_lay ad ct w ++ ev_lay ad' ct w') := by
    refine ev_D_app hD ⟨hD2.1, fun k z hz => hA1 _ (hD2.2 k z hz)⟩ fun x hx z hz hxz => ?_
    obtain ⟨k, hk⟩ := List.getElem?_of_mem hz
    exact hnA x hx (by rw [hxz]; exact hD2.2 k z hk)
  have := kk w' (ev_ady ad ad' w.length) H2 locs2 hp ev_ady_lt (by rw [e]; exact hP3) (by rw [e]; exact hD3) hS2
  rw [show ev_ady ad ad' w.length w.length = q from (congrFun (ev_ady_ge (ad := ad) (ad' := ad') (n := w.length)) 0).trans hq0] at this
  exact this
theorem ev_make {μ μc : ev_M} {n0 : Nat} {X : ev_X} {pc : Nat} {L : ev_L} {st : List Value} {w : List ev_E} {kc ks ci i1 i2 a1 a2 a3 a4 b1 b2 b3 b4 c1 c2 c3 c4 : Nat} {va vb vc : Value} {y : MethodName} {fs : List Value} {post : Option Value → List ev_E → Prop}
    (hM : ev_A y μc (some 1) [.ref 0] [.inr (ci, fs)] post) (hci : ci < 5) (cv : ev_CI y μc 0) (hrt : ev_rt μc = none) (hl : Jvm.Cond.methodLink (ev_own μ) i2 y ∈ ev_WA) (k1 : ev_look (ev_tab μ) pc = some (.new i1, a1, a2, a3, a4, va)) (k2 : ev_look (ev_tab μ) (pc + 3) = some (.dup, b1, b2, b3, b4, vb)) (k3 : ev_look (ev_tab μ) (pc + 4) = some (.invokespecial i2, c1, c2, c3, c4, vc))
    (h1 : Jvm.Cond.classLink (ev_own μ) i1 (ev_R ci) ∈ ev_WA) (h2 : Jvm.Cond.instantiable (ev_R ci) (ev_N ci) ∈ ev_WA) (h3 : Jvm.Cond.initialized (ev_R ci) ∈ ev_WA) (hfs : ∀ j, j < ev_N ci → defaultValue (ev_ty ci j) = vp_V fs j) (hfb : ∀ ad : Nat → Nat, fs.map (ev_cv ad) = fs)
    (hroom : Nat.ble (ev_fr μc + 1) (ev_fr μ) = true ∧ Nat.ble (8 + (ev_nL μc + 11) + ev_lo μc) (ev_lo μ) = true) (hmc : Nat.ble (kc + 1 + ev_mc μc) (ev_mc μ) = true ∧ Nat.ble (ks + ev_N ci + ev_ms μc) (ev_ms μ) = true)
    (nl : Nat) (hlenw : w.length = nl) (hn : Nat.ble n0 nl = true) (hbL : ev_bL nl L = true) (hbS : st.all (ev_bvb nl) = true) (hbW : ev_bW nl w) (hW : Nat.ble ((st.map fun v => v.category).sum + 1) 8 = true) (hpost : ∀ r w', post r w' → r = none)
    (kk : ∀ w', post none w' → ev_V μ (some n0) X (pc + 7) L (.ref nl :: st) (w ++ w'.map (ev_ren fun k => nl + k)) (kc + 1 + ev_mc μc) (ks + ev_N ci + ev_ms μc)) : ev_V μ (some n0) X pc L st w kc ks := by
  intro p l e R s m args below meth c D ct ad0 A Q h00 hx ad H locs ls I
  obtain ⟨hP, hD, hS, hE, hL⟩ := I
  have elay : ∀ q : Nat, ev_lay (fun _ => q) ct [Sum.inr (ci, fs)] = [(q, Sum.inr (ci, fs))] := fun q => by
    show [(q, Sum.inr (ci, fs.map (ev_cv fun _ => q)))] = _
    rw [hfb]
  have hn := Nat.le_of_ble_eq_true hn
  refine mk_W (PcF := fun q sz => ev_Pc D ct (fun _ => q) sz [.ref 0] [.inr (ci, fs)]) h00 (fun q sz => ?_) (fun q H1 hPq => ?_) hci cv hrt hl k1 k2 k3 h1 h2 h3 hfs hroom hmc hP hD hS hL.1 nl hlenw hbW ?_ hpost (fun w' ad' H2 locs2 hp he hP2 hD2 hS2 => ?_)
  · have := hM l D ct (fun _ => q) sz
    rw [elay] at this
    exact this
  · refine ⟨ev_blind, fun U hU hWu => ⟨rfl, by rw [hU], ?_, va_K.moved hWu.alike h00.2.2.1, ?_⟩⟩
    · rw [elay, hU]
      exact hPq
    · rw [elay]
      refine ⟨fun i j a b hi hj _ => ?_, fun _ _ _ => trivial⟩
      have h1 := (List.getElem?_eq_some_iff.mp hi).1
      have h2 := (List.getElem?_eq_some_iff.mp hj).1
      simp only [List.length_cons, List.length_nil] at h1 h2
      omega
  · rw [ev_sum_cat]
    exact Nat.le_of_ble_eq_true hW
  · have := kk w' hp p l e R s m args below meth c D ct ad0 A Q h00 hx ad' H2 locs2 ls ⟨hP2, hD2, hS2, fun k hk => by rw [he k (by omega)]; exact hE k hk, ev_bL_LH he hbL hL⟩
    rw [List.map_cons, ev_bS_cv he hbS] at this
    exact this
/-- one's cells in another order -/
theorem ev_perm {μ : ev_M} {n0 : Nat} {X : ev_X} {pc : Nat} {L : ev_L} {st : List Value} {w : List ev_E} {kc ks : Nat} (em : Nat → Nat) (w2 : List ev_E) (L2 : ev_L) (st2 : List Value) (hsel : ev_pick w em 0 w2.length = w2.map (ev_ren em)) (hinj : ∀ i, i < w2.length → ∀ j, j < w2.length → em i = em j → i = j) (hn : ∀ k, k < n0 → em k = k)
    (hL2 : ∀ i v, ev_nth L2 i = some v → ev_nth L i = some (ev_cv em v)) (hst : st2.map (ev_cv em) = st) (kk : ev_V μ (some n0) X pc L2 st2 w2 kc ks) : ev_V μ (some n0) X pc L st w kc ks := by
  intro p l e R s m args below meth c D ct ad0 A Q h0' hx ad H locs ls I
  obtain ⟨hP, hD, hS, hE, hL⟩ := I
  have hg := ev_pick_get w2 0 hsel
  have hat : ∀ (k : Nat) (q : Nat × va_E), (ev_lay (fun k => ad (em k)) ct w2)[k]? = some q → k < w2.length ∧ (ev_lay ad ct w)[em k]? = some q := by
    intro k q hq
    obtain ⟨E, h1, h2⟩ := ev_lay_inv hq
    have h3 := hg k E h1
    rw [Nat.zero_add] at h3
    exact ⟨(List.getElem?_eq_some_iff.mp h1).1, by rw [ev_lay_get h3, ev_ce_ren, h2]⟩
  have := kk p l e R s m args below meth c D ct ad0 A Q h0' hx (fun k => ad (em k)) H locs ls ⟨fun k q hq => hP _ q (hat k q hq).2, ⟨fun i j a b hi hj hab => ?_, fun k q hq => hD.2 _ q (hat k q hq).2⟩, hS, fun k hk => (congrArg ad (hn k hk)).trans (hE k hk), ⟨hL.1, hL.2.1, fun i v hv => ?_⟩⟩
  · rw [← hst, List.map_map]
    have e : (ev_cv ad ∘ ev_cv em) = ev_cv (fun k => ad (em k)) := funext fun v => ev_cv_cv ad em v
    rw [e]
    exact this
  · obtain ⟨i1, i2⟩ := hat i a hi
    obtain ⟨j1, j2⟩ := hat j b hj
    exact hinj i i1 j j1 (hD.1 _ _ a b i2 j2 hab)
  · rw [← ev_cv_cv]
    exact hL.2.2 i _ (hL2 i v hv)
