/-! ===== the law, from its entry ===== -/
theorem tys_ct {s : State} {args : Array Value} (hts : ∀ w ∈ lw_tbl, w.before args s = true) (hO : va_AO "GossipCounts$World" s) : ∃ ct : Nat → ClassId, ∀ (k : Nat) (q : ClassId × FieldType), (ev_tys ct)[k]? = some q → ArrOfT s q.1 q.2 ∧ va_RA s q.1 q.2 := by
  obtain ⟨c0, k0, p0, a1, a2, a3⟩ := Cond.arrayClass_spec (hts _ (List.mem_filter.mp w_int).1)
  obtain ⟨comp, c2, k2, d1, d2, d3, d4, d5⟩ := Cond.arrayOver_spec hO
  refine ⟨fun k => if k = 0 then c0 else c2, fun k q hq => ?_⟩
  match k, hq with
  | 0, hq => cases hq; exact ⟨fun n z => ⟨(fun k h => by cases h), k0, a2, p0, a3⟩, a1⟩
  | 1, hq => cases hq; exact ⟨fun n z => ⟨(fun k h => by cases h), k0, a2, p0, a3⟩, a1⟩
  | 2, hq => cases hq; exact ⟨fun n z => ⟨(fun k h => by cases h), k2, d3, comp, d4⟩, k2, comp, d3, d4, d1, d5⟩
  | k + 3, hq => cases hq
theorem cls_D {s : State} {args : Array Value} (hts : ∀ w ∈ lw_tbl, w.before args s = true) : ∃ D : va_G, ∀ (c : Nat) (q : vw_C), vwCl[c]? = some q → u_Kn s q.1 q.2.1 q.2.2 (D.1 c) (D.2 c) := by
  have one : ∀ ci, ci < 5 → ∃ (cC : ClassId) (iS : Nat → Nat), u_Kn s (ev_R ci) (ev_F ci) (ev_N ci) cC iS := by
    intro ci hci
    have hi : Jvm.Cond.instantiable (ev_R ci) (ev_N ci) ∈ ev_WA := by
      match ci, hci with
      | 0, _ => exact w_in_X0
      | 1, _ => exact w_in_X1
      | 2, _ => exact w_in_X2
      | 3, _ => exact w_in_X3
      | 4, _ => exact w_in_X4
    exact u_known (n := ev_N ci) (fun w hw => hts w (List.mem_filter.mp hw).1) (ev_wsin hci) (hts _ (List.mem_filter.mp hi).1)
  have h : ∀ ci, ∃ (x : ClassId × (Nat → Nat)), ci < 5 → u_Kn s (ev_R ci) (ev_F ci) (ev_N ci) x.1 x.2 := by
    intro ci
    by_cases hci : ci < 5
    · obtain ⟨a, b, h⟩ := one ci hci
      exact ⟨(a, b), fun _ => h⟩
    · exact ⟨(0, fun _ => 0), fun h => absurd h hci⟩
  refine ⟨(fun c => (h c).choose.1, fun c => (h c).choose.2), fun c q hq => ?_⟩
  have hc : c < 5 := (List.getElem?_eq_some_iff.mp hq).1
  have hq2 := ev_cl hc
  rw [hq] at hq2
  cases hq2
  exact (h c).choose_spec hc
theorem mL_fr {nm : String} {t : ev_T} : ev_fr (mL nm t) = 11 := rfl
theorem mL_lo {nm : String} {t : ev_T} : ev_lo (mL nm t) = 470 := rfl
theorem mL_mc {nm : String} {t : ev_T} : ev_mc (mL nm t) = 600130 := rfl
theorem mL_ms {nm : String} {t : ev_T} : ev_ms (mL nm t) = 7301080 := rfl
theorem one_D {q : Nat} {E : va_E} : va_D (fun _ => True) [(q, E)] := by
  refine ⟨fun i j a b hi hj _ => ?_, fun _ _ _ => trivial⟩
  have h1 := (List.getElem?_eq_some_iff.mp hi).1
  have h2 := (List.getElem?_eq_some_iff.mp hj).1
  simp only [List.length_cons, List.length_nil] at h1 h2
  omega
theorem th_all_in : ∀ w ∈ th_all, w ∈ lw_tbl := by
  intro w hw
  have key : ∀ k, k < 2 → ∀ w ∈ th_ws k, w ∈ lw_tbl := fun k hk w hw => of_decide_eq_true ((Bool.and_eq_true _ _).mp (List.all_eq_true.mp (List.all_eq_true.mp th_in k (List.mem_range.mpr hk)) w hw)).1
  unfold th_all at hw
  rcases List.mem_append.mp hw with h | h
  · exact key 0 (by omega) w h
  · exact key 1 (by omega) w h
section ROW
variable {p : Program} {l : Launch} {e : Env} {s : State} {m : MethodId} {b : Nat} {below : List Frame} {meth : Method} {c : Code} {D : va_G} {ct : Nat → ClassId} {Q : State → Prop}
/-- a row of ints is made and stored -/
theorem mk_row (hx : p.tables.exec = Jvm.exec) (hb : c.code = cL_law) (hw : (Jvm.Cond.arrayClass .int).before #[Value.ref b] s = true) (hK : va_K D vwCl (ev_tys ct) s) {ws : va_W} {H : Heap} {locs : List Loc} (hP : va_P D vwCl ws H) (hD : va_D (LAq s) ws) (hS : va_S (LAq s) s.heap H locs) {ls : Array Slot} {lv : List (Nat × Value)} (hl : lv_has ls 18 lv)
    {z : Int} {n : Int32} {N i pc kc ks pc2 : Nat} (hz : (Int8.ofInt z).toInt32 = n) (hn : ¬ n < 0) (hN : n.toNatClampNeg = N) (hby : N * componentBytes .int ≤ 536870912) (hcells : kc + 1 ≤ 600130) (hslots : ks + N ≤ 7301080) (d1 : decode cL_law pc = .ok (.bipush z, 2)) (d2 : decode cL_law (pc + 2) = .ok (.newarray .int, 2)) (hi : i < 18)
    (d3 : (∃ k : Fin 4, decode cL_law (pc + 4) = .ok (.astore_n k, 1) ∧ (k : Nat) = i ∧ pc2 = pc + 5) ∨ (decode cL_law (pc + 4) = .ok (.astore i, 2) ∧ pc2 = pc + 6)) (hfil : lv.filter (fun q => !(q.1 == i) && !(q.1 + 1 == i && q.2.category == 2)) = lv)
    (kk : ∀ (q : Nat) (H1 : Heap) (ls' : Array Slot), va_P D vwCl (ws ++ [(q, .inl (ct 0, (N, .inl fun _ => 0)))]) H1 → va_D (LAq s) (ws ++ [(q, .inl (ct 0, (N, .inl fun _ => 0)))]) → va_S (LAq s) s.heap H1 locs → lv_has ls' 18 ((i, .ref q) :: lv) → W p l e room_1 s m #[Value.ref b] below meth c H1 locs (kc + 1) (ks + N) Q (F0 m pc2 ls' [])) :
    W p l e room_1 s m #[Value.ref b] below meth c H locs kc ks Q (F0 m pc ls []) := by
  refine lv_bipush hx hb d1 hz ?_
  refine va_newa (atype := .int) (ty := .int) (a0 := (N, .inl fun _ => 0)) (N' := N) hx hb hw rfl hK hP hD hS (fun _ h => h) (fun _ => rfl) hn hN hby hcells hslots d2 (fun q cA H3 hK3 hP3 hD3 hS3 => ?_)
  have hcA : cA = ct 0 := by
    have h1 := (hK3.2 3 (cA, .int) rfl).2
    have h2 := (hK.2 0 (ct 0, .int) rfl).2
    exact Option.some.inj (h1.symm.trans h2)
  subst hcA
  rcases d3 with ⟨k, a1, a2, rfl⟩ | ⟨a1, rfl⟩
  · exact lv_astore_n hx hb a1 a2 hl hi (congrArg ((i, Value.ref q) :: ·) hfil) (fun ls' h' => kk q H3 ls' hP3 hD3 hS3 h')
  · exact lv_astore hx hb a1 hl hi (congrArg ((i, Value.ref q) :: ·) hfil) (fun ls' h' => kk q H3 ls' hP3 hD3 hS3 h')
end ROW
def rw0 (N : Nat) : ev_E := .inl (0, N, .inl fun _ => 0)
theorem WW_push (S : S_X6) : WW S (fun _ => 0, fun _ => 0, fun _ => 0, fun _ => 0) (fun _ => 0, fun _ => 0, fun _ => 0, fun _ => 0) = ((((((((W_X6 S ++ [rw0 12]) ++ [rw0 48]) ++ [rw0 28]) ++ [rw0 64]) ++ [rw0 12]) ++ [rw0 48]) ++ [rw0 28]) ++ [rw0 64]) := by
  unfold WW WL8 rw0
  simp only [List.append_assoc]
  rfl
theorem WW_lay {S : S_X6} (hp : ∀ p, S.2.2 p < 6) {ct ad ad1 : Nat → Nat} (h : ∀ k, k < 140 → ad k = ad1 k) : ev_lay ad ct (WW S (fun _ => 0, fun _ => 0, fun _ => 0, fun _ => 0) (fun _ => 0, fun _ => 0, fun _ => 0, fun _ => 0)) = ((((((((ev_lay ad1 ct (W_X6 S) ++ [(ad 140, .inl (ct 0, (12, .inl fun _ => 0)))]) ++ [(ad 141, .inl (ct 0, (48, .inl fun _ => 0)))]) ++ [(ad 142, .inl (ct 0, (28, .inl fun _ => 0)))]) ++ [(ad 143, .inl (ct 0, (64, .inl fun _ => 0)))]) ++ [(ad 144, .inl (ct 0, (12, .inl fun _ => 0)))]) ++ [(ad 145, .inl (ct 0, (48, .inl fun _ => 0)))]) ++ [(ad 146, .inl (ct 0, (28, .inl fun _ => 0)))]) ++ [(ad 147, .inl (ct 0, (64, .inl fun _ => 0)))]) := by
  rw [WW_push, ev_lay_push, ev_lay_push, ev_lay_push, ev_lay_push, ev_lay_push, ev_lay_push, ev_lay_push, ev_lay_push, ev_bW_lay (ad' := ad) (ad := ad1) h (Nat.le_of_eq (W6_len S)) (bW_X6 hp)]
  simp only [List.length_append, W6_len, List.length_cons, List.length_nil]
  rfl
set_option maxHeartbeats 8000000 in
set_option maxRecDepth 100000 in
/-- YOUR PART: from the entry, for every script of at most 260 ints, the law comes to its end with true -/
theorem whole_start {p : Program} {e : Env} {s : State} {m : MethodId} {below : List Frame} {meth : Method} {c : Code} (l : Launch) (hflags : l.flags = flags0) {b L : Nat} {xs : Nat → Int32} (hL : L ≤ 260) (C0 : lw_At p s m meth c b L xs) : W p l e room_1 s m #[Value.ref b] below meth c s.heap [] 0 0 (lw_Z below #[Value.ref b] s) (entryFrame m ([Value.ref b] : List Value).toArray 18) := by
  obtain ⟨hx, hb, hr, hml, hown, hts, hX, hbl, hlocks, hgv⟩ := C0
  have hO : va_AO "GossipCounts$World" s := va_AO.of (hts (.arrayOver (.object "GossipCounts$World")) (List.mem_of_getElem? (i := 147) (by decide +kernel)))
  obtain ⟨D, hKc⟩ := cls_D hts
  obtain ⟨ct, hKt⟩ := tys_ct hts hO
  have hK : va_K D vwCl (ev_tys ct) s := ⟨hKc, hKt⟩
  have hA : ∀ q, s.heap.size ≤ q → LAq s q := fun _ h => h
  have hS : va_S (LAq s) s.heap s.heap [] := va_S.rf
  have hW : ∀ w ∈ ev_WA, w.before #[Value.ref b] s = true := fun w hw => hts w (List.mem_filter.mp hw).1
  have hfix : ev_Fix (mL meth.name []) p room_1 s m #[Value.ref b] meth c := ⟨hx, hb, hml, hr, hown, hW, hlocks, rfl, by rw [mL_fr]; exact Nat.le_of_ble_eq_true rfl, by rw [mL_lo]; exact Nat.le_of_ble_eq_true rfl, by rw [mL_mc]; exact Nat.le_of_ble_eq_true rfl, by rw [mL_ms]; exact Nat.le_of_ble_eq_true rfl⟩
  have I0 : ev_I0 (mL meth.name tL_start) p room_1 s m #[Value.ref b] meth c D ct (LAq s) := ⟨oL_start _, hfix, hK, hA⟩
  have dd : ∀ {pc : Nat} {ins : Instr} {nx k x y : Nat} {v : Value}, ev_look tL_start pc = some (ins, nx, k, x, y, v) → decode cL_law pc = .ok (ins, ev_len ins x) := fun h => (ev_use (μ := mL meth.name tL_start) (oL_start _) h).1
  have hl := lv_entry ([Value.ref b]) (n := 18) (Nat.le_of_ble_eq_true rfl)
  rw [lg_entry_eq]
  generalize (lg_sl ([Value.ref b]) ++ List.replicate (18 - (lg_sl ([Value.ref b])).length) Slot.unset).toArray = ls at hl ⊢
  have hl : lv_has ls 18 [(0, .ref b)] := hl
  have hP : va_P D vwCl (ev_lay (fun k => k) ct []) s.heap := fun k q h => by simp [ev_lay] at h
  have hD : va_D (LAq s) (ev_lay (fun k => k) ct []) := ⟨fun i j p q h => by simp [ev_lay] at h, fun k q h => by simp [ev_lay] at h⟩
  refine mk_W (μ := mL meth.name tL_start) (μc := mn_X4_init) (pc := 0) (w := []) (ad := fun k => k) (PcF := fun q sz => ev_PcO D ct (fun _ => q) sz [.ref 0] w0_X4) (post := P_X6) (ci := 4) (fs := [.null, .null, .null, .null, .int 0, .null]) I0 (fun q sz => ?_) (fun q H1 hPq => ?_) (by decide) cn_X4_init rfl w_lw_109 rfl rfl rfl w_cl_L_11 w_in_X4 w_id_X4 df_X4 ⟨by rw [mL_fr]; rfl, by rw [mL_lo]; rfl⟩ ⟨by rw [mL_mc]; rfl, by rw [mL_ms]; rfl⟩ hP hD hS hl.1 0 rfl trivial (by decide) (fun r w h => h.1) (fun w' ad1 H1 locs1 hp1 he1 hP1 hD1 hS1 => ?_)
  · have elay : ev_lay (fun _ => q) ct w0_X4 = [(q, .inr (4, [.null, .null, .null, .null, .int 0, .null]))] := rfl
    have := tO_X4_init l D ct (fun _ => q) sz
    rw [elay] at this
    exact this
  · have elay : ev_lay (fun _ => q) ct w0_X4 = [(q, .inr (4, [.null, .null, .null, .null, .int 0, .null]))] := rfl
    exact ⟨ev_blindO, fun U hU hWu => ⟨⟨rfl, by rw [hU], by rw [elay, hU]; exact hPq, va_K.moved hWu.alike hK, by rw [elay]; exact one_D⟩, va_AO.moved hWu.alike hO⟩⟩
  obtain ⟨-, S, hz, rfl⟩ := hp1
  have e1 : ([] : List ev_E) ++ (W_X6 S).map (ev_ren fun k => 0 + k) = W_X6 S := by
    rw [List.nil_append, show (fun k => 0 + k) = (fun k : Nat => k) from funext Nat.zero_add, ev_map_id]
  rw [e1] at hP1 hD1
  have d7 : decode cL_law 7 = .ok (.astore_n 1, 1) := dd (pc := 7) (ins := .astore_n 1) rfl
  refine lv_astore_n (lv' := [(1, .ref (ad1 0)), (0, .ref b)]) hx hb d7 rfl hl (by decide) rfl (fun ls1 hl1 => ?_)
  refine mk_row (pc := 8) (pc2 := 13) (N := 12) (i := 2) (n := 12) hx hb (hW _ w_int) hK hP1 hD1 hS1 hl1 rfl (by decide) (by decide +kernel) (by decide) (Nat.le_of_ble_eq_true rfl) (Nat.le_of_ble_eq_true rfl) (dd (pc := 8) (ins := .bipush 12) rfl) (dd (pc := 10) (ins := .newarray .int) rfl) (by decide) (Or.inl ⟨2, dd (pc := 12) (ins := .astore_n 2) rfl, rfl, rfl⟩) rfl (fun q1 H2 ls2 hP2 hD2 hS2 hl2 => ?_)
  refine mk_row (pc := 13) (pc2 := 18) (N := 48) (i := 3) (n := 48) hx hb (hW _ w_int) hK hP2 hD2 hS2 hl2 rfl (by decide) (by decide +kernel) (by decide) (Nat.le_of_ble_eq_true rfl) (Nat.le_of_ble_eq_true rfl) (dd (pc := 13) (ins := .bipush 48) rfl) (dd (pc := 15) (ins := .newarray .int) rfl) (by decide) (Or.inl ⟨3, dd (pc := 17) (ins := .astore_n 3) rfl, rfl, rfl⟩) rfl (fun q2 H3 ls3 hP3 hD3 hS3 hl3 => ?_)
  refine mk_row (pc := 18) (pc2 := 24) (N := 28) (i := 4) (n := 28) hx hb (hW _ w_int) hK hP3 hD3 hS3 hl3 rfl (by decide) (by decide +kernel) (by decide) (Nat.le_of_ble_eq_true rfl) (Nat.le_of_ble_eq_true rfl) (dd (pc := 18) (ins := .bipush 28) rfl) (dd (pc := 20) (ins := .newarray .int) rfl) (by decide) (Or.inr ⟨dd (pc := 22) (ins := .astore 4) rfl, rfl⟩) rfl (fun q3 H4 ls4 hP4 hD4 hS4 hl4 => ?_)
  refine mk_row (pc := 24) (pc2 := 30) (N := 64) (i := 5) (n := 64) hx hb (hW _ w_int) hK hP4 hD4 hS4 hl4 rfl (by decide) (by decide +kernel) (by decide) (Nat.le_of_ble_eq_true rfl) (Nat.le_of_ble_eq_true rfl) (dd (pc := 24) (ins := .bipush 64) rfl) (dd (pc := 26) (ins := .newarray .int) rfl) (by decide) (Or.inr ⟨dd (pc := 28) (ins := .astore 5) rfl, rfl⟩) rfl (fun q4 H5 ls5 hP5 hD5 hS5 hl5 => ?_)
  refine mk_row (pc := 30) (pc2 := 36) (N := 12) (i := 6) (n := 12) hx hb (hW _ w_int) hK hP5 hD5 hS5 hl5 rfl (by decide) (by decide +kernel) (by decide) (Nat.le_of_ble_eq_true rfl) (Nat.le_of_ble_eq_true rfl) (dd (pc := 30) (ins := .bipush 12) rfl) (dd (pc := 32) (ins := .newarray .int) rfl) (by decide) (Or.inr ⟨dd (pc := 34) (ins := .astore 6) rfl, rfl⟩) rfl (fun q5 H6 ls6 hP6 hD6 hS6 hl6 => ?_)
  refine mk_row (pc := 36) (pc2 := 42) (N := 48) (i := 7) (n := 48) hx hb (hW _ w_int) hK hP6 hD6 hS6 hl6 rfl (by decide) (by decide +kernel) (by decide) (Nat.le_of_ble_eq_true rfl) (Nat.le_of_ble_eq_true rfl) (dd (pc := 36) (ins := .bipush 48) rfl) (dd (pc := 38) (ins := .newarray .int) rfl) (by decide) (Or.inr ⟨dd (pc := 40) (ins := .astore 7) rfl, rfl⟩) rfl (fun q6 H7 ls7 hP7 hD7 hS7 hl7 => ?_)
  refine mk_row (pc := 42) (pc2 := 48) (N := 28) (i := 8) (n := 28) hx hb (hW _ w_int) hK hP7 hD7 hS7 hl7 rfl (by decide) (by decide +kernel) (by decide) (Nat.le_of_ble_eq_true rfl) (Nat.le_of_ble_eq_true rfl) (dd (pc := 42) (ins := .bipush 28) rfl) (dd (pc := 44) (ins := .newarray .int) rfl) (by decide) (Or.inr ⟨dd (pc := 46) (ins := .astore 8) rfl, rfl⟩) rfl (fun q7 H8 ls8 hP8 hD8 hS8 hl8 => ?_)
  refine mk_row (pc := 48) (pc2 := 54) (N := 64) (i := 9) (n := 64) hx hb (hW _ w_int) hK hP8 hD8 hS8 hl8 rfl (by decide) (by decide +kernel) (by decide) (Nat.le_of_ble_eq_true rfl) (Nat.le_of_ble_eq_true rfl) (dd (pc := 48) (ins := .bipush 64) rfl) (dd (pc := 50) (ins := .newarray .int) rfl) (by decide) (Or.inr ⟨dd (pc := 52) (ins := .astore 9) rfl, rfl⟩) rfl (fun q8 H9 ls9 hP9 hD9 hS9 hl9 => ?_)
  obtain ⟨ad0, had0⟩ : ∃ f : Nat → Nat, f = fun k => if k = 999 then b else if k < 140 then ad1 k else [q1, q2, q3, q4, q5, q6, q7, q8].getD (k - 140) 0 := ⟨_, rfl⟩
  have a9 : ad0 999 = b := by rw [had0]; exact if_pos rfl
  have alt : ∀ k, k < 140 → ad0 k = ad1 k := fun k hk => by
    rw [had0]
    show (if k = 999 then b else if k < 140 then ad1 k else _) = _
    rw [if_neg (by omega), if_pos hk]
  have a0 : ad0 0 = ad1 0 := alt 0 (by decide)
  have b1 : ad0 140 = q1 := by rw [had0]; rfl
  have b2 : ad0 141 = q2 := by rw [had0]; rfl
  have b3 : ad0 142 = q3 := by rw [had0]; rfl
  have b4 : ad0 143 = q4 := by rw [had0]; rfl
  have b5 : ad0 144 = q5 := by rw [had0]; rfl
  have b6 : ad0 145 = q6 := by rw [had0]; rfl
  have b7 : ad0 146 = q7 := by rw [had0]; rfl
  have b8 : ad0 147 = q8 := by rw [had0]; rfl
  have elay := WW_lay hz.2.2.2.2 (ct := ct) alt
  rw [b1, b2, b3, b4, b5, b6, b7, b8] at elay
  have hLH : ev_LH ad0 ls9 18 (LB none none none none none none none none) := by
    refine ev_LH.of hl9 (fun i v hv => ?_)
    match i, hv with
    | 0, hv => cases hv; show (0, Value.ref (ad0 999)) ∈ _; rw [a9]; simp
    | 1, hv => cases hv; show (1, Value.ref (ad0 0)) ∈ _; rw [a0]; simp
    | 2, hv => cases hv; show (2, Value.ref (ad0 140)) ∈ _; rw [b1]; simp
    | 3, hv => cases hv; show (3, Value.ref (ad0 141)) ∈ _; rw [b2]; simp
    | 4, hv => cases hv; show (4, Value.ref (ad0 142)) ∈ _; rw [b3]; simp
    | 5, hv => cases hv; show (5, Value.ref (ad0 143)) ∈ _; rw [b4]; simp
    | 6, hv => cases hv; show (6, Value.ref (ad0 144)) ∈ _; rw [b5]; simp
    | 7, hv => cases hv; show (7, Value.ref (ad0 145)) ∈ _; rw [b6]; simp
    | 8, hv => cases hv; show (8, Value.ref (ad0 146)) ∈ _; rw [b7]; simp
    | 9, hv => cases hv; show (9, Value.ref (ad0 147)) ∈ _; rw [b8]; simp
    | 10, hv => cases hv
    | 11, hv => cases hv
    | 12, hv => cases hv
    | 13, hv => cases hv
    | 14, hv => cases hv
    | 15, hv => cases hv
    | 16, hv => cases hv
    | 17, hv => cases hv
    | _ + 18, hv => cases hv
  have hstk : l.stackTraces = false := stk_off hflags
  have hth : ∀ w ∈ th_all, w.before #[Value.ref b] s = true := fun w hw => hts w (th_all_in w hw)
  have hex : ∀ w ∈ th_ex, w.before #[Value.ref b] s = true := fun w hw => hts w (of_decide_eq_true ((Bool.and_eq_true _ _).mp (List.all_eq_true.mp th_ex_in w hw)).1)
  have C : LC p l s m b meth c D ct ad0 L xs := ⟨⟨rfl, hfix, hK, hA⟩, ⟨hX, hbl, a9⟩, hstk, hth, hex, th_G_start hts hgv ⟨_, (hK.1 4 (RX4, TX4, 6) rfl).2.1⟩ (fun a ha => Nat.not_le.mpr ha)⟩
  have hbody := c_body (e := e) (below := below) (F := 6401) (by decide) C (by omega) hr hz (kc := 1000) (ks := 1000000) (Nat.le_of_ble_eq_true rfl) (Nat.le_of_ble_eq_true rfl)
  refine W.widen (k := 1000) (n := 1000000) (Nat.le_of_ble_eq_true rfl) (Nat.le_of_ble_eq_true rfl) ?_
  exact hbody ad0 H9 locs1 ls9 ⟨by rw [elay]; exact hP9, by rw [elay]; exact hD9, hS9, rfl, hLH⟩
