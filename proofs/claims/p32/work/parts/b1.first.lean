/-! the first state -/
def s0_set : Nat → Int32
  | 0 => 1
  | 1 => 3
  | 2 => 2
  | _ => 0
theorem mb_none (t : Nat) : mb 0 t = false := by
  unfold mb
  simp
theorem cn_none (n : Nat) (p : Nat → Bool) (h : ∀ k, k < n → p k = false) : cn p n = 0 := cn_zero n h
theorem WX_0 {u : S_X3} {v : Nat → Int32} (h1 : a_X3_time u = 0) (h2 : a_X3_things u = 0) (h3 : a_X3_living u = 0) (h4 : a_X3_suspects u = 0) (h5 : a_X3_wronged u = 0) (h6 : a_X3_ends u = 0) (h7 : a_X3_slanderFound u = 0) (hs : ∀ i, i < 5 → a_X3_settings u i = s0_set i)
    (hc : ∀ t, t < 24 → a_X3_counts u t = 0) (hk : ∀ t, t < 24 → a_X3_endKinds u t = 0) (hh : ∀ k, k < 100 → a_X3_hold u k = -1) (r1 : a_X1_heard (a_X3_rep u) = 0) (r2 : a_X1_made (a_X3_rep u) = 0) (r3 : ∀ t, t < 24 → a_X1_numbers (a_X3_rep u) t = 0) (r4 : ∀ t, t < 24 → a_X1_sums (a_X3_rep u) t = 0)
    (v0 : ∀ k, k < 8 → v k = 0) (v8 : ∀ i, i < 5 → v (8 + i) = s0_set i) (v13 : ∀ k, k < 4 → v (13 + k) = -1) : WX G0 0 0 0 0 0 0 u v := by
  have z0 : (0 : Int32) = nI 0 := rfl
  refine ⟨⟨⟨h1, v0 0 (by omega), by omega, h2, v0 1 (by omega), by omega, v0 2 (by omega), v0 3 (by omega), h6, v0 4 (by omega), rfl, v0 5 (by omega), ?_, ?_⟩, ⟨fun i hi => by rw [v8 i hi, hs i hi], fun i hi => ?_, Or.inl (hs 3 (by omega)), ⟨0, by omega, hs 4 (by omega)⟩⟩, ⟨fun t ht => absurd ht (by omega), fun t ht => ?_, fun t _ ht => ⟨hc t ht, hk t ht⟩⟩, ⟨fun t ht => ?_, fun t ht => ?_, fun t ht => ?_, fun t ht => ?_⟩, fun j hj => absurd hj (by omega), ⟨⟨r1, r2, by omega, fun j hj => absurd hj (by omega), fun t ht => r3 t ht, fun t ht => r4 t ht, fun j hj => absurd hj (by omega)⟩, fun j hj => absurd hj (by omega), fun j hj => absurd hj (by omega), fun j hj => absurd hj (by omega)⟩, by omega, by omega⟩, fun k hk4 => ?_, fun o ho => absurd ho (by omega), fun k hk1 => Or.inl (hh k hk1), fun o ho _ k hk1 => hh _ (by omega)⟩
  · rw [v0 6 (by omega), h5, cn_zero 24 fun k _ => mb_none k]
    rfl
  · rw [v0 7 (by omega), h7]
  · rw [hs i (by omega)]
    match i, hi with
    | 0, _ => exact ⟨1, by omega, rfl⟩
    | 1, _ => exact ⟨3, by omega, rfl⟩
    | 2, _ => exact ⟨2, by omega, rfl⟩
  · rw [hc t ht]
    decide
  · rw [h3, mb_none] at ht
    cases ht
  · rw [h4, mb_none] at ht
    cases ht
  · rw [h5, mb_none] at ht
    cases ht
  · rw [h3, mb_none] at ht
    cases ht
  · rw [v13 k hk4]
    exact (hh k (by omega)).symm
/-! what a throw needs, at the law's start -/
theorem th_G_start {s : State} {args : Array Value} (hts : ∀ w ∈ lw_tbl, w.before args s = true) (hgv : (Jvm.Cond.and given_1 narrow_1).before args s = true) (hown : ∃ cur, s.vm.findClass RX4 = some cur) {A : Nat → Prop} (hA : ∀ a : Nat, a < s.heap.size → ¬ A a) : th_G A s := by
  have hs := flat_of_before _ hgv
  obtain ⟨cur, hcur⟩ := hown
  refine ⟨⟨fun q hq => ?_, ?_, ?_⟩, ?_⟩
  · have h1 := hts _ (of_decide_eq_true (List.all_eq_true.mp th_str_in q hq))
    obtain ⟨-, -, -, sa, -, -, -, -, -, hev⟩ := Cond.stringRef_spec hcur h1
    exact ⟨sa, vk_R.of h1 hev⟩
  · exact vx_Zqof (hts (.laysStatic Bundle.tN "UNASSIGNED_STACK" Bundle.steD) (by decide +kernel)) (hts (.initialized Bundle.tN) (by decide +kernel)) (hs _ (by decide +kernel)) hA
  · exact vx_Zqof (hts (.laysStatic Bundle.tN "SUPPRESSED_SENTINEL" Bundle.listD) (by decide +kernel)) (hts (.initialized Bundle.tN) (by decide +kernel)) (hs _ (by decide +kernel)) hA
  · intro i hi j hj hij
    have key : ∀ i, i < 2 → ∀ j, j < 2 → i ≠ j → (Cond.not (.castable (th_cls i) (th_cls j))).before args s = true := by
      intro i hi j hj hij
      match i, hi, j, hj, hij with
      | 0, _, 1, _, _ => exact hs _ (by decide +kernel)
      | 1, _, 0, _, _ => exact hs _ (by decide +kernel)
      | 0, _, 0, _, h => exact absurd rfl h
      | 1, _, 1, _, h => exact absurd rfl h
    exact va_Nc.of (key i hi j hj hij)
