/-! what a throw needs, at the law's start -/
theorem th_G_start {s : State} {args : Array Value} (hts : ∀ w ∈ lw_tbl, w.before args s = true) (hgv : (Jvm.Cond.and given_1 narrow_1).before args s = true) (hown : ∃ cur, s.vm.findClass RX4 = some cur) {A : Nat → Prop} (hA : ∀ a : Nat, a < s.heap.size → ¬ A a) : th_G A s := by
  have hs := flat_of_before _ hgv
  obtain ⟨cur, hcur⟩ := hown
  refine ⟨⟨fun q hq => ?_, ?_, ?_⟩, ?_⟩
  · have h1 := hts _ (of_decide_eq_true (List.all_eq_true.mp th_str_in q hq))
    obtain ⟨-, -, -, sa, -, -, -, -, -, hev⟩ := Cond.stringRef_spec hcur h1
    exact ⟨sa, vk_R.of h1 hev⟩
  · exact vx_Zqof (hts (.laysStatic Bundle.tN "UNASSIGNED_STACK" Bundle.steD) (by decide +kernel)) (hts (.initialized Bundle.tN) (by decide +kernel)) (hs _ (by decide +kernel)) hA
  · exact vx_Zqof (hts (.laysStatic Bundle.tN "SUPPRESSED_SENTINEL" Bundle.listD) (by decide +kernel)) (hts (.initialized Bundle.tN) (by decide +kernel)) (hs _ (by decide +kernel)) hA
  · intro i hi j hj hij
    have key : ∀ i, i < 3 → ∀ j, j < 3 → i ≠ j → (Cond.not (.castable (th_cls i) (th_cls j))).before args s = true := by
      intro i hi j hj hij
      match i, hi, j, hj, hij with
      | 0, _, 1, _, _ => exact hs _ (by decide +kernel)
      | 0, _, 2, _, _ => exact hs _ (by decide +kernel)
      | 1, _, 0, _, _ => exact hs _ (by decide +kernel)
      | 1, _, 2, _, _ => exact hs _ (by decide +kernel)
      | 2, _, 0, _, _ => exact hs _ (by decide +kernel)
      | 2, _, 1, _, _ => exact hs _ (by decide +kernel)
      | 0, _, 0, _, h => exact absurd rfl h
      | 1, _, 1, _, h => exact absurd rfl h
      | 2, _, 2, _, h => exact absurd rfl h
    exact va_Nc.of (key i hi j hj hij)
