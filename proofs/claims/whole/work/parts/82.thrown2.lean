/-! what each method throws: its contract -/
theorem h_X4_add_1 : ∀ pc, xt_X4_add pc = some 1 → ∃ i tx, th_site mm_X4_add pc 0 i tx := by
  intro pc h
  unfold xt_X4_add at h
  by_cases e0 : pc = 10
  · subst e0
    exact ⟨35, "a rank is 0 to 9", by unfold th_site; decide +kernel⟩
  rw [if_neg e0] at h
  by_cases e1 : pc = 32
  · rw [if_pos e1] at h
    cases h
  rw [if_neg e1] at h
  cases h
theorem th_X4_add_1 (F : Nat) (u : S_X4) (v1 : Int32) (hR : s_X4_add_e F u v1 = some 1) (l : Launch) (hl : l.stackTraces = false) (D : va_G) (ct ad : Nat → Nat) (sz : Nat) : vx_Met l yX4_add (ev_wsT yX4_add mm_X4_add) (ev_rmT mm_X4_add) (ev_PcT D ct ad sz [.ref 0, .int v1] (W_X4 u) (va_A (ev_lay ad ct (W_X4 u)) sz)) (fun _ _ _ _ => False) (ev_XC D ct ad (W_X4 u) (va_A (ev_lay ad ct (W_X4 u)) sz) (th_cls 0)) 1 6 (va_A (ev_lay ad ct (W_X4 u)) sz) :=
  ev_startT (cl := 0) (as := [.ref 0, .int v1]) ok_X4_add (by decide +kernel) rfl rfl (Nat.le_of_ble_eq_true rfl) rfl ⟨rfl, rfl⟩ h_X4_add_1 (t_X4_add_e F u v1 1 hR) l hl D ct ad sz
theorem h_X4_add_2 : ∀ pc, xt_X4_add pc = some 2 → ∃ i tx, th_site mm_X4_add pc 1 i tx := by
  intro pc h
  unfold xt_X4_add at h
  by_cases e0 : pc = 10
  · rw [if_pos e0] at h
    cases h
  rw [if_neg e0] at h
  by_cases e1 : pc = 32
  · subst e1
    exact ⟨46, "there are 24 things", by unfold th_site; decide +kernel⟩
  rw [if_neg e1] at h
  cases h
theorem th_X4_add_2 (F : Nat) (u : S_X4) (v1 : Int32) (hR : s_X4_add_e F u v1 = some 2) (l : Launch) (hl : l.stackTraces = false) (D : va_G) (ct ad : Nat → Nat) (sz : Nat) : vx_Met l yX4_add (ev_wsT yX4_add mm_X4_add) (ev_rmT mm_X4_add) (ev_PcT D ct ad sz [.ref 0, .int v1] (W_X4 u) (va_A (ev_lay ad ct (W_X4 u)) sz)) (fun _ _ _ _ => False) (ev_XC D ct ad (W_X4 u) (va_A (ev_lay ad ct (W_X4 u)) sz) (th_cls 1)) 1 6 (va_A (ev_lay ad ct (W_X4 u)) sz) :=
  ev_startT (cl := 1) (as := [.ref 0, .int v1]) ok_X4_add (by decide +kernel) rfl rfl (Nat.le_of_ble_eq_true rfl) rfl ⟨rfl, rfl⟩ h_X4_add_2 (t_X4_add_e F u v1 2 hR) l hl D ct ad sz
theorem h_X4_take_1 : ∀ pc, xt_X4_take pc = some 1 → ∃ i tx, th_site mm_X4_take pc 2 i tx := by
  intro pc h
  unfold xt_X4_take at h
  by_cases e0 : pc = 15
  · subst e0
    exact ⟨65, "no such hand or thing", by unfold th_site; decide +kernel⟩
  rw [if_neg e0] at h
  by_cases e1 : pc = 36
  · rw [if_pos e1] at h
    cases h
  rw [if_neg e1] at h
  cases h
theorem th_X4_take_1 (F : Nat) (u : S_X4) (v1 : Int32) (v2 : Int32) (hR : s_X4_take_e F u v1 v2 = some 1) (l : Launch) (hl : l.stackTraces = false) (D : va_G) (ct ad : Nat → Nat) (sz : Nat) : vx_Met l yX4_take (ev_wsT yX4_take mm_X4_take) (ev_rmT mm_X4_take) (ev_PcT D ct ad sz [.ref 0, .int v1, .int v2] (W_X4 u) (va_A (ev_lay ad ct (W_X4 u)) sz)) (fun _ _ _ _ => False) (ev_XC D ct ad (W_X4 u) (va_A (ev_lay ad ct (W_X4 u)) sz) (th_cls 2)) 1 6 (va_A (ev_lay ad ct (W_X4 u)) sz) :=
  ev_startT (cl := 2) (as := [.ref 0, .int v1, .int v2]) ok_X4_take (by decide +kernel) rfl rfl (Nat.le_of_ble_eq_true rfl) rfl ⟨rfl, rfl⟩ h_X4_take_1 (t_X4_take_e F u v1 v2 1 hR) l hl D ct ad sz
theorem h_X4_take_2 : ∀ pc, xt_X4_take pc = some 2 → ∃ i tx, th_site mm_X4_take pc 1 i tx := by
  intro pc h
  unfold xt_X4_take at h
  by_cases e0 : pc = 15
  · rw [if_pos e0] at h
    cases h
  rw [if_neg e0] at h
  by_cases e1 : pc = 36
  · subst e1
    exact ⟨71, "the thing has ended", by unfold th_site; decide +kernel⟩
  rw [if_neg e1] at h
  cases h
theorem th_X4_take_2 (F : Nat) (u : S_X4) (v1 : Int32) (v2 : Int32) (hR : s_X4_take_e F u v1 v2 = some 2) (l : Launch) (hl : l.stackTraces = false) (D : va_G) (ct ad : Nat → Nat) (sz : Nat) : vx_Met l yX4_take (ev_wsT yX4_take mm_X4_take) (ev_rmT mm_X4_take) (ev_PcT D ct ad sz [.ref 0, .int v1, .int v2] (W_X4 u) (va_A (ev_lay ad ct (W_X4 u)) sz)) (fun _ _ _ _ => False) (ev_XC D ct ad (W_X4 u) (va_A (ev_lay ad ct (W_X4 u)) sz) (th_cls 1)) 1 6 (va_A (ev_lay ad ct (W_X4 u)) sz) :=
  ev_startT (cl := 1) (as := [.ref 0, .int v1, .int v2]) ok_X4_take (by decide +kernel) rfl rfl (Nat.le_of_ble_eq_true rfl) rfl ⟨rfl, rfl⟩ h_X4_take_2 (t_X4_take_e F u v1 v2 2 hR) l hl D ct ad sz
theorem h_X4_put_1 : ∀ pc, xt_X4_put pc = some 1 → ∃ i tx, th_site mm_X4_put pc 2 i tx := by
  intro pc h
  unfold xt_X4_put at h
  by_cases e0 : pc = 23
  · subst e0
    exact ⟨83, "no such thing, slot or other", by unfold th_site; decide +kernel⟩
  rw [if_neg e0] at h
  by_cases e1 : pc = 55
  · rw [if_pos e1] at h
    cases h
  rw [if_neg e1] at h
  cases h
theorem th_X4_put_1 (F : Nat) (u : S_X4) (v1 : Int32) (v2 : Int32) (v3 : Int32) (hR : s_X4_put_e F u v1 v2 v3 = some 1) (l : Launch) (hl : l.stackTraces = false) (D : va_G) (ct ad : Nat → Nat) (sz : Nat) : vx_Met l yX4_put (ev_wsT yX4_put mm_X4_put) (ev_rmT mm_X4_put) (ev_PcT D ct ad sz [.ref 0, .int v1, .int v2, .int v3] (W_X4 u) (va_A (ev_lay ad ct (W_X4 u)) sz)) (fun _ _ _ _ => False) (ev_XC D ct ad (W_X4 u) (va_A (ev_lay ad ct (W_X4 u)) sz) (th_cls 2)) 1 6 (va_A (ev_lay ad ct (W_X4 u)) sz) :=
  ev_startT (cl := 2) (as := [.ref 0, .int v1, .int v2, .int v3]) ok_X4_put (by decide +kernel) rfl rfl (Nat.le_of_ble_eq_true rfl) rfl ⟨rfl, rfl⟩ h_X4_put_1 (t_X4_put_e F u v1 v2 v3 1 hR) l hl D ct ad sz
theorem h_X4_put_2 : ∀ pc, xt_X4_put pc = some 2 → ∃ i tx, th_site mm_X4_put pc 1 i tx := by
  intro pc h
  unfold xt_X4_put at h
  by_cases e0 : pc = 23
  · rw [if_pos e0] at h
    cases h
  rw [if_neg e0] at h
  by_cases e1 : pc = 55
  · subst e1
    exact ⟨88, "the thing or the other one has ended", by unfold th_site; decide +kernel⟩
  rw [if_neg e1] at h
  cases h
theorem th_X4_put_2 (F : Nat) (u : S_X4) (v1 : Int32) (v2 : Int32) (v3 : Int32) (hR : s_X4_put_e F u v1 v2 v3 = some 2) (l : Launch) (hl : l.stackTraces = false) (D : va_G) (ct ad : Nat → Nat) (sz : Nat) : vx_Met l yX4_put (ev_wsT yX4_put mm_X4_put) (ev_rmT mm_X4_put) (ev_PcT D ct ad sz [.ref 0, .int v1, .int v2, .int v3] (W_X4 u) (va_A (ev_lay ad ct (W_X4 u)) sz)) (fun _ _ _ _ => False) (ev_XC D ct ad (W_X4 u) (va_A (ev_lay ad ct (W_X4 u)) sz) (th_cls 1)) 1 6 (va_A (ev_lay ad ct (W_X4 u)) sz) :=
  ev_startT (cl := 1) (as := [.ref 0, .int v1, .int v2, .int v3]) ok_X4_put (by decide +kernel) rfl rfl (Nat.le_of_ble_eq_true rfl) rfl ⟨rfl, rfl⟩ h_X4_put_2 (t_X4_put_e F u v1 v2 v3 2 hR) l hl D ct ad sz
theorem h_X4_slander_1 : ∀ pc, xt_X4_slander pc = some 1 → ∃ i tx, th_site mm_X4_slander pc 2 i tx := by
  intro pc h
  unfold xt_X4_slander at h
  by_cases e0 : pc = 8
  · subst e0
    exact ⟨93, "no such thing", by unfold th_site; decide +kernel⟩
  rw [if_neg e0] at h
  by_cases e1 : pc = 28
  · rw [if_pos e1] at h
    cases h
  rw [if_neg e1] at h
  by_cases e2 : pc = 49
  · rw [if_pos e2] at h
    cases h
  rw [if_neg e2] at h
  cases h
theorem th_X4_slander_1 (F : Nat) (u : S_X4) (v1 : Int32) (v2 : Int32) (hR : s_X4_slander_e F u v1 v2 = some 1) (l : Launch) (hl : l.stackTraces = false) (D : va_G) (ct ad : Nat → Nat) (sz : Nat) : vx_Met l yX4_slander (ev_wsT yX4_slander mm_X4_slander) (ev_rmT mm_X4_slander) (ev_PcT D ct ad sz [.ref 0, .int v1, .int v2] (W_X4 u) (va_A (ev_lay ad ct (W_X4 u)) sz)) (fun _ _ _ _ => False) (ev_XC D ct ad (W_X4 u) (va_A (ev_lay ad ct (W_X4 u)) sz) (th_cls 2)) 1 6 (va_A (ev_lay ad ct (W_X4 u)) sz) :=
  ev_startT (cl := 2) (as := [.ref 0, .int v1, .int v2]) ok_X4_slander (by decide +kernel) rfl rfl (Nat.le_of_ble_eq_true rfl) rfl ⟨rfl, rfl⟩ h_X4_slander_1 (t_X4_slander_e F u v1 v2 1 hR) l hl D ct ad sz
theorem h_X4_slander_2 : ∀ pc, xt_X4_slander pc = some 2 → ∃ i tx, th_site mm_X4_slander pc 0 i tx := by
  intro pc h
  unfold xt_X4_slander at h
  by_cases e0 : pc = 8
  · rw [if_pos e0] at h
    cases h
  rw [if_neg e0] at h
  by_cases e1 : pc = 28
  · subst e1
    exact ⟨95, "a report is of -1 or 1", by unfold th_site; decide +kernel⟩
  rw [if_neg e1] at h
  by_cases e2 : pc = 49
  · rw [if_pos e2] at h
    cases h
  rw [if_neg e2] at h
  cases h
theorem th_X4_slander_2 (F : Nat) (u : S_X4) (v1 : Int32) (v2 : Int32) (hR : s_X4_slander_e F u v1 v2 = some 2) (l : Launch) (hl : l.stackTraces = false) (D : va_G) (ct ad : Nat → Nat) (sz : Nat) : vx_Met l yX4_slander (ev_wsT yX4_slander mm_X4_slander) (ev_rmT mm_X4_slander) (ev_PcT D ct ad sz [.ref 0, .int v1, .int v2] (W_X4 u) (va_A (ev_lay ad ct (W_X4 u)) sz)) (fun _ _ _ _ => False) (ev_XC D ct ad (W_X4 u) (va_A (ev_lay ad ct (W_X4 u)) sz) (th_cls 0)) 1 6 (va_A (ev_lay ad ct (W_X4 u)) sz) :=
  ev_startT (cl := 0) (as := [.ref 0, .int v1, .int v2]) ok_X4_slander (by decide +kernel) rfl rfl (Nat.le_of_ble_eq_true rfl) rfl ⟨rfl, rfl⟩ h_X4_slander_2 (t_X4_slander_e F u v1 v2 2 hR) l hl D ct ad sz
theorem h_X4_slander_3 : ∀ pc, xt_X4_slander pc = some 3 → ∃ i tx, th_site mm_X4_slander pc 1 i tx := by
  intro pc h
  unfold xt_X4_slander at h
  by_cases e0 : pc = 8
  · rw [if_pos e0] at h
    cases h
  rw [if_neg e0] at h
  by_cases e1 : pc = 28
  · rw [if_pos e1] at h
    cases h
  rw [if_neg e1] at h
  by_cases e2 : pc = 49
  · subst e2
    exact ⟨71, "the thing has ended", by unfold th_site; decide +kernel⟩
  rw [if_neg e2] at h
  cases h
theorem th_X4_slander_3 (F : Nat) (u : S_X4) (v1 : Int32) (v2 : Int32) (hR : s_X4_slander_e F u v1 v2 = some 3) (l : Launch) (hl : l.stackTraces = false) (D : va_G) (ct ad : Nat → Nat) (sz : Nat) : vx_Met l yX4_slander (ev_wsT yX4_slander mm_X4_slander) (ev_rmT mm_X4_slander) (ev_PcT D ct ad sz [.ref 0, .int v1, .int v2] (W_X4 u) (va_A (ev_lay ad ct (W_X4 u)) sz)) (fun _ _ _ _ => False) (ev_XC D ct ad (W_X4 u) (va_A (ev_lay ad ct (W_X4 u)) sz) (th_cls 1)) 1 6 (va_A (ev_lay ad ct (W_X4 u)) sz) :=
  ev_startT (cl := 1) (as := [.ref 0, .int v1, .int v2]) ok_X4_slander (by decide +kernel) rfl rfl (Nat.le_of_ble_eq_true rfl) rfl ⟨rfl, rfl⟩ h_X4_slander_3 (t_X4_slander_e F u v1 v2 3 hR) l hl D ct ad sz
theorem h_X4_suspect_1 : ∀ pc, xt_X4_suspect pc = some 1 → ∃ i tx, th_site mm_X4_suspect pc 2 i tx := by
  intro pc h
  unfold xt_X4_suspect at h
  by_cases e0 : pc = 8
  · subst e0
    exact ⟨93, "no such thing", by unfold th_site; decide +kernel⟩
  rw [if_neg e0] at h
  by_cases e1 : pc = 43
  · rw [if_pos e1] at h
    cases h
  rw [if_neg e1] at h
  cases h
theorem th_X4_suspect_1 (F : Nat) (u : S_X4) (v1 : Int32) (hR : s_X4_suspect_e F u v1 = some 1) (l : Launch) (hl : l.stackTraces = false) (D : va_G) (ct ad : Nat → Nat) (sz : Nat) : vx_Met l yX4_suspect (ev_wsT yX4_suspect mm_X4_suspect) (ev_rmT mm_X4_suspect) (ev_PcT D ct ad sz [.ref 0, .int v1] (W_X4 u) (va_A (ev_lay ad ct (W_X4 u)) sz)) (fun _ _ _ _ => False) (ev_XC D ct ad (W_X4 u) (va_A (ev_lay ad ct (W_X4 u)) sz) (th_cls 2)) 1 6 (va_A (ev_lay ad ct (W_X4 u)) sz) :=
  ev_startT (cl := 2) (as := [.ref 0, .int v1]) ok_X4_suspect (by decide +kernel) rfl rfl (Nat.le_of_ble_eq_true rfl) rfl ⟨rfl, rfl⟩ h_X4_suspect_1 (t_X4_suspect_e F u v1 1 hR) l hl D ct ad sz
theorem h_X4_suspect_2 : ∀ pc, xt_X4_suspect pc = some 2 → ∃ i tx, th_site mm_X4_suspect pc 1 i tx := by
  intro pc h
  unfold xt_X4_suspect at h
  by_cases e0 : pc = 8
  · rw [if_pos e0] at h
    cases h
  rw [if_neg e0] at h
  by_cases e1 : pc = 43
  · subst e1
    exact ⟨107, "the thing has ended or is a suspect", by unfold th_site; decide +kernel⟩
  rw [if_neg e1] at h
  cases h
theorem th_X4_suspect_2 (F : Nat) (u : S_X4) (v1 : Int32) (hR : s_X4_suspect_e F u v1 = some 2) (l : Launch) (hl : l.stackTraces = false) (D : va_G) (ct ad : Nat → Nat) (sz : Nat) : vx_Met l yX4_suspect (ev_wsT yX4_suspect mm_X4_suspect) (ev_rmT mm_X4_suspect) (ev_PcT D ct ad sz [.ref 0, .int v1] (W_X4 u) (va_A (ev_lay ad ct (W_X4 u)) sz)) (fun _ _ _ _ => False) (ev_XC D ct ad (W_X4 u) (va_A (ev_lay ad ct (W_X4 u)) sz) (th_cls 1)) 1 6 (va_A (ev_lay ad ct (W_X4 u)) sz) :=
  ev_startT (cl := 1) (as := [.ref 0, .int v1]) ok_X4_suspect (by decide +kernel) rfl rfl (Nat.le_of_ble_eq_true rfl) rfl ⟨rfl, rfl⟩ h_X4_suspect_2 (t_X4_suspect_e F u v1 2 hR) l hl D ct ad sz
theorem h_X4_set_1 : ∀ pc, xt_X4_set pc = some 1 → ∃ i tx, th_site mm_X4_set pc 2 i tx := by
  intro pc h
  unfold xt_X4_set at h
  by_cases e0 : pc = 7
  · subst e0
    exact ⟨117, "no such setting", by unfold th_site; decide +kernel⟩
  rw [if_neg e0] at h
  by_cases e1 : pc = 29
  · rw [if_pos e1] at h
    cases h
  rw [if_neg e1] at h
  cases h
theorem th_X4_set_1 (F : Nat) (u : S_X4) (v1 : Int32) (v2 : Int32) (hR : s_X4_set_e F u v1 v2 = some 1) (l : Launch) (hl : l.stackTraces = false) (D : va_G) (ct ad : Nat → Nat) (sz : Nat) : vx_Met l yX4_set (ev_wsT yX4_set mm_X4_set) (ev_rmT mm_X4_set) (ev_PcT D ct ad sz [.ref 0, .int v1, .int v2] (W_X4 u) (va_A (ev_lay ad ct (W_X4 u)) sz)) (fun _ _ _ _ => False) (ev_XC D ct ad (W_X4 u) (va_A (ev_lay ad ct (W_X4 u)) sz) (th_cls 2)) 1 6 (va_A (ev_lay ad ct (W_X4 u)) sz) :=
  ev_startT (cl := 2) (as := [.ref 0, .int v1, .int v2]) ok_X4_set (by decide +kernel) rfl rfl (Nat.le_of_ble_eq_true rfl) rfl ⟨rfl, rfl⟩ h_X4_set_1 (t_X4_set_e F u v1 v2 1 hR) l hl D ct ad sz
theorem h_X4_set_2 : ∀ pc, xt_X4_set pc = some 2 → ∃ i tx, th_site mm_X4_set pc 0 i tx := by
  intro pc h
  unfold xt_X4_set at h
  by_cases e0 : pc = 7
  · rw [if_pos e0] at h
    cases h
  rw [if_neg e0] at h
  by_cases e1 : pc = 29
  · subst e1
    exact ⟨122, "the value is out of range", by unfold th_site; decide +kernel⟩
  rw [if_neg e1] at h
  cases h
theorem th_X4_set_2 (F : Nat) (u : S_X4) (v1 : Int32) (v2 : Int32) (hR : s_X4_set_e F u v1 v2 = some 2) (l : Launch) (hl : l.stackTraces = false) (D : va_G) (ct ad : Nat → Nat) (sz : Nat) : vx_Met l yX4_set (ev_wsT yX4_set mm_X4_set) (ev_rmT mm_X4_set) (ev_PcT D ct ad sz [.ref 0, .int v1, .int v2] (W_X4 u) (va_A (ev_lay ad ct (W_X4 u)) sz)) (fun _ _ _ _ => False) (ev_XC D ct ad (W_X4 u) (va_A (ev_lay ad ct (W_X4 u)) sz) (th_cls 0)) 1 6 (va_A (ev_lay ad ct (W_X4 u)) sz) :=
  ev_startT (cl := 0) (as := [.ref 0, .int v1, .int v2]) ok_X4_set (by decide +kernel) rfl rfl (Nat.le_of_ble_eq_true rfl) rfl ⟨rfl, rfl⟩ h_X4_set_2 (t_X4_set_e F u v1 v2 2 hR) l hl D ct ad sz
theorem h_X4_pass_1 : ∀ pc, xt_X4_pass pc = some 1 → ∃ i tx, th_site mm_X4_pass pc 0 i tx := by
  intro pc h
  unfold xt_X4_pass at h
  by_cases e0 : pc = 11
  · subst e0
    exact ⟨128, "1 to 100 ticks pass", by unfold th_site; decide +kernel⟩
  rw [if_neg e0] at h
  by_cases e1 : pc = 36
  · rw [if_pos e1] at h
    cases h
  rw [if_neg e1] at h
  cases h
theorem th_X4_pass_1 (F : Nat) (u : S_X4) (v1 : Int32) (hR : s_X4_pass_e F u v1 = some 1) (l : Launch) (hl : l.stackTraces = false) (D : va_G) (ct ad : Nat → Nat) (sz : Nat) : vx_Met l yX4_pass (ev_wsT yX4_pass mm_X4_pass) (ev_rmT mm_X4_pass) (ev_PcT D ct ad sz [.ref 0, .int v1] (W_X4 u) (va_A (ev_lay ad ct (W_X4 u)) sz)) (fun _ _ _ _ => False) (ev_XC D ct ad (W_X4 u) (va_A (ev_lay ad ct (W_X4 u)) sz) (th_cls 0)) 1 6 (va_A (ev_lay ad ct (W_X4 u)) sz) :=
  ev_startT (cl := 0) (as := [.ref 0, .int v1]) ok_X4_pass (by decide +kernel) rfl rfl (Nat.le_of_ble_eq_true rfl) rfl ⟨rfl, rfl⟩ h_X4_pass_1 (t_X4_pass_e F u v1 1 hR) l hl D ct ad sz
theorem h_X4_pass_2 : ∀ pc, xt_X4_pass pc = some 2 → ∃ i tx, th_site mm_X4_pass pc 1 i tx := by
  intro pc h
  unfold xt_X4_pass at h
  by_cases e0 : pc = 11
  · rw [if_pos e0] at h
    cases h
  rw [if_neg e0] at h
  by_cases e1 : pc = 36
  · subst e1
    exact ⟨133, "the time would be above 5000", by unfold th_site; decide +kernel⟩
  rw [if_neg e1] at h
  cases h
theorem th_X4_pass_2 (F : Nat) (u : S_X4) (v1 : Int32) (hR : s_X4_pass_e F u v1 = some 2) (l : Launch) (hl : l.stackTraces = false) (D : va_G) (ct ad : Nat → Nat) (sz : Nat) : vx_Met l yX4_pass (ev_wsT yX4_pass mm_X4_pass) (ev_rmT mm_X4_pass) (ev_PcT D ct ad sz [.ref 0, .int v1] (W_X4 u) (va_A (ev_lay ad ct (W_X4 u)) sz)) (fun _ _ _ _ => False) (ev_XC D ct ad (W_X4 u) (va_A (ev_lay ad ct (W_X4 u)) sz) (th_cls 1)) 1 6 (va_A (ev_lay ad ct (W_X4 u)) sz) :=
  ev_startT (cl := 1) (as := [.ref 0, .int v1]) ok_X4_pass (by decide +kernel) rfl rfl (Nat.le_of_ble_eq_true rfl) rfl ⟨rfl, rfl⟩ h_X4_pass_2 (t_X4_pass_e F u v1 2 hR) l hl D ct ad sz
theorem h_X4_append_1 : ∀ pc, xt_X4_append pc = some 1 → ∃ i tx, th_site mm_X4_append pc 0 i tx := by
  intro pc h
  unfold xt_X4_append at h
  by_cases e0 : pc = 12
  · subst e0
    exact ⟨145, "a code is 33 to 126", by unfold th_site; decide +kernel⟩
  rw [if_neg e0] at h
  by_cases e1 : pc = 34
  · rw [if_pos e1] at h
    cases h
  rw [if_neg e1] at h
  cases h
theorem th_X4_append_1 (F : Nat) (u : S_X4) (v1 : Int32) (hR : s_X4_append_e F u v1 = some 1) (l : Launch) (hl : l.stackTraces = false) (D : va_G) (ct ad : Nat → Nat) (sz : Nat) : vx_Met l yX4_append (ev_wsT yX4_append mm_X4_append) (ev_rmT mm_X4_append) (ev_PcT D ct ad sz [.ref 0, .int v1] (W_X4 u) (va_A (ev_lay ad ct (W_X4 u)) sz)) (fun _ _ _ _ => False) (ev_XC D ct ad (W_X4 u) (va_A (ev_lay ad ct (W_X4 u)) sz) (th_cls 0)) 1 6 (va_A (ev_lay ad ct (W_X4 u)) sz) :=
  ev_startT (cl := 0) (as := [.ref 0, .int v1]) ok_X4_append (by decide +kernel) rfl rfl (Nat.le_of_ble_eq_true rfl) rfl ⟨rfl, rfl⟩ h_X4_append_1 (t_X4_append_e F u v1 1 hR) l hl D ct ad sz
theorem h_X4_append_2 : ∀ pc, xt_X4_append pc = some 2 → ∃ i tx, th_site mm_X4_append pc 1 i tx := by
  intro pc h
  unfold xt_X4_append at h
  by_cases e0 : pc = 12
  · rw [if_pos e0] at h
    cases h
  rw [if_neg e0] at h
  by_cases e1 : pc = 34
  · subst e1
    exact ⟨150, "the buffer has 60 characters", by unfold th_site; decide +kernel⟩
  rw [if_neg e1] at h
  cases h
theorem th_X4_append_2 (F : Nat) (u : S_X4) (v1 : Int32) (hR : s_X4_append_e F u v1 = some 2) (l : Launch) (hl : l.stackTraces = false) (D : va_G) (ct ad : Nat → Nat) (sz : Nat) : vx_Met l yX4_append (ev_wsT yX4_append mm_X4_append) (ev_rmT mm_X4_append) (ev_PcT D ct ad sz [.ref 0, .int v1] (W_X4 u) (va_A (ev_lay ad ct (W_X4 u)) sz)) (fun _ _ _ _ => False) (ev_XC D ct ad (W_X4 u) (va_A (ev_lay ad ct (W_X4 u)) sz) (th_cls 1)) 1 6 (va_A (ev_lay ad ct (W_X4 u)) sz) :=
  ev_startT (cl := 1) (as := [.ref 0, .int v1]) ok_X4_append (by decide +kernel) rfl rfl (Nat.le_of_ble_eq_true rfl) rfl ⟨rfl, rfl⟩ h_X4_append_2 (t_X4_append_e F u v1 2 hR) l hl D ct ad sz
theorem h_X4_run_1 : ∀ pc, xt_X4_run pc = some 1 → ∃ i tx, th_site mm_X4_run pc 0 i tx := by
  intro pc h
  unfold xt_X4_run at h
  by_cases e0 : pc = 10
  · subst e0
    exact ⟨162, "the buffer is not a complete program", by unfold th_site; decide +kernel⟩
  rw [if_neg e0] at h
  cases h
theorem th_X4_run_1 (F : Nat) (u : S_X4)  (hR : s_X4_run_e F u  = some 1) (l : Launch) (hl : l.stackTraces = false) (D : va_G) (ct ad : Nat → Nat) (sz : Nat) : vx_Met l yX4_run (ev_wsT yX4_run mm_X4_run) (ev_rmT mm_X4_run) (ev_PcT D ct ad sz [.ref 0] (W_X4 u) (va_A (ev_lay ad ct (W_X4 u)) sz)) (fun _ _ _ _ => False) (ev_XC D ct ad (W_X4 u) (va_A (ev_lay ad ct (W_X4 u)) sz) (th_cls 0)) 1 6 (va_A (ev_lay ad ct (W_X4 u)) sz) :=
  ev_startT (cl := 0) (as := [.ref 0]) ok_X4_run (by decide +kernel) rfl rfl (Nat.le_of_ble_eq_true rfl) rfl ⟨rfl, rfl⟩ h_X4_run_1 (t_X4_run_e F u  1 hR) l hl D ct ad sz
theorem h_X4_undo_1 : ∀ pc, xt_X4_undo pc = some 1 → ∃ i tx, th_site mm_X4_undo pc 1 i tx := by
  intro pc h
  unfold xt_X4_undo at h
  by_cases e0 : pc = 7
  · subst e0
    exact ⟨176, "no state is saved", by unfold th_site; decide +kernel⟩
  rw [if_neg e0] at h
  cases h
theorem th_X4_undo_1 (F : Nat) (u : S_X4)  (hR : s_X4_undo_e F u  = some 1) (l : Launch) (hl : l.stackTraces = false) (D : va_G) (ct ad : Nat → Nat) (sz : Nat) : vx_Met l yX4_undo (ev_wsT yX4_undo mm_X4_undo) (ev_rmT mm_X4_undo) (ev_PcT D ct ad sz [.ref 0] (W_X4 u) (va_A (ev_lay ad ct (W_X4 u)) sz)) (fun _ _ _ _ => False) (ev_XC D ct ad (W_X4 u) (va_A (ev_lay ad ct (W_X4 u)) sz) (th_cls 1)) 1 6 (va_A (ev_lay ad ct (W_X4 u)) sz) :=
  ev_startT (cl := 1) (as := [.ref 0]) ok_X4_undo (by decide +kernel) rfl rfl (Nat.le_of_ble_eq_true rfl) rfl ⟨rfl, rfl⟩ h_X4_undo_1 (t_X4_undo_e F u  1 hR) l hl D ct ad sz
theorem h_X4_thing_1 : ∀ pc, xt_X4_thing pc = some 1 → ∃ i tx, th_site mm_X4_thing pc 2 i tx := by
  intro pc h
  unfold xt_X4_thing at h
  by_cases e0 : pc = 8
  · subst e0
    exact ⟨93, "no such thing", by unfold th_site; decide +kernel⟩
  rw [if_neg e0] at h
  by_cases e1 : pc = 28
  · rw [if_pos e1] at h
    cases h
  rw [if_neg e1] at h
  cases h
theorem th_X4_thing_1 (F : Nat) (u : S_X4) (v1 : Int32) (v2 : Int32) (hR : s_X4_thing_e F u v1 v2 = some 1) (l : Launch) (hl : l.stackTraces = false) (D : va_G) (ct ad : Nat → Nat) (sz : Nat) : vx_Met l yX4_thing (ev_wsT yX4_thing mm_X4_thing) (ev_rmT mm_X4_thing) (ev_PcT D ct ad sz [.ref 0, .int v1, .int v2] (W_X4 u) (va_A (ev_lay ad ct (W_X4 u)) sz)) (fun _ _ _ _ => False) (ev_XC D ct ad (W_X4 u) (va_A (ev_lay ad ct (W_X4 u)) sz) (th_cls 2)) 1 6 (va_A (ev_lay ad ct (W_X4 u)) sz) :=
  ev_startT (cl := 2) (as := [.ref 0, .int v1, .int v2]) ok_X4_thing (by decide +kernel) rfl rfl (Nat.le_of_ble_eq_true rfl) rfl ⟨rfl, rfl⟩ h_X4_thing_1 (t_X4_thing_e F u v1 v2 1 hR) l hl D ct ad sz
theorem h_X4_thing_2 : ∀ pc, xt_X4_thing pc = some 2 → ∃ i tx, th_site mm_X4_thing pc 0 i tx := by
  intro pc h
  unfold xt_X4_thing at h
  by_cases e0 : pc = 8
  · rw [if_pos e0] at h
    cases h
  rw [if_neg e0] at h
  by_cases e1 : pc = 28
  · subst e1
    exact ⟨182, "a property is 0 to 12", by unfold th_site; decide +kernel⟩
  rw [if_neg e1] at h
  cases h
theorem th_X4_thing_2 (F : Nat) (u : S_X4) (v1 : Int32) (v2 : Int32) (hR : s_X4_thing_e F u v1 v2 = some 2) (l : Launch) (hl : l.stackTraces = false) (D : va_G) (ct ad : Nat → Nat) (sz : Nat) : vx_Met l yX4_thing (ev_wsT yX4_thing mm_X4_thing) (ev_rmT mm_X4_thing) (ev_PcT D ct ad sz [.ref 0, .int v1, .int v2] (W_X4 u) (va_A (ev_lay ad ct (W_X4 u)) sz)) (fun _ _ _ _ => False) (ev_XC D ct ad (W_X4 u) (va_A (ev_lay ad ct (W_X4 u)) sz) (th_cls 0)) 1 6 (va_A (ev_lay ad ct (W_X4 u)) sz) :=
  ev_startT (cl := 0) (as := [.ref 0, .int v1, .int v2]) ok_X4_thing (by decide +kernel) rfl rfl (Nat.le_of_ble_eq_true rfl) rfl ⟨rfl, rfl⟩ h_X4_thing_2 (t_X4_thing_e F u v1 v2 2 hR) l hl D ct ad sz
theorem h_X4_slot_1 : ∀ pc, xt_X4_slot pc = some 1 → ∃ i tx, th_site mm_X4_slot pc 2 i tx := by
  intro pc h
  unfold xt_X4_slot at h
  by_cases e0 : pc = 15
  · subst e0
    exact ⟨187, "no such thing or slot", by unfold th_site; decide +kernel⟩
  rw [if_neg e0] at h
  cases h
theorem th_X4_slot_1 (F : Nat) (u : S_X4) (v1 : Int32) (v2 : Int32) (hR : s_X4_slot_e F u v1 v2 = some 1) (l : Launch) (hl : l.stackTraces = false) (D : va_G) (ct ad : Nat → Nat) (sz : Nat) : vx_Met l yX4_slot (ev_wsT yX4_slot mm_X4_slot) (ev_rmT mm_X4_slot) (ev_PcT D ct ad sz [.ref 0, .int v1, .int v2] (W_X4 u) (va_A (ev_lay ad ct (W_X4 u)) sz)) (fun _ _ _ _ => False) (ev_XC D ct ad (W_X4 u) (va_A (ev_lay ad ct (W_X4 u)) sz) (th_cls 2)) 1 6 (va_A (ev_lay ad ct (W_X4 u)) sz) :=
  ev_startT (cl := 2) (as := [.ref 0, .int v1, .int v2]) ok_X4_slot (by decide +kernel) rfl rfl (Nat.le_of_ble_eq_true rfl) rfl ⟨rfl, rfl⟩ h_X4_slot_1 (t_X4_slot_e F u v1 v2 1 hR) l hl D ct ad sz
theorem h_X4_hand_1 : ∀ pc, xt_X4_hand pc = some 1 → ∃ i tx, th_site mm_X4_hand pc 2 i tx := by
  intro pc h
  unfold xt_X4_hand at h
  by_cases e0 : pc = 7
  · subst e0
    exact ⟨198, "no such hand", by unfold th_site; decide +kernel⟩
  rw [if_neg e0] at h
  cases h
theorem th_X4_hand_1 (F : Nat) (u : S_X4) (v1 : Int32) (hR : s_X4_hand_e F u v1 = some 1) (l : Launch) (hl : l.stackTraces = false) (D : va_G) (ct ad : Nat → Nat) (sz : Nat) : vx_Met l yX4_hand (ev_wsT yX4_hand mm_X4_hand) (ev_rmT mm_X4_hand) (ev_PcT D ct ad sz [.ref 0, .int v1] (W_X4 u) (va_A (ev_lay ad ct (W_X4 u)) sz)) (fun _ _ _ _ => False) (ev_XC D ct ad (W_X4 u) (va_A (ev_lay ad ct (W_X4 u)) sz) (th_cls 2)) 1 6 (va_A (ev_lay ad ct (W_X4 u)) sz) :=
  ev_startT (cl := 2) (as := [.ref 0, .int v1]) ok_X4_hand (by decide +kernel) rfl rfl (Nat.le_of_ble_eq_true rfl) rfl ⟨rfl, rfl⟩ h_X4_hand_1 (t_X4_hand_e F u v1 1 hR) l hl D ct ad sz
theorem h_X4_report_1 : ∀ pc, xt_X4_report pc = some 1 → ∃ i tx, th_site mm_X4_report pc 2 i tx := by
  intro pc h
  unfold xt_X4_report at h
  by_cases e0 : pc = 18
  · subst e0
    exact ⟨209, "not so many reports are under way", by unfold th_site; decide +kernel⟩
  rw [if_neg e0] at h
  by_cases e1 : pc = 37
  · rw [if_pos e1] at h
    cases h
  rw [if_neg e1] at h
  cases h
theorem th_X4_report_1 (F : Nat) (u : S_X4) (v1 : Int32) (v2 : Int32) (hR : s_X4_report_e F u v1 v2 = some 1) (l : Launch) (hl : l.stackTraces = false) (D : va_G) (ct ad : Nat → Nat) (sz : Nat) : vx_Met l yX4_report (ev_wsT yX4_report mm_X4_report) (ev_rmT mm_X4_report) (ev_PcT D ct ad sz [.ref 0, .int v1, .int v2] (W_X4 u) (va_A (ev_lay ad ct (W_X4 u)) sz)) (fun _ _ _ _ => False) (ev_XC D ct ad (W_X4 u) (va_A (ev_lay ad ct (W_X4 u)) sz) (th_cls 2)) 1 6 (va_A (ev_lay ad ct (W_X4 u)) sz) :=
  ev_startT (cl := 2) (as := [.ref 0, .int v1, .int v2]) ok_X4_report (by decide +kernel) rfl rfl (Nat.le_of_ble_eq_true rfl) rfl ⟨rfl, rfl⟩ h_X4_report_1 (t_X4_report_e F u v1 v2 1 hR) l hl D ct ad sz
theorem h_X4_report_2 : ∀ pc, xt_X4_report pc = some 2 → ∃ i tx, th_site mm_X4_report pc 0 i tx := by
  intro pc h
  unfold xt_X4_report at h
  by_cases e0 : pc = 18
  · rw [if_pos e0] at h
    cases h
  rw [if_neg e0] at h
  by_cases e1 : pc = 37
  · subst e1
    exact ⟨211, "a part is 0 to 4", by unfold th_site; decide +kernel⟩
  rw [if_neg e1] at h
  cases h
theorem th_X4_report_2 (F : Nat) (u : S_X4) (v1 : Int32) (v2 : Int32) (hR : s_X4_report_e F u v1 v2 = some 2) (l : Launch) (hl : l.stackTraces = false) (D : va_G) (ct ad : Nat → Nat) (sz : Nat) : vx_Met l yX4_report (ev_wsT yX4_report mm_X4_report) (ev_rmT mm_X4_report) (ev_PcT D ct ad sz [.ref 0, .int v1, .int v2] (W_X4 u) (va_A (ev_lay ad ct (W_X4 u)) sz)) (fun _ _ _ _ => False) (ev_XC D ct ad (W_X4 u) (va_A (ev_lay ad ct (W_X4 u)) sz) (th_cls 0)) 1 6 (va_A (ev_lay ad ct (W_X4 u)) sz) :=
  ev_startT (cl := 0) (as := [.ref 0, .int v1, .int v2]) ok_X4_report (by decide +kernel) rfl rfl (Nat.le_of_ble_eq_true rfl) rfl ⟨rfl, rfl⟩ h_X4_report_2 (t_X4_report_e F u v1 v2 2 hR) l hl D ct ad sz
theorem h_X4_ended_1 : ∀ pc, xt_X4_ended pc = some 1 → ∃ i tx, th_site mm_X4_ended pc 2 i tx := by
  intro pc h
  unfold xt_X4_ended at h
  by_cases e0 : pc = 21
  · subst e0
    exact ⟨219, "there were not so many ends", by unfold th_site; decide +kernel⟩
  rw [if_neg e0] at h
  cases h
theorem th_X4_ended_1 (F : Nat) (u : S_X4) (v1 : Int32) (hR : s_X4_ended_e F u v1 = some 1) (l : Launch) (hl : l.stackTraces = false) (D : va_G) (ct ad : Nat → Nat) (sz : Nat) : vx_Met l yX4_ended (ev_wsT yX4_ended mm_X4_ended) (ev_rmT mm_X4_ended) (ev_PcT D ct ad sz [.ref 0, .int v1] (W_X4 u) (va_A (ev_lay ad ct (W_X4 u)) sz)) (fun _ _ _ _ => False) (ev_XC D ct ad (W_X4 u) (va_A (ev_lay ad ct (W_X4 u)) sz) (th_cls 2)) 1 6 (va_A (ev_lay ad ct (W_X4 u)) sz) :=
  ev_startT (cl := 2) (as := [.ref 0, .int v1]) ok_X4_ended (by decide +kernel) rfl rfl (Nat.le_of_ble_eq_true rfl) rfl ⟨rfl, rfl⟩ h_X4_ended_1 (t_X4_ended_e F u v1 1 hR) l hl D ct ad sz
theorem h_X4_count_1 : ∀ pc, xt_X4_count pc = some 1 → ∃ i tx, th_site mm_X4_count pc 0 i tx := by
  intro pc h
  unfold xt_X4_count at h
  by_cases e0 : pc = 10
  · subst e0
    exact ⟨224, "a number is 0 to 13", by unfold th_site; decide +kernel⟩
  rw [if_neg e0] at h
  cases h
theorem th_X4_count_1 (F : Nat) (u : S_X4) (v1 : Int32) (hR : s_X4_count_e F u v1 = some 1) (l : Launch) (hl : l.stackTraces = false) (D : va_G) (ct ad : Nat → Nat) (sz : Nat) : vx_Met l yX4_count (ev_wsT yX4_count mm_X4_count) (ev_rmT mm_X4_count) (ev_PcT D ct ad sz [.ref 0, .int v1] (W_X4 u) (va_A (ev_lay ad ct (W_X4 u)) sz)) (fun _ _ _ _ => False) (ev_XC D ct ad (W_X4 u) (va_A (ev_lay ad ct (W_X4 u)) sz) (th_cls 0)) 1 6 (va_A (ev_lay ad ct (W_X4 u)) sz) :=
  ev_startT (cl := 0) (as := [.ref 0, .int v1]) ok_X4_count (by decide +kernel) rfl rfl (Nat.le_of_ble_eq_true rfl) rfl ⟨rfl, rfl⟩ h_X4_count_1 (t_X4_count_e F u v1 1 hR) l hl D ct ad sz
theorem h_X4_setting_1 : ∀ pc, xt_X4_setting pc = some 1 → ∃ i tx, th_site mm_X4_setting pc 2 i tx := by
  intro pc h
  unfold xt_X4_setting at h
  by_cases e0 : pc = 7
  · subst e0
    exact ⟨117, "no such setting", by unfold th_site; decide +kernel⟩
  rw [if_neg e0] at h
  cases h
theorem th_X4_setting_1 (F : Nat) (u : S_X4) (v1 : Int32) (hR : s_X4_setting_e F u v1 = some 1) (l : Launch) (hl : l.stackTraces = false) (D : va_G) (ct ad : Nat → Nat) (sz : Nat) : vx_Met l yX4_setting (ev_wsT yX4_setting mm_X4_setting) (ev_rmT mm_X4_setting) (ev_PcT D ct ad sz [.ref 0, .int v1] (W_X4 u) (va_A (ev_lay ad ct (W_X4 u)) sz)) (fun _ _ _ _ => False) (ev_XC D ct ad (W_X4 u) (va_A (ev_lay ad ct (W_X4 u)) sz) (th_cls 2)) 1 6 (va_A (ev_lay ad ct (W_X4 u)) sz) :=
  ev_startT (cl := 2) (as := [.ref 0, .int v1]) ok_X4_setting (by decide +kernel) rfl rfl (Nat.le_of_ble_eq_true rfl) rfl ⟨rfl, rfl⟩ h_X4_setting_1 (t_X4_setting_e F u v1 1 hR) l hl D ct ad sz
theorem h_X4_ifPassed_1 : ∀ pc, xt_X4_ifPassed pc = some 1 → ∃ i tx, th_site mm_X4_ifPassed pc 0 i tx := by
  intro pc h
  unfold xt_X4_ifPassed at h
  by_cases e0 : pc = 20
  · subst e0
    exact ⟨229, "1 to 100 ticks, and 0 to 3", by unfold th_site; decide +kernel⟩
  rw [if_neg e0] at h
  cases h
theorem th_X4_ifPassed_1 (F : Nat) (u : S_X4) (v1 : Int32) (v2 : Int32) (hR : s_X4_ifPassed_e F u v1 v2 = some 1) (l : Launch) (hl : l.stackTraces = false) (D : va_G) (ct ad : Nat → Nat) (sz : Nat) : vx_Met l yX4_ifPassed (ev_wsT yX4_ifPassed mm_X4_ifPassed) (ev_rmT mm_X4_ifPassed) (ev_PcT D ct ad sz [.ref 0, .int v1, .int v2] (W_X4 u) (va_A (ev_lay ad ct (W_X4 u)) sz)) (fun _ _ _ _ => False) (ev_XC D ct ad (W_X4 u) (va_A (ev_lay ad ct (W_X4 u)) sz) (th_cls 0)) 1 6 (va_A (ev_lay ad ct (W_X4 u)) sz) :=
  ev_startT (cl := 0) (as := [.ref 0, .int v1, .int v2]) ok_X4_ifPassed (by decide +kernel) rfl rfl (Nat.le_of_ble_eq_true rfl) rfl ⟨rfl, rfl⟩ h_X4_ifPassed_1 (t_X4_ifPassed_e F u v1 v2 1 hR) l hl D ct ad sz
theorem h_X4_endsIn_1 : ∀ pc, xt_X4_endsIn pc = some 1 → ∃ i tx, th_site mm_X4_endsIn pc 2 i tx := by
  intro pc h
  unfold xt_X4_endsIn at h
  by_cases e0 : pc = 8
  · subst e0
    exact ⟨93, "no such thing", by unfold th_site; decide +kernel⟩
  rw [if_neg e0] at h
  cases h
theorem th_X4_endsIn_1 (F : Nat) (u : S_X4) (v1 : Int32) (hR : s_X4_endsIn_e F u v1 = some 1) (l : Launch) (hl : l.stackTraces = false) (D : va_G) (ct ad : Nat → Nat) (sz : Nat) : vx_Met l yX4_endsIn (ev_wsT yX4_endsIn mm_X4_endsIn) (ev_rmT mm_X4_endsIn) (ev_PcT D ct ad sz [.ref 0, .int v1] (W_X4 u) (va_A (ev_lay ad ct (W_X4 u)) sz)) (fun _ _ _ _ => False) (ev_XC D ct ad (W_X4 u) (va_A (ev_lay ad ct (W_X4 u)) sz) (th_cls 2)) 1 6 (va_A (ev_lay ad ct (W_X4 u)) sz) :=
  ev_startT (cl := 2) (as := [.ref 0, .int v1]) ok_X4_endsIn (by decide +kernel) rfl rfl (Nat.le_of_ble_eq_true rfl) rfl ⟨rfl, rfl⟩ h_X4_endsIn_1 (t_X4_endsIn_e F u v1 1 hR) l hl D ct ad sz
theorem h_X4_ifTried_1 : ∀ pc, xt_X4_ifTried pc = some 1 → ∃ i tx, th_site mm_X4_ifTried pc 0 i tx := by
  intro pc h
  unfold xt_X4_ifTried at h
  by_cases e0 : pc = 9
  · subst e0
    exact ⟨241, "0 to 2", by unfold th_site; decide +kernel⟩
  rw [if_neg e0] at h
  cases h
theorem th_X4_ifTried_1 (F : Nat) (u : S_X4) (v1 : Int32) (hR : s_X4_ifTried_e F u v1 = some 1) (l : Launch) (hl : l.stackTraces = false) (D : va_G) (ct ad : Nat → Nat) (sz : Nat) : vx_Met l yX4_ifTried (ev_wsT yX4_ifTried mm_X4_ifTried) (ev_rmT mm_X4_ifTried) (ev_PcT D ct ad sz [.ref 0, .int v1] (W_X4 u) (va_A (ev_lay ad ct (W_X4 u)) sz)) (fun _ _ _ _ => False) (ev_XC D ct ad (W_X4 u) (va_A (ev_lay ad ct (W_X4 u)) sz) (th_cls 0)) 1 6 (va_A (ev_lay ad ct (W_X4 u)) sz) :=
  ev_startT (cl := 0) (as := [.ref 0, .int v1]) ok_X4_ifTried (by decide +kernel) rfl rfl (Nat.le_of_ble_eq_true rfl) rfl ⟨rfl, rfl⟩ h_X4_ifTried_1 (t_X4_ifTried_e F u v1 1 hR) l hl D ct ad sz
theorem h_X4_ring_1 : ∀ pc, xt_X4_ring pc = some 1 → ∃ i tx, th_site mm_X4_ring pc 2 i tx := by
  intro pc h
  unfold xt_X4_ring at h
  by_cases e0 : pc = 8
  · subst e0
    exact ⟨93, "no such thing", by unfold th_site; decide +kernel⟩
  rw [if_neg e0] at h
  cases h
theorem th_X4_ring_1 (F : Nat) (u : S_X4) (v1 : Int32) (hR : s_X4_ring_e F u v1 = some 1) (l : Launch) (hl : l.stackTraces = false) (D : va_G) (ct ad : Nat → Nat) (sz : Nat) : vx_Met l yX4_ring (ev_wsT yX4_ring mm_X4_ring) (ev_rmT mm_X4_ring) (ev_PcT D ct ad sz [.ref 0, .int v1] (W_X4 u) (va_A (ev_lay ad ct (W_X4 u)) sz)) (fun _ _ _ _ => False) (ev_XC D ct ad (W_X4 u) (va_A (ev_lay ad ct (W_X4 u)) sz) (th_cls 2)) 1 6 (va_A (ev_lay ad ct (W_X4 u)) sz) :=
  ev_startT (cl := 2) (as := [.ref 0, .int v1]) ok_X4_ring (by decide +kernel) rfl rfl (Nat.le_of_ble_eq_true rfl) rfl ⟨rfl, rfl⟩ h_X4_ring_1 (t_X4_ring_e F u v1 1 hR) l hl D ct ad sz
theorem h_X4_bestCut_1 : ∀ pc, xt_X4_bestCut pc = some 1 → ∃ i tx, th_site mm_X4_bestCut pc 0 i tx := by
  intro pc h
  unfold xt_X4_bestCut at h
  by_cases e0 : pc = 9
  · subst e0
    exact ⟨252, "0 or 1", by unfold th_site; decide +kernel⟩
  rw [if_neg e0] at h
  cases h
theorem th_X4_bestCut_1 (F : Nat) (u : S_X4) (v1 : Int32) (hR : s_X4_bestCut_e F u v1 = some 1) (l : Launch) (hl : l.stackTraces = false) (D : va_G) (ct ad : Nat → Nat) (sz : Nat) : vx_Met l yX4_bestCut (ev_wsT yX4_bestCut mm_X4_bestCut) (ev_rmT mm_X4_bestCut) (ev_PcT D ct ad sz [.ref 0, .int v1] (W_X4 u) (va_A (ev_lay ad ct (W_X4 u)) sz)) (fun _ _ _ _ => False) (ev_XC D ct ad (W_X4 u) (va_A (ev_lay ad ct (W_X4 u)) sz) (th_cls 0)) 1 6 (va_A (ev_lay ad ct (W_X4 u)) sz) :=
  ev_startT (cl := 0) (as := [.ref 0, .int v1]) ok_X4_bestCut (by decide +kernel) rfl rfl (Nat.le_of_ble_eq_true rfl) rfl ⟨rfl, rfl⟩ h_X4_bestCut_1 (t_X4_bestCut_e F u v1 1 hR) l hl D ct ad sz
theorem h_X4_bears_1 : ∀ pc, xt_X4_bears pc = some 1 → ∃ i tx, th_site mm_X4_bears pc 2 i tx := by
  intro pc h
  unfold xt_X4_bears at h
  by_cases e0 : pc = 8
  · subst e0
    exact ⟨93, "no such thing", by unfold th_site; decide +kernel⟩
  rw [if_neg e0] at h
  cases h
theorem th_X4_bears_1 (F : Nat) (u : S_X4) (v1 : Int32) (hR : s_X4_bears_e F u v1 = some 1) (l : Launch) (hl : l.stackTraces = false) (D : va_G) (ct ad : Nat → Nat) (sz : Nat) : vx_Met l yX4_bears (ev_wsT yX4_bears mm_X4_bears) (ev_rmT mm_X4_bears) (ev_PcT D ct ad sz [.ref 0, .int v1] (W_X4 u) (va_A (ev_lay ad ct (W_X4 u)) sz)) (fun _ _ _ _ => False) (ev_XC D ct ad (W_X4 u) (va_A (ev_lay ad ct (W_X4 u)) sz) (th_cls 2)) 1 6 (va_A (ev_lay ad ct (W_X4 u)) sz) :=
  ev_startT (cl := 2) (as := [.ref 0, .int v1]) ok_X4_bears (by decide +kernel) rfl rfl (Nat.le_of_ble_eq_true rfl) rfl ⟨rfl, rfl⟩ h_X4_bears_1 (t_X4_bears_e F u v1 1 hR) l hl D ct ad sz
