/-! one step of the law: wrapper and model together -/
def le_e (n : Nat) (o : Option Nat) : Prop := ∀ k, o = some k → k ≤ n
theorem le_some {n k : Nat} (h : k ≤ n) : le_e n (some k) := fun j hj => by cases hj; exact h
theorem le_none {n : Nat} : le_e n none := fun j hj => by cases hj
theorem le_ite {n : Nat} {p : Prop} [Decidable p] {a b : Option Nat} (ha : le_e n a) (hb : le_e n b) : le_e n (if p then a else b) := by
  split
  · exact ha
  · exact hb
theorem le_bind {n : Nat} {α : Type} {a : Option α} {g : α → Option Nat} (h : ∀ y, le_e n (g y)) : le_e n (a.bind g) := by
  cases a with
  | none => exact le_none
  | some y => exact h y

theorem le_add (F : Nat) (u : S_X4) (v1 : Int32) : le_e 2 (s_X4_add_e F u v1) := by
  unfold s_X4_add_e
  repeat' (first | exact le_none | exact le_some (by decide) | refine le_ite ?_ ?_ | refine le_bind fun _ => ?_)

theorem st_add {F : Nat} (hF : 6400 < F) {c : Nat} (hc : c < 512) {S : S_X6} {w : S_X5} (q : REL c S w) (f : Nat → Int64) (v1 : Int32) : ∃ (k : Nat) (z : Int32) (S' : S_X6) (w' : S_X5) (f' : Nat → Int64), s_X5_add F w v1 = some (z, w') ∧ a_X5_thrown w' = nI k ∧ k ≤ 3 ∧ REL (c + 1) S' w' ∧ (k = 0 → f' 0 = z.toInt64) ∧ ev_AH yL_add mm_L_add hh_L_add [.ref 0, .int v1, .ref 140] (WL S f) (fun r w => r = some (.int (nI k)) ∧ w = WL S' f') := by
  obtain ⟨z, w', hb, h | h⟩ := p_add hF hc q v1
  · obtain ⟨h0, S', ha, hr⟩ := h
    exact ⟨0, z, S', w', _, hb, h0, by omega, hr, fun _ => rfl, rL_add F S S' f v1 z ha⟩
  · obtain ⟨k, hk, k1, k3, h, hr⟩ := h
    have kn : k ≤ 2 := le_add F S.1 v1 k h
    obtain rfl | rfl : k = 1 ∨ k = 2 := by omega
    · exact ⟨1, z, S, w', f, hb, hk, by omega, hr, fun h => absurd h (by decide), xL_add_1 F S f v1 h⟩
    · exact ⟨2, z, S, w', f, hb, hk, by omega, hr, fun h => absurd h (by decide), xL_add_2 F S f v1 h⟩

theorem le_take (F : Nat) (u : S_X4) (v1 : Int32) (v2 : Int32) : le_e 2 (s_X4_take_e F u v1 v2) := by
  unfold s_X4_take_e
  repeat' (first | exact le_none | exact le_some (by decide) | refine le_ite ?_ ?_ | refine le_bind fun _ => ?_)

theorem st_take {F : Nat} (hF : 6400 < F) {c : Nat} (hc : c < 512) {S : S_X6} {w : S_X5} (q : REL c S w) (f : Nat → Int64) (v1 : Int32) (v2 : Int32) : ∃ (k : Nat) (z : Int32) (S' : S_X6) (w' : S_X5) (f' : Nat → Int64), s_X5_take F w v1 v2 = some (z, w') ∧ a_X5_thrown w' = nI k ∧ k ≤ 3 ∧ REL (c + 1) S' w' ∧ (k = 0 → f' 0 = z.toInt64) ∧ ev_AH yL_take mm_L_take hh_L_take [.ref 0, .int v1, .int v2, .ref 140] (WL S f) (fun r w => r = some (.int (nI k)) ∧ w = WL S' f') := by
  obtain ⟨z, w', hb, h | h⟩ := p_take hF hc q v1 v2
  · obtain ⟨h0, S', ha, hr⟩ := h
    exact ⟨0, z, S', w', _, hb, h0, by omega, hr, fun _ => rfl, rL_take F S S' f v1 v2 z ha⟩
  · obtain ⟨k, hk, k1, k3, h, hr⟩ := h
    have kn : k ≤ 2 := le_take F S.1 v1 v2 k h
    obtain rfl | rfl : k = 1 ∨ k = 2 := by omega
    · exact ⟨1, z, S, w', f, hb, hk, by omega, hr, fun h => absurd h (by decide), xL_take_1 F S f v1 v2 h⟩
    · exact ⟨2, z, S, w', f, hb, hk, by omega, hr, fun h => absurd h (by decide), xL_take_2 F S f v1 v2 h⟩

theorem le_put (F : Nat) (u : S_X4) (v1 : Int32) (v2 : Int32) (v3 : Int32) : le_e 2 (s_X4_put_e F u v1 v2 v3) := by
  unfold s_X4_put_e
  repeat' (first | exact le_none | exact le_some (by decide) | refine le_ite ?_ ?_ | refine le_bind fun _ => ?_)

theorem st_put {F : Nat} (hF : 6400 < F) {c : Nat} (hc : c < 512) {S : S_X6} {w : S_X5} (q : REL c S w) (f : Nat → Int64) (v1 : Int32) (v2 : Int32) (v3 : Int32) : ∃ (k : Nat) (z : Int32) (S' : S_X6) (w' : S_X5) (f' : Nat → Int64), s_X5_put F w v1 v2 v3 = some (z, w') ∧ a_X5_thrown w' = nI k ∧ k ≤ 3 ∧ REL (c + 1) S' w' ∧ (k = 0 → f' 0 = z.toInt64) ∧ ev_AH yL_put mm_L_put hh_L_put [.ref 0, .int v1, .int v2, .int v3, .ref 140] (WL S f) (fun r w => r = some (.int (nI k)) ∧ w = WL S' f') := by
  obtain ⟨z, w', hb, h | h⟩ := p_put hF hc q v1 v2 v3
  · obtain ⟨h0, S', ha, hr⟩ := h
    exact ⟨0, z, S', w', _, hb, h0, by omega, hr, fun _ => rfl, rL_put F S S' f v1 v2 v3 z ha⟩
  · obtain ⟨k, hk, k1, k3, h, hr⟩ := h
    have kn : k ≤ 2 := le_put F S.1 v1 v2 v3 k h
    obtain rfl | rfl : k = 1 ∨ k = 2 := by omega
    · exact ⟨1, z, S, w', f, hb, hk, by omega, hr, fun h => absurd h (by decide), xL_put_1 F S f v1 v2 v3 h⟩
    · exact ⟨2, z, S, w', f, hb, hk, by omega, hr, fun h => absurd h (by decide), xL_put_2 F S f v1 v2 v3 h⟩

theorem st_slander {F : Nat} (hF : 6400 < F) {c : Nat} (hc : c < 512) {S : S_X6} {w : S_X5} (q : REL c S w) (f : Nat → Int64) (v1 : Int32) (v2 : Int32) : ∃ (k : Nat) (z : Int32) (S' : S_X6) (w' : S_X5) (f' : Nat → Int64), s_X5_slander F w v1 v2 = some (z, w') ∧ a_X5_thrown w' = nI k ∧ k ≤ 3 ∧ REL (c + 1) S' w' ∧ (k = 0 → f' 0 = z.toInt64) ∧ ev_AH yL_slander mm_L_slander hh_L_slander [.ref 0, .int v1, .int v2, .ref 140] (WL S f) (fun r w => r = some (.int (nI k)) ∧ w = WL S' f') := by
  obtain ⟨z, w', hb, h | h⟩ := p_slander hF hc q v1 v2
  · obtain ⟨h0, S', ha, hr⟩ := h
    exact ⟨0, z, S', w', _, hb, h0, by omega, hr, fun _ => rfl, rL_slander F S S' f v1 v2 z ha⟩
  · obtain ⟨k, hk, k1, k3, h, hr⟩ := h
    obtain rfl | rfl | rfl : k = 1 ∨ k = 2 ∨ k = 3 := by omega
    · exact ⟨1, z, S, w', f, hb, hk, by omega, hr, fun h => absurd h (by decide), xL_slander_1 F S f v1 v2 h⟩
    · exact ⟨2, z, S, w', f, hb, hk, by omega, hr, fun h => absurd h (by decide), xL_slander_2 F S f v1 v2 h⟩
    · exact ⟨3, z, S, w', f, hb, hk, by omega, hr, fun h => absurd h (by decide), xL_slander_3 F S f v1 v2 h⟩

theorem le_suspect (F : Nat) (u : S_X4) (v1 : Int32) : le_e 2 (s_X4_suspect_e F u v1) := by
  unfold s_X4_suspect_e
  repeat' (first | exact le_none | exact le_some (by decide) | refine le_ite ?_ ?_ | refine le_bind fun _ => ?_)

theorem st_suspect {F : Nat} (hF : 6400 < F) {c : Nat} (hc : c < 512) {S : S_X6} {w : S_X5} (q : REL c S w) (f : Nat → Int64) (v1 : Int32) : ∃ (k : Nat) (z : Int32) (S' : S_X6) (w' : S_X5) (f' : Nat → Int64), s_X5_suspect F w v1 = some (z, w') ∧ a_X5_thrown w' = nI k ∧ k ≤ 3 ∧ REL (c + 1) S' w' ∧ (k = 0 → f' 0 = z.toInt64) ∧ ev_AH yL_suspect mm_L_suspect hh_L_suspect [.ref 0, .int v1, .ref 140] (WL S f) (fun r w => r = some (.int (nI k)) ∧ w = WL S' f') := by
  obtain ⟨z, w', hb, h | h⟩ := p_suspect hF hc q v1
  · obtain ⟨h0, S', ha, hr⟩ := h
    exact ⟨0, z, S', w', _, hb, h0, by omega, hr, fun _ => rfl, rL_suspect F S S' f v1 z ha⟩
  · obtain ⟨k, hk, k1, k3, h, hr⟩ := h
    have kn : k ≤ 2 := le_suspect F S.1 v1 k h
    obtain rfl | rfl : k = 1 ∨ k = 2 := by omega
    · exact ⟨1, z, S, w', f, hb, hk, by omega, hr, fun h => absurd h (by decide), xL_suspect_1 F S f v1 h⟩
    · exact ⟨2, z, S, w', f, hb, hk, by omega, hr, fun h => absurd h (by decide), xL_suspect_2 F S f v1 h⟩

theorem le_set (F : Nat) (u : S_X4) (v1 : Int32) (v2 : Int32) : le_e 2 (s_X4_set_e F u v1 v2) := by
  unfold s_X4_set_e
  repeat' (first | exact le_none | exact le_some (by decide) | refine le_ite ?_ ?_ | refine le_bind fun _ => ?_)

theorem st_set {F : Nat} (hF : 6400 < F) {c : Nat} (hc : c < 512) {S : S_X6} {w : S_X5} (q : REL c S w) (f : Nat → Int64) (v1 : Int32) (v2 : Int32) : ∃ (k : Nat) (z : Int32) (S' : S_X6) (w' : S_X5) (f' : Nat → Int64), s_X5_set F w v1 v2 = some (z, w') ∧ a_X5_thrown w' = nI k ∧ k ≤ 3 ∧ REL (c + 1) S' w' ∧ (k = 0 → f' 0 = z.toInt64) ∧ ev_AH yL_set mm_L_set hh_L_set [.ref 0, .int v1, .int v2, .ref 140] (WL S f) (fun r w => r = some (.int (nI k)) ∧ w = WL S' f') := by
  obtain ⟨z, w', hb, h | h⟩ := p_set hF hc q v1 v2
  · obtain ⟨h0, S', ha, hr⟩ := h
    exact ⟨0, z, S', w', _, hb, h0, by omega, hr, fun _ => rfl, rL_set F S S' f v1 v2 z ha⟩
  · obtain ⟨k, hk, k1, k3, h, hr⟩ := h
    have kn : k ≤ 2 := le_set F S.1 v1 v2 k h
    obtain rfl | rfl : k = 1 ∨ k = 2 := by omega
    · exact ⟨1, z, S, w', f, hb, hk, by omega, hr, fun h => absurd h (by decide), xL_set_1 F S f v1 v2 h⟩
    · exact ⟨2, z, S, w', f, hb, hk, by omega, hr, fun h => absurd h (by decide), xL_set_2 F S f v1 v2 h⟩

theorem le_pass (F : Nat) (u : S_X4) (v1 : Int32) : le_e 2 (s_X4_pass_e F u v1) := by
  unfold s_X4_pass_e
  repeat' (first | exact le_none | exact le_some (by decide) | refine le_ite ?_ ?_ | refine le_bind fun _ => ?_)

theorem st_pass {F : Nat} (hF : 6400 < F) {c : Nat} (hc : c < 512) {S : S_X6} {w : S_X5} (q : REL c S w) (f : Nat → Int64) (v1 : Int32) : ∃ (k : Nat) (z : Int32) (S' : S_X6) (w' : S_X5) (f' : Nat → Int64), s_X5_pass F w v1 = some (z, w') ∧ a_X5_thrown w' = nI k ∧ k ≤ 3 ∧ REL (c + 1) S' w' ∧ (k = 0 → f' 0 = z.toInt64) ∧ ev_AH yL_pass mm_L_pass hh_L_pass [.ref 0, .int v1, .ref 140] (WL S f) (fun r w => r = some (.int (nI k)) ∧ w = WL S' f') := by
  obtain ⟨z, w', hb, h | h⟩ := p_pass hF hc q v1
  · obtain ⟨h0, S', ha, hr⟩ := h
    exact ⟨0, z, S', w', _, hb, h0, by omega, hr, fun _ => rfl, rL_pass F S S' f v1 z ha⟩
  · obtain ⟨k, hk, k1, k3, h, hr⟩ := h
    have kn : k ≤ 2 := le_pass F S.1 v1 k h
    obtain rfl | rfl : k = 1 ∨ k = 2 := by omega
    · exact ⟨1, z, S, w', f, hb, hk, by omega, hr, fun h => absurd h (by decide), xL_pass_1 F S f v1 h⟩
    · exact ⟨2, z, S, w', f, hb, hk, by omega, hr, fun h => absurd h (by decide), xL_pass_2 F S f v1 h⟩

theorem le_append (F : Nat) (u : S_X4) (v1 : Int32) : le_e 2 (s_X4_append_e F u v1) := by
  unfold s_X4_append_e
  repeat' (first | exact le_none | exact le_some (by decide) | refine le_ite ?_ ?_ | refine le_bind fun _ => ?_)

theorem st_append {F : Nat} (hF : 6400 < F) {c : Nat} (hc : c < 512) {S : S_X6} {w : S_X5} (q : REL c S w) (f : Nat → Int64) (v1 : Int32) : ∃ (k : Nat) (z : Int32) (S' : S_X6) (w' : S_X5) (f' : Nat → Int64), s_X5_append F w v1 = some (z, w') ∧ a_X5_thrown w' = nI k ∧ k ≤ 3 ∧ REL (c + 1) S' w' ∧ (k = 0 → f' 0 = z.toInt64) ∧ ev_AH yL_append mm_L_append hh_L_append [.ref 0, .int v1, .ref 140] (WL S f) (fun r w => r = some (.int (nI k)) ∧ w = WL S' f') := by
  obtain ⟨z, w', hb, h | h⟩ := p_append hc q v1
  · obtain ⟨h0, S', ha, hr⟩ := h
    exact ⟨0, z, S', w', _, hb, h0, by omega, hr, fun _ => rfl, rL_append F S S' f v1 z ha⟩
  · obtain ⟨k, hk, k1, k3, h, hr⟩ := h
    have kn : k ≤ 2 := le_append F S.1 v1 k h
    obtain rfl | rfl : k = 1 ∨ k = 2 := by omega
    · exact ⟨1, z, S, w', f, hb, hk, by omega, hr, fun h => absurd h (by decide), xL_append_1 F S f v1 h⟩
    · exact ⟨2, z, S, w', f, hb, hk, by omega, hr, fun h => absurd h (by decide), xL_append_2 F S f v1 h⟩

theorem le_run (F : Nat) (u : S_X4)  : le_e 1 (s_X4_run_e F u ) := by
  unfold s_X4_run_e
  repeat' (first | exact le_none | exact le_some (by decide) | refine le_ite ?_ ?_ | refine le_bind fun _ => ?_)

theorem st_run {F : Nat} (hF : 6400 < F) {c : Nat} (hc : c < 512) {S : S_X6} {w : S_X5} (q : REL c S w) (f : Nat → Int64)  : ∃ (k : Nat) (z : Int32) (S' : S_X6) (w' : S_X5) (f' : Nat → Int64), s_X5_run F w  = some (z, w') ∧ a_X5_thrown w' = nI k ∧ k ≤ 3 ∧ REL (c + 1) S' w' ∧ (k = 0 → f' 0 = z.toInt64) ∧ ev_AH yL_run mm_L_run hh_L_run [.ref 0, .ref 140] (WL S f) (fun r w => r = some (.int (nI k)) ∧ w = WL S' f') := by
  obtain ⟨z, w', hb, h | h⟩ := p_run hF hc q 
  · obtain ⟨h0, S', ha, hr⟩ := h
    exact ⟨0, z, S', w', _, hb, h0, by omega, hr, fun _ => rfl, rL_run F S S' f  z ha⟩
  · obtain ⟨k, hk, k1, k3, h, hr⟩ := h
    have kn : k ≤ 1 := le_run F S.1  k h
    obtain rfl : k = 1 := by omega
    · exact ⟨1, z, S, w', f, hb, hk, by omega, hr, fun h => absurd h (by decide), xL_run_1 F S f  h⟩

theorem le_undo (F : Nat) (u : S_X4)  : le_e 1 (s_X4_undo_e F u ) := by
  unfold s_X4_undo_e
  repeat' (first | exact le_none | exact le_some (by decide) | refine le_ite ?_ ?_ | refine le_bind fun _ => ?_)

theorem st_undo {F : Nat} (hF : 6400 < F) {c : Nat} (hc : c < 512) {S : S_X6} {w : S_X5} (q : REL c S w) (f : Nat → Int64)  : ∃ (k : Nat) (z : Int32) (S' : S_X6) (w' : S_X5) (f' : Nat → Int64), s_X5_undo F w  = some (z, w') ∧ a_X5_thrown w' = nI k ∧ k ≤ 3 ∧ REL (c + 1) S' w' ∧ (k = 0 → f' 0 = z.toInt64) ∧ ev_AH yL_undo mm_L_undo hh_L_undo [.ref 0, .ref 140] (WL S f) (fun r w => r = some (.int (nI k)) ∧ w = WL S' f') := by
  obtain ⟨z, w', hb, h | h⟩ := p_undo hF hc q 
  · obtain ⟨h0, S', ha, hr⟩ := h
    exact ⟨0, z, S', w', _, hb, h0, by omega, hr, fun _ => rfl, rL_undo F S S' f  z ha⟩
  · obtain ⟨k, hk, k1, k3, h, hr⟩ := h
    have kn : k ≤ 1 := le_undo F S.1  k h
    obtain rfl : k = 1 := by omega
    · exact ⟨1, z, S, w', f, hb, hk, by omega, hr, fun h => absurd h (by decide), xL_undo_1 F S f  h⟩

theorem le_thing (F : Nat) (u : S_X4) (v1 : Int32) (v2 : Int32) : le_e 2 (s_X4_thing_e F u v1 v2) := by
  unfold s_X4_thing_e
  repeat' (first | exact le_none | exact le_some (by decide) | refine le_ite ?_ ?_ | refine le_bind fun _ => ?_)

theorem st_thing {F : Nat} (hF : 6400 < F) {c : Nat} (hc : c < 512) {S : S_X6} {w : S_X5} (q : REL c S w) (f : Nat → Int64) (v1 : Int32) (v2 : Int32) : ∃ (k : Nat) (z : Int32) (S' : S_X6) (w' : S_X5) (f' : Nat → Int64), s_X5_thing F w v1 v2 = some (z, w') ∧ a_X5_thrown w' = nI k ∧ k ≤ 3 ∧ REL (c + 1) S' w' ∧ (k = 0 → f' 0 = z.toInt64) ∧ ev_AH yL_thing mm_L_thing hh_L_thing [.ref 0, .int v1, .int v2, .ref 140] (WL S f) (fun r w => r = some (.int (nI k)) ∧ w = WL S' f') := by
  obtain ⟨z, w', hb, h | h⟩ := p_thing hF hc q v1 v2
  · obtain ⟨h0, S', ha, hr⟩ := h
    exact ⟨0, z, S', w', _, hb, h0, by omega, hr, fun _ => rfl, rL_thing F S S' f v1 v2 z ha⟩
  · obtain ⟨k, hk, k1, k3, h, hr⟩ := h
    have kn : k ≤ 2 := le_thing F S.1 v1 v2 k h
    obtain rfl | rfl : k = 1 ∨ k = 2 := by omega
    · exact ⟨1, z, S, w', f, hb, hk, by omega, hr, fun h => absurd h (by decide), xL_thing_1 F S f v1 v2 h⟩
    · exact ⟨2, z, S, w', f, hb, hk, by omega, hr, fun h => absurd h (by decide), xL_thing_2 F S f v1 v2 h⟩

theorem le_slot (F : Nat) (u : S_X4) (v1 : Int32) (v2 : Int32) : le_e 1 (s_X4_slot_e F u v1 v2) := by
  unfold s_X4_slot_e
  repeat' (first | exact le_none | exact le_some (by decide) | refine le_ite ?_ ?_ | refine le_bind fun _ => ?_)

theorem st_slot {F : Nat} (hF : 6400 < F) {c : Nat} (hc : c < 512) {S : S_X6} {w : S_X5} (q : REL c S w) (f : Nat → Int64) (v1 : Int32) (v2 : Int32) : ∃ (k : Nat) (z : Int32) (S' : S_X6) (w' : S_X5) (f' : Nat → Int64), s_X5_slot F w v1 v2 = some (z, w') ∧ a_X5_thrown w' = nI k ∧ k ≤ 3 ∧ REL (c + 1) S' w' ∧ (k = 0 → f' 0 = z.toInt64) ∧ ev_AH yL_slot mm_L_slot hh_L_slot [.ref 0, .int v1, .int v2, .ref 140] (WL S f) (fun r w => r = some (.int (nI k)) ∧ w = WL S' f') := by
  obtain ⟨z, w', hb, h | h⟩ := p_slot hc q v1 v2
  · obtain ⟨h0, S', ha, hr⟩ := h
    exact ⟨0, z, S', w', _, hb, h0, by omega, hr, fun _ => rfl, rL_slot F S S' f v1 v2 z ha⟩
  · obtain ⟨k, hk, k1, k3, h, hr⟩ := h
    have kn : k ≤ 1 := le_slot F S.1 v1 v2 k h
    obtain rfl : k = 1 := by omega
    · exact ⟨1, z, S, w', f, hb, hk, by omega, hr, fun h => absurd h (by decide), xL_slot_1 F S f v1 v2 h⟩

theorem le_hand (F : Nat) (u : S_X4) (v1 : Int32) : le_e 1 (s_X4_hand_e F u v1) := by
  unfold s_X4_hand_e
  repeat' (first | exact le_none | exact le_some (by decide) | refine le_ite ?_ ?_ | refine le_bind fun _ => ?_)

theorem st_hand {F : Nat} (hF : 6400 < F) {c : Nat} (hc : c < 512) {S : S_X6} {w : S_X5} (q : REL c S w) (f : Nat → Int64) (v1 : Int32) : ∃ (k : Nat) (z : Int32) (S' : S_X6) (w' : S_X5) (f' : Nat → Int64), s_X5_hand F w v1 = some (z, w') ∧ a_X5_thrown w' = nI k ∧ k ≤ 3 ∧ REL (c + 1) S' w' ∧ (k = 0 → f' 0 = z.toInt64) ∧ ev_AH yL_hand mm_L_hand hh_L_hand [.ref 0, .int v1, .ref 140] (WL S f) (fun r w => r = some (.int (nI k)) ∧ w = WL S' f') := by
  obtain ⟨z, w', hb, h | h⟩ := p_hand hc q v1
  · obtain ⟨h0, S', ha, hr⟩ := h
    exact ⟨0, z, S', w', _, hb, h0, by omega, hr, fun _ => rfl, rL_hand F S S' f v1 z ha⟩
  · obtain ⟨k, hk, k1, k3, h, hr⟩ := h
    have kn : k ≤ 1 := le_hand F S.1 v1 k h
    obtain rfl : k = 1 := by omega
    · exact ⟨1, z, S, w', f, hb, hk, by omega, hr, fun h => absurd h (by decide), xL_hand_1 F S f v1 h⟩

theorem le_report (F : Nat) (u : S_X4) (v1 : Int32) (v2 : Int32) : le_e 2 (s_X4_report_e F u v1 v2) := by
  unfold s_X4_report_e
  repeat' (first | exact le_none | exact le_some (by decide) | refine le_ite ?_ ?_ | refine le_bind fun _ => ?_)

theorem st_report {F : Nat} (hF : 6400 < F) {c : Nat} (hc : c < 512) {S : S_X6} {w : S_X5} (q : REL c S w) (f : Nat → Int64) (v1 : Int32) (v2 : Int32) : ∃ (k : Nat) (z : Int32) (S' : S_X6) (w' : S_X5) (f' : Nat → Int64), s_X5_report F w v1 v2 = some (z, w') ∧ a_X5_thrown w' = nI k ∧ k ≤ 3 ∧ REL (c + 1) S' w' ∧ (k = 0 → f' 0 = z.toInt64) ∧ ev_AH yL_report mm_L_report hh_L_report [.ref 0, .int v1, .int v2, .ref 140] (WL S f) (fun r w => r = some (.int (nI k)) ∧ w = WL S' f') := by
  obtain ⟨z, w', hb, h | h⟩ := p_report hF hc q v1 v2
  · obtain ⟨h0, S', ha, hr⟩ := h
    exact ⟨0, z, S', w', _, hb, h0, by omega, hr, fun _ => rfl, rL_report F S S' f v1 v2 z ha⟩
  · obtain ⟨k, hk, k1, k3, h, hr⟩ := h
    have kn : k ≤ 2 := le_report F S.1 v1 v2 k h
    obtain rfl | rfl : k = 1 ∨ k = 2 := by omega
    · exact ⟨1, z, S, w', f, hb, hk, by omega, hr, fun h => absurd h (by decide), xL_report_1 F S f v1 v2 h⟩
    · exact ⟨2, z, S, w', f, hb, hk, by omega, hr, fun h => absurd h (by decide), xL_report_2 F S f v1 v2 h⟩

theorem le_ended (F : Nat) (u : S_X4) (v1 : Int32) : le_e 1 (s_X4_ended_e F u v1) := by
  unfold s_X4_ended_e
  repeat' (first | exact le_none | exact le_some (by decide) | refine le_ite ?_ ?_ | refine le_bind fun _ => ?_)

theorem st_ended {F : Nat} (hF : 6400 < F) {c : Nat} (hc : c < 512) {S : S_X6} {w : S_X5} (q : REL c S w) (f : Nat → Int64) (v1 : Int32) : ∃ (k : Nat) (z : Int32) (S' : S_X6) (w' : S_X5) (f' : Nat → Int64), s_X5_ended F w v1 = some (z, w') ∧ a_X5_thrown w' = nI k ∧ k ≤ 3 ∧ REL (c + 1) S' w' ∧ (k = 0 → f' 0 = z.toInt64) ∧ ev_AH yL_ended mm_L_ended hh_L_ended [.ref 0, .int v1, .ref 140] (WL S f) (fun r w => r = some (.int (nI k)) ∧ w = WL S' f') := by
  obtain ⟨z, w', hb, h | h⟩ := p_ended hc q v1
  · obtain ⟨h0, S', ha, hr⟩ := h
    exact ⟨0, z, S', w', _, hb, h0, by omega, hr, fun _ => rfl, rL_ended F S S' f v1 z ha⟩
  · obtain ⟨k, hk, k1, k3, h, hr⟩ := h
    have kn : k ≤ 1 := le_ended F S.1 v1 k h
    obtain rfl : k = 1 := by omega
    · exact ⟨1, z, S, w', f, hb, hk, by omega, hr, fun h => absurd h (by decide), xL_ended_1 F S f v1 h⟩

theorem le_count (F : Nat) (u : S_X4) (v1 : Int32) : le_e 1 (s_X4_count_e F u v1) := by
  unfold s_X4_count_e
  repeat' (first | exact le_none | exact le_some (by decide) | refine le_ite ?_ ?_ | refine le_bind fun _ => ?_)

theorem st_count {F : Nat} (hF : 6400 < F) {c : Nat} (hc : c < 512) {S : S_X6} {w : S_X5} (q : REL c S w) (f : Nat → Int64) (v1 : Int32) : ∃ (k : Nat) (z : Int32) (S' : S_X6) (w' : S_X5) (f' : Nat → Int64), s_X5_count F w v1 = some (z, w') ∧ a_X5_thrown w' = nI k ∧ k ≤ 3 ∧ REL (c + 1) S' w' ∧ (k = 0 → f' 0 = z.toInt64) ∧ ev_AH yL_count mm_L_count hh_L_count [.ref 0, .int v1, .ref 140] (WL S f) (fun r w => r = some (.int (nI k)) ∧ w = WL S' f') := by
  obtain ⟨z, w', hb, h | h⟩ := p_count hF hc q v1
  · obtain ⟨h0, S', ha, hr⟩ := h
    exact ⟨0, z, S', w', _, hb, h0, by omega, hr, fun _ => rfl, rL_count F S S' f v1 z ha⟩
  · obtain ⟨k, hk, k1, k3, h, hr⟩ := h
    have kn : k ≤ 1 := le_count F S.1 v1 k h
    obtain rfl : k = 1 := by omega
    · exact ⟨1, z, S, w', f, hb, hk, by omega, hr, fun h => absurd h (by decide), xL_count_1 F S f v1 h⟩

theorem le_setting (F : Nat) (u : S_X4) (v1 : Int32) : le_e 1 (s_X4_setting_e F u v1) := by
  unfold s_X4_setting_e
  repeat' (first | exact le_none | exact le_some (by decide) | refine le_ite ?_ ?_ | refine le_bind fun _ => ?_)

theorem st_setting {F : Nat} (hF : 6400 < F) {c : Nat} (hc : c < 512) {S : S_X6} {w : S_X5} (q : REL c S w) (f : Nat → Int64) (v1 : Int32) : ∃ (k : Nat) (z : Int32) (S' : S_X6) (w' : S_X5) (f' : Nat → Int64), s_X5_setting F w v1 = some (z, w') ∧ a_X5_thrown w' = nI k ∧ k ≤ 3 ∧ REL (c + 1) S' w' ∧ (k = 0 → f' 0 = z.toInt64) ∧ ev_AH yL_setting mm_L_setting hh_L_setting [.ref 0, .int v1, .ref 140] (WL S f) (fun r w => r = some (.int (nI k)) ∧ w = WL S' f') := by
  obtain ⟨z, w', hb, h | h⟩ := p_setting hc q v1
  · obtain ⟨h0, S', ha, hr⟩ := h
    exact ⟨0, z, S', w', _, hb, h0, by omega, hr, fun _ => rfl, rL_setting F S S' f v1 z ha⟩
  · obtain ⟨k, hk, k1, k3, h, hr⟩ := h
    have kn : k ≤ 1 := le_setting F S.1 v1 k h
    obtain rfl : k = 1 := by omega
    · exact ⟨1, z, S, w', f, hb, hk, by omega, hr, fun h => absurd h (by decide), xL_setting_1 F S f v1 h⟩

theorem le_ifPassed (F : Nat) (u : S_X4) (v1 : Int32) (v2 : Int32) : le_e 1 (s_X4_ifPassed_e F u v1 v2) := by
  unfold s_X4_ifPassed_e
  repeat' (first | exact le_none | exact le_some (by decide) | refine le_ite ?_ ?_ | refine le_bind fun _ => ?_)

theorem st_ifPassed {F : Nat} (hF : 6400 < F) {c : Nat} (hc : c < 512) {S : S_X6} {w : S_X5} (q : REL c S w) (f : Nat → Int64) (v1 : Int32) (v2 : Int32) : ∃ (k : Nat) (z : Int32) (S' : S_X6) (w' : S_X5) (f' : Nat → Int64), s_X5_ifPassed F w v1 v2 = some (z, w') ∧ a_X5_thrown w' = nI k ∧ k ≤ 3 ∧ REL (c + 1) S' w' ∧ (k = 0 → f' 0 = z.toInt64) ∧ ev_AH yL_ifPassed mm_L_ifPassed hh_L_ifPassed [.ref 0, .int v1, .int v2, .ref 140] (WL S f) (fun r w => r = some (.int (nI k)) ∧ w = WL S' f') := by
  obtain ⟨z, w', hb, h | h⟩ := p_ifPassed hF hc q v1 v2
  · obtain ⟨h0, S', ha, hr⟩ := h
    exact ⟨0, z, S', w', _, hb, h0, by omega, hr, fun _ => rfl, rL_ifPassed F S S' f v1 v2 z ha⟩
  · obtain ⟨k, hk, k1, k3, h, hr⟩ := h
    have kn : k ≤ 1 := le_ifPassed F S.1 v1 v2 k h
    obtain rfl : k = 1 := by omega
    · exact ⟨1, z, S, w', f, hb, hk, by omega, hr, fun h => absurd h (by decide), xL_ifPassed_1 F S f v1 v2 h⟩

theorem le_endsIn (F : Nat) (u : S_X4) (v1 : Int32) : le_e 1 (s_X4_endsIn_e F u v1) := by
  unfold s_X4_endsIn_e
  repeat' (first | exact le_none | exact le_some (by decide) | refine le_ite ?_ ?_ | refine le_bind fun _ => ?_)

theorem st_endsIn {F : Nat} (hF : 6400 < F) {c : Nat} (hc : c < 512) {S : S_X6} {w : S_X5} (q : REL c S w) (f : Nat → Int64) (v1 : Int32) : ∃ (k : Nat) (z : Int32) (S' : S_X6) (w' : S_X5) (f' : Nat → Int64), s_X5_endsIn F w v1 = some (z, w') ∧ a_X5_thrown w' = nI k ∧ k ≤ 3 ∧ REL (c + 1) S' w' ∧ (k = 0 → f' 0 = z.toInt64) ∧ ev_AH yL_endsIn mm_L_endsIn hh_L_endsIn [.ref 0, .int v1, .ref 140] (WL S f) (fun r w => r = some (.int (nI k)) ∧ w = WL S' f') := by
  obtain ⟨z, w', hb, h | h⟩ := p_endsIn hF hc q v1
  · obtain ⟨h0, S', ha, hr⟩ := h
    exact ⟨0, z, S', w', _, hb, h0, by omega, hr, fun _ => rfl, rL_endsIn F S S' f v1 z ha⟩
  · obtain ⟨k, hk, k1, k3, h, hr⟩ := h
    have kn : k ≤ 1 := le_endsIn F S.1 v1 k h
    obtain rfl : k = 1 := by omega
    · exact ⟨1, z, S, w', f, hb, hk, by omega, hr, fun h => absurd h (by decide), xL_endsIn_1 F S f v1 h⟩

theorem le_ifTried (F : Nat) (u : S_X4) (v1 : Int32) : le_e 1 (s_X4_ifTried_e F u v1) := by
  unfold s_X4_ifTried_e
  repeat' (first | exact le_none | exact le_some (by decide) | refine le_ite ?_ ?_ | refine le_bind fun _ => ?_)

theorem st_ifTried {F : Nat} (hF : 6400 < F) {c : Nat} (hc : c < 512) {S : S_X6} {w : S_X5} (q : REL c S w) (f : Nat → Int64) (v1 : Int32) : ∃ (k : Nat) (z : Int32) (S' : S_X6) (w' : S_X5) (f' : Nat → Int64), s_X5_ifTried F w v1 = some (z, w') ∧ a_X5_thrown w' = nI k ∧ k ≤ 3 ∧ REL (c + 1) S' w' ∧ (k = 0 → f' 0 = z.toInt64) ∧ ev_AH yL_ifTried mm_L_ifTried hh_L_ifTried [.ref 0, .int v1, .ref 140] (WL S f) (fun r w => r = some (.int (nI k)) ∧ w = WL S' f') := by
  obtain ⟨z, w', hb, h | h⟩ := p_ifTried hF hc q v1
  · obtain ⟨h0, S', ha, hr⟩ := h
    exact ⟨0, z, S', w', _, hb, h0, by omega, hr, fun _ => rfl, rL_ifTried F S S' f v1 z ha⟩
  · obtain ⟨k, hk, k1, k3, h, hr⟩ := h
    have kn : k ≤ 1 := le_ifTried F S.1 v1 k h
    obtain rfl : k = 1 := by omega
    · exact ⟨1, z, S, w', f, hb, hk, by omega, hr, fun h => absurd h (by decide), xL_ifTried_1 F S f v1 h⟩

theorem le_ring (F : Nat) (u : S_X4) (v1 : Int32) : le_e 1 (s_X4_ring_e F u v1) := by
  unfold s_X4_ring_e
  repeat' (first | exact le_none | exact le_some (by decide) | refine le_ite ?_ ?_ | refine le_bind fun _ => ?_)

theorem st_ring {F : Nat} (hF : 6400 < F) {c : Nat} (hc : c < 512) {S : S_X6} {w : S_X5} (q : REL c S w) (f : Nat → Int64) (v1 : Int32) : ∃ (k : Nat) (z : Int32) (S' : S_X6) (w' : S_X5) (f' : Nat → Int64), s_X5_ring F w v1 = some (z, w') ∧ a_X5_thrown w' = nI k ∧ k ≤ 3 ∧ REL (c + 1) S' w' ∧ (k = 0 → f' 0 = z.toInt64) ∧ ev_AH yL_ring mm_L_ring hh_L_ring [.ref 0, .int v1, .ref 140] (WL S f) (fun r w => r = some (.int (nI k)) ∧ w = WL S' f') := by
  obtain ⟨z, w', hb, h | h⟩ := p_ring hF hc q v1
  · obtain ⟨h0, S', ha, hr⟩ := h
    exact ⟨0, z, S', w', _, hb, h0, by omega, hr, fun _ => rfl, rL_ring F S S' f v1 z ha⟩
  · obtain ⟨k, hk, k1, k3, h, hr⟩ := h
    have kn : k ≤ 1 := le_ring F S.1 v1 k h
    obtain rfl : k = 1 := by omega
    · exact ⟨1, z, S, w', f, hb, hk, by omega, hr, fun h => absurd h (by decide), xL_ring_1 F S f v1 h⟩

theorem le_bestCut (F : Nat) (u : S_X4) (v1 : Int32) : le_e 1 (s_X4_bestCut_e F u v1) := by
  unfold s_X4_bestCut_e
  repeat' (first | exact le_none | exact le_some (by decide) | refine le_ite ?_ ?_ | refine le_bind fun _ => ?_)

theorem st_bestCut {F : Nat} (hF : 6400 < F) {c : Nat} (hc : c < 512) {S : S_X6} {w : S_X5} (q : REL c S w) (f : Nat → Int64) (v1 : Int32) : ∃ (k : Nat) (z : Int32) (S' : S_X6) (w' : S_X5) (f' : Nat → Int64), s_X5_bestCut F w v1 = some (z, w') ∧ a_X5_thrown w' = nI k ∧ k ≤ 3 ∧ REL (c + 1) S' w' ∧ (k = 0 → f' 0 = z.toInt64) ∧ ev_AH yL_bestCut mm_L_bestCut hh_L_bestCut [.ref 0, .int v1, .ref 140] (WL S f) (fun r w => r = some (.int (nI k)) ∧ w = WL S' f') := by
  obtain ⟨z, w', hb, h | h⟩ := p_bestCut hF hc q v1
  · obtain ⟨h0, S', ha, hr⟩ := h
    exact ⟨0, z, S', w', _, hb, h0, by omega, hr, fun _ => rfl, rL_bestCut F S S' f v1 z ha⟩
  · obtain ⟨k, hk, k1, k3, h, hr⟩ := h
    have kn : k ≤ 1 := le_bestCut F S.1 v1 k h
    obtain rfl : k = 1 := by omega
    · exact ⟨1, z, S, w', f, hb, hk, by omega, hr, fun h => absurd h (by decide), xL_bestCut_1 F S f v1 h⟩

theorem le_bears (F : Nat) (u : S_X4) (v1 : Int32) : le_e 1 (s_X4_bears_e F u v1) := by
  unfold s_X4_bears_e
  repeat' (first | exact le_none | exact le_some (by decide) | refine le_ite ?_ ?_ | refine le_bind fun _ => ?_)

theorem st_bears {F : Nat} (hF : 6400 < F) {c : Nat} (hc : c < 512) {S : S_X6} {w : S_X5} (q : REL c S w) (f : Nat → Int64) (v1 : Int32) : ∃ (k : Nat) (z : Int32) (S' : S_X6) (w' : S_X5) (f' : Nat → Int64), s_X5_bears F w v1 = some (z, w') ∧ a_X5_thrown w' = nI k ∧ k ≤ 3 ∧ REL (c + 1) S' w' ∧ (k = 0 → f' 0 = z.toInt64) ∧ ev_AH yL_bears mm_L_bears hh_L_bears [.ref 0, .int v1, .ref 140] (WL S f) (fun r w => r = some (.int (nI k)) ∧ w = WL S' f') := by
  obtain ⟨z, w', hb, h | h⟩ := p_bears hF hc q v1
  · obtain ⟨h0, S', ha, hr⟩ := h
    exact ⟨0, z, S', w', _, hb, h0, by omega, hr, fun _ => rfl, rL_bears F S S' f v1 z ha⟩
  · obtain ⟨k, hk, k1, k3, h, hr⟩ := h
    have kn : k ≤ 1 := le_bears F S.1 v1 k h
    obtain rfl : k = 1 := by omega
    · exact ⟨1, z, S, w', f, hb, hk, by omega, hr, fun h => absurd h (by decide), xL_bears_1 F S f v1 h⟩

