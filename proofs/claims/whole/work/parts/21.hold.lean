/-! the class's Holdings -/
def hl_W (h : Nat → Int32) : List ev_E := [.inr (0, [.ref 1]), .inl (0, 100, .inl h)]
def hl_at (h : Nat → Int32) (p : Int32) : Int32 := if p < 0 then -1 else if 100 ≤ p then -1 else h p.toNatClampNeg
def hl_hold (h : Nat → Int32) (p t : Int32) : Nat → Int32 := if p < 0 then h else if 100 ≤ p then h else upd h p.toNatClampNeg t
def hl_taken (h : Nat → Int32) : Int32 := fo_it 100 (fun k a => if h k = -1 then a else a + 1) 0
def hl_truth (h : Nat → Int32) (t : Int32) : Int32 := fo_it 100 (fun k a => if h k = t then a + 1 else a) 0
def hl_slots (h : Nat → Int32) (t o : Int32) : Int32 := fo_it 96 (fun k a => if h (k + 4) = t then (if st_in o ((nI (k + 4) - 4) / 4) = true then a + 1 else a) else a) 0
def hl_goS (t tog : Int32) (k : Nat) (q : Bool × (Nat → Int32)) : Bool × (Nat → Int32) :=
  if q.2 k = t then (if q.1 = true then true else if nI k < 4 then true else if st_in tog ((nI k - 4) / 4) = true then false else true, upd q.2 k (-1)) else q
def hl_go (h : Nat → Int32) (t tog : Int32) : Bool × (Nat → Int32) := fo_it 100 (hl_goS t tog) (false, h)
def hl_amg (h : Nat → Int32) (lim w : Int32) : Nat → Int32 → Int32 → Int32
  | 0, _, a => a
  | n + 1, p, a => if p < 0 then a else if lim ≤ p then a else if 100 ≤ p then a else
      hl_amg h lim w n (p + 1) (if p = w then a else if h p.toNatClampNeg = -1 then a else a ||| (1 <<< (h p.toNatClampNeg &&& 31)))
def hl_am (h : Nat → Int32) (first places w : Int32) : Int32 := hl_amg h (first + places) w 101 first 0
def hl_rfg (h : Nat → Int32) (w : Int32) : Nat → Int32 → Int32 → Int32
  | 0, f, _ => f
  | n + 1, f, l => if l = 0 then f else
      hl_rfg h w n (f ||| (hl_am h (st_pl (jd_ntz l) 0) 4 w &&& (f ^^^ -1))) ((l &&& ((1 <<< (jd_ntz l &&& 31)) ^^^ -1)) ||| (hl_am h (st_pl (jd_ntz l) 0) 4 w &&& (f ^^^ -1)))
def hl_rf (h : Nat → Int32) (s w : Int32) : Int32 := hl_rfg h w 24 s s
def hl_rw (h : Nat → Int32) (w : Int32) : Int32 := hl_rf h (hl_am h 0 4 w) w
def hl_reach (h : Nat → Int32) (t : Int32) : Int32 := hl_rf h (hl_am h (st_pl t 0) 4 (-1)) (-1)
def hl_ring (h : Nat → Int32) (t : Int32) : Int32 := fo_it 24 (fun k a => if st_in (hl_reach h t) (nI k) = true then (if st_in (hl_reach h (nI k)) t = true then a ||| (1 <<< (nI k &&& 31)) else a) else a) 0
def hl_lost (h : Nat → Int32) (p : Int32) : Int32 := jd_bc (hl_rw h (-1)) - jd_bc (hl_rw h p)
def hl_cutS (h : Nat → Int32) (k : Nat) (q : Int32 × Int32) : Int32 × Int32 := if h k = -1 then (if q.2 < 0 then (nI k, 0) else q) else if q.2 < hl_lost h (nI k) then (nI k, hl_lost h (nI k)) else q
def hl_cut (h : Nat → Int32) : Int32 × Int32 := fo_it 100 (hl_cutS h) (-1, 0)

set_option maxRecDepth 20000 in
theorem t_X0_heldAmong (h : Nat → Int32) (first places wo : Int32) : ev_A yX0_heldAmong mm_X0_heldAmong none [.ref 0, .int first, .int places, .int wo] (hl_W h) (fun r w => r = some (.int (hl_am h first places wo)) ∧ w = hl_W h) := by sorry
set_option maxHeartbeats 40000000 in
set_option maxRecDepth 20000 in
theorem t_X0_reachedFrom (h : Nat → Int32) (s wo : Int32) : ev_A yX0_reachedFrom mm_X0_reachedFrom none [.ref 0, .int s, .int wo] (hl_W h) (fun r w => r = some (.int (hl_rf h s wo)) ∧ w = hl_W h) := by
  have lp8 : ∀ (n : Nat) (k : Nat) (f : Int32) (lf : Int32), (k + n = 24) → ∀ R : Int32, hl_rfg h wo n f lf = R → ev_V mm_X0_reachedFrom none (ev_XR mm_X0_reachedFrom (fun r w => r = some (.int R) ∧ w = hl_W h)) 8 [some (.ref 0), some (.int s), some (.int wo), some (.int f), some (.int lf), some (.int (nI k)), none, none] [] (hl_W h) 0 0 := by
    intro n
    induction n with
    | zero =>
      intro k f lf hm R hR
      obtain rfl : k = 24 := by omega
      refine ev_run [8] 1 rfl trivial ?_
      refine ev_run [8] 1 rfl trivial ?_
      refine ev_br rfl rfl (fun h1 => ?_) (fun h1 => (h1 (by decide)).elim)
      refine ev_run [8] 1 rfl trivial ?_
      refine ev_exit ⟨_, _, rfl, ⟨rfl, Or.inl rfl⟩, ?_, Nat.le_refl _, Nat.le_refl _⟩
      exact ⟨by rw [← hR]; simp only [hl_rfg, ↓reduceIte], rfl⟩
    | succ n ih =>
      intro k f lf hm R hR
      refine ev_run [8] 1 rfl trivial ?_
      refine ev_run [8] 1 rfl trivial ?_
      refine ev_br rfl rfl (fun h2 => (ni_nle (N := 24) (show k < 24 by omega) (by decide) h2).elim) (fun h2 => ?_)
      refine ev_run [8] 1 rfl trivial ?_
      refine ev_br rfl rfl (fun h3 => ?_) (fun h3 => ?_)
      · refine ev_run [8] 1 rfl trivial ?_
        refine ev_exit ⟨_, _, rfl, ⟨rfl, Or.inl rfl⟩, ?_, Nat.le_refl _, Nat.le_refl _⟩
        exact ⟨by rw [← hR]; simp only [hl_rfg, ↓reduceIte, eq_true h3], rfl⟩
      · refine ev_run [8] 1 rfl trivial ?_
        refine ev_callS (fun k => k) (t_J6_numberOfTrailingZeros_0f7a4 _) cs_J6_numberOfTrailingZeros_0f7a4 ml_X0_55 rfl rfl rfl rfl (fun i _ j _ h => h) (by decide) ⟨Nat.le_of_ble_eq_true rfl, Nat.le_of_ble_eq_true rfl⟩ ⟨Nat.le_refl _, Nat.le_refl _⟩ ?_ ?_
        · rintro r w ⟨rfl, rfl⟩; rfl
        rintro r w ⟨rfl, rfl⟩
        refine ev_run [8] 1 rfl trivial ?_
        refine ev_run [8] 1 rfl trivial ?_
        refine ev_run [8] 1 rfl trivial ?_
        refine ev_run [8] 1 rfl trivial ?_
        refine ev_callS (fun k => k) (t_X4_placeOf _ _) cs_X4_placeOf ml_X0_29 rfl rfl rfl rfl (fun i _ j _ h => h) (by decide) ⟨Nat.le_of_ble_eq_true rfl, Nat.le_of_ble_eq_true rfl⟩ ⟨Nat.le_refl _, Nat.le_refl _⟩ ?_ ?_
        · rintro r w ⟨rfl, rfl⟩; rfl
        rintro r w ⟨rfl, rfl⟩
        refine ev_run [8] 1 rfl trivial ?_
        refine ev_run [8] 1 rfl trivial ?_
        sorry
  refine ev_start ok_X0_reachedFrom (by decide +kernel) rfl rfl (Nat.le_of_ble_eq_true rfl) ?_
  refine ev_run [8] 1 rfl trivial ?_
  refine ev_run [8] 1 rfl trivial ?_
  refine ev_run [8] 1 rfl trivial ?_
  refine ev_run [8] 1 rfl trivial ?_
  refine ev_run [8] 1 rfl trivial ?_
  refine ev_run [8] 1 rfl trivial ?_
  exact ev_to2 (lp8 24 0 s s (rfl) _ rfl) ⟨rfl, rfl, rfl, rfl, rfl, rfl, trivial⟩ rfl rfl


