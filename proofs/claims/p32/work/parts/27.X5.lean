/-! the reference's functions as whole's part 27 lifted them: here they are functions alone; nothing is said of any bytecode -/
def s_X5_thrown (F : Nat) (u : S_X5) : Option Int32 := some (a_X5_thrown u)

def s_X5_within (F : Nat) (v0 : Int32) (v1 : Int32) (v2 : Int32) : Option Bool := if v0 < v1 then (some (false)) else (if v2 < v0 then (some (false)) else (some (true)))

def s_X5_copy_al_l16 (F : Nat) (n0 : Nat) (v1 : Int32) (v3 : Int32) (v4 : Int32) : Nat → (Nat → Int32) → Int32 → Option (Nat → Int32)
  | 0 => fun _ _ => none
  | n + 1 => fun f v5 => if v4 ≤ v5 then (some (f)) else (if lf_ix (v1 + v5) n0 then (if lf_ix (v3 + v5) n0 then (s_X5_copy_al_l16 F n0 v1 v3 v4 n (upd f ((v3 + v5).toNatClampNeg) (f ((v1 + v5).toNatClampNeg))) (v5 + 1)) else none) else none)
theorem e_X5_copy_al_l16 (F : Nat) (n0 : Nat) (v1 : Int32) (v3 : Int32) (v4 : Int32) (n : Nat) (f : (Nat → Int32)) (v5 : Int32) : s_X5_copy_al_l16 F n0 v1 v3 v4 (n + 1) f v5 = if v4 ≤ v5 then (some (f)) else (if lf_ix (v1 + v5) n0 then (if lf_ix (v3 + v5) n0 then (s_X5_copy_al_l16 F n0 v1 v3 v4 n (upd f ((v3 + v5).toNatClampNeg) (f ((v1 + v5).toNatClampNeg))) (v5 + 1)) else none) else none) := rfl

def s_X5_copy_al (F : Nat) (n0 : Nat) (f : (Nat → Int32)) (v1 : Int32) (v3 : Int32) : Option (Nat → Int32) := if lf_ix (v1 + 3) n0 then (s_X5_copy_al_l16 F n0 v1 v3 (377 + (5 * (f ((v1 + 3).toNatClampNeg)))) F f 0) else none

def s_X5_copy_l16 (F : Nat) (n0 : Nat) (n1 : Nat) (f : (Nat → Int32)) (v1 : Int32) (v3 : Int32) (v4 : Int32) : Nat → (Nat → Int32) → Int32 → Option (Nat → Int32)
  | 0 => fun _ _ => none
  | n + 1 => fun g v5 => if v4 ≤ v5 then (some (g)) else (if lf_ix (v1 + v5) n0 then (if lf_ix (v3 + v5) n1 then (s_X5_copy_l16 F n0 n1 f v1 v3 v4 n (upd g ((v3 + v5).toNatClampNeg) (f ((v1 + v5).toNatClampNeg))) (v5 + 1)) else none) else none)
theorem e_X5_copy_l16 (F : Nat) (n0 : Nat) (n1 : Nat) (f : (Nat → Int32)) (v1 : Int32) (v3 : Int32) (v4 : Int32) (n : Nat) (g : (Nat → Int32)) (v5 : Int32) : s_X5_copy_l16 F n0 n1 f v1 v3 v4 (n + 1) g v5 = if v4 ≤ v5 then (some (g)) else (if lf_ix (v1 + v5) n0 then (if lf_ix (v3 + v5) n1 then (s_X5_copy_l16 F n0 n1 f v1 v3 v4 n (upd g ((v3 + v5).toNatClampNeg) (f ((v1 + v5).toNatClampNeg))) (v5 + 1)) else none) else none) := rfl

def s_X5_copy (F : Nat) (n0 : Nat) (n1 : Nat) (f : (Nat → Int32)) (g : (Nat → Int32)) (v1 : Int32) (v3 : Int32) : Option (Nat → Int32) := if lf_ix (v1 + 3) n0 then (s_X5_copy_l16 F n0 n1 f v1 v3 (377 + (5 * (f ((v1 + 3).toNatClampNeg)))) F g 0) else none

def s_X5_save_b56 (F : Nat) (u : S_X5) : Option S_X5 := (s_X5_copy F 20377 122262 (a_X5_state u) (a_X5_saved u) 0 ((a_X5_savedMany u) * 20377)).bind fun y1 => (some (m_X5_savedMany ((a_X5_savedMany u) + 1) (m_X5_saved y1 u)))

def s_X5_save_l11 (F : Nat) : Nat → S_X5 → Int32 → Option S_X5
  | 0 => fun _ _ => none
  | n + 1 => fun u v1 => if 6 ≤ v1 then (s_X5_save_b56 F (m_X5_savedMany ((a_X5_savedMany u) - 1) u)) else ((s_X5_copy_al F 122262 (a_X5_saved u) (v1 * 20377) ((v1 - 1) * 20377)).bind fun y1 => (s_X5_save_l11 F n (m_X5_saved y1 u) (v1 + 1)))
theorem e_X5_save_l11 (F : Nat) (n : Nat) (u : S_X5) (v1 : Int32) : s_X5_save_l11 F (n + 1) u v1 = if 6 ≤ v1 then (s_X5_save_b56 F (m_X5_savedMany ((a_X5_savedMany u) - 1) u)) else ((s_X5_copy_al F 122262 (a_X5_saved u) (v1 * 20377) ((v1 - 1) * 20377)).bind fun y1 => (s_X5_save_l11 F n (m_X5_saved y1 u) (v1 + 1))) := rfl

def s_X5_save (F : Nat) (u : S_X5) : Option S_X5 := if (a_X5_savedMany u) = 6 then (s_X5_save_l11 F F u 1) else (s_X5_save_b56 F u)

def s_X5_isThing (F : Nat) (u : S_X5) (v1 : Int32) : Option Bool := (s_X5_within F v1 0 (((a_X5_state u) (1 : Int32).toNatClampNeg) - 1)).bind fun y1 => (some (y1))

def s_X5_part (F : Nat) (u : S_X5) (v1 : Int32) (v2 : Int32) : Option Int32 := if lf_ix ((17 + (10 * v1)) + v2) 20377 then (some ((a_X5_state u) (((17 + (10 * v1)) + v2).toNatClampNeg))) else none

def s_X5_setPart (F : Nat) (u : S_X5) (v1 : Int32) (v2 : Int32) (v3 : Int32) : Option S_X5 := if lf_ix ((17 + (10 * v1)) + v2) 20377 then (some (m_X5_state (upd (a_X5_state u) (((17 + (10 * v1)) + v2).toNatClampNeg) v3) u)) else none

def s_X5_lives (F : Nat) (u : S_X5) (v1 : Int32) : Option Bool := (s_X5_part F u v1 0).bind fun y1 => (if y1 = 1 then (some (true)) else (some (false)))

def s_X5_slotOf (F : Nat) (u : S_X5) (v1 : Int32) (v2 : Int32) : Option Int32 := if lf_ix ((257 + (4 * v1)) + v2) 20377 then (some ((a_X5_state u) (((257 + (4 * v1)) + v2).toNatClampNeg))) else none

def s_X5_reportPart (F : Nat) (u : S_X5) (v1 : Int32) (v2 : Int32) : Option Int32 := if lf_ix ((377 + (5 * v1)) + v2) 20377 then (some ((a_X5_state u) (((377 + (5 * v1)) + v2).toNatClampNeg))) else none

def s_X5_truth_b96 (F : Nat) (u : S_X5) (v1 : Int32) (v2 : Int32) : Option Int32 := (s_X5_lives F u v1).bind fun y1 => (if y1 then (some (v2)) else (some (0)))

def s_X5_truth_l51 (F : Nat) (u : S_X5) (v1 : Int32) (v3 : Int32) (k38 : Int32 → Int32 → Option Int32) : Nat → Int32 → Int32 → Option Int32
  | 0 => fun _ _ => none
  | n + 1 => fun v2 v4 => if 4 ≤ v4 then (k38 v2 (v3 + 1)) else ((s_X5_lives F u v3).bind fun y1 => (if y1 then ((s_X5_slotOf F u v3 v4).bind fun y2 => (if y2 = v1 then (s_X5_truth_l51 F u v1 v3 k38 n (v2 + 1) (v4 + 1)) else (s_X5_truth_l51 F u v1 v3 k38 n (v2 + 0) (v4 + 1)))) else (k38 v2 (v3 + 1))))
theorem e_X5_truth_l51 (F : Nat) (u : S_X5) (v1 : Int32) (v3 : Int32) (k38 : Int32 → Int32 → Option Int32) (n : Nat) (v2 : Int32) (v4 : Int32) : s_X5_truth_l51 F u v1 v3 k38 (n + 1) v2 v4 = if 4 ≤ v4 then (k38 v2 (v3 + 1)) else ((s_X5_lives F u v3).bind fun y1 => (if y1 then ((s_X5_slotOf F u v3 v4).bind fun y2 => (if y2 = v1 then (s_X5_truth_l51 F u v1 v3 k38 n (v2 + 1) (v4 + 1)) else (s_X5_truth_l51 F u v1 v3 k38 n (v2 + 0) (v4 + 1)))) else (k38 v2 (v3 + 1)))) := rfl

def s_X5_truth_l38 (F : Nat) (u : S_X5) (v1 : Int32) : Nat → Int32 → Int32 → Option Int32
  | 0 => fun _ _ => none
  | n + 1 => fun v2 v3 => if ((a_X5_state u) (1 : Int32).toNatClampNeg) ≤ v3 then (s_X5_truth_b96 F u v1 v2) else (s_X5_truth_l51 F u v1 v3 (s_X5_truth_l38 F u v1 n) F v2 0)
theorem e_X5_truth_l38 (F : Nat) (u : S_X5) (v1 : Int32) (n : Nat) (v2 : Int32) (v3 : Int32) : s_X5_truth_l38 F u v1 (n + 1) v2 v3 = if ((a_X5_state u) (1 : Int32).toNatClampNeg) ≤ v3 then (s_X5_truth_b96 F u v1 v2) else (s_X5_truth_l51 F u v1 v3 (s_X5_truth_l38 F u v1 n) F v2 0) := rfl

def s_X5_truth_l4 (F : Nat) (u : S_X5) (v1 : Int32) : Nat → Int32 → Int32 → Option Int32
  | 0 => fun _ _ => none
  | n + 1 => fun v2 v3 => if 4 ≤ v3 then (s_X5_truth_l38 F u v1 F v2 0) else (if lf_ix (13 + v3) 20377 then (if ((a_X5_state u) ((13 + v3).toNatClampNeg)) = v1 then (s_X5_truth_l4 F u v1 n (v2 + 1) (v3 + 1)) else (s_X5_truth_l4 F u v1 n (v2 + 0) (v3 + 1))) else none)
theorem e_X5_truth_l4 (F : Nat) (u : S_X5) (v1 : Int32) (n : Nat) (v2 : Int32) (v3 : Int32) : s_X5_truth_l4 F u v1 (n + 1) v2 v3 = if 4 ≤ v3 then (s_X5_truth_l38 F u v1 F v2 0) else (if lf_ix (13 + v3) 20377 then (if ((a_X5_state u) ((13 + v3).toNatClampNeg)) = v1 then (s_X5_truth_l4 F u v1 n (v2 + 1) (v3 + 1)) else (s_X5_truth_l4 F u v1 n (v2 + 0) (v3 + 1))) else none) := rfl

def s_X5_truth (F : Nat) (u : S_X5) (v1 : Int32) : Option Int32 := s_X5_truth_l4 F u v1 F 0 0

def s_X5_underWay_l4 (F : Nat) (u : S_X5) (v1 : Int32) : Nat → Int32 → Int32 → Option Int32
  | 0 => fun _ _ => none
  | n + 1 => fun v2 v3 => if ((a_X5_state u) (3 : Int32).toNatClampNeg) ≤ v3 then (some (v2)) else ((s_X5_reportPart F u v3 1).bind fun y1 => (if y1 = v1 then (s_X5_underWay_l4 F u v1 n (v2 + 1) (v3 + 1)) else (s_X5_underWay_l4 F u v1 n (v2 + 0) (v3 + 1))))
theorem e_X5_underWay_l4 (F : Nat) (u : S_X5) (v1 : Int32) (n : Nat) (v2 : Int32) (v3 : Int32) : s_X5_underWay_l4 F u v1 (n + 1) v2 v3 = if ((a_X5_state u) (3 : Int32).toNatClampNeg) ≤ v3 then (some (v2)) else ((s_X5_reportPart F u v3 1).bind fun y1 => (if y1 = v1 then (s_X5_underWay_l4 F u v1 n (v2 + 1) (v3 + 1)) else (s_X5_underWay_l4 F u v1 n (v2 + 0) (v3 + 1)))) := rfl

def s_X5_underWay (F : Nat) (u : S_X5) (v1 : Int32) : Option Int32 := s_X5_underWay_l4 F u v1 F 0 0

def s_X5_sumUnderWay_l4 (F : Nat) (u : S_X5) (v1 : Int32) : Nat → Int32 → Int32 → Option Int32
  | 0 => fun _ _ => none
  | n + 1 => fun v2 v3 => if ((a_X5_state u) (3 : Int32).toNatClampNeg) ≤ v3 then (some (v2)) else ((s_X5_reportPart F u v3 1).bind fun y1 => (if y1 = v1 then ((s_X5_reportPart F u v3 2).bind fun y2 => (s_X5_sumUnderWay_l4 F u v1 n (v2 + y2) (v3 + 1))) else (s_X5_sumUnderWay_l4 F u v1 n (v2 + 0) (v3 + 1))))
theorem e_X5_sumUnderWay_l4 (F : Nat) (u : S_X5) (v1 : Int32) (n : Nat) (v2 : Int32) (v3 : Int32) : s_X5_sumUnderWay_l4 F u v1 (n + 1) v2 v3 = if ((a_X5_state u) (3 : Int32).toNatClampNeg) ≤ v3 then (some (v2)) else ((s_X5_reportPart F u v3 1).bind fun y1 => (if y1 = v1 then ((s_X5_reportPart F u v3 2).bind fun y2 => (s_X5_sumUnderWay_l4 F u v1 n (v2 + y2) (v3 + 1))) else (s_X5_sumUnderWay_l4 F u v1 n (v2 + 0) (v3 + 1)))) := rfl

def s_X5_sumUnderWay (F : Nat) (u : S_X5) (v1 : Int32) : Option Int32 := s_X5_sumUnderWay_l4 F u v1 F 0 0

def s_X5_suspects_l4 (F : Nat) (u : S_X5) : Nat → Int32 → Int32 → Option Int32
  | 0 => fun _ _ => none
  | n + 1 => fun v1 v2 => if ((a_X5_state u) (1 : Int32).toNatClampNeg) ≤ v2 then (some (v1)) else ((s_X5_part F u v2 3).bind fun y1 => (s_X5_suspects_l4 F u n (v1 + y1) (v2 + 1)))
theorem e_X5_suspects_l4 (F : Nat) (u : S_X5) (n : Nat) (v1 : Int32) (v2 : Int32) : s_X5_suspects_l4 F u (n + 1) v1 v2 = if ((a_X5_state u) (1 : Int32).toNatClampNeg) ≤ v2 then (some (v1)) else ((s_X5_part F u v2 3).bind fun y1 => (s_X5_suspects_l4 F u n (v1 + y1) (v2 + 1))) := rfl

def s_X5_suspects (F : Nat) (u : S_X5) : Option Int32 := s_X5_suspects_l4 F u F 0 0

def s_X5_clear_l2 (F : Nat) (n0 : Nat) : Nat → (Nat → Int32) → Int32 → Option (Nat → Int32)
  | 0 => fun _ _ => none
  | n + 1 => fun f v1 => if 24 ≤ v1 then (some (f)) else (if lf_ix v1 n0 then (s_X5_clear_l2 F n0 n (upd f v1.toNatClampNeg 0) (v1 + 1)) else none)
theorem e_X5_clear_l2 (F : Nat) (n0 : Nat) (n : Nat) (f : (Nat → Int32)) (v1 : Int32) : s_X5_clear_l2 F n0 (n + 1) f v1 = if 24 ≤ v1 then (some (f)) else (if lf_ix v1 n0 then (s_X5_clear_l2 F n0 n (upd f v1.toNatClampNeg 0) (v1 + 1)) else none) := rfl

def s_X5_clear (F : Nat) (n0 : Nat) (f : (Nat → Int32)) : Option (Nat → Int32) := s_X5_clear_l2 F n0 F f 0

def s_X5_spread_p5_l23 (F : Nat) (v3 : Int32) (k2 : S_X5 → Int32 → Option S_X5) (k10 : S_X5 → Int32 → Int32 → Option S_X5) : Nat → S_X5 → Int32 → Int32 → Option S_X5
  | 0 => fun _ _ _ => none
  | n + 1 => fun u v2 v4 => if 4 ≤ v4 then (k10 u v2 (v3 + 1)) else (if lf_ix v3 24 then (if ((a_X5_isReached u) v3.toNatClampNeg) = 1 then ((s_X5_lives F u v3).bind fun y1 => (if y1 then ((s_X5_slotOf F u v3 v4).bind fun y2 => (if y2 = (-1) then (s_X5_spread_p5_l23 F v3 k2 k10 n u v2 (v4 + 1)) else (if lf_ix y2 24 then (if ((a_X5_isReached u) y2.toNatClampNeg) = 0 then (if lf_ix y2 24 then (s_X5_spread_p5_l23 F v3 k2 k10 n (m_X5_isReached (upd (a_X5_isReached u) y2.toNatClampNeg 1) u) 1 (v4 + 1)) else none) else (s_X5_spread_p5_l23 F v3 k2 k10 n u v2 (v4 + 1))) else none))) else (k10 u v2 (v3 + 1)))) else (k10 u v2 (v3 + 1))) else none)
theorem e_X5_spread_p5_l23 (F : Nat) (v3 : Int32) (k2 : S_X5 → Int32 → Option S_X5) (k10 : S_X5 → Int32 → Int32 → Option S_X5) (n : Nat) (u : S_X5) (v2 : Int32) (v4 : Int32) : s_X5_spread_p5_l23 F v3 k2 k10 (n + 1) u v2 v4 = if 4 ≤ v4 then (k10 u v2 (v3 + 1)) else (if lf_ix v3 24 then (if ((a_X5_isReached u) v3.toNatClampNeg) = 1 then ((s_X5_lives F u v3).bind fun y1 => (if y1 then ((s_X5_slotOf F u v3 v4).bind fun y2 => (if y2 = (-1) then (s_X5_spread_p5_l23 F v3 k2 k10 n u v2 (v4 + 1)) else (if lf_ix y2 24 then (if ((a_X5_isReached u) y2.toNatClampNeg) = 0 then (if lf_ix y2 24 then (s_X5_spread_p5_l23 F v3 k2 k10 n (m_X5_isReached (upd (a_X5_isReached u) y2.toNatClampNeg 1) u) 1 (v4 + 1)) else none) else (s_X5_spread_p5_l23 F v3 k2 k10 n u v2 (v4 + 1))) else none))) else (k10 u v2 (v3 + 1)))) else (k10 u v2 (v3 + 1))) else none) := rfl

def s_X5_spread_p5_l10 (F : Nat) (k2 : S_X5 → Int32 → Option S_X5) : Nat → S_X5 → Int32 → Int32 → Option S_X5
  | 0 => fun _ _ _ => none
  | n + 1 => fun u v2 v3 => if ((a_X5_state u) (1 : Int32).toNatClampNeg) ≤ v3 then (k2 u v2) else (s_X5_spread_p5_l23 F v3 k2 (s_X5_spread_p5_l10 F k2 n) F u v2 0)
theorem e_X5_spread_p5_l10 (F : Nat) (k2 : S_X5 → Int32 → Option S_X5) (n : Nat) (u : S_X5) (v2 : Int32) (v3 : Int32) : s_X5_spread_p5_l10 F k2 (n + 1) u v2 v3 = if ((a_X5_state u) (1 : Int32).toNatClampNeg) ≤ v3 then (k2 u v2) else (s_X5_spread_p5_l23 F v3 k2 (s_X5_spread_p5_l10 F k2 n) F u v2 0) := rfl

def s_X5_spread_p5_l2 (F : Nat) : Nat → S_X5 → Int32 → Option S_X5
  | 0 => fun _ _ => none
  | n + 1 => fun u v2 => if v2 = 0 then (some (u)) else (s_X5_spread_p5_l10 F (s_X5_spread_p5_l2 F n) F u 0 0)
theorem e_X5_spread_p5_l2 (F : Nat) (n : Nat) (u : S_X5) (v2 : Int32) : s_X5_spread_p5_l2 F (n + 1) u v2 = if v2 = 0 then (some (u)) else (s_X5_spread_p5_l10 F (s_X5_spread_p5_l2 F n) F u 0 0) := rfl

def s_X5_spread_p5 (F : Nat) (u : S_X5) : Option S_X5 := s_X5_spread_p5_l2 F F u 1

def s_X5_findReached_l60 (F : Nat) (u : S_X5) : Nat → Int32 → Int32 → Option (Int32 × S_X5)
  | 0 => fun _ _ => none
  | n + 1 => fun v1 v2 => if 24 ≤ v2 then (some (v1, u)) else (if lf_ix v2 24 then (s_X5_findReached_l60 F u n (v1 + ((a_X5_isReached u) v2.toNatClampNeg)) (v2 + 1)) else none)
theorem e_X5_findReached_l60 (F : Nat) (u : S_X5) (n : Nat) (v1 : Int32) (v2 : Int32) : s_X5_findReached_l60 F u (n + 1) v1 v2 = if 24 ≤ v2 then (some (v1, u)) else (if lf_ix v2 24 then (s_X5_findReached_l60 F u n (v1 + ((a_X5_isReached u) v2.toNatClampNeg)) (v2 + 1)) else none) := rfl

def s_X5_findReached_b48 (F : Nat) (u : S_X5) : Option (Int32 × S_X5) := (s_X5_spread_p5 F u).bind fun y1 => (s_X5_findReached_l60 F y1 F 0 0)

def s_X5_findReached_l9 (F : Nat) : Nat → S_X5 → Int32 → Option (Int32 × S_X5)
  | 0 => fun _ _ => none
  | n + 1 => fun u v1 => if 4 ≤ v1 then (s_X5_findReached_b48 F u) else (if lf_ix (13 + v1) 20377 then (if ((a_X5_state u) ((13 + v1).toNatClampNeg)) = (-1) then (s_X5_findReached_l9 F n u (v1 + 1)) else (if lf_ix (13 + v1) 20377 then (if lf_ix ((a_X5_state u) ((13 + v1).toNatClampNeg)) 24 then (s_X5_findReached_l9 F n (m_X5_isReached (upd (a_X5_isReached u) (((a_X5_state u) ((13 + v1).toNatClampNeg)).toNatClampNeg) 1) u) (v1 + 1)) else none) else none)) else none)
theorem e_X5_findReached_l9 (F : Nat) (n : Nat) (u : S_X5) (v1 : Int32) : s_X5_findReached_l9 F (n + 1) u v1 = if 4 ≤ v1 then (s_X5_findReached_b48 F u) else (if lf_ix (13 + v1) 20377 then (if ((a_X5_state u) ((13 + v1).toNatClampNeg)) = (-1) then (s_X5_findReached_l9 F n u (v1 + 1)) else (if lf_ix (13 + v1) 20377 then (if lf_ix ((a_X5_state u) ((13 + v1).toNatClampNeg)) 24 then (s_X5_findReached_l9 F n (m_X5_isReached (upd (a_X5_isReached u) (((a_X5_state u) ((13 + v1).toNatClampNeg)).toNatClampNeg) 1) u) (v1 + 1)) else none) else none)) else none) := rfl

def s_X5_findReached (F : Nat) (u : S_X5) : Option (Int32 × S_X5) := (s_X5_clear F 24 (a_X5_isReached u)).bind fun y1 => (s_X5_findReached_l9 F F (m_X5_isReached y1 u) 0)

def s_X5_addReport (F : Nat) (u : S_X5) (v1 : Int32) (v2 : Int32) (v3 : Int32) : Option (Int32 × S_X5) := if lf_ix ((377 + (5 * ((a_X5_state u) (3 : Int32).toNatClampNeg))) + 0) 20377 then (lf_let (m_X5_state (upd (a_X5_state u) (((377 + (5 * ((a_X5_state u) (3 : Int32).toNatClampNeg))) + 0).toNatClampNeg) ((a_X5_state u) (2 : Int32).toNatClampNeg)) u) fun z1 => (if lf_ix ((377 + (5 * ((a_X5_state u) (3 : Int32).toNatClampNeg))) + 1) 20377 then (lf_let (m_X5_state (upd (a_X5_state z1) (((377 + (5 * ((a_X5_state u) (3 : Int32).toNatClampNeg))) + 1).toNatClampNeg) v1) z1) fun z2 => (if lf_ix ((377 + (5 * ((a_X5_state u) (3 : Int32).toNatClampNeg))) + 2) 20377 then (lf_let (m_X5_state (upd (a_X5_state z2) (((377 + (5 * ((a_X5_state u) (3 : Int32).toNatClampNeg))) + 2).toNatClampNeg) v2) z2) fun z3 => (if lf_ix (8 + (v1 - v1 / 3 * 3)) 20377 then (if lf_ix ((377 + (5 * ((a_X5_state u) (3 : Int32).toNatClampNeg))) + 3) 20377 then (lf_let (m_X5_state (upd (a_X5_state z3) (((377 + (5 * ((a_X5_state u) (3 : Int32).toNatClampNeg))) + 3).toNatClampNeg) (((a_X5_state z3) (0 : Int32).toNatClampNeg) + ((a_X5_state z3) ((8 + (v1 - v1 / 3 * 3)).toNatClampNeg)))) z3) fun z4 => (if lf_ix ((377 + (5 * ((a_X5_state u) (3 : Int32).toNatClampNeg))) + 4) 20377 then (lf_let (m_X5_state (upd (a_X5_state z4) (((377 + (5 * ((a_X5_state u) (3 : Int32).toNatClampNeg))) + 4).toNatClampNeg) v3) z4) fun z5 => (lf_let (m_X5_state (upd (a_X5_state z5) (3 : Int32).toNatClampNeg (((a_X5_state z5) (3 : Int32).toNatClampNeg) + 1)) z5) fun z6 => (some ((a_X5_state u) (2 : Int32).toNatClampNeg, m_X5_state (upd (a_X5_state z6) (2 : Int32).toNatClampNeg (((a_X5_state z6) (2 : Int32).toNatClampNeg) + 1)) z6)))) else none)) else none) else none)) else none)) else none)) else none

def s_X5_atPlace_b84 (F : Nat) (k4 : Int32 → Int32 → Option Int32) (u : S_X5) (v1 : Int32) (v3 : Int32) (v4 : Int32) : Option Int32 := if v4 = v1 then (k4 v3 (v3 + 1)) else (k4 (-1) (v3 + 1))

def s_X5_atPlace_l25 (F : Nat) (u : S_X5) (v1 : Int32) (v3 : Int32) (k4 : Int32 → Int32 → Option Int32) : Nat → Int32 → Int32 → Option Int32
  | 0 => fun _ _ => none
  | n + 1 => fun v4 v5 => if ((a_X5_state u) (3 : Int32).toNatClampNeg) ≤ v5 then (s_X5_atPlace_b84 F k4 u v1 v3 v4) else ((s_X5_reportPart F u v5 3).bind fun y1 => ((s_X5_reportPart F u v3 3).bind fun y2 => (if (y1 - y2) < 0 then (s_X5_atPlace_l25 F u v1 v3 k4 n (v4 + 1) (v5 + 1)) else (if (y1 - y2) = 0 then (if v3 ≤ v5 then (s_X5_atPlace_l25 F u v1 v3 k4 n (v4 + 0) (v5 + 1)) else (s_X5_atPlace_l25 F u v1 v3 k4 n (v4 + 1) (v5 + 1))) else (s_X5_atPlace_l25 F u v1 v3 k4 n (v4 + 0) (v5 + 1))))))
theorem e_X5_atPlace_l25 (F : Nat) (u : S_X5) (v1 : Int32) (v3 : Int32) (k4 : Int32 → Int32 → Option Int32) (n : Nat) (v4 : Int32) (v5 : Int32) : s_X5_atPlace_l25 F u v1 v3 k4 (n + 1) v4 v5 = if ((a_X5_state u) (3 : Int32).toNatClampNeg) ≤ v5 then (s_X5_atPlace_b84 F k4 u v1 v3 v4) else ((s_X5_reportPart F u v5 3).bind fun y1 => ((s_X5_reportPart F u v3 3).bind fun y2 => (if (y1 - y2) < 0 then (s_X5_atPlace_l25 F u v1 v3 k4 n (v4 + 1) (v5 + 1)) else (if (y1 - y2) = 0 then (if v3 ≤ v5 then (s_X5_atPlace_l25 F u v1 v3 k4 n (v4 + 0) (v5 + 1)) else (s_X5_atPlace_l25 F u v1 v3 k4 n (v4 + 1) (v5 + 1))) else (s_X5_atPlace_l25 F u v1 v3 k4 n (v4 + 0) (v5 + 1)))))) := rfl

def s_X5_atPlace_l4 (F : Nat) (u : S_X5) (v1 : Int32) : Nat → Int32 → Int32 → Option Int32
  | 0 => fun _ _ => none
  | n + 1 => fun v2 v3 => if ((a_X5_state u) (3 : Int32).toNatClampNeg) ≤ v3 then (some (v2)) else (if v2 = (-1) then (s_X5_atPlace_l25 F u v1 v3 (s_X5_atPlace_l4 F u v1 n) F 0 0) else (some (v2)))
theorem e_X5_atPlace_l4 (F : Nat) (u : S_X5) (v1 : Int32) (n : Nat) (v2 : Int32) (v3 : Int32) : s_X5_atPlace_l4 F u v1 (n + 1) v2 v3 = if ((a_X5_state u) (3 : Int32).toNatClampNeg) ≤ v3 then (some (v2)) else (if v2 = (-1) then (s_X5_atPlace_l25 F u v1 v3 (s_X5_atPlace_l4 F u v1 n) F 0 0) else (some (v2))) := rfl

def s_X5_atPlace (F : Nat) (u : S_X5) (v1 : Int32) : Option Int32 := s_X5_atPlace_l4 F u v1 F (-1) 0

def s_X5_firstDue_b34 (F : Nat) (k4 : Int32 → Int32 → Option Int32) (u : S_X5) (v1 : Int32) (v2 : Int32) (p0 : Int32) : Option Int32 := if p0 = 0 then (k4 v1 (v2 + 1)) else (if v1 = (-1) then (k4 v2 (v2 + 1)) else ((s_X5_reportPart F u v2 3).bind fun y1 => ((s_X5_reportPart F u v1 3).bind fun y2 => (if y2 ≤ y1 then (k4 v1 (v2 + 1)) else (k4 v2 (v2 + 1))))))

def s_X5_firstDue_l4 (F : Nat) (u : S_X5) : Nat → Int32 → Int32 → Option Int32
  | 0 => fun _ _ => none
  | n + 1 => fun v1 v2 => if ((a_X5_state u) (3 : Int32).toNatClampNeg) ≤ v2 then (some (v1)) else ((s_X5_reportPart F u v2 3).bind fun y1 => (if ((a_X5_state u) (0 : Int32).toNatClampNeg) < y1 then (s_X5_firstDue_b34 F (s_X5_firstDue_l4 F u n) u v1 v2 0) else (s_X5_firstDue_b34 F (s_X5_firstDue_l4 F u n) u v1 v2 1)))
theorem e_X5_firstDue_l4 (F : Nat) (u : S_X5) (n : Nat) (v1 : Int32) (v2 : Int32) : s_X5_firstDue_l4 F u (n + 1) v1 v2 = if ((a_X5_state u) (3 : Int32).toNatClampNeg) ≤ v2 then (some (v1)) else ((s_X5_reportPart F u v2 3).bind fun y1 => (if ((a_X5_state u) (0 : Int32).toNatClampNeg) < y1 then (s_X5_firstDue_b34 F (s_X5_firstDue_l4 F u n) u v1 v2 0) else (s_X5_firstDue_b34 F (s_X5_firstDue_l4 F u n) u v1 v2 1))) := rfl

def s_X5_firstDue (F : Nat) (u : S_X5) : Option Int32 := s_X5_firstDue_l4 F u F (-1) 0

def s_X5_dropReport_l8 (F : Nat) : Nat → S_X5 → Int32 → Option S_X5
  | 0 => fun _ _ => none
  | n + 1 => fun u v2 => if (377 + (5 * (((a_X5_state u) (3 : Int32).toNatClampNeg) - 1))) ≤ v2 then (some (m_X5_state (upd (a_X5_state u) (3 : Int32).toNatClampNeg (((a_X5_state u) (3 : Int32).toNatClampNeg) - 1)) u)) else (if lf_ix (v2 + 5) 20377 then (if lf_ix v2 20377 then (s_X5_dropReport_l8 F n (m_X5_state (upd (a_X5_state u) v2.toNatClampNeg ((a_X5_state u) ((v2 + 5).toNatClampNeg))) u) (v2 + 1)) else none) else none)
theorem e_X5_dropReport_l8 (F : Nat) (n : Nat) (u : S_X5) (v2 : Int32) : s_X5_dropReport_l8 F (n + 1) u v2 = if (377 + (5 * (((a_X5_state u) (3 : Int32).toNatClampNeg) - 1))) ≤ v2 then (some (m_X5_state (upd (a_X5_state u) (3 : Int32).toNatClampNeg (((a_X5_state u) (3 : Int32).toNatClampNeg) - 1)) u)) else (if lf_ix (v2 + 5) 20377 then (if lf_ix v2 20377 then (s_X5_dropReport_l8 F n (m_X5_state (upd (a_X5_state u) v2.toNatClampNeg ((a_X5_state u) ((v2 + 5).toNatClampNeg))) u) (v2 + 1)) else none) else none) := rfl

def s_X5_dropReport (F : Nat) (u : S_X5) (v1 : Int32) : Option S_X5 := s_X5_dropReport_l8 F F u (377 + (5 * v1))

def s_X5_endsToo (F : Nat) (u : S_X5) (v1 : Int32) (v2 : Int32) : Option Bool := if v2 = 2 then (if lf_ix v1 24 then (if ((a_X5_isInSet u) v1.toNatClampNeg) = 1 then (if lf_ix v1 24 then (if ((a_X5_isInnocent u) v1.toNatClampNeg) = 0 then (some (true)) else (some (false))) else none) else (some (false))) else none) else (some (false))

def s_X5_ends_b193 (F : Nat) (k164 : S_X5 → Int32 → Int32 → Option S_X5) (u : S_X5) (v1 : Int32) (v2 : Int32) (v4 : Int32) (p0 : Int32) : Option S_X5 := if lf_ix (13 + v4) 20377 then (if ((a_X5_state u) ((13 + v4).toNatClampNeg)) = v1 then (if lf_ix (13 + v4) 20377 then (k164 (m_X5_state (upd (a_X5_state u) ((13 + v4).toNatClampNeg) (-1)) u) p0 (v4 + 1)) else none) else (if lf_ix (13 + v4) 20377 then (if lf_ix (13 + v4) 20377 then (k164 (m_X5_state (upd (a_X5_state u) ((13 + v4).toNatClampNeg) ((a_X5_state u) ((13 + v4).toNatClampNeg))) u) p0 (v4 + 1)) else none) else none)) else none

def s_X5_ends_b336 (F : Nat) (u : S_X5) (v3 : Int32) (p1 : Int32) (p2 : Int32) (p3 : Int32) : Option S_X5 := (s_X5_setPart F u p1 p2 p3).bind fun y1 => (if v3 = 0 then (some (m_X5_state (upd (a_X5_state y1) (6 : Int32).toNatClampNeg (((a_X5_state y1) (6 : Int32).toNatClampNeg) + 0)) y1)) else (some (m_X5_state (upd (a_X5_state y1) (6 : Int32).toNatClampNeg (((a_X5_state y1) (6 : Int32).toNatClampNeg) + 1)) y1)))

def s_X5_ends_b323 (F : Nat) (u : S_X5) (v1 : Int32) (v3 : Int32) : Option S_X5 := if v3 = 0 then (s_X5_ends_b336 F u v3 v1 8 0) else (s_X5_ends_b336 F u v3 v1 8 1)

def s_X5_ends_l255 (F : Nat) (v1 : Int32) (v2 : Int32) (v4 : Int32) (k241 : S_X5 → Int32 → Int32 → Option S_X5) : Nat → S_X5 → Int32 → Int32 → Option S_X5
  | 0 => fun _ _ _ => none
  | n + 1 => fun u v3 v5 => if 4 ≤ v5 then (k241 u v3 (v4 + 1)) else ((s_X5_lives F u v4).bind fun y1 => (if y1 then ((s_X5_endsToo F u v4 v2).bind fun y2 => (if y2 then (k241 u v3 (v4 + 1)) else ((s_X5_slotOf F u v4 v5).bind fun y3 => (if y3 = v1 then (if lf_ix ((257 + (4 * v4)) + v5) 20377 then (s_X5_ends_l255 F v1 v2 v4 k241 n (m_X5_state (upd (a_X5_state u) (((257 + (4 * v4)) + v5).toNatClampNeg) (-1)) u) 1 (v5 + 1)) else none) else (s_X5_ends_l255 F v1 v2 v4 k241 n u v3 (v5 + 1)))))) else (k241 u v3 (v4 + 1))))
theorem e_X5_ends_l255 (F : Nat) (v1 : Int32) (v2 : Int32) (v4 : Int32) (k241 : S_X5 → Int32 → Int32 → Option S_X5) (n : Nat) (u : S_X5) (v3 : Int32) (v5 : Int32) : s_X5_ends_l255 F v1 v2 v4 k241 (n + 1) u v3 v5 = if 4 ≤ v5 then (k241 u v3 (v4 + 1)) else ((s_X5_lives F u v4).bind fun y1 => (if y1 then ((s_X5_endsToo F u v4 v2).bind fun y2 => (if y2 then (k241 u v3 (v4 + 1)) else ((s_X5_slotOf F u v4 v5).bind fun y3 => (if y3 = v1 then (if lf_ix ((257 + (4 * v4)) + v5) 20377 then (s_X5_ends_l255 F v1 v2 v4 k241 n (m_X5_state (upd (a_X5_state u) (((257 + (4 * v4)) + v5).toNatClampNeg) (-1)) u) 1 (v5 + 1)) else none) else (s_X5_ends_l255 F v1 v2 v4 k241 n u v3 (v5 + 1)))))) else (k241 u v3 (v4 + 1)))) := rfl

def s_X5_ends_l241 (F : Nat) (v1 : Int32) (v2 : Int32) : Nat → S_X5 → Int32 → Int32 → Option S_X5
  | 0 => fun _ _ _ => none
  | n + 1 => fun u v3 v4 => if ((a_X5_state u) (1 : Int32).toNatClampNeg) ≤ v4 then (s_X5_ends_b323 F u v1 v3) else (s_X5_ends_l255 F v1 v2 v4 (s_X5_ends_l241 F v1 v2 n) F u v3 0)
theorem e_X5_ends_l241 (F : Nat) (v1 : Int32) (v2 : Int32) (n : Nat) (u : S_X5) (v3 : Int32) (v4 : Int32) : s_X5_ends_l241 F v1 v2 (n + 1) u v3 v4 = if ((a_X5_state u) (1 : Int32).toNatClampNeg) ≤ v4 then (s_X5_ends_b323 F u v1 v3) else (s_X5_ends_l255 F v1 v2 v4 (s_X5_ends_l241 F v1 v2 n) F u v3 0) := rfl

def s_X5_ends_l164 (F : Nat) (v1 : Int32) (v2 : Int32) : Nat → S_X5 → Int32 → Int32 → Option S_X5
  | 0 => fun _ _ _ => none
  | n + 1 => fun u v3 v4 => if 4 ≤ v4 then (s_X5_ends_l241 F v1 v2 F u v3 0) else (if v3 = 0 then (if lf_ix (13 + v4) 20377 then (if ((a_X5_state u) ((13 + v4).toNatClampNeg)) = v1 then (s_X5_ends_b193 F (s_X5_ends_l164 F v1 v2 n) u v1 v2 v4 1) else (s_X5_ends_b193 F (s_X5_ends_l164 F v1 v2 n) u v1 v2 v4 0)) else none) else (s_X5_ends_b193 F (s_X5_ends_l164 F v1 v2 n) u v1 v2 v4 1))
theorem e_X5_ends_l164 (F : Nat) (v1 : Int32) (v2 : Int32) (n : Nat) (u : S_X5) (v3 : Int32) (v4 : Int32) : s_X5_ends_l164 F v1 v2 (n + 1) u v3 v4 = if 4 ≤ v4 then (s_X5_ends_l241 F v1 v2 F u v3 0) else (if v3 = 0 then (if lf_ix (13 + v4) 20377 then (if ((a_X5_state u) ((13 + v4).toNatClampNeg)) = v1 then (s_X5_ends_b193 F (s_X5_ends_l164 F v1 v2 n) u v1 v2 v4 1) else (s_X5_ends_b193 F (s_X5_ends_l164 F v1 v2 n) u v1 v2 v4 0)) else none) else (s_X5_ends_b193 F (s_X5_ends_l164 F v1 v2 n) u v1 v2 v4 1)) := rfl

def s_X5_ends_l94 (F : Nat) (v1 : Int32) (v2 : Int32) : Nat → S_X5 → Int32 → Option S_X5
  | 0 => fun _ _ => none
  | n + 1 => fun u v3 => if 4 ≤ v3 then (s_X5_ends_l164 F v1 v2 F u 0 0) else ((s_X5_slotOf F u v1 v3).bind fun y1 => (if lf_ix ((257 + (4 * v1)) + v3) 20377 then (if y1 = (-1) then (s_X5_ends_l94 F v1 v2 n (m_X5_state (upd (a_X5_state u) (((257 + (4 * v1)) + v3).toNatClampNeg) (-1)) u) (v3 + 1)) else (if y1 = v1 then (s_X5_ends_l94 F v1 v2 n (m_X5_state (upd (a_X5_state u) (((257 + (4 * v1)) + v3).toNatClampNeg) (-1)) u) (v3 + 1)) else ((s_X5_endsToo F (m_X5_state (upd (a_X5_state u) (((257 + (4 * v1)) + v3).toNatClampNeg) (-1)) u) y1 v2).bind fun y2 => (if y2 then (s_X5_ends_l94 F v1 v2 n (m_X5_state (upd (a_X5_state u) (((257 + (4 * v1)) + v3).toNatClampNeg) (-1)) u) (v3 + 1)) else ((s_X5_addReport F (m_X5_state (upd (a_X5_state u) (((257 + (4 * v1)) + v3).toNatClampNeg) (-1)) u) y1 (-1) 0).bind fun y3 => (s_X5_ends_l94 F v1 v2 n y3.2 (v3 + 1))))))) else none))
theorem e_X5_ends_l94 (F : Nat) (v1 : Int32) (v2 : Int32) (n : Nat) (u : S_X5) (v3 : Int32) : s_X5_ends_l94 F v1 v2 (n + 1) u v3 = if 4 ≤ v3 then (s_X5_ends_l164 F v1 v2 F u 0 0) else ((s_X5_slotOf F u v1 v3).bind fun y1 => (if lf_ix ((257 + (4 * v1)) + v3) 20377 then (if y1 = (-1) then (s_X5_ends_l94 F v1 v2 n (m_X5_state (upd (a_X5_state u) (((257 + (4 * v1)) + v3).toNatClampNeg) (-1)) u) (v3 + 1)) else (if y1 = v1 then (s_X5_ends_l94 F v1 v2 n (m_X5_state (upd (a_X5_state u) (((257 + (4 * v1)) + v3).toNatClampNeg) (-1)) u) (v3 + 1)) else ((s_X5_endsToo F (m_X5_state (upd (a_X5_state u) (((257 + (4 * v1)) + v3).toNatClampNeg) (-1)) u) y1 v2).bind fun y2 => (if y2 then (s_X5_ends_l94 F v1 v2 n (m_X5_state (upd (a_X5_state u) (((257 + (4 * v1)) + v3).toNatClampNeg) (-1)) u) (v3 + 1)) else ((s_X5_addReport F (m_X5_state (upd (a_X5_state u) (((257 + (4 * v1)) + v3).toNatClampNeg) (-1)) u) y1 (-1) 0).bind fun y3 => (s_X5_ends_l94 F v1 v2 n y3.2 (v3 + 1))))))) else none)) := rfl

def s_X5_ends (F : Nat) (u : S_X5) (v1 : Int32) (v2 : Int32) : Option S_X5 := (s_X5_setPart F u v1 0 0).bind fun y1 => ((s_X5_setPart F y1 v1 3 0).bind fun y2 => ((s_X5_setPart F y2 v1 7 v2).bind fun y3 => ((s_X5_setPart F y3 v1 5 ((a_X5_state y3) (4 : Int32).toNatClampNeg)).bind fun y4 => ((s_X5_setPart F y4 v1 6 ((a_X5_state y4) (0 : Int32).toNatClampNeg)).bind fun y5 => (if lf_ix (353 + ((a_X5_state y5) (4 : Int32).toNatClampNeg)) 20377 then (lf_let (m_X5_state (upd (a_X5_state y5) ((353 + ((a_X5_state y5) (4 : Int32).toNatClampNeg)).toNatClampNeg) v1) y5) fun z1 => (lf_let (m_X5_state (upd (a_X5_state z1) (4 : Int32).toNatClampNeg (((a_X5_state z1) (4 : Int32).toNatClampNeg) + 1)) z1) fun z2 => (if v2 = 2 then (s_X5_ends_l94 F v1 v2 F (m_X5_state (upd (a_X5_state z2) (5 : Int32).toNatClampNeg (((a_X5_state z2) (5 : Int32).toNatClampNeg) + 1)) z2) 0) else (s_X5_ends_l94 F v1 v2 F (m_X5_state (upd (a_X5_state z2) (5 : Int32).toNatClampNeg (((a_X5_state z2) (5 : Int32).toNatClampNeg) + 0)) z2) 0)))) else none)))))

def s_X5_hears_b96 (F : Nat) (u : S_X5) (v2 : Int32) : Option S_X5 := (s_X5_ends F u v2 1).bind fun y1 => (some (y1))

def s_X5_hears (F : Nat) (u : S_X5) (v1 : Int32) : Option S_X5 := (s_X5_reportPart F u v1 1).bind fun y1 => ((s_X5_reportPart F u v1 2).bind fun y2 => ((s_X5_dropReport F u v1).bind fun y3 => ((s_X5_lives F y3 y1).bind fun y4 => (if y4 then ((s_X5_part F y3 y1 2).bind fun y5 => ((s_X5_setPart F y3 y1 2 (y5 + y2)).bind fun y6 => (if y2 ≤ 0 then ((s_X5_part F y6 y1 2).bind fun y7 => (if y7 ≤ 0 then ((s_X5_underWay F y6 y1).bind fun y8 => (if y8 = 0 then ((s_X5_truth F y6 y1).bind fun y9 => (if ((a_X5_state y6) (11 : Int32).toNatClampNeg) = 0 then (s_X5_hears_b96 F y6 y1) else (if y9 = 0 then (s_X5_hears_b96 F y6 y1) else ((s_X5_setPart F y6 y1 2 y9).bind fun y10 => (some (m_X5_state (upd (a_X5_state y10) (7 : Int32).toNatClampNeg (((a_X5_state y10) (7 : Int32).toNatClampNeg) + 1)) y10)))))) else (some (y6)))) else ((s_X5_setPart F y6 y1 3 1).bind fun y11 => (some (y11))))) else (some (y6))))) else (some (y3))))))

def s_X5_hearDue_l5 (F : Nat) : Nat → S_X5 → Int32 → Option S_X5
  | 0 => fun _ _ => none
  | n + 1 => fun u v1 => if v1 = (-1) then (some (u)) else ((s_X5_hears F u v1).bind fun y1 => ((s_X5_firstDue F y1).bind fun y2 => (s_X5_hearDue_l5 F n y1 y2)))
theorem e_X5_hearDue_l5 (F : Nat) (n : Nat) (u : S_X5) (v1 : Int32) : s_X5_hearDue_l5 F (n + 1) u v1 = if v1 = (-1) then (some (u)) else ((s_X5_hears F u v1).bind fun y1 => ((s_X5_firstDue F y1).bind fun y2 => (s_X5_hearDue_l5 F n y1 y2))) := rfl

def s_X5_hearDue (F : Nat) (u : S_X5) : Option S_X5 := (s_X5_firstDue F u).bind fun y1 => (s_X5_hearDue_l5 F F u y1)

def s_X5_whyNotAdded (F : Nat) (u : S_X5) (v1 : Int32) : Option Int32 := (s_X5_within F v1 0 9).bind fun y1 => (if y1 then (if ((a_X5_state u) (1 : Int32).toNatClampNeg) = 24 then (some (2)) else (some (0))) else (some (1)))

def s_X5_added_l71 (F : Nat) (v2 : Int32) : Nat → S_X5 → Int32 → Option (Int32 × S_X5)
  | 0 => fun _ _ => none
  | n + 1 => fun u v3 => if 4 ≤ v3 then (some (v2, m_X5_state (upd (a_X5_state u) (1 : Int32).toNatClampNeg (((a_X5_state u) (1 : Int32).toNatClampNeg) + 1)) u)) else (if lf_ix ((257 + (4 * v2)) + v3) 20377 then (s_X5_added_l71 F v2 n (m_X5_state (upd (a_X5_state u) (((257 + (4 * v2)) + v3).toNatClampNeg) (-1)) u) (v3 + 1)) else none)
theorem e_X5_added_l71 (F : Nat) (v2 : Int32) (n : Nat) (u : S_X5) (v3 : Int32) : s_X5_added_l71 F v2 (n + 1) u v3 = if 4 ≤ v3 then (some (v2, m_X5_state (upd (a_X5_state u) (1 : Int32).toNatClampNeg (((a_X5_state u) (1 : Int32).toNatClampNeg) + 1)) u)) else (if lf_ix ((257 + (4 * v2)) + v3) 20377 then (s_X5_added_l71 F v2 n (m_X5_state (upd (a_X5_state u) (((257 + (4 * v2)) + v3).toNatClampNeg) (-1)) u) (v3 + 1)) else none) := rfl

def s_X5_added_b28 (F : Nat) (u : S_X5) (v1 : Int32) (v2 : Int32) : Option (Int32 × S_X5) := (s_X5_setPart F u v2 0 1).bind fun y1 => ((s_X5_setPart F y1 v2 1 v1).bind fun y2 => ((s_X5_setPart F y2 v2 4 ((a_X5_state y2) (0 : Int32).toNatClampNeg)).bind fun y3 => ((s_X5_setPart F y3 v2 5 (-1)).bind fun y4 => ((s_X5_setPart F y4 v2 6 (-1)).bind fun y5 => (s_X5_added_l71 F v2 F y5 0)))))

def s_X5_added_l9 (F : Nat) (v1 : Int32) (v2 : Int32) : Nat → S_X5 → Int32 → Option (Int32 × S_X5)
  | 0 => fun _ _ => none
  | n + 1 => fun u v3 => if 10 ≤ v3 then (s_X5_added_b28 F u v1 v2) else ((s_X5_setPart F u v2 v3 0).bind fun y1 => (s_X5_added_l9 F v1 v2 n y1 (v3 + 1)))
theorem e_X5_added_l9 (F : Nat) (v1 : Int32) (v2 : Int32) (n : Nat) (u : S_X5) (v3 : Int32) : s_X5_added_l9 F v1 v2 (n + 1) u v3 = if 10 ≤ v3 then (s_X5_added_b28 F u v1 v2) else ((s_X5_setPart F u v2 v3 0).bind fun y1 => (s_X5_added_l9 F v1 v2 n y1 (v3 + 1))) := rfl

def s_X5_added (F : Nat) (u : S_X5) (v1 : Int32) : Option (Int32 × S_X5) := s_X5_added_l9 F v1 ((a_X5_state u) (1 : Int32).toNatClampNeg) F u 0

def s_X5_add (F : Nat) (u : S_X5) (v1 : Int32) : Option (Int32 × S_X5) := (s_X5_whyNotAdded F u v1).bind fun y1 => (if y1 ≤ 0 then ((s_X5_save F (m_X5_thrown y1 u)).bind fun y2 => ((s_X5_added F y2 v1).bind fun y3 => (some (y3.1, y3.2)))) else (some (0, m_X5_thrown y1 u)))

def s_X5_isHeld (F : Nat) (u : S_X5) (v1 : Int32) : Option Bool := if v1 = (-1) then (some (true)) else ((s_X5_isThing F u v1).bind fun y1 => (if y1 then (some (true)) else (some (false))))

def s_X5_hasEnded (F : Nat) (u : S_X5) (v1 : Int32) : Option Bool := if v1 = (-1) then (some (false)) else ((s_X5_lives F u v1).bind fun y1 => (if y1 then (some (false)) else (some (true))))

def s_X5_changed_b40 (F : Nat) (u : S_X5) (v3 : Int32) : Option (Int32 × S_X5) := (s_X5_hearDue F u).bind fun y1 => (some (v3, y1))

def s_X5_changed_b27 (F : Nat) (u : S_X5) (v3 : Int32) : Option (Int32 × S_X5) := if v3 = (-1) then (s_X5_changed_b40 F u v3) else ((s_X5_addReport F u v3 (-1) 0).bind fun y1 => (s_X5_changed_b40 F y1.2 v3))

def s_X5_changed (F : Nat) (u : S_X5) (v1 : Int32) (v2 : Int32) : Option (Int32 × S_X5) := if lf_ix v1 20377 then (if lf_ix v1 20377 then (if v2 = (-1) then (s_X5_changed_b27 F (m_X5_state (upd (a_X5_state u) v1.toNatClampNeg v2) u) ((a_X5_state u) v1.toNatClampNeg)) else ((s_X5_addReport F (m_X5_state (upd (a_X5_state u) v1.toNatClampNeg v2) u) v2 1 0).bind fun y1 => (s_X5_changed_b27 F y1.2 ((a_X5_state u) v1.toNatClampNeg)))) else none) else none

def s_X5_whyNotTaken (F : Nat) (u : S_X5) (v1 : Int32) (v2 : Int32) : Option Int32 := (s_X5_within F v1 0 3).bind fun y1 => (if y1 then ((s_X5_isHeld F u v2).bind fun y2 => (if y2 then ((s_X5_hasEnded F u v2).bind fun y3 => (if y3 then (some (2)) else (some (0)))) else (some (1)))) else (some (1)))

def s_X5_take (F : Nat) (u : S_X5) (v1 : Int32) (v2 : Int32) : Option (Int32 × S_X5) := (s_X5_whyNotTaken F u v1 v2).bind fun y1 => (if y1 ≤ 0 then ((s_X5_save F (m_X5_thrown y1 u)).bind fun y2 => ((s_X5_changed F y2 (13 + v1) v2).bind fun y3 => (some (y3.1, y3.2)))) else (some (0, m_X5_thrown y1 u)))

def s_X5_whyNotPut (F : Nat) (u : S_X5) (v1 : Int32) (v2 : Int32) (v3 : Int32) : Option Int32 := (s_X5_isThing F u v1).bind fun y1 => (if y1 then ((s_X5_within F v2 0 3).bind fun y2 => (if y2 then ((s_X5_isHeld F u v3).bind fun y3 => (if y3 then ((s_X5_lives F u v1).bind fun y4 => (if y4 then ((s_X5_hasEnded F u v3).bind fun y5 => (if y5 then (some (2)) else (some (0)))) else (some (2)))) else (some (1)))) else (some (1)))) else (some (1)))

def s_X5_put (F : Nat) (u : S_X5) (v1 : Int32) (v2 : Int32) (v3 : Int32) : Option (Int32 × S_X5) := (s_X5_whyNotPut F u v1 v2 v3).bind fun y1 => (if y1 ≤ 0 then ((s_X5_save F (m_X5_thrown y1 u)).bind fun y2 => ((s_X5_changed F y2 ((257 + (4 * v1)) + v2) v3).bind fun y3 => (some (y3.1, y3.2)))) else (some (0, m_X5_thrown y1 u)))

def s_X5_slandered (F : Nat) (u : S_X5) (v1 : Int32) (v2 : Int32) : Option (Int32 × S_X5) := (s_X5_addReport F u v1 v2 1).bind fun y1 => ((s_X5_hearDue F y1.2).bind fun y2 => (some (y1.1, y2)))

def s_X5_slander_b40 (F : Nat) (u : S_X5) (v1 : Int32) (v2 : Int32) (p1 : Int32) : Option (Int32 × S_X5) := if p1 ≤ 0 then ((s_X5_save F (m_X5_thrown p1 u)).bind fun y1 => ((s_X5_slandered F y1 v1 v2).bind fun y2 => (some (y2.1, y2.2)))) else (some (0, m_X5_thrown p1 u))

def s_X5_slander_b27 (F : Nat) (u : S_X5) (v1 : Int32) (v2 : Int32) : Option (Int32 × S_X5) := (s_X5_lives F u v1).bind fun y1 => (if y1 then (s_X5_slander_b40 F u v1 v2 0) else (s_X5_slander_b40 F u v1 v2 3))

def s_X5_slander (F : Nat) (u : S_X5) (v1 : Int32) (v2 : Int32) : Option (Int32 × S_X5) := (s_X5_isThing F u v1).bind fun y1 => (if y1 then (if v2 = 1 then (s_X5_slander_b27 F u v1 v2) else (if v2 = (-1) then (s_X5_slander_b27 F u v1 v2) else (s_X5_slander_b40 F u v1 v2 2))) else (s_X5_slander_b40 F u v1 v2 1))

def s_X5_suspect_b36 (F : Nat) (u : S_X5) (v1 : Int32) (p1 : Int32) : Option (Int32 × S_X5) := if p1 ≤ 0 then ((s_X5_save F (m_X5_thrown p1 u)).bind fun y1 => ((s_X5_setPart F y1 v1 3 1).bind fun y2 => ((s_X5_suspects F y2).bind fun y3 => (some (y3, y2))))) else (some (0, m_X5_thrown p1 u))

def s_X5_suspect (F : Nat) (u : S_X5) (v1 : Int32) : Option (Int32 × S_X5) := (s_X5_isThing F u v1).bind fun y1 => (if y1 then ((s_X5_lives F u v1).bind fun y2 => (if y2 then ((s_X5_part F u v1 3).bind fun y3 => (if y3 = 1 then (s_X5_suspect_b36 F u v1 2) else (s_X5_suspect_b36 F u v1 0))) else (s_X5_suspect_b36 F u v1 2))) else (s_X5_suspect_b36 F u v1 1))

def s_X5_isSetting (F : Nat) (v0 : Int32) : Option Bool := (s_X5_within F v0 0 4).bind fun y1 => (some (y1))

def s_X5_set_b48 (F : Nat) (u : S_X5) (v1 : Int32) (v2 : Int32) (p1 : Int32) : Option (Int32 × S_X5) := if p1 ≤ 0 then ((s_X5_save F (m_X5_thrown p1 u)).bind fun y1 => (if lf_ix (8 + v1) 20377 then (if lf_ix (8 + v1) 20377 then (some ((a_X5_state y1) ((8 + v1).toNatClampNeg), m_X5_state (upd (a_X5_state y1) ((8 + v1).toNatClampNeg) v2) y1)) else none) else none)) else (some (0, m_X5_thrown p1 u))

def s_X5_set_b21 (F : Nat) (u : S_X5) (v1 : Int32) (v2 : Int32) (p0 : Int32) : Option (Int32 × S_X5) := (s_X5_isSetting F v1).bind fun y1 => (if y1 then ((s_X5_within F v2 0 p0).bind fun y2 => (if y2 then (s_X5_set_b48 F u v1 v2 0) else (s_X5_set_b48 F u v1 v2 2))) else (s_X5_set_b48 F u v1 v2 1))

def s_X5_set (F : Nat) (u : S_X5) (v1 : Int32) (v2 : Int32) : Option (Int32 × S_X5) := if 3 ≤ v1 then (if v1 = 3 then (s_X5_set_b21 F u v1 v2 1) else (s_X5_set_b21 F u v1 v2 50)) else (s_X5_set_b21 F u v1 v2 20)

def s_X5_spread_p6_l23 (F : Nat) (v3 : Int32) (k2 : S_X5 → Int32 → Option S_X5) (k10 : S_X5 → Int32 → Int32 → Option S_X5) : Nat → S_X5 → Int32 → Int32 → Option S_X5
  | 0 => fun _ _ _ => none
  | n + 1 => fun u v2 v4 => if 4 ≤ v4 then (k10 u v2 (v3 + 1)) else (if lf_ix v3 24 then (if ((a_X5_isInSet u) v3.toNatClampNeg) = 1 then ((s_X5_lives F u v3).bind fun y1 => (if y1 then ((s_X5_slotOf F u v3 v4).bind fun y2 => (if y2 = (-1) then (s_X5_spread_p6_l23 F v3 k2 k10 n u v2 (v4 + 1)) else (if lf_ix y2 24 then (if ((a_X5_isInSet u) y2.toNatClampNeg) = 0 then (if lf_ix y2 24 then (s_X5_spread_p6_l23 F v3 k2 k10 n (m_X5_isInSet (upd (a_X5_isInSet u) y2.toNatClampNeg 1) u) 1 (v4 + 1)) else none) else (s_X5_spread_p6_l23 F v3 k2 k10 n u v2 (v4 + 1))) else none))) else (k10 u v2 (v3 + 1)))) else (k10 u v2 (v3 + 1))) else none)
theorem e_X5_spread_p6_l23 (F : Nat) (v3 : Int32) (k2 : S_X5 → Int32 → Option S_X5) (k10 : S_X5 → Int32 → Int32 → Option S_X5) (n : Nat) (u : S_X5) (v2 : Int32) (v4 : Int32) : s_X5_spread_p6_l23 F v3 k2 k10 (n + 1) u v2 v4 = if 4 ≤ v4 then (k10 u v2 (v3 + 1)) else (if lf_ix v3 24 then (if ((a_X5_isInSet u) v3.toNatClampNeg) = 1 then ((s_X5_lives F u v3).bind fun y1 => (if y1 then ((s_X5_slotOf F u v3 v4).bind fun y2 => (if y2 = (-1) then (s_X5_spread_p6_l23 F v3 k2 k10 n u v2 (v4 + 1)) else (if lf_ix y2 24 then (if ((a_X5_isInSet u) y2.toNatClampNeg) = 0 then (if lf_ix y2 24 then (s_X5_spread_p6_l23 F v3 k2 k10 n (m_X5_isInSet (upd (a_X5_isInSet u) y2.toNatClampNeg 1) u) 1 (v4 + 1)) else none) else (s_X5_spread_p6_l23 F v3 k2 k10 n u v2 (v4 + 1))) else none))) else (k10 u v2 (v3 + 1)))) else (k10 u v2 (v3 + 1))) else none) := rfl

def s_X5_spread_p6_l10 (F : Nat) (k2 : S_X5 → Int32 → Option S_X5) : Nat → S_X5 → Int32 → Int32 → Option S_X5
  | 0 => fun _ _ _ => none
  | n + 1 => fun u v2 v3 => if ((a_X5_state u) (1 : Int32).toNatClampNeg) ≤ v3 then (k2 u v2) else (s_X5_spread_p6_l23 F v3 k2 (s_X5_spread_p6_l10 F k2 n) F u v2 0)
theorem e_X5_spread_p6_l10 (F : Nat) (k2 : S_X5 → Int32 → Option S_X5) (n : Nat) (u : S_X5) (v2 : Int32) (v3 : Int32) : s_X5_spread_p6_l10 F k2 (n + 1) u v2 v3 = if ((a_X5_state u) (1 : Int32).toNatClampNeg) ≤ v3 then (k2 u v2) else (s_X5_spread_p6_l23 F v3 k2 (s_X5_spread_p6_l10 F k2 n) F u v2 0) := rfl

def s_X5_spread_p6_l2 (F : Nat) : Nat → S_X5 → Int32 → Option S_X5
  | 0 => fun _ _ => none
  | n + 1 => fun u v2 => if v2 = 0 then (some (u)) else (s_X5_spread_p6_l10 F (s_X5_spread_p6_l2 F n) F u 0 0)
theorem e_X5_spread_p6_l2 (F : Nat) (n : Nat) (u : S_X5) (v2 : Int32) : s_X5_spread_p6_l2 F (n + 1) u v2 = if v2 = 0 then (some (u)) else (s_X5_spread_p6_l10 F (s_X5_spread_p6_l2 F n) F u 0 0) := rfl

def s_X5_spread_p6 (F : Nat) (u : S_X5) : Option S_X5 := s_X5_spread_p6_l2 F F u 1

def s_X5_findSet_l26 (F : Nat) (u : S_X5) : Nat → Int32 → Int32 → Option (Bool × S_X5)
  | 0 => fun _ _ => none
  | n + 1 => fun v2 v3 => if ((a_X5_state u) (3 : Int32).toNatClampNeg) ≤ v3 then (if v2 = 0 then some (false, u) else if v2 = 1 then some (true, u) else none) else ((s_X5_reportPart F u v3 1).bind fun y1 => (if v2 = 0 then (if lf_ix y1 24 then (if ((a_X5_isInSet u) y1.toNatClampNeg) = 1 then ((s_X5_lives F u y1).bind fun y2 => (if y2 then (s_X5_findSet_l26 F u n 1 (v3 + 1)) else (s_X5_findSet_l26 F u n 0 (v3 + 1)))) else (s_X5_findSet_l26 F u n 0 (v3 + 1))) else none) else (s_X5_findSet_l26 F u n 1 (v3 + 1))))
theorem e_X5_findSet_l26 (F : Nat) (u : S_X5) (n : Nat) (v2 : Int32) (v3 : Int32) : s_X5_findSet_l26 F u (n + 1) v2 v3 = if ((a_X5_state u) (3 : Int32).toNatClampNeg) ≤ v3 then (if v2 = 0 then some (false, u) else if v2 = 1 then some (true, u) else none) else ((s_X5_reportPart F u v3 1).bind fun y1 => (if v2 = 0 then (if lf_ix y1 24 then (if ((a_X5_isInSet u) y1.toNatClampNeg) = 1 then ((s_X5_lives F u y1).bind fun y2 => (if y2 then (s_X5_findSet_l26 F u n 1 (v3 + 1)) else (s_X5_findSet_l26 F u n 0 (v3 + 1)))) else (s_X5_findSet_l26 F u n 0 (v3 + 1))) else none) else (s_X5_findSet_l26 F u n 1 (v3 + 1)))) := rfl

def s_X5_findSet (F : Nat) (u : S_X5) (v1 : Int32) : Option (Bool × S_X5) := (s_X5_clear F 24 (a_X5_isInSet u)).bind fun y1 => (if lf_ix v1 24 then ((s_X5_spread_p6 F (m_X5_isInSet (upd y1 v1.toNatClampNeg 1) u)).bind fun y2 => (s_X5_findSet_l26 F y2 F 0 0)) else none)

def s_X5_restOf_l22 (F : Nat) (u : S_X5) (v1 : Int32) (v3 : Int32) (k9 : Int32 → Int32 → Option Int32) : Nat → Int32 → Int32 → Option Int32
  | 0 => fun _ _ => none
  | n + 1 => fun v2 v4 => if 4 ≤ v4 then (k9 v2 (v3 + 1)) else (if lf_ix v3 24 then (if ((a_X5_isInSet u) v3.toNatClampNeg) = 1 then ((s_X5_slotOf F u v3 v4).bind fun y1 => (if y1 = v1 then (s_X5_restOf_l22 F u v1 v3 k9 n (v2 - 1) (v4 + 1)) else (s_X5_restOf_l22 F u v1 v3 k9 n (v2 - 0) (v4 + 1)))) else (k9 v2 (v3 + 1))) else none)
theorem e_X5_restOf_l22 (F : Nat) (u : S_X5) (v1 : Int32) (v3 : Int32) (k9 : Int32 → Int32 → Option Int32) (n : Nat) (v2 : Int32) (v4 : Int32) : s_X5_restOf_l22 F u v1 v3 k9 (n + 1) v2 v4 = if 4 ≤ v4 then (k9 v2 (v3 + 1)) else (if lf_ix v3 24 then (if ((a_X5_isInSet u) v3.toNatClampNeg) = 1 then ((s_X5_slotOf F u v3 v4).bind fun y1 => (if y1 = v1 then (s_X5_restOf_l22 F u v1 v3 k9 n (v2 - 1) (v4 + 1)) else (s_X5_restOf_l22 F u v1 v3 k9 n (v2 - 0) (v4 + 1)))) else (k9 v2 (v3 + 1))) else none) := rfl

def s_X5_restOf_l9 (F : Nat) (u : S_X5) (v1 : Int32) : Nat → Int32 → Int32 → Option Int32
  | 0 => fun _ _ => none
  | n + 1 => fun v2 v3 => if ((a_X5_state u) (1 : Int32).toNatClampNeg) ≤ v3 then (some (v2)) else (s_X5_restOf_l22 F u v1 v3 (s_X5_restOf_l9 F u v1 n) F v2 0)
theorem e_X5_restOf_l9 (F : Nat) (u : S_X5) (v1 : Int32) (n : Nat) (v2 : Int32) (v3 : Int32) : s_X5_restOf_l9 F u v1 (n + 1) v2 v3 = if ((a_X5_state u) (1 : Int32).toNatClampNeg) ≤ v3 then (some (v2)) else (s_X5_restOf_l22 F u v1 v3 (s_X5_restOf_l9 F u v1 n) F v2 0) := rfl

def s_X5_restOf (F : Nat) (u : S_X5) (v1 : Int32) : Option Int32 := (s_X5_part F u v1 2).bind fun y1 => (s_X5_restOf_l9 F u v1 F y1 0)

def s_X5_spread_p7_l23 (F : Nat) (v3 : Int32) (k2 : S_X5 → Int32 → Option S_X5) (k10 : S_X5 → Int32 → Int32 → Option S_X5) : Nat → S_X5 → Int32 → Int32 → Option S_X5
  | 0 => fun _ _ _ => none
  | n + 1 => fun u v2 v4 => if 4 ≤ v4 then (k10 u v2 (v3 + 1)) else (if lf_ix v3 24 then (if ((a_X5_isInnocent u) v3.toNatClampNeg) = 1 then ((s_X5_lives F u v3).bind fun y1 => (if y1 then ((s_X5_slotOf F u v3 v4).bind fun y2 => (if y2 = (-1) then (s_X5_spread_p7_l23 F v3 k2 k10 n u v2 (v4 + 1)) else (if lf_ix y2 24 then (if ((a_X5_isInnocent u) y2.toNatClampNeg) = 0 then (if lf_ix y2 24 then (s_X5_spread_p7_l23 F v3 k2 k10 n (m_X5_isInnocent (upd (a_X5_isInnocent u) y2.toNatClampNeg 1) u) 1 (v4 + 1)) else none) else (s_X5_spread_p7_l23 F v3 k2 k10 n u v2 (v4 + 1))) else none))) else (k10 u v2 (v3 + 1)))) else (k10 u v2 (v3 + 1))) else none)
theorem e_X5_spread_p7_l23 (F : Nat) (v3 : Int32) (k2 : S_X5 → Int32 → Option S_X5) (k10 : S_X5 → Int32 → Int32 → Option S_X5) (n : Nat) (u : S_X5) (v2 : Int32) (v4 : Int32) : s_X5_spread_p7_l23 F v3 k2 k10 (n + 1) u v2 v4 = if 4 ≤ v4 then (k10 u v2 (v3 + 1)) else (if lf_ix v3 24 then (if ((a_X5_isInnocent u) v3.toNatClampNeg) = 1 then ((s_X5_lives F u v3).bind fun y1 => (if y1 then ((s_X5_slotOf F u v3 v4).bind fun y2 => (if y2 = (-1) then (s_X5_spread_p7_l23 F v3 k2 k10 n u v2 (v4 + 1)) else (if lf_ix y2 24 then (if ((a_X5_isInnocent u) y2.toNatClampNeg) = 0 then (if lf_ix y2 24 then (s_X5_spread_p7_l23 F v3 k2 k10 n (m_X5_isInnocent (upd (a_X5_isInnocent u) y2.toNatClampNeg 1) u) 1 (v4 + 1)) else none) else (s_X5_spread_p7_l23 F v3 k2 k10 n u v2 (v4 + 1))) else none))) else (k10 u v2 (v3 + 1)))) else (k10 u v2 (v3 + 1))) else none) := rfl

def s_X5_spread_p7_l10 (F : Nat) (k2 : S_X5 → Int32 → Option S_X5) : Nat → S_X5 → Int32 → Int32 → Option S_X5
  | 0 => fun _ _ _ => none
  | n + 1 => fun u v2 v3 => if ((a_X5_state u) (1 : Int32).toNatClampNeg) ≤ v3 then (k2 u v2) else (s_X5_spread_p7_l23 F v3 k2 (s_X5_spread_p7_l10 F k2 n) F u v2 0)
theorem e_X5_spread_p7_l10 (F : Nat) (k2 : S_X5 → Int32 → Option S_X5) (n : Nat) (u : S_X5) (v2 : Int32) (v3 : Int32) : s_X5_spread_p7_l10 F k2 (n + 1) u v2 v3 = if ((a_X5_state u) (1 : Int32).toNatClampNeg) ≤ v3 then (k2 u v2) else (s_X5_spread_p7_l23 F v3 k2 (s_X5_spread_p7_l10 F k2 n) F u v2 0) := rfl

def s_X5_spread_p7_l2 (F : Nat) : Nat → S_X5 → Int32 → Option S_X5
  | 0 => fun _ _ => none
  | n + 1 => fun u v2 => if v2 = 0 then (some (u)) else (s_X5_spread_p7_l10 F (s_X5_spread_p7_l2 F n) F u 0 0)
theorem e_X5_spread_p7_l2 (F : Nat) (n : Nat) (u : S_X5) (v2 : Int32) : s_X5_spread_p7_l2 F (n + 1) u v2 = if v2 = 0 then (some (u)) else (s_X5_spread_p7_l10 F (s_X5_spread_p7_l2 F n) F u 0 0) := rfl

def s_X5_spread_p7 (F : Nat) (u : S_X5) : Option S_X5 := s_X5_spread_p7_l2 F F u 1

def s_X5_findInnocent_b54 (F : Nat) (u : S_X5) : Option S_X5 := (s_X5_spread_p7 F u).bind fun y1 => (some (y1))

def s_X5_findInnocent_l9 (F : Nat) : Nat → S_X5 → Int32 → Option S_X5
  | 0 => fun _ _ => none
  | n + 1 => fun u v1 => if ((a_X5_state u) (1 : Int32).toNatClampNeg) ≤ v1 then (s_X5_findInnocent_b54 F u) else (if lf_ix v1 24 then (if ((a_X5_isInSet u) v1.toNatClampNeg) = 1 then ((s_X5_restOf F u v1).bind fun y1 => (if y1 ≤ 0 then (if lf_ix v1 24 then (s_X5_findInnocent_l9 F n (m_X5_isInnocent (upd (a_X5_isInnocent u) v1.toNatClampNeg 0) u) (v1 + 1)) else none) else (if lf_ix v1 24 then (s_X5_findInnocent_l9 F n (m_X5_isInnocent (upd (a_X5_isInnocent u) v1.toNatClampNeg 1) u) (v1 + 1)) else none))) else (if lf_ix v1 24 then (s_X5_findInnocent_l9 F n (m_X5_isInnocent (upd (a_X5_isInnocent u) v1.toNatClampNeg 0) u) (v1 + 1)) else none)) else none)
theorem e_X5_findInnocent_l9 (F : Nat) (n : Nat) (u : S_X5) (v1 : Int32) : s_X5_findInnocent_l9 F (n + 1) u v1 = if ((a_X5_state u) (1 : Int32).toNatClampNeg) ≤ v1 then (s_X5_findInnocent_b54 F u) else (if lf_ix v1 24 then (if ((a_X5_isInSet u) v1.toNatClampNeg) = 1 then ((s_X5_restOf F u v1).bind fun y1 => (if y1 ≤ 0 then (if lf_ix v1 24 then (s_X5_findInnocent_l9 F n (m_X5_isInnocent (upd (a_X5_isInnocent u) v1.toNatClampNeg 0) u) (v1 + 1)) else none) else (if lf_ix v1 24 then (s_X5_findInnocent_l9 F n (m_X5_isInnocent (upd (a_X5_isInnocent u) v1.toNatClampNeg 1) u) (v1 + 1)) else none))) else (if lf_ix v1 24 then (s_X5_findInnocent_l9 F n (m_X5_isInnocent (upd (a_X5_isInnocent u) v1.toNatClampNeg 0) u) (v1 + 1)) else none)) else none) := rfl

def s_X5_findInnocent (F : Nat) (u : S_X5) : Option S_X5 := (s_X5_clear F 24 (a_X5_isInnocent u)).bind fun y1 => (s_X5_findInnocent_l9 F F (m_X5_isInnocent y1 u) 0)

def s_X5_nextToEnd_b46 (F : Nat) (k4 : Int32 → Int32 → Option Int32) (u : S_X5) (v1 : Int32) (v2 : Int32) (p0 : Int32) : Option Int32 := if p0 = 0 then (k4 v1 (v2 + 1)) else (if v1 = (-1) then (k4 v2 (v2 + 1)) else ((s_X5_part F u v2 1).bind fun y1 => ((s_X5_part F u v1 1).bind fun y2 => (if y1 ≤ y2 then (k4 v1 (v2 + 1)) else (k4 v2 (v2 + 1))))))

def s_X5_nextToEnd_l4 (F : Nat) (u : S_X5) : Nat → Int32 → Int32 → Option Int32
  | 0 => fun _ _ => none
  | n + 1 => fun v1 v2 => if ((a_X5_state u) (1 : Int32).toNatClampNeg) ≤ v2 then (some (v1)) else (if lf_ix v2 24 then (if ((a_X5_isInSet u) v2.toNatClampNeg) = 1 then (if lf_ix v2 24 then (if ((a_X5_isInnocent u) v2.toNatClampNeg) = 0 then ((s_X5_lives F u v2).bind fun y1 => (if y1 then (s_X5_nextToEnd_b46 F (s_X5_nextToEnd_l4 F u n) u v1 v2 1) else (s_X5_nextToEnd_b46 F (s_X5_nextToEnd_l4 F u n) u v1 v2 0))) else (s_X5_nextToEnd_b46 F (s_X5_nextToEnd_l4 F u n) u v1 v2 0)) else none) else (s_X5_nextToEnd_b46 F (s_X5_nextToEnd_l4 F u n) u v1 v2 0)) else none)
theorem e_X5_nextToEnd_l4 (F : Nat) (u : S_X5) (n : Nat) (v1 : Int32) (v2 : Int32) : s_X5_nextToEnd_l4 F u (n + 1) v1 v2 = if ((a_X5_state u) (1 : Int32).toNatClampNeg) ≤ v2 then (some (v1)) else (if lf_ix v2 24 then (if ((a_X5_isInSet u) v2.toNatClampNeg) = 1 then (if lf_ix v2 24 then (if ((a_X5_isInnocent u) v2.toNatClampNeg) = 0 then ((s_X5_lives F u v2).bind fun y1 => (if y1 then (s_X5_nextToEnd_b46 F (s_X5_nextToEnd_l4 F u n) u v1 v2 1) else (s_X5_nextToEnd_b46 F (s_X5_nextToEnd_l4 F u n) u v1 v2 0))) else (s_X5_nextToEnd_b46 F (s_X5_nextToEnd_l4 F u n) u v1 v2 0)) else none) else (s_X5_nextToEnd_b46 F (s_X5_nextToEnd_l4 F u n) u v1 v2 0)) else none) := rfl

def s_X5_nextToEnd (F : Nat) (u : S_X5) : Option Int32 := s_X5_nextToEnd_l4 F u F (-1) 0

def s_X5_tries_b44 (F : Nat) (u : S_X5) : Option S_X5 := (s_X5_hearDue F u).bind fun y1 => (some (y1))

def s_X5_tries_l25 (F : Nat) : Nat → S_X5 → Int32 → Option S_X5
  | 0 => fun _ _ => none
  | n + 1 => fun u v2 => if v2 = (-1) then (s_X5_tries_b44 F u) else ((s_X5_ends F u v2 2).bind fun y1 => ((s_X5_nextToEnd F y1).bind fun y2 => (s_X5_tries_l25 F n y1 y2)))
theorem e_X5_tries_l25 (F : Nat) (n : Nat) (u : S_X5) (v2 : Int32) : s_X5_tries_l25 F (n + 1) u v2 = if v2 = (-1) then (s_X5_tries_b44 F u) else ((s_X5_ends F u v2 2).bind fun y1 => ((s_X5_nextToEnd F y1).bind fun y2 => (s_X5_tries_l25 F n y1 y2))) := rfl

def s_X5_tries (F : Nat) (u : S_X5) (v1 : Int32) : Option S_X5 := (s_X5_findSet F u v1).bind fun y1 => (if y1.1 then (some (y1.2)) else ((s_X5_setPart F y1.2 v1 3 0).bind fun y2 => ((s_X5_findInnocent F y2).bind fun y3 => ((s_X5_nextToEnd F y3).bind fun y4 => (s_X5_tries_l25 F F y3 y4)))))

def s_X5_holdTrial_l42 (F : Nat) : Nat → S_X5 → Int32 → Option S_X5
  | 0 => fun _ _ => none
  | n + 1 => fun u v1 => if ((a_X5_state u) (1 : Int32).toNatClampNeg) ≤ v1 then (some (u)) else (if lf_ix v1 24 then (if ((a_X5_isSuspect u) v1.toNatClampNeg) = 1 then ((s_X5_part F u v1 3).bind fun y1 => (if y1 = 1 then ((s_X5_tries F u v1).bind fun y2 => (s_X5_holdTrial_l42 F n y2 (v1 + 1))) else (s_X5_holdTrial_l42 F n u (v1 + 1)))) else (s_X5_holdTrial_l42 F n u (v1 + 1))) else none)
theorem e_X5_holdTrial_l42 (F : Nat) (n : Nat) (u : S_X5) (v1 : Int32) : s_X5_holdTrial_l42 F (n + 1) u v1 = if ((a_X5_state u) (1 : Int32).toNatClampNeg) ≤ v1 then (some (u)) else (if lf_ix v1 24 then (if ((a_X5_isSuspect u) v1.toNatClampNeg) = 1 then ((s_X5_part F u v1 3).bind fun y1 => (if y1 = 1 then ((s_X5_tries F u v1).bind fun y2 => (s_X5_holdTrial_l42 F n y2 (v1 + 1))) else (s_X5_holdTrial_l42 F n u (v1 + 1)))) else (s_X5_holdTrial_l42 F n u (v1 + 1))) else none) := rfl

def s_X5_holdTrial_l2 (F : Nat) : Nat → S_X5 → Int32 → Option S_X5
  | 0 => fun _ _ => none
  | n + 1 => fun u v1 => if 24 ≤ v1 then (s_X5_holdTrial_l42 F F u 0) else (if ((a_X5_state u) (1 : Int32).toNatClampNeg) ≤ v1 then (if lf_ix v1 24 then (s_X5_holdTrial_l2 F n (m_X5_isSuspect (upd (a_X5_isSuspect u) v1.toNatClampNeg 0) u) (v1 + 1)) else none) else ((s_X5_part F u v1 3).bind fun y1 => (if lf_ix v1 24 then (s_X5_holdTrial_l2 F n (m_X5_isSuspect (upd (a_X5_isSuspect u) v1.toNatClampNeg y1) u) (v1 + 1)) else none)))
theorem e_X5_holdTrial_l2 (F : Nat) (n : Nat) (u : S_X5) (v1 : Int32) : s_X5_holdTrial_l2 F (n + 1) u v1 = if 24 ≤ v1 then (s_X5_holdTrial_l42 F F u 0) else (if ((a_X5_state u) (1 : Int32).toNatClampNeg) ≤ v1 then (if lf_ix v1 24 then (s_X5_holdTrial_l2 F n (m_X5_isSuspect (upd (a_X5_isSuspect u) v1.toNatClampNeg 0) u) (v1 + 1)) else none) else ((s_X5_part F u v1 3).bind fun y1 => (if lf_ix v1 24 then (s_X5_holdTrial_l2 F n (m_X5_isSuspect (upd (a_X5_isSuspect u) v1.toNatClampNeg y1) u) (v1 + 1)) else none))) := rfl

def s_X5_holdTrial (F : Nat) (u : S_X5) : Option S_X5 := s_X5_holdTrial_l2 F F u 0

def s_X5_tick (F : Nat) (u : S_X5) : Option S_X5 := (s_X5_hearDue F (m_X5_state (upd (a_X5_state u) (0 : Int32).toNatClampNeg (((a_X5_state u) (0 : Int32).toNatClampNeg) + 1)) u)).bind fun y1 => (if ((a_X5_state y1) (12 : Int32).toNatClampNeg) = 0 then (some (y1)) else (if ¬ ((a_X5_state y1) (12 : Int32).toNatClampNeg) = 0 then (if (((a_X5_state y1) (0 : Int32).toNatClampNeg) - ((a_X5_state y1) (0 : Int32).toNatClampNeg) / ((a_X5_state y1) (12 : Int32).toNatClampNeg) * ((a_X5_state y1) (12 : Int32).toNatClampNeg)) = 0 then ((s_X5_holdTrial F y1).bind fun y2 => (some (y2))) else (some (y1))) else none))

def s_X5_passed_l9 (F : Nat) (v1 : Int32) (v2 : Int32) : Nat → S_X5 → Int32 → Option (Int32 × S_X5)
  | 0 => fun _ _ => none
  | n + 1 => fun u v3 => if v1 ≤ v3 then (some (((a_X5_state u) (4 : Int32).toNatClampNeg) - v2, u)) else ((s_X5_tick F u).bind fun y1 => (s_X5_passed_l9 F v1 v2 n y1 (v3 + 1)))
theorem e_X5_passed_l9 (F : Nat) (v1 : Int32) (v2 : Int32) (n : Nat) (u : S_X5) (v3 : Int32) : s_X5_passed_l9 F v1 v2 (n + 1) u v3 = if v1 ≤ v3 then (some (((a_X5_state u) (4 : Int32).toNatClampNeg) - v2, u)) else ((s_X5_tick F u).bind fun y1 => (s_X5_passed_l9 F v1 v2 n y1 (v3 + 1))) := rfl

def s_X5_passed (F : Nat) (u : S_X5) (v1 : Int32) : Option (Int32 × S_X5) := s_X5_passed_l9 F v1 ((a_X5_state u) (4 : Int32).toNatClampNeg) F u 0

def s_X5_whyNotPassed (F : Nat) (u : S_X5) (v1 : Int32) : Option Int32 := (s_X5_within F v1 1 100).bind fun y1 => (if y1 then (if (((a_X5_state u) (0 : Int32).toNatClampNeg) + v1) ≤ 5000 then (some (0)) else (some (2))) else (some (1)))

def s_X5_pass (F : Nat) (u : S_X5) (v1 : Int32) : Option (Int32 × S_X5) := (s_X5_whyNotPassed F u v1).bind fun y1 => (if y1 ≤ 0 then ((s_X5_save F (m_X5_thrown y1 u)).bind fun y2 => ((s_X5_passed F y2 v1).bind fun y3 => (some (y3.1, y3.2)))) else (some (0, m_X5_thrown y1 u)))

def s_X5_trial (F : Nat) (u : S_X5) : Option (Int32 × S_X5) := (s_X5_save F (m_X5_thrown 0 u)).bind fun y1 => ((s_X5_holdTrial F y1).bind fun y2 => (some (((a_X5_state y2) (4 : Int32).toNatClampNeg) - ((a_X5_state y1) (4 : Int32).toNatClampNeg), y2)))

def s_X5_audit_b59 (F : Nat) (k13 : S_X5 → Int32 → Int32 → Option (Int32 × S_X5)) (u : S_X5) (v2 : Int32) (v3 : Int32) (p0 : Int32) (p1 : Int32) : Option (Int32 × S_X5) := (s_X5_setPart F u v2 2 v3).bind fun y1 => (k13 y1 (p0 + p1) (v2 + 1))

def s_X5_audit_l13 (F : Nat) : Nat → S_X5 → Int32 → Int32 → Option (Int32 × S_X5)
  | 0 => fun _ _ _ => none
  | n + 1 => fun u v1 v2 => if ((a_X5_state u) (1 : Int32).toNatClampNeg) ≤ v2 then (some (v1, u)) else ((s_X5_lives F u v2).bind fun y1 => (if y1 then ((s_X5_truth F u v2).bind fun y2 => ((s_X5_sumUnderWay F u v2).bind fun y3 => ((s_X5_part F u v2 2).bind fun y4 => (if (y2 - y3) = y4 then (s_X5_audit_b59 F (s_X5_audit_l13 F n) u v2 (y2 - y3) v1 0) else (s_X5_audit_b59 F (s_X5_audit_l13 F n) u v2 (y2 - y3) v1 1))))) else (s_X5_audit_l13 F n u v1 (v2 + 1))))
theorem e_X5_audit_l13 (F : Nat) (n : Nat) (u : S_X5) (v1 : Int32) (v2 : Int32) : s_X5_audit_l13 F (n + 1) u v1 v2 = if ((a_X5_state u) (1 : Int32).toNatClampNeg) ≤ v2 then (some (v1, u)) else ((s_X5_lives F u v2).bind fun y1 => (if y1 then ((s_X5_truth F u v2).bind fun y2 => ((s_X5_sumUnderWay F u v2).bind fun y3 => ((s_X5_part F u v2 2).bind fun y4 => (if (y2 - y3) = y4 then (s_X5_audit_b59 F (s_X5_audit_l13 F n) u v2 (y2 - y3) v1 0) else (s_X5_audit_b59 F (s_X5_audit_l13 F n) u v2 (y2 - y3) v1 1))))) else (s_X5_audit_l13 F n u v1 (v2 + 1)))) := rfl

def s_X5_audit (F : Nat) (u : S_X5) : Option (Int32 × S_X5) := (s_X5_save F (m_X5_thrown 0 u)).bind fun y1 => (s_X5_audit_l13 F F y1 0 0)

def s_X5_append_b30 (F : Nat) (u : S_X5) (v1 : Int32) (p1 : Int32) : Option (Int32 × S_X5) := if p1 ≤ 0 then (if lf_ix (a_X5_textLength u) 60 then (some ((a_X5_textLength u) + 1, m_X5_textLength ((a_X5_textLength u) + 1) (m_X5_text (upd (a_X5_text u) ((a_X5_textLength u).toNatClampNeg) v1) (m_X5_thrown p1 u)))) else none) else (some (0, m_X5_thrown p1 u))

def s_X5_append (F : Nat) (u : S_X5) (v1 : Int32) : Option (Int32 × S_X5) := (s_X5_within F v1 33 126).bind fun y1 => (if y1 then (if (a_X5_textLength u) = 60 then (s_X5_append_b30 F u v1 2) else (s_X5_append_b30 F u v1 0)) else (s_X5_append_b30 F u v1 1))

def s_X5_clearBuffer (F : Nat) (u : S_X5) : Option (Int32 × S_X5) := some (a_X5_textLength u, m_X5_textLength 0 (m_X5_thrown 0 u))

def s_X5_stepAt (F : Nat) (v0 : Int32) : Option Int32 := if v0 = 104 then (some (2)) else (if v0 = 105 then (some ((-1))) else (if v0 = 106 then (some (9)) else (if v0 = 107 then (some ((-1))) else (if v0 = 108 then (some ((-1))) else (if v0 = 109 then (some ((-1))) else (if v0 = 110 then (some (1)) else (if v0 = 111 then (some ((-1))) else (if v0 = 112 then (some ((-1))) else (if v0 = 113 then (some ((-1))) else (if v0 = 114 then (some ((-1))) else (if v0 = 115 then (some (5)) else (if v0 = 116 then (some (8)) else (some ((-1)))))))))))))))

def s_X5_afterDigit (F : Nat) (v0 : Int32) (v1 : Int32) (v2 : Int32) (v3 : Int32) : Option Int32 := (s_X5_within F v0 0 9).bind fun y1 => (if y1 then (if v0 = 1 then (some (v1)) else (if v0 = 2 then (some (v2)) else (some (v3)))) else (some ((-1))))

def s_X5_next_b209 (F : Nat) (v1 : Int32) (v3 : Int32) : Option Int32 := if v3 = 0 then (if v1 = 59 then (some (0)) else (some ((-1)))) else (some (9))

def s_X5_next_b305 (F : Nat) (v1 : Int32) : Option Int32 := if v1 = 59 then (some (0)) else (some ((-1)))

def s_X5_next (F : Nat) (v0 : Int32) (v1 : Int32) : Option Int32 := (s_X5_within F (v1 - 48) 0 9).bind fun y1 => (if v0 = 0 then ((s_X5_stepAt F v1).bind fun y2 => (some (y2))) else (if v0 = 1 then (if y1 then (some (9)) else (some ((-1)))) else (if v0 = 2 then ((s_X5_within F (v1 - 48) 0 3).bind fun y3 => (if y3 then (some (3)) else (some ((-1))))) else (if v0 = 3 then (if v1 = 61 then (some (4)) else (some ((-1)))) else (if v0 = 4 then (if v1 = 45 then (some (9)) else ((s_X5_afterDigit F (v1 - 48) 10 11 9).bind fun y4 => (some (y4)))) else (if v0 = 5 then ((s_X5_afterDigit F (v1 - 48) 12 13 6).bind fun y5 => (some (y5))) else (if v0 = 6 then (if v1 = 46 then (some (7)) else (some ((-1)))) else (if v0 = 7 then ((s_X5_within F (v1 - 48) 0 3).bind fun y6 => (if y6 then (some (3)) else (some ((-1))))) else (if v0 = 8 then ((s_X5_within F (v1 - 48) 1 9).bind fun y7 => (if y7 then (some (14)) else (some ((-1))))) else (if v0 = 9 then (s_X5_next_b305 F v1) else (if v0 = 10 then (s_X5_next_b209 F v1 (ev_b y1)) else (if v0 = 11 then ((s_X5_within F (v1 - 48) 0 3).bind fun y8 => (if y8 then (some (9)) else (if v1 = 59 then (some (0)) else (some ((-1)))))) else (if v0 = 12 then (if y1 then (some (6)) else (if v1 = 46 then (some (7)) else (some ((-1))))) else (if v0 = 13 then ((s_X5_within F (v1 - 48) 0 3).bind fun y9 => (if y9 then (some (6)) else (if v1 = 46 then (some (7)) else (some ((-1)))))) else (if v0 = 14 then (s_X5_next_b209 F v1 (ev_b y1)) else (s_X5_next_b305 F v1))))))))))))))))

def s_X5_firstError_l9 (F : Nat) (u : S_X5) : Nat → Int32 → Int32 → Option (Int32 × S_X5)
  | 0 => fun _ _ => none
  | n + 1 => fun v1 v2 => if (a_X5_textLength u) ≤ v2 then (some (a_X5_textLength u, u)) else (if lf_ix v2 60 then ((s_X5_next F v1 ((a_X5_text u) v2.toNatClampNeg)).bind fun y1 => (if y1 = (-1) then (some (v2, u)) else (s_X5_firstError_l9 F u n y1 (v2 + 1)))) else none)
theorem e_X5_firstError_l9 (F : Nat) (u : S_X5) (n : Nat) (v1 : Int32) (v2 : Int32) : s_X5_firstError_l9 F u (n + 1) v1 v2 = if (a_X5_textLength u) ≤ v2 then (some (a_X5_textLength u, u)) else (if lf_ix v2 60 then ((s_X5_next F v1 ((a_X5_text u) v2.toNatClampNeg)).bind fun y1 => (if y1 = (-1) then (some (v2, u)) else (s_X5_firstError_l9 F u n y1 (v2 + 1)))) else none) := rfl

def s_X5_firstError (F : Nat) (u : S_X5) : Option (Int32 × S_X5) := s_X5_firstError_l9 F (m_X5_thrown 0 u) F 0 0

def s_X5_isStepOver (F : Nat) (v0 : Int32) : Option Bool := if v0 = 9 then (some (true)) else (if v0 = 10 then (some (true)) else (if v0 = 11 then (some (true)) else (if v0 = 14 then (some (true)) else (some (false)))))

def s_X5_isProgram_b34 (F : Nat) (u : S_X5) (v1 : Int32) : Option Bool := (s_X5_isStepOver F v1).bind fun y1 => (some (y1))

def s_X5_isProgram_l4 (F : Nat) (u : S_X5) : Nat → Int32 → Int32 → Option Bool
  | 0 => fun _ _ => none
  | n + 1 => fun v1 v2 => if (a_X5_textLength u) ≤ v2 then (s_X5_isProgram_b34 F u v1) else (if v1 = (-1) then (s_X5_isProgram_b34 F u v1) else (if lf_ix v2 60 then ((s_X5_next F v1 ((a_X5_text u) v2.toNatClampNeg)).bind fun y1 => (s_X5_isProgram_l4 F u n y1 (v2 + 1))) else none))
theorem e_X5_isProgram_l4 (F : Nat) (u : S_X5) (n : Nat) (v1 : Int32) (v2 : Int32) : s_X5_isProgram_l4 F u (n + 1) v1 v2 = if (a_X5_textLength u) ≤ v2 then (s_X5_isProgram_b34 F u v1) else (if v1 = (-1) then (s_X5_isProgram_b34 F u v1) else (if lf_ix v2 60 then ((s_X5_next F v1 ((a_X5_text u) v2.toNatClampNeg)).bind fun y1 => (s_X5_isProgram_l4 F u n y1 (v2 + 1))) else none)) := rfl

def s_X5_isProgram (F : Nat) (u : S_X5) : Option Bool := s_X5_isProgram_l4 F u F 0 0

def s_X5_note_b96 (F : Nat) (u : S_X5) (v3 : Int32) : Option S_X5 := (s_X5_within F v3 0 9).bind fun y1 => (if y1 then (some (m_X5_first ((10 * (a_X5_first u)) + v3) u)) else (some (m_X5_first (a_X5_first u) u)))

def s_X5_note_b155 (F : Nat) (u : S_X5) (v3 : Int32) : Option S_X5 := some (m_X5_held ((10 * (a_X5_held u)) + v3) u)

def s_X5_note (F : Nat) (u : S_X5) (v1 : Int32) (v2 : Int32) : Option S_X5 := if v1 = 0 then (some (m_X5_kind v2 u)) else (if v1 = 1 then (some (m_X5_first (v2 - 48) u)) else (if v1 = 2 then (some (m_X5_first (v2 - 48) u)) else (if v1 = 3 then (some (u)) else (if v1 = 4 then (if v2 = 45 then (some (m_X5_held (-1) u)) else (some (m_X5_held (v2 - 48) u))) else (if v1 = 5 then (some (m_X5_first (v2 - 48) u)) else (if v1 = 6 then (some (u)) else (if v1 = 7 then (some (m_X5_second (v2 - 48) u)) else (if v1 = 8 then (some (m_X5_first (v2 - 48) u)) else (if v1 = 9 then (some (u)) else (if v1 = 10 then (s_X5_note_b155 F u (v2 - 48)) else (if v1 = 11 then (s_X5_note_b155 F u (v2 - 48)) else (if v1 = 12 then (s_X5_note_b96 F u (v2 - 48)) else (if v1 = 13 then (s_X5_note_b96 F u (v2 - 48)) else (if v1 = 14 then (s_X5_note_b96 F u (v2 - 48)) else (some (u))))))))))))))))

def s_X5_does_b27 (F : Nat) (u : S_X5) (p0 : Int32) : Option (Bool × S_X5) := if p0 = 0 then (if p0 = 0 then some (false, u) else if p0 = 1 then some (true, u) else none) else ((s_X5_added F u (a_X5_first u)).bind fun y1 => (if p0 = 0 then some (false, y1.2) else if p0 = 1 then some (true, y1.2) else none))

def s_X5_does_b73 (F : Nat) (u : S_X5) (p0 : Int32) : Option (Bool × S_X5) := if p0 = 0 then (if p0 = 0 then some (false, u) else if p0 = 1 then some (true, u) else none) else ((s_X5_changed F u (13 + (a_X5_first u)) (a_X5_held u)).bind fun y1 => (if p0 = 0 then some (false, y1.2) else if p0 = 1 then some (true, y1.2) else none))

def s_X5_does_b130 (F : Nat) (u : S_X5) (p0 : Int32) : Option (Bool × S_X5) := if p0 = 0 then (if p0 = 0 then some (false, u) else if p0 = 1 then some (true, u) else none) else ((s_X5_changed F u ((257 + (4 * (a_X5_first u))) + (a_X5_second u)) (a_X5_held u)).bind fun y1 => (if p0 = 0 then some (false, y1.2) else if p0 = 1 then some (true, y1.2) else none))

def s_X5_does_b187 (F : Nat) (u : S_X5) (p0 : Int32) : Option (Bool × S_X5) := if p0 = 0 then (if p0 = 0 then some (false, u) else if p0 = 1 then some (true, u) else none) else ((s_X5_passed F u (a_X5_first u)).bind fun y1 => (if p0 = 0 then some (false, y1.2) else if p0 = 1 then some (true, y1.2) else none))

def s_X5_does (F : Nat) (u : S_X5) : Option (Bool × S_X5) := if (a_X5_kind u) = 110 then ((s_X5_whyNotAdded F u (a_X5_first u)).bind fun y5 => (if y5 = 0 then (s_X5_does_b27 F u 1) else (s_X5_does_b27 F u 0))) else (if (a_X5_kind u) = 104 then ((s_X5_whyNotTaken F u (a_X5_first u) (a_X5_held u)).bind fun y4 => (if y4 = 0 then (s_X5_does_b73 F u 1) else (s_X5_does_b73 F u 0))) else (if (a_X5_kind u) = 115 then ((s_X5_whyNotPut F u (a_X5_first u) (a_X5_second u) (a_X5_held u)).bind fun y3 => (if y3 = 0 then (s_X5_does_b130 F u 1) else (s_X5_does_b130 F u 0))) else (if (a_X5_kind u) = 116 then ((s_X5_whyNotPassed F u (a_X5_first u)).bind fun y2 => (if y2 = 0 then (s_X5_does_b187 F u 1) else (s_X5_does_b187 F u 0))) else ((s_X5_holdTrial F u).bind fun y1 => (some (true, y1))))))

def s_X5_run_b77 (F : Nat) (k38 : S_X5 → Int32 → Int32 → Int32 → Int32 → Option (Int32 × S_X5)) (u : S_X5) (v1 : Int32) (v2 : Int32) (v3 : Int32) (v4 : Int32) (p0 : Int32) : Option (Int32 × S_X5) := if p0 = 0 then (if lf_ix v4 60 then ((s_X5_note F u v2 ((a_X5_text u) v4.toNatClampNeg)).bind fun y1 => (if lf_ix v4 60 then ((s_X5_next F v2 ((a_X5_text y1) v4.toNatClampNeg)).bind fun y2 => (k38 y1 v1 y2 v3 (v4 + 1))) else none)) else none) else ((s_X5_does F u).bind fun y3 => (if y3.1 then (k38 y3.2 (v1 + 1) 0 (ev_b y3.1) (v4 + 1)) else (k38 y3.2 (v1 + 0) 0 (ev_b y3.1) (v4 + 1))))

def s_X5_run_l38 (F : Nat) : Nat → S_X5 → Int32 → Int32 → Int32 → Int32 → Option (Int32 × S_X5)
  | 0 => fun _ _ _ _ _ => none
  | n + 1 => fun u v1 v2 v3 v4 => if (a_X5_textLength u) < v4 then (some (v1, m_X5_textLength 0 u)) else (if v3 = 0 then (some (v1, m_X5_textLength 0 u)) else (if v4 = (a_X5_textLength u) then (s_X5_run_b77 F (s_X5_run_l38 F n) u v1 v2 v3 v4 1) else (if lf_ix v4 60 then (if ((a_X5_text u) v4.toNatClampNeg) = 59 then (s_X5_run_b77 F (s_X5_run_l38 F n) u v1 v2 v3 v4 1) else (s_X5_run_b77 F (s_X5_run_l38 F n) u v1 v2 v3 v4 0)) else none)))
theorem e_X5_run_l38 (F : Nat) (n : Nat) (u : S_X5) (v1 : Int32) (v2 : Int32) (v3 : Int32) (v4 : Int32) : s_X5_run_l38 F (n + 1) u v1 v2 v3 v4 = if (a_X5_textLength u) < v4 then (some (v1, m_X5_textLength 0 u)) else (if v3 = 0 then (some (v1, m_X5_textLength 0 u)) else (if v4 = (a_X5_textLength u) then (s_X5_run_b77 F (s_X5_run_l38 F n) u v1 v2 v3 v4 1) else (if lf_ix v4 60 then (if ((a_X5_text u) v4.toNatClampNeg) = 59 then (s_X5_run_b77 F (s_X5_run_l38 F n) u v1 v2 v3 v4 1) else (s_X5_run_b77 F (s_X5_run_l38 F n) u v1 v2 v3 v4 0)) else none))) := rfl

def s_X5_run_b13 (F : Nat) (u : S_X5) (p1 : Int32) : Option (Int32 × S_X5) := if p1 ≤ 0 then ((s_X5_save F (m_X5_thrown p1 u)).bind fun y1 => (s_X5_run_l38 F F y1 0 0 1 0)) else (some (0, m_X5_thrown p1 u))

def s_X5_run (F : Nat) (u : S_X5) : Option (Int32 × S_X5) := (s_X5_isProgram F u).bind fun y1 => (if y1 then (s_X5_run_b13 F u 0) else (s_X5_run_b13 F u 1))

def s_X5_undo_b13 (F : Nat) (u : S_X5) (p1 : Int32) : Option (Int32 × S_X5) := if p1 ≤ 0 then ((s_X5_copy F 122262 20377 (a_X5_saved u) (a_X5_state u) (((a_X5_savedMany u) - 1) * 20377) 0).bind fun y1 => (some ((a_X5_savedMany u) - 1, m_X5_state y1 (m_X5_savedMany ((a_X5_savedMany u) - 1) (m_X5_thrown p1 u))))) else (some (0, m_X5_thrown p1 u))

def s_X5_undo (F : Nat) (u : S_X5) : Option (Int32 × S_X5) := if (a_X5_savedMany u) ≤ 0 then (s_X5_undo_b13 F u 1) else (s_X5_undo_b13 F u 0)

def s_X5_thingPart (F : Nat) (u : S_X5) (v1 : Int32) (v2 : Int32) : Option (Int32 × S_X5) := if v2 = 0 then ((s_X5_part F u v1 0).bind fun y1 => (some (y1, u))) else (if v2 = 1 then ((s_X5_part F u v1 1).bind fun y2 => (some (y2, u))) else (if v2 = 2 then ((s_X5_part F u v1 2).bind fun y3 => (some (y3, u))) else (if v2 = 3 then ((s_X5_truth F u v1).bind fun y4 => (some (y4, u))) else (if v2 = 4 then ((s_X5_underWay F u v1).bind fun y5 => (some (y5, u))) else (if v2 = 5 then ((s_X5_sumUnderWay F u v1).bind fun y6 => (some (y6, u))) else (if v2 = 6 then ((s_X5_part F u v1 3).bind fun y7 => (some (y7, u))) else (if v2 = 7 then ((s_X5_findReached F u).bind fun y8 => (if lf_ix v1 24 then (some ((a_X5_isReached y8.2) v1.toNatClampNeg, y8.2)) else none)) else ((s_X5_part F u v1 (v2 - 4)).bind fun y9 => (some (y9, u))))))))))

def s_X5_thing_b28 (F : Nat) (u : S_X5) (v1 : Int32) (v2 : Int32) (p1 : Int32) : Option (Int32 × S_X5) := if p1 ≤ 0 then ((s_X5_thingPart F (m_X5_thrown p1 u) v1 v2).bind fun y1 => (some (y1.1, y1.2))) else (some (0, m_X5_thrown p1 u))

def s_X5_thing (F : Nat) (u : S_X5) (v1 : Int32) (v2 : Int32) : Option (Int32 × S_X5) := (s_X5_isThing F u v1).bind fun y1 => (if y1 then ((s_X5_within F v2 0 12).bind fun y2 => (if y2 then (s_X5_thing_b28 F u v1 v2 0) else (s_X5_thing_b28 F u v1 v2 2))) else (s_X5_thing_b28 F u v1 v2 1))

def s_X5_slot_b23 (F : Nat) (u : S_X5) (v1 : Int32) (v2 : Int32) (p1 : Int32) : Option (Int32 × S_X5) := if p1 ≤ 0 then ((s_X5_slotOf F (m_X5_thrown p1 u) v1 v2).bind fun y1 => (some (y1, m_X5_thrown p1 u))) else (some (0, m_X5_thrown p1 u))

def s_X5_slot (F : Nat) (u : S_X5) (v1 : Int32) (v2 : Int32) : Option (Int32 × S_X5) := (s_X5_isThing F u v1).bind fun y1 => (if y1 then ((s_X5_within F v2 0 3).bind fun y2 => (if y2 then (s_X5_slot_b23 F u v1 v2 0) else (s_X5_slot_b23 F u v1 v2 1))) else (s_X5_slot_b23 F u v1 v2 1))

def s_X5_hand_b15 (F : Nat) (u : S_X5) (v1 : Int32) (p1 : Int32) : Option (Int32 × S_X5) := if p1 ≤ 0 then (if lf_ix (13 + v1) 20377 then (some ((a_X5_state u) ((13 + v1).toNatClampNeg), m_X5_thrown p1 u)) else none) else (some (0, m_X5_thrown p1 u))

def s_X5_hand (F : Nat) (u : S_X5) (v1 : Int32) : Option (Int32 × S_X5) := (s_X5_within F v1 0 3).bind fun y1 => (if y1 then (s_X5_hand_b15 F u v1 0) else (s_X5_hand_b15 F u v1 1))

def s_X5_report_b35 (F : Nat) (u : S_X5) (v1 : Int32) (v2 : Int32) (p1 : Int32) : Option (Int32 × S_X5) := if p1 ≤ 0 then ((s_X5_atPlace F (m_X5_thrown p1 u) v1).bind fun y1 => ((s_X5_reportPart F (m_X5_thrown p1 u) y1 v2).bind fun y2 => (some (y2, m_X5_thrown p1 u)))) else (some (0, m_X5_thrown p1 u))

def s_X5_report (F : Nat) (u : S_X5) (v1 : Int32) (v2 : Int32) : Option (Int32 × S_X5) := (s_X5_within F v1 0 (((a_X5_state u) (3 : Int32).toNatClampNeg) - 1)).bind fun y1 => (if y1 then ((s_X5_within F v2 0 4).bind fun y2 => (if y2 then (s_X5_report_b35 F u v1 v2 0) else (s_X5_report_b35 F u v1 v2 2))) else (s_X5_report_b35 F u v1 v2 1))

def s_X5_ended_b22 (F : Nat) (u : S_X5) (v1 : Int32) (p1 : Int32) : Option (Int32 × S_X5) := if p1 ≤ 0 then (if lf_ix (353 + v1) 20377 then (some ((a_X5_state u) ((353 + v1).toNatClampNeg), m_X5_thrown p1 u)) else none) else (some (0, m_X5_thrown p1 u))

def s_X5_ended (F : Nat) (u : S_X5) (v1 : Int32) : Option (Int32 × S_X5) := (s_X5_within F v1 0 (((a_X5_state u) (4 : Int32).toNatClampNeg) - 1)).bind fun y1 => (if y1 then (s_X5_ended_b22 F u v1 0) else (s_X5_ended_b22 F u v1 1))

def s_X5_living_l4 (F : Nat) (u : S_X5) : Nat → Int32 → Int32 → Option Int32
  | 0 => fun _ _ => none
  | n + 1 => fun v1 v2 => if ((a_X5_state u) (1 : Int32).toNatClampNeg) ≤ v2 then (some (v1)) else ((s_X5_part F u v2 0).bind fun y1 => (s_X5_living_l4 F u n (v1 + y1) (v2 + 1)))
theorem e_X5_living_l4 (F : Nat) (u : S_X5) (n : Nat) (v1 : Int32) (v2 : Int32) : s_X5_living_l4 F u (n + 1) v1 v2 = if ((a_X5_state u) (1 : Int32).toNatClampNeg) ≤ v2 then (some (v1)) else ((s_X5_part F u v2 0).bind fun y1 => (s_X5_living_l4 F u n (v1 + y1) (v2 + 1))) := rfl

def s_X5_living (F : Nat) (u : S_X5) : Option Int32 := s_X5_living_l4 F u F 0 0

def s_X5_holding_l38 (F : Nat) (u : S_X5) : Nat → Int32 → Int32 → Option Int32
  | 0 => fun _ _ => none
  | n + 1 => fun v1 v2 => if (4 * ((a_X5_state u) (1 : Int32).toNatClampNeg)) ≤ v2 then (some (v1)) else (if lf_ix (257 + v2) 20377 then (if ((a_X5_state u) ((257 + v2).toNatClampNeg)) = (-1) then (s_X5_holding_l38 F u n (v1 + 0) (v2 + 1)) else (s_X5_holding_l38 F u n (v1 + 1) (v2 + 1))) else none)
theorem e_X5_holding_l38 (F : Nat) (u : S_X5) (n : Nat) (v1 : Int32) (v2 : Int32) : s_X5_holding_l38 F u (n + 1) v1 v2 = if (4 * ((a_X5_state u) (1 : Int32).toNatClampNeg)) ≤ v2 then (some (v1)) else (if lf_ix (257 + v2) 20377 then (if ((a_X5_state u) ((257 + v2).toNatClampNeg)) = (-1) then (s_X5_holding_l38 F u n (v1 + 0) (v2 + 1)) else (s_X5_holding_l38 F u n (v1 + 1) (v2 + 1))) else none) := rfl

def s_X5_holding_l4 (F : Nat) (u : S_X5) : Nat → Int32 → Int32 → Option Int32
  | 0 => fun _ _ => none
  | n + 1 => fun v1 v2 => if 4 ≤ v2 then (s_X5_holding_l38 F u F v1 0) else (if lf_ix (13 + v2) 20377 then (if ((a_X5_state u) ((13 + v2).toNatClampNeg)) = (-1) then (s_X5_holding_l4 F u n (v1 + 0) (v2 + 1)) else (s_X5_holding_l4 F u n (v1 + 1) (v2 + 1))) else none)
theorem e_X5_holding_l4 (F : Nat) (u : S_X5) (n : Nat) (v1 : Int32) (v2 : Int32) : s_X5_holding_l4 F u (n + 1) v1 v2 = if 4 ≤ v2 then (s_X5_holding_l38 F u F v1 0) else (if lf_ix (13 + v2) 20377 then (if ((a_X5_state u) ((13 + v2).toNatClampNeg)) = (-1) then (s_X5_holding_l4 F u n (v1 + 0) (v2 + 1)) else (s_X5_holding_l4 F u n (v1 + 1) (v2 + 1))) else none) := rfl

def s_X5_holding (F : Nat) (u : S_X5) : Option Int32 := s_X5_holding_l4 F u F 0 0

def s_X5_mistaken_l4 (F : Nat) (u : S_X5) : Nat → Int32 → Int32 → Option Int32
  | 0 => fun _ _ => none
  | n + 1 => fun v1 v2 => if ((a_X5_state u) (1 : Int32).toNatClampNeg) ≤ v2 then (some (v1)) else ((s_X5_lives F u v2).bind fun y1 => (if y1 then ((s_X5_part F u v2 2).bind fun y2 => ((s_X5_sumUnderWay F u v2).bind fun y3 => ((s_X5_truth F u v2).bind fun y4 => (if (y2 + y3) = y4 then (s_X5_mistaken_l4 F u n (v1 + 0) (v2 + 1)) else (s_X5_mistaken_l4 F u n (v1 + 1) (v2 + 1)))))) else (s_X5_mistaken_l4 F u n (v1 + 0) (v2 + 1))))
theorem e_X5_mistaken_l4 (F : Nat) (u : S_X5) (n : Nat) (v1 : Int32) (v2 : Int32) : s_X5_mistaken_l4 F u (n + 1) v1 v2 = if ((a_X5_state u) (1 : Int32).toNatClampNeg) ≤ v2 then (some (v1)) else ((s_X5_lives F u v2).bind fun y1 => (if y1 then ((s_X5_part F u v2 2).bind fun y2 => ((s_X5_sumUnderWay F u v2).bind fun y3 => ((s_X5_truth F u v2).bind fun y4 => (if (y2 + y3) = y4 then (s_X5_mistaken_l4 F u n (v1 + 0) (v2 + 1)) else (s_X5_mistaken_l4 F u n (v1 + 1) (v2 + 1)))))) else (s_X5_mistaken_l4 F u n (v1 + 0) (v2 + 1)))) := rfl

def s_X5_mistaken (F : Nat) (u : S_X5) : Option Int32 := s_X5_mistaken_l4 F u F 0 0

def s_X5_countOf (F : Nat) (u : S_X5) (v1 : Int32) : Option (Int32 × S_X5) := if v1 = 0 then (some ((a_X5_state u) (0 : Int32).toNatClampNeg, u)) else (if v1 = 1 then (some ((a_X5_state u) (1 : Int32).toNatClampNeg, u)) else (if v1 = 2 then ((s_X5_living F u).bind fun y1 => (some (y1, u))) else (if v1 = 3 then ((s_X5_findReached F u).bind fun y2 => (some (y2.1, y2.2))) else (if v1 = 4 then ((s_X5_suspects F u).bind fun y3 => (some (y3, u))) else (if v1 = 5 then (some ((a_X5_state u) (3 : Int32).toNatClampNeg, u)) else (if v1 = 6 then (some ((a_X5_state u) (2 : Int32).toNatClampNeg, u)) else (if v1 = 7 then (some ((a_X5_state u) (4 : Int32).toNatClampNeg, u)) else (if v1 = 8 then (some ((a_X5_state u) (5 : Int32).toNatClampNeg, u)) else (if v1 = 9 then (some ((a_X5_state u) (6 : Int32).toNatClampNeg, u)) else (if v1 = 10 then (some ((a_X5_state u) (7 : Int32).toNatClampNeg, u)) else (if v1 = 11 then ((s_X5_holding F u).bind fun y4 => (some (y4, u))) else (if v1 = 12 then ((s_X5_mistaken F u).bind fun y5 => (some (y5, u))) else (some (a_X5_savedMany u, u))))))))))))))

def s_X5_count_b16 (F : Nat) (u : S_X5) (v1 : Int32) (p1 : Int32) : Option (Int32 × S_X5) := if p1 ≤ 0 then ((s_X5_countOf F (m_X5_thrown p1 u) v1).bind fun y1 => (some (y1.1, y1.2))) else (some (0, m_X5_thrown p1 u))

def s_X5_count (F : Nat) (u : S_X5) (v1 : Int32) : Option (Int32 × S_X5) := (s_X5_within F v1 0 13).bind fun y1 => (if y1 then (s_X5_count_b16 F u v1 0) else (s_X5_count_b16 F u v1 1))

def s_X5_setting_b13 (F : Nat) (u : S_X5) (v1 : Int32) (p1 : Int32) : Option (Int32 × S_X5) := if p1 ≤ 0 then (if lf_ix (8 + v1) 20377 then (some ((a_X5_state u) ((8 + v1).toNatClampNeg), m_X5_thrown p1 u)) else none) else (some (0, m_X5_thrown p1 u))

def s_X5_setting (F : Nat) (u : S_X5) (v1 : Int32) : Option (Int32 × S_X5) := (s_X5_isSetting F v1).bind fun y1 => (if y1 then (s_X5_setting_b13 F u v1 0) else (s_X5_setting_b13 F u v1 1))

def s_X5_wouldPass (F : Nat) (u : S_X5) (v1 : Int32) (v2 : Int32) : Option (Int32 × S_X5) := (s_X5_copy F 20377 20377 (a_X5_state u) (a_X5_kept u) 0 0).bind fun y1 => ((s_X5_passed F (m_X5_kept y1 u) v1).bind fun y2 => ((s_X5_living F y2.2).bind fun y3 => ((s_X5_findReached F y2.2).bind fun y4 => ((s_X5_copy F 20377 20377 (a_X5_kept y4.2) (a_X5_state y4.2) 0 0).bind fun y5 => (if v2 = 0 then (some (y2.1, m_X5_state y5 y4.2)) else (if v2 = 1 then (some (((a_X5_state y2.2) (6 : Int32).toNatClampNeg) - ((a_X5_kept y2.2) (6 : Int32).toNatClampNeg), m_X5_state y5 y4.2)) else (if v2 = 2 then (some ((a_X5_state y2.2) (3 : Int32).toNatClampNeg, m_X5_state y5 y4.2)) else (some (y3 - y4.1, m_X5_state y5 y4.2)))))))))

def s_X5_ifPassed_b25 (F : Nat) (u : S_X5) (v1 : Int32) (v2 : Int32) (p1 : Int32) : Option (Int32 × S_X5) := if p1 ≤ 0 then ((s_X5_wouldPass F (m_X5_thrown p1 u) v1 v2).bind fun y1 => (some (y1.1, y1.2))) else (some (0, m_X5_thrown p1 u))

def s_X5_ifPassed (F : Nat) (u : S_X5) (v1 : Int32) (v2 : Int32) : Option (Int32 × S_X5) := (s_X5_within F v1 1 100).bind fun y1 => (if y1 then ((s_X5_within F v2 0 3).bind fun y2 => (if y2 then (s_X5_ifPassed_b25 F u v1 v2 0) else (s_X5_ifPassed_b25 F u v1 v2 1))) else (s_X5_ifPassed_b25 F u v1 v2 1))

def s_X5_wouldEnd_b40 (F : Nat) (u : S_X5) (v2 : Int32) : Option (Int32 × S_X5) := (s_X5_copy F 20377 20377 (a_X5_kept u) (a_X5_state u) 0 0).bind fun y1 => (if 200 < v2 then (some ((-1), m_X5_state y1 u)) else (some (v2, m_X5_state y1 u)))

def s_X5_wouldEnd_l15 (F : Nat) (v1 : Int32) : Nat → S_X5 → Int32 → Option (Int32 × S_X5)
  | 0 => fun _ _ => none
  | n + 1 => fun u v2 => (s_X5_lives F u v1).bind fun y1 => (if y1 then (if 200 < v2 then (s_X5_wouldEnd_b40 F u v2) else ((s_X5_tick F u).bind fun y2 => (s_X5_wouldEnd_l15 F v1 n y2 (v2 + 1)))) else (s_X5_wouldEnd_b40 F u v2))
theorem e_X5_wouldEnd_l15 (F : Nat) (v1 : Int32) (n : Nat) (u : S_X5) (v2 : Int32) : s_X5_wouldEnd_l15 F v1 (n + 1) u v2 = (s_X5_lives F u v1).bind fun y1 => (if y1 then (if 200 < v2 then (s_X5_wouldEnd_b40 F u v2) else ((s_X5_tick F u).bind fun y2 => (s_X5_wouldEnd_l15 F v1 n y2 (v2 + 1)))) else (s_X5_wouldEnd_b40 F u v2)) := rfl

def s_X5_wouldEnd (F : Nat) (u : S_X5) (v1 : Int32) : Option (Int32 × S_X5) := (s_X5_copy F 20377 20377 (a_X5_state u) (a_X5_kept u) 0 0).bind fun y1 => (s_X5_wouldEnd_l15 F v1 F (m_X5_kept y1 u) 0)

def s_X5_endsIn_b14 (F : Nat) (u : S_X5) (v1 : Int32) (p1 : Int32) : Option (Int32 × S_X5) := if p1 ≤ 0 then ((s_X5_wouldEnd F (m_X5_thrown p1 u) v1).bind fun y1 => (some (y1.1, y1.2))) else (some (0, m_X5_thrown p1 u))

def s_X5_endsIn (F : Nat) (u : S_X5) (v1 : Int32) : Option (Int32 × S_X5) := (s_X5_isThing F u v1).bind fun y1 => (if y1 then (s_X5_endsIn_b14 F u v1 0) else (s_X5_endsIn_b14 F u v1 1))

def s_X5_wouldTry_b64 (F : Nat) (u : S_X5) (p0 : Int32) : Option (Int32 × S_X5) := (s_X5_copy F 20377 20377 (a_X5_kept u) (a_X5_state u) 0 0).bind fun y1 => (some (p0, m_X5_state y1 u))

def s_X5_wouldTry (F : Nat) (u : S_X5) (v1 : Int32) : Option (Int32 × S_X5) := (s_X5_copy F 20377 20377 (a_X5_state u) (a_X5_kept u) 0 0).bind fun y1 => ((s_X5_holdTrial F (m_X5_kept y1 u)).bind fun y2 => (if v1 = 0 then (s_X5_wouldTry_b64 F y2 (((a_X5_state y2) (4 : Int32).toNatClampNeg) - ((a_X5_kept y2) (4 : Int32).toNatClampNeg))) else (if v1 = 1 then ((s_X5_suspects F y2).bind fun y3 => (s_X5_wouldTry_b64 F y2 y3)) else (s_X5_wouldTry_b64 F y2 (((a_X5_state y2) (6 : Int32).toNatClampNeg) - ((a_X5_kept y2) (6 : Int32).toNatClampNeg))))))

def s_X5_ifTried_b15 (F : Nat) (u : S_X5) (v1 : Int32) (p1 : Int32) : Option (Int32 × S_X5) := if p1 ≤ 0 then ((s_X5_wouldTry F (m_X5_thrown p1 u) v1).bind fun y1 => (some (y1.1, y1.2))) else (some (0, m_X5_thrown p1 u))

def s_X5_ifTried (F : Nat) (u : S_X5) (v1 : Int32) : Option (Int32 × S_X5) := (s_X5_within F v1 0 2).bind fun y1 => (if y1 then (s_X5_ifTried_b15 F u v1 0) else (s_X5_ifTried_b15 F u v1 1))

def s_X5_findFrom_b50 (F : Nat) (u : S_X5) : Option S_X5 := (s_X5_spread_p6 F u).bind fun y1 => (some (y1))

def s_X5_findFrom_l9 (F : Nat) (v1 : Int32) : Nat → S_X5 → Int32 → Option S_X5
  | 0 => fun _ _ => none
  | n + 1 => fun u v2 => if 4 ≤ v2 then (s_X5_findFrom_b50 F u) else ((s_X5_lives F u v1).bind fun y1 => (if y1 then ((s_X5_slotOf F u v1 v2).bind fun y2 => (if y2 = (-1) then (s_X5_findFrom_l9 F v1 n u (v2 + 1)) else ((s_X5_slotOf F u v1 v2).bind fun y3 => (if lf_ix y3 24 then (s_X5_findFrom_l9 F v1 n (m_X5_isInSet (upd (a_X5_isInSet u) y3.toNatClampNeg 1) u) (v2 + 1)) else none)))) else (s_X5_findFrom_b50 F u)))
theorem e_X5_findFrom_l9 (F : Nat) (v1 : Int32) (n : Nat) (u : S_X5) (v2 : Int32) : s_X5_findFrom_l9 F v1 (n + 1) u v2 = if 4 ≤ v2 then (s_X5_findFrom_b50 F u) else ((s_X5_lives F u v1).bind fun y1 => (if y1 then ((s_X5_slotOf F u v1 v2).bind fun y2 => (if y2 = (-1) then (s_X5_findFrom_l9 F v1 n u (v2 + 1)) else ((s_X5_slotOf F u v1 v2).bind fun y3 => (if lf_ix y3 24 then (s_X5_findFrom_l9 F v1 n (m_X5_isInSet (upd (a_X5_isInSet u) y3.toNatClampNeg 1) u) (v2 + 1)) else none)))) else (s_X5_findFrom_b50 F u))) := rfl

def s_X5_findFrom (F : Nat) (u : S_X5) (v1 : Int32) : Option S_X5 := (s_X5_clear F 24 (a_X5_isInSet u)).bind fun y1 => (s_X5_findFrom_l9 F v1 F (m_X5_isInSet y1 u) 0)

def s_X5_ringOf_l41 (F : Nat) (v1 : Int32) (v2 : Int32) : Nat → S_X5 → Int32 → Int32 → Option (Int32 × S_X5)
  | 0 => fun _ _ _ => none
  | n + 1 => fun u v3 v4 => if ((a_X5_state u) (1 : Int32).toNatClampNeg) ≤ v4 then (some (v3, u)) else (if ((v2 >>> (v4 &&& 31)) &&& 1) = 1 then ((s_X5_findFrom F u v4).bind fun y1 => (if lf_ix v1 24 then (s_X5_ringOf_l41 F v1 v2 n y1 (v3 ||| (((a_X5_isInSet y1) v1.toNatClampNeg) <<< (v4 &&& 31))) (v4 + 1)) else none)) else (s_X5_ringOf_l41 F v1 v2 n u v3 (v4 + 1)))
theorem e_X5_ringOf_l41 (F : Nat) (v1 : Int32) (v2 : Int32) (n : Nat) (u : S_X5) (v3 : Int32) (v4 : Int32) : s_X5_ringOf_l41 F v1 v2 (n + 1) u v3 v4 = if ((a_X5_state u) (1 : Int32).toNatClampNeg) ≤ v4 then (some (v3, u)) else (if ((v2 >>> (v4 &&& 31)) &&& 1) = 1 then ((s_X5_findFrom F u v4).bind fun y1 => (if lf_ix v1 24 then (s_X5_ringOf_l41 F v1 v2 n y1 (v3 ||| (((a_X5_isInSet y1) v1.toNatClampNeg) <<< (v4 &&& 31))) (v4 + 1)) else none)) else (s_X5_ringOf_l41 F v1 v2 n u v3 (v4 + 1))) := rfl

def s_X5_ringOf_l9 (F : Nat) (u : S_X5) (v1 : Int32) : Nat → Int32 → Int32 → Option (Int32 × S_X5)
  | 0 => fun _ _ => none
  | n + 1 => fun v2 v3 => if ((a_X5_state u) (1 : Int32).toNatClampNeg) ≤ v3 then (s_X5_ringOf_l41 F v1 v2 F u 0 0) else (if lf_ix v3 24 then (s_X5_ringOf_l9 F u v1 n (v2 ||| (((a_X5_isInSet u) v3.toNatClampNeg) <<< (v3 &&& 31))) (v3 + 1)) else none)
theorem e_X5_ringOf_l9 (F : Nat) (u : S_X5) (v1 : Int32) (n : Nat) (v2 : Int32) (v3 : Int32) : s_X5_ringOf_l9 F u v1 (n + 1) v2 v3 = if ((a_X5_state u) (1 : Int32).toNatClampNeg) ≤ v3 then (s_X5_ringOf_l41 F v1 v2 F u 0 0) else (if lf_ix v3 24 then (s_X5_ringOf_l9 F u v1 n (v2 ||| (((a_X5_isInSet u) v3.toNatClampNeg) <<< (v3 &&& 31))) (v3 + 1)) else none) := rfl

def s_X5_ringOf (F : Nat) (u : S_X5) (v1 : Int32) : Option (Int32 × S_X5) := (s_X5_findFrom F u v1).bind fun y1 => (s_X5_ringOf_l9 F y1 v1 F 0 0)

def s_X5_ring_b14 (F : Nat) (u : S_X5) (v1 : Int32) (p1 : Int32) : Option (Int32 × S_X5) := if p1 ≤ 0 then ((s_X5_ringOf F (m_X5_thrown p1 u) v1).bind fun y1 => (some (y1.1, y1.2))) else (some (0, m_X5_thrown p1 u))

def s_X5_ring (F : Nat) (u : S_X5) (v1 : Int32) : Option (Int32 × S_X5) := (s_X5_isThing F u v1).bind fun y1 => (if y1 then (s_X5_ring_b14 F u v1 0) else (s_X5_ring_b14 F u v1 1))

def s_X5_cut_b128 (F : Nat) (u : S_X5) (v1 : Int32) (v3 : Int32) (v4 : Int32) : Option (Int32 × S_X5) := if v1 = 0 then (some (v3, u)) else (some (v4, u))

def s_X5_cut_b105 (F : Nat) (k13 : S_X5 → Int32 → Int32 → Int32 → Option (Int32 × S_X5)) (u : S_X5) (v1 : Int32) (v2 : Int32) (v4 : Int32) (v5 : Int32) (v8 : Int32) (p0 : Int32) : Option (Int32 × S_X5) := if v8 ≤ v4 then (k13 u p0 v4 (v5 + 1)) else (k13 u p0 v8 (v5 + 1))

def s_X5_cut_b50 (F : Nat) (k13 : S_X5 → Int32 → Int32 → Int32 → Option (Int32 × S_X5)) (u : S_X5) (v1 : Int32) (v2 : Int32) (v3 : Int32) (v4 : Int32) (v5 : Int32) (p0 : Int32) : Option (Int32 × S_X5) := if lf_ix p0 20377 then (if ((a_X5_state u) p0.toNatClampNeg) = (-1) then (k13 u v3 v4 (v5 + 1)) else (if lf_ix p0 20377 then ((s_X5_findReached F (m_X5_state (upd (a_X5_state u) p0.toNatClampNeg (-1)) u)).bind fun y1 => (if lf_ix p0 20377 then (if (v2 - y1.1) ≤ v4 then (s_X5_cut_b105 F k13 (m_X5_state (upd (a_X5_state y1.2) p0.toNatClampNeg ((a_X5_state u) p0.toNatClampNeg)) y1.2) v1 v2 v4 v5 (v2 - y1.1) v3) else (s_X5_cut_b105 F k13 (m_X5_state (upd (a_X5_state y1.2) p0.toNatClampNeg ((a_X5_state u) p0.toNatClampNeg)) y1.2) v1 v2 v4 v5 (v2 - y1.1) v5)) else none)) else none)) else none

def s_X5_cut_l13 (F : Nat) (v1 : Int32) (v2 : Int32) : Nat → S_X5 → Int32 → Int32 → Int32 → Option (Int32 × S_X5)
  | 0 => fun _ _ _ _ => none
  | n + 1 => fun u v3 v4 v5 => if (4 + (4 * ((a_X5_state u) (1 : Int32).toNatClampNeg))) ≤ v5 then (s_X5_cut_b128 F u v1 v3 v4) else (if 4 ≤ v5 then (s_X5_cut_b50 F (s_X5_cut_l13 F v1 v2 n) u v1 v2 v3 v4 v5 ((257 + v5) - 4)) else (s_X5_cut_b50 F (s_X5_cut_l13 F v1 v2 n) u v1 v2 v3 v4 v5 (13 + v5)))
theorem e_X5_cut_l13 (F : Nat) (v1 : Int32) (v2 : Int32) (n : Nat) (u : S_X5) (v3 : Int32) (v4 : Int32) (v5 : Int32) : s_X5_cut_l13 F v1 v2 (n + 1) u v3 v4 v5 = if (4 + (4 * ((a_X5_state u) (1 : Int32).toNatClampNeg))) ≤ v5 then (s_X5_cut_b128 F u v1 v3 v4) else (if 4 ≤ v5 then (s_X5_cut_b50 F (s_X5_cut_l13 F v1 v2 n) u v1 v2 v3 v4 v5 ((257 + v5) - 4)) else (s_X5_cut_b50 F (s_X5_cut_l13 F v1 v2 n) u v1 v2 v3 v4 v5 (13 + v5))) := rfl

def s_X5_cut (F : Nat) (u : S_X5) (v1 : Int32) : Option (Int32 × S_X5) := (s_X5_findReached F u).bind fun y1 => (s_X5_cut_l13 F v1 y1.1 F y1.2 (-1) 0 0)

def s_X5_bestCut_b15 (F : Nat) (u : S_X5) (v1 : Int32) (p1 : Int32) : Option (Int32 × S_X5) := if p1 ≤ 0 then ((s_X5_cut F (m_X5_thrown p1 u) v1).bind fun y1 => (some (y1.1, y1.2))) else (some (0, m_X5_thrown p1 u))

def s_X5_bestCut (F : Nat) (u : S_X5) (v1 : Int32) : Option (Int32 × S_X5) := (s_X5_within F v1 0 1).bind fun y1 => (if y1 then (s_X5_bestCut_b15 F u v1 0) else (s_X5_bestCut_b15 F u v1 1))

def s_X5_wouldBear_b78 (F : Nat) (k17 : S_X5 → Int32 → Int32 → Option (Int32 × S_X5)) (u : S_X5) (v1 : Int32) (v3 : Int32) (p0 : Int32) : Option (Int32 × S_X5) := (s_X5_copy F 20377 20377 (a_X5_kept u) (a_X5_state u) 0 0).bind fun y1 => (k17 (m_X5_state y1 u) p0 (v3 + 1))

def s_X5_wouldBear_b58 (F : Nat) (k17 : S_X5 → Int32 → Int32 → Option (Int32 × S_X5)) (u : S_X5) (v1 : Int32) (v3 : Int32) : Option (Int32 × S_X5) := (s_X5_passed F u 30).bind fun y1 => ((s_X5_lives F y1.2 v1).bind fun y2 => (if y2 then (s_X5_wouldBear_b78 F k17 y1.2 v1 v3 (-1)) else (s_X5_wouldBear_b78 F k17 y1.2 v1 v3 v3)))

def s_X5_wouldBear_l31 (F : Nat) (v1 : Int32) (v3 : Int32) (k17 : S_X5 → Int32 → Int32 → Option (Int32 × S_X5)) : Nat → S_X5 → Int32 → Option (Int32 × S_X5)
  | 0 => fun _ _ => none
  | n + 1 => fun u v4 => if v3 ≤ v4 then (s_X5_wouldBear_b58 F k17 u v1 v3) else ((s_X5_lives F u v1).bind fun y1 => (if y1 then ((s_X5_slandered F u v1 (-1)).bind fun y2 => (s_X5_wouldBear_l31 F v1 v3 k17 n y2.2 (v4 + 1))) else (s_X5_wouldBear_b58 F k17 u v1 v3)))
theorem e_X5_wouldBear_l31 (F : Nat) (v1 : Int32) (v3 : Int32) (k17 : S_X5 → Int32 → Int32 → Option (Int32 × S_X5)) (n : Nat) (u : S_X5) (v4 : Int32) : s_X5_wouldBear_l31 F v1 v3 k17 (n + 1) u v4 = if v3 ≤ v4 then (s_X5_wouldBear_b58 F k17 u v1 v3) else ((s_X5_lives F u v1).bind fun y1 => (if y1 then ((s_X5_slandered F u v1 (-1)).bind fun y2 => (s_X5_wouldBear_l31 F v1 v3 k17 n y2.2 (v4 + 1))) else (s_X5_wouldBear_b58 F k17 u v1 v3))) := rfl

def s_X5_wouldBear_l17 (F : Nat) (v1 : Int32) : Nat → S_X5 → Int32 → Int32 → Option (Int32 × S_X5)
  | 0 => fun _ _ _ => none
  | n + 1 => fun u v2 v3 => if 12 < v3 then (some (v2, u)) else (if v2 = (-1) then (s_X5_wouldBear_l31 F v1 v3 (s_X5_wouldBear_l17 F v1 n) F u 0) else (some (v2, u)))
theorem e_X5_wouldBear_l17 (F : Nat) (v1 : Int32) (n : Nat) (u : S_X5) (v2 : Int32) (v3 : Int32) : s_X5_wouldBear_l17 F v1 (n + 1) u v2 v3 = if 12 < v3 then (some (v2, u)) else (if v2 = (-1) then (s_X5_wouldBear_l31 F v1 v3 (s_X5_wouldBear_l17 F v1 n) F u 0) else (some (v2, u))) := rfl

def s_X5_wouldBear (F : Nat) (u : S_X5) (v1 : Int32) : Option (Int32 × S_X5) := (s_X5_copy F 20377 20377 (a_X5_state u) (a_X5_kept u) 0 0).bind fun y1 => (s_X5_wouldBear_l17 F v1 F (m_X5_kept y1 u) (-1) 0)

def s_X5_bears_b14 (F : Nat) (u : S_X5) (v1 : Int32) (p1 : Int32) : Option (Int32 × S_X5) := if p1 ≤ 0 then ((s_X5_wouldBear F (m_X5_thrown p1 u) v1).bind fun y1 => (some (y1.1, y1.2))) else (some (0, m_X5_thrown p1 u))

def s_X5_bears (F : Nat) (u : S_X5) (v1 : Int32) : Option (Int32 × S_X5) := (s_X5_isThing F u v1).bind fun y1 => (if y1 then (s_X5_bears_b14 F u v1 0) else (s_X5_bears_b14 F u v1 1))

def s_X5_doubleBits_b84 (F : Nat) (v4 : Int32) (p0 : Int64) (p1 : Int64) : Option Int64 := some ((((1075 - v4 : Int32).toInt64) <<< ((52 : Int32).toInt64 &&& 63)) + ((p0 + p1) - 4503599627370496))

def s_X5_doubleBits_b34 (F : Nat) (v1 : Int32) (v2 : Int64) (v4 : Int32) : Option Int64 := if ¬ ((v1 : Int32).toInt64 : Int64) = 0 then (if ¬ ((v1 : Int32).toInt64 : Int64) = 0 then (if 0 < (lg_cmp (2 * (v2 - v2 / ((v1 : Int32).toInt64) * ((v1 : Int32).toInt64))) ((v1 : Int32).toInt64)) then (s_X5_doubleBits_b84 F v4 (v2 / ((v1 : Int32).toInt64)) 1) else (if (lg_cmp (2 * (v2 - v2 / ((v1 : Int32).toInt64) * ((v1 : Int32).toInt64))) ((v1 : Int32).toInt64)) = 0 then (if (lg_cmp ((v2 / ((v1 : Int32).toInt64)) - (v2 / ((v1 : Int32).toInt64)) / 2 * 2) 1) = 0 then (s_X5_doubleBits_b84 F v4 (v2 / ((v1 : Int32).toInt64)) 1) else (s_X5_doubleBits_b84 F v4 (v2 / ((v1 : Int32).toInt64)) 0)) else (s_X5_doubleBits_b84 F v4 (v2 / ((v1 : Int32).toInt64)) 0))) else none) else none

def s_X5_doubleBits_l12 (F : Nat) (v1 : Int32) : Nat → Int64 → Int32 → Option Int64
  | 0 => fun _ _ => none
  | n + 1 => fun v2 v4 => if 0 ≤ (lg_cmp v2 (((v1 : Int32).toInt64) <<< ((52 : Int32).toInt64 &&& 63))) then (s_X5_doubleBits_b34 F v1 v2 v4) else (s_X5_doubleBits_l12 F v1 n (2 * v2) (v4 + 1))
theorem e_X5_doubleBits_l12 (F : Nat) (v1 : Int32) (n : Nat) (v2 : Int64) (v4 : Int32) : s_X5_doubleBits_l12 F v1 (n + 1) v2 v4 = if 0 ≤ (lg_cmp v2 (((v1 : Int32).toInt64) <<< ((52 : Int32).toInt64 &&& 63))) then (s_X5_doubleBits_b34 F v1 v2 v4) else (s_X5_doubleBits_l12 F v1 n (2 * v2) (v4 + 1)) := rfl

def s_X5_doubleBits (F : Nat) (v0 : Int32) (v1 : Int32) : Option Int64 := if v0 = 0 then (some (0)) else (s_X5_doubleBits_l12 F v1 F ((v0 : Int32).toInt64) 0)

def s_X5_digest_b169 (F : Nat) (k98 : S_X5 → Int64 → Int32 → Option (Int64 × S_X5)) (u : S_X5) (v1 : Int64) (v3 : Int32) : Option (Int64 × S_X5) := (s_X5_ringOf F u v3).bind fun y1 => ((s_X5_wouldEnd F y1.2 v3).bind fun y2 => (k98 y2.2 ((31 * ((31 * v1) + ((y1.1 : Int32).toInt64))) + ((y2.1 : Int32).toInt64)) (v3 + 1)))

def s_X5_digest_l142 (F : Nat) (u : S_X5) (v3 : Int32) (k98 : S_X5 → Int64 → Int32 → Option (Int64 × S_X5)) : Nat → Int64 → Int32 → Option (Int64 × S_X5)
  | 0 => fun _ _ => none
  | n + 1 => fun v1 v4 => if 4 ≤ v4 then (s_X5_digest_b169 F k98 u v1 v3) else ((s_X5_slotOf F u v3 v4).bind fun y1 => (s_X5_digest_l142 F u v3 k98 n ((31 * v1) + ((y1 : Int32).toInt64)) (v4 + 1)))
theorem e_X5_digest_l142 (F : Nat) (u : S_X5) (v3 : Int32) (k98 : S_X5 → Int64 → Int32 → Option (Int64 × S_X5)) (n : Nat) (v1 : Int64) (v4 : Int32) : s_X5_digest_l142 F u v3 k98 (n + 1) v1 v4 = if 4 ≤ v4 then (s_X5_digest_b169 F k98 u v1 v3) else ((s_X5_slotOf F u v3 v4).bind fun y1 => (s_X5_digest_l142 F u v3 k98 n ((31 * v1) + ((y1 : Int32).toInt64)) (v4 + 1))) := rfl

def s_X5_digest_l111 (F : Nat) (v3 : Int32) (k98 : S_X5 → Int64 → Int32 → Option (Int64 × S_X5)) : Nat → S_X5 → Int64 → Int32 → Option (Int64 × S_X5)
  | 0 => fun _ _ _ => none
  | n + 1 => fun u v1 v4 => if 12 < v4 then (s_X5_digest_l142 F u v3 k98 F v1 0) else ((s_X5_thingPart F u v3 v4).bind fun y1 => (s_X5_digest_l111 F v3 k98 n y1.2 ((31 * v1) + ((y1.1 : Int32).toInt64)) (v4 + 1)))
theorem e_X5_digest_l111 (F : Nat) (v3 : Int32) (k98 : S_X5 → Int64 → Int32 → Option (Int64 × S_X5)) (n : Nat) (u : S_X5) (v1 : Int64) (v4 : Int32) : s_X5_digest_l111 F v3 k98 (n + 1) u v1 v4 = if 12 < v4 then (s_X5_digest_l142 F u v3 k98 F v1 0) else ((s_X5_thingPart F u v3 v4).bind fun y1 => (s_X5_digest_l111 F v3 k98 n y1.2 ((31 * v1) + ((y1.1 : Int32).toInt64)) (v4 + 1))) := rfl

def s_X5_digest_l223 (F : Nat) (u : S_X5) (v3 : Int32) (v4 : Int32) (k203 : Int64 → Int32 → Option (Int64 × S_X5)) : Nat → Int64 → Int32 → Option (Int64 × S_X5)
  | 0 => fun _ _ => none
  | n + 1 => fun v1 v5 => if 4 < v5 then (k203 v1 (v3 + 1)) else ((s_X5_reportPart F u v4 v5).bind fun y1 => (s_X5_digest_l223 F u v3 v4 k203 n ((31 * v1) + ((y1 : Int32).toInt64)) (v5 + 1)))
theorem e_X5_digest_l223 (F : Nat) (u : S_X5) (v3 : Int32) (v4 : Int32) (k203 : Int64 → Int32 → Option (Int64 × S_X5)) (n : Nat) (v1 : Int64) (v5 : Int32) : s_X5_digest_l223 F u v3 v4 k203 (n + 1) v1 v5 = if 4 < v5 then (k203 v1 (v3 + 1)) else ((s_X5_reportPart F u v4 v5).bind fun y1 => (s_X5_digest_l223 F u v3 v4 k203 n ((31 * v1) + ((y1 : Int32).toInt64)) (v5 + 1))) := rfl

def s_X5_digest_l438 (F : Nat) (u : S_X5) : Nat → Int64 → Int32 → Option (Int64 × S_X5)
  | 0 => fun _ _ => none
  | n + 1 => fun v1 v4 => if (a_X5_textLength u) ≤ v4 then (some (v1, u)) else (if lf_ix v4 60 then (s_X5_digest_l438 F u n ((31 * v1) + (((a_X5_text u) v4.toNatClampNeg : Int32).toInt64)) (v4 + 1)) else none)
theorem e_X5_digest_l438 (F : Nat) (u : S_X5) (n : Nat) (v1 : Int64) (v4 : Int32) : s_X5_digest_l438 F u (n + 1) v1 v4 = if (a_X5_textLength u) ≤ v4 then (some (v1, u)) else (if lf_ix v4 60 then (s_X5_digest_l438 F u n ((31 * v1) + (((a_X5_text u) v4.toNatClampNeg : Int32).toInt64)) (v4 + 1)) else none) := rfl

def s_X5_digest_b421 (F : Nat) (u : S_X5) (p0 : Int64) (p1 : Int64) : Option (Int64 × S_X5) := s_X5_digest_l438 F u F ((31 * (p0 + p1)) + ((a_X5_textLength u : Int32).toInt64)) 0

def s_X5_digest_b395 (F : Nat) (u : S_X5) (v1 : Int64) : Option (Int64 × S_X5) := (s_X5_living F u).bind fun y1 => (if y1 = 0 then (s_X5_digest_b421 F u (31 * v1) 0) else ((s_X5_findReached F u).bind fun y2 => ((s_X5_doubleBits F y2.1 y1).bind fun y3 => (s_X5_digest_b421 F y2.2 (31 * v1) y3))))

def s_X5_digest_b347 (F : Nat) (u : S_X5) (v1 : Int64) : Option (Int64 × S_X5) := (s_X5_cut F u 0).bind fun y1 => ((s_X5_cut F y1.2 1).bind fun y2 => (if ((a_X5_state y2.2) (1 : Int32).toNatClampNeg) ≤ 0 then (s_X5_digest_b395 F y2.2 ((31 * ((31 * v1) + ((y1.1 : Int32).toInt64))) + ((y2.1 : Int32).toInt64))) else ((s_X5_wouldBear F y2.2 0).bind fun y3 => (s_X5_digest_b395 F y3.2 ((31 * ((31 * ((31 * v1) + ((y1.1 : Int32).toInt64))) + ((y2.1 : Int32).toInt64))) + ((y3.1 : Int32).toInt64))))))

def s_X5_digest_l323 (F : Nat) : Nat → S_X5 → Int64 → Int32 → Option (Int64 × S_X5)
  | 0 => fun _ _ _ => none
  | n + 1 => fun u v1 v3 => if 2 < v3 then (s_X5_digest_b347 F u v1) else ((s_X5_wouldTry F u v3).bind fun y1 => (s_X5_digest_l323 F n y1.2 ((31 * v1) + ((y1.1 : Int32).toInt64)) (v3 + 1)))
theorem e_X5_digest_l323 (F : Nat) (n : Nat) (u : S_X5) (v1 : Int64) (v3 : Int32) : s_X5_digest_l323 F (n + 1) u v1 v3 = if 2 < v3 then (s_X5_digest_b347 F u v1) else ((s_X5_wouldTry F u v3).bind fun y1 => (s_X5_digest_l323 F n y1.2 ((31 * v1) + ((y1.1 : Int32).toInt64)) (v3 + 1))) := rfl

def s_X5_digest_l295 (F : Nat) : Nat → S_X5 → Int64 → Int32 → Option (Int64 × S_X5)
  | 0 => fun _ _ _ => none
  | n + 1 => fun u v1 v3 => if 3 < v3 then (s_X5_digest_l323 F F u v1 0) else ((s_X5_wouldPass F u 20 v3).bind fun y1 => (s_X5_digest_l295 F n y1.2 ((31 * v1) + ((y1.1 : Int32).toInt64)) (v3 + 1)))
theorem e_X5_digest_l295 (F : Nat) (n : Nat) (u : S_X5) (v1 : Int64) (v3 : Int32) : s_X5_digest_l295 F (n + 1) u v1 v3 = if 3 < v3 then (s_X5_digest_l323 F F u v1 0) else ((s_X5_wouldPass F u 20 v3).bind fun y1 => (s_X5_digest_l295 F n y1.2 ((31 * v1) + ((y1.1 : Int32).toInt64)) (v3 + 1))) := rfl

def s_X5_digest_l259 (F : Nat) (u : S_X5) : Nat → Int64 → Int32 → Option (Int64 × S_X5)
  | 0 => fun _ _ => none
  | n + 1 => fun v1 v3 => if ((a_X5_state u) (4 : Int32).toNatClampNeg) ≤ v3 then (s_X5_digest_l295 F F u v1 0) else (if lf_ix (353 + v3) 20377 then (s_X5_digest_l259 F u n ((31 * v1) + (((a_X5_state u) ((353 + v3).toNatClampNeg) : Int32).toInt64)) (v3 + 1)) else none)
theorem e_X5_digest_l259 (F : Nat) (u : S_X5) (n : Nat) (v1 : Int64) (v3 : Int32) : s_X5_digest_l259 F u (n + 1) v1 v3 = if ((a_X5_state u) (4 : Int32).toNatClampNeg) ≤ v3 then (s_X5_digest_l295 F F u v1 0) else (if lf_ix (353 + v3) 20377 then (s_X5_digest_l259 F u n ((31 * v1) + (((a_X5_state u) ((353 + v3).toNatClampNeg) : Int32).toInt64)) (v3 + 1)) else none) := rfl

def s_X5_digest_l203 (F : Nat) (u : S_X5) : Nat → Int64 → Int32 → Option (Int64 × S_X5)
  | 0 => fun _ _ => none
  | n + 1 => fun v1 v3 => if ((a_X5_state u) (3 : Int32).toNatClampNeg) ≤ v3 then (s_X5_digest_l259 F u F v1 0) else ((s_X5_atPlace F u v3).bind fun y1 => (s_X5_digest_l223 F u v3 y1 (s_X5_digest_l203 F u n) F v1 0))
theorem e_X5_digest_l203 (F : Nat) (u : S_X5) (n : Nat) (v1 : Int64) (v3 : Int32) : s_X5_digest_l203 F u (n + 1) v1 v3 = if ((a_X5_state u) (3 : Int32).toNatClampNeg) ≤ v3 then (s_X5_digest_l259 F u F v1 0) else ((s_X5_atPlace F u v3).bind fun y1 => (s_X5_digest_l223 F u v3 y1 (s_X5_digest_l203 F u n) F v1 0)) := rfl

def s_X5_digest_l98 (F : Nat) : Nat → S_X5 → Int64 → Int32 → Option (Int64 × S_X5)
  | 0 => fun _ _ _ => none
  | n + 1 => fun u v1 v3 => if ((a_X5_state u) (1 : Int32).toNatClampNeg) ≤ v3 then (s_X5_digest_l203 F u F v1 0) else (s_X5_digest_l111 F v3 (s_X5_digest_l98 F n) F u v1 0)
theorem e_X5_digest_l98 (F : Nat) (n : Nat) (u : S_X5) (v1 : Int64) (v3 : Int32) : s_X5_digest_l98 F (n + 1) u v1 v3 = if ((a_X5_state u) (1 : Int32).toNatClampNeg) ≤ v3 then (s_X5_digest_l203 F u F v1 0) else (s_X5_digest_l111 F v3 (s_X5_digest_l98 F n) F u v1 0) := rfl

def s_X5_digest_l68 (F : Nat) (u : S_X5) : Nat → Int64 → Int32 → Option (Int64 × S_X5)
  | 0 => fun _ _ => none
  | n + 1 => fun v1 v3 => if 4 ≤ v3 then (s_X5_digest_l98 F F u v1 0) else (if lf_ix (13 + v3) 20377 then (s_X5_digest_l68 F u n ((31 * v1) + (((a_X5_state u) ((13 + v3).toNatClampNeg) : Int32).toInt64)) (v3 + 1)) else none)
theorem e_X5_digest_l68 (F : Nat) (u : S_X5) (n : Nat) (v1 : Int64) (v3 : Int32) : s_X5_digest_l68 F u (n + 1) v1 v3 = if 4 ≤ v3 then (s_X5_digest_l98 F F u v1 0) else (if lf_ix (13 + v3) 20377 then (s_X5_digest_l68 F u n ((31 * v1) + (((a_X5_state u) ((13 + v3).toNatClampNeg) : Int32).toInt64)) (v3 + 1)) else none) := rfl

def s_X5_digest_l38 (F : Nat) (u : S_X5) : Nat → Int64 → Int32 → Option (Int64 × S_X5)
  | 0 => fun _ _ => none
  | n + 1 => fun v1 v3 => if 5 ≤ v3 then (s_X5_digest_l68 F u F v1 0) else (if lf_ix (8 + v3) 20377 then (s_X5_digest_l38 F u n ((31 * v1) + (((a_X5_state u) ((8 + v3).toNatClampNeg) : Int32).toInt64)) (v3 + 1)) else none)
theorem e_X5_digest_l38 (F : Nat) (u : S_X5) (n : Nat) (v1 : Int64) (v3 : Int32) : s_X5_digest_l38 F u (n + 1) v1 v3 = if 5 ≤ v3 then (s_X5_digest_l68 F u F v1 0) else (if lf_ix (8 + v3) 20377 then (s_X5_digest_l38 F u n ((31 * v1) + (((a_X5_state u) ((8 + v3).toNatClampNeg) : Int32).toInt64)) (v3 + 1)) else none) := rfl

def s_X5_digest_l11 (F : Nat) : Nat → S_X5 → Int64 → Int32 → Option (Int64 × S_X5)
  | 0 => fun _ _ _ => none
  | n + 1 => fun u v1 v3 => if 13 < v3 then (s_X5_digest_l38 F u F v1 0) else ((s_X5_countOf F u v3).bind fun y1 => (s_X5_digest_l11 F n y1.2 ((31 * v1) + ((y1.1 : Int32).toInt64)) (v3 + 1)))
theorem e_X5_digest_l11 (F : Nat) (n : Nat) (u : S_X5) (v1 : Int64) (v3 : Int32) : s_X5_digest_l11 F (n + 1) u v1 v3 = if 13 < v3 then (s_X5_digest_l38 F u F v1 0) else ((s_X5_countOf F u v3).bind fun y1 => (s_X5_digest_l11 F n y1.2 ((31 * v1) + ((y1.1 : Int32).toInt64)) (v3 + 1))) := rfl

def s_X5_digest (F : Nat) (u : S_X5) : Option (Int64 × S_X5) := s_X5_digest_l11 F F (m_X5_thrown 0 u) 2389 0
