/-! ===== the law's body: the setup ===== -/
def LB (x10 x11 x12 x13 x14 x15 x16 x17 : Option Value) : ev_L := [some (.ref 999), some (.ref 0), some (.ref 140), some (.ref 141), some (.ref 142), some (.ref 143), some (.ref 144), some (.ref 145), some (.ref 146), some (.ref 147), x10, x11, x12, x13, x14, x15, x16, x17]
theorem LB_w1 {x10 x11 x12 x13 x14 x15 x16 x17 : Option Value} : ∀ i v, ev_nth (LB x10 none none none none none none none) i = some v → ev_nth (LB x10 x11 x12 x13 x14 x15 x16 x17) i = some v := by
  intro i v hv
  match i, hv with
  | 0, hv => exact hv
  | 1, hv => exact hv
  | 2, hv => exact hv
  | 3, hv => exact hv
  | 4, hv => exact hv
  | 5, hv => exact hv
  | 6, hv => exact hv
  | 7, hv => exact hv
  | 8, hv => exact hv
  | 9, hv => exact hv
  | 10, hv => exact hv
  | 11, hv => cases hv
  | 12, hv => cases hv
  | 13, hv => cases hv
  | 14, hv => cases hv
  | 15, hv => cases hv
  | 16, hv => cases hv
  | 17, hv => cases hv
  | n + 18, hv => cases hv
theorem LB_w5 {x10 x11 x12 x13 x14 x15 x16 x17 : Option Value} : ∀ i v, ev_nth (LB x10 x11 x12 x13 x14 none none none) i = some v → ev_nth (LB x10 x11 x12 x13 x14 x15 x16 x17) i = some v := by
  intro i v hv
  match i, hv with
  | 0, hv => exact hv
  | 1, hv => exact hv
  | 2, hv => exact hv
  | 3, hv => exact hv
  | 4, hv => exact hv
  | 5, hv => exact hv
  | 6, hv => exact hv
  | 7, hv => exact hv
  | 8, hv => exact hv
  | 9, hv => exact hv
  | 10, hv => exact hv
  | 11, hv => exact hv
  | 12, hv => exact hv
  | 13, hv => exact hv
  | 14, hv => exact hv
  | 15, hv => cases hv
  | 16, hv => cases hv
  | 17, hv => cases hv
  | n + 18, hv => cases hv
theorem LB_w4 {x10 x11 x12 x13 x14 x15 x16 x17 : Option Value} : ∀ i v, ev_nth (LB x10 x11 none x13 none none none none) i = some v → ev_nth (LB x10 x11 x12 x13 x14 x15 x16 x17) i = some v := by
  intro i v hv
  match i, hv with
  | 0, hv => exact hv
  | 1, hv => exact hv
  | 2, hv => exact hv
  | 3, hv => exact hv
  | 4, hv => exact hv
  | 5, hv => exact hv
  | 6, hv => exact hv
  | 7, hv => exact hv
  | 8, hv => exact hv
  | 9, hv => exact hv
  | 10, hv => exact hv
  | 11, hv => exact hv
  | 12, hv => cases hv
  | 13, hv => exact hv
  | 14, hv => cases hv
  | 15, hv => cases hv
  | 16, hv => cases hv
  | 17, hv => cases hv
  | n + 18, hv => cases hv
section LAWS
variable {p : Program} {l : Launch} {e : Env} {s : State} {m : MethodId} {b : Nat} {below : List Frame} {meth : Method} {c : Code} {D : va_G} {ct ad0 : Nat → Nat} {Ln : Nat} {xs : Nat → Int32}

set_option maxRecDepth 20000 in
theorem c_q (C0 : LC p l s m b meth c D ct ad0 Ln xs) (hLn : Ln ≤ 2048) {S : S_X6} {E C : S_XE} {kc ks : Nat} (hmc : kc ≤ 600130 ∧ ks ≤ 7301080) (kk : ∀ r0, r0 < 4 → ∀ r1, r1 < 4 → ∀ r2, r2 < 4 → ∀ r3, r3 < 2 → ∀ r4, r4 < 9 → LV p l e s m b below meth c D ct ad0 133 (LB (some (.int 0)) none none none none none none none) [] (WW S ((upd (upd (upd (upd (upd E.1 (7 : Int32).toNatClampNeg (nI r0)) (8 : Int32).toNatClampNeg (nI r1)) (9 : Int32).toNatClampNeg (nI r2)) (10 : Int32).toNatClampNeg (nI r3)) (11 : Int32).toNatClampNeg (nI r4)), E.2.1, E.2.2.1, E.2.2.2) C) kc ks) : LV p l e s m b below meth c D ct ad0 54 (LB none none none none none none none none) [] (WW S E C) kc ks := by
  refine LV_run oL_q C0 (cs := []) (pc' := 59) (L' := LB none none none none none none none none) (st' := [.int 0, .ref 999, .int 7, .ref 140]) (w' := WW S E C) [] 4 (by with_unfolding_all rfl) trivial ?_
  refine LV_cell oL_q C0 hLn 0 rfl (by omega) rfl rfl hmc ?_
  refine LV_run oL_q C0 (cs := []) (pc' := 63) (L' := LB none none none none none none none none) (st' := [.int 4, .int (cw_sc Ln xs 0), .int 7, .ref 140]) (w' := WW S E C) [] 1 (by with_unfolding_all rfl) trivial ?_
  refine LV_low oL_q C0 4 rfl rfl rfl rfl rfl hmc (fun r0 hr0 => ?_)
  refine LV_run oL_q C0 (cs := [vp_in 7 12]) (pc' := 72) (L' := LB none none none none none none none none) (st' := [.int 0, .ref 999, .int 8, .ref 140]) (w' := WW S ((upd E.1 (7 : Int32).toNatClampNeg (nI r0)), E.2.1, E.2.2.1, E.2.2.2) C) [] 5 (by with_unfolding_all rfl) (by show ¬ _; decide) ?_
  refine LV_cell oL_q C0 hLn 0 rfl (by omega) rfl rfl hmc ?_
  refine LV_run oL_q C0 (cs := []) (pc' := 78) (L' := LB none none none none none none none none) (st' := [.int 4, .int ((cw_sc Ln xs 0) >>> (2 &&& 31)), .int 8, .ref 140]) (w' := WW S ((upd E.1 (7 : Int32).toNatClampNeg (nI r0)), E.2.1, E.2.2.1, E.2.2.2) C) [] 3 (by with_unfolding_all rfl) trivial ?_
  refine LV_low oL_q C0 4 rfl rfl rfl rfl rfl hmc (fun r1 hr1 => ?_)
  refine LV_run oL_q C0 (cs := [vp_in 8 12]) (pc' := 87) (L' := LB none none none none none none none none) (st' := [.int 0, .ref 999, .int 9, .ref 140]) (w' := WW S ((upd (upd E.1 (7 : Int32).toNatClampNeg (nI r0)) (8 : Int32).toNatClampNeg (nI r1)), E.2.1, E.2.2.1, E.2.2.2) C) [] 5 (by with_unfolding_all rfl) (by show ¬ _; decide) ?_
  refine LV_cell oL_q C0 hLn 0 rfl (by omega) rfl rfl hmc ?_
  refine LV_run oL_q C0 (cs := []) (pc' := 93) (L' := LB none none none none none none none none) (st' := [.int 4, .int ((cw_sc Ln xs 0) >>> (4 &&& 31)), .int 9, .ref 140]) (w' := WW S ((upd (upd E.1 (7 : Int32).toNatClampNeg (nI r0)) (8 : Int32).toNatClampNeg (nI r1)), E.2.1, E.2.2.1, E.2.2.2) C) [] 3 (by with_unfolding_all rfl) trivial ?_
  refine LV_low oL_q C0 4 rfl rfl rfl rfl rfl hmc (fun r2 hr2 => ?_)
  refine LV_run oL_q C0 (cs := [vp_in 9 12]) (pc' := 102) (L' := LB none none none none none none none none) (st' := [.int 0, .ref 999, .int 10, .ref 140]) (w' := WW S ((upd (upd (upd E.1 (7 : Int32).toNatClampNeg (nI r0)) (8 : Int32).toNatClampNeg (nI r1)) (9 : Int32).toNatClampNeg (nI r2)), E.2.1, E.2.2.1, E.2.2.2) C) [] 5 (by with_unfolding_all rfl) (by show ¬ _; decide) ?_
  refine LV_cell oL_q C0 hLn 0 rfl (by omega) rfl rfl hmc ?_
  refine LV_run oL_q C0 (cs := []) (pc' := 109) (L' := LB none none none none none none none none) (st' := [.int 2, .int ((cw_sc Ln xs 0) >>> (6 &&& 31)), .int 10, .ref 140]) (w' := WW S ((upd (upd (upd E.1 (7 : Int32).toNatClampNeg (nI r0)) (8 : Int32).toNatClampNeg (nI r1)) (9 : Int32).toNatClampNeg (nI r2)), E.2.1, E.2.2.1, E.2.2.2) C) [] 3 (by with_unfolding_all rfl) trivial ?_
  refine LV_low oL_q C0 2 rfl rfl rfl rfl rfl hmc (fun r3 hr3 => ?_)
  refine LV_run oL_q C0 (cs := [vp_in 10 12]) (pc' := 118) (L' := LB none none none none none none none none) (st' := [.int 0, .ref 999, .int 11, .ref 140]) (w' := WW S ((upd (upd (upd (upd E.1 (7 : Int32).toNatClampNeg (nI r0)) (8 : Int32).toNatClampNeg (nI r1)) (9 : Int32).toNatClampNeg (nI r2)) (10 : Int32).toNatClampNeg (nI r3)), E.2.1, E.2.2.1, E.2.2.2) C) [] 5 (by with_unfolding_all rfl) (by show ¬ _; decide) ?_
  refine LV_cell oL_q C0 hLn 0 rfl (by omega) rfl rfl hmc ?_
  refine LV_run oL_q C0 (cs := []) (pc' := 126) (L' := LB none none none none none none none none) (st' := [.int 9, .int ((cw_sc Ln xs 0) >>> (7 &&& 31)), .int 11, .ref 140]) (w' := WW S ((upd (upd (upd (upd E.1 (7 : Int32).toNatClampNeg (nI r0)) (8 : Int32).toNatClampNeg (nI r1)) (9 : Int32).toNatClampNeg (nI r2)) (10 : Int32).toNatClampNeg (nI r3)), E.2.1, E.2.2.1, E.2.2.2) C) [] 3 (by with_unfolding_all rfl) trivial ?_
  refine LV_low oL_q C0 9 rfl rfl rfl rfl rfl hmc (fun r4 hr4 => ?_)
  refine LV_run oL_q C0 (cs := [vp_in 11 12]) (pc' := 133) (L' := LB (some (.int 0)) none none none none none none none) (st' := []) (w' := WW S ((upd (upd (upd (upd (upd E.1 (7 : Int32).toNatClampNeg (nI r0)) (8 : Int32).toNatClampNeg (nI r1)) (9 : Int32).toNatClampNeg (nI r2)) (10 : Int32).toNatClampNeg (nI r3)) (11 : Int32).toNatClampNeg (nI r4)), E.2.1, E.2.2.1, E.2.2.2) C) [133] 3 (by with_unfolding_all rfl) (by show ¬ _; decide) ?_
  exact kk r0 hr0 r1 hr1 r2 hr2 r3 hr3 r4 hr4
end LAWS
