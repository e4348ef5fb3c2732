/-! ===== the law's body: a turn's head and end ===== -/
theorem oth {o : Nat} (h : o < 7) : nI o - 1 = -1 ∨ ∃ a, a < 6 ∧ nI o - 1 = nI a := by
  cases o with
  | zero => exact Or.inl rfl
  | succ a => exact Or.inr ⟨a, by omega, by rw [← ni_1, Int32.add_sub_cancel]⟩
section LAWS
variable {p : Program} {l : Launch} {e : Env} {s : State} {m : MethodId} {b : Nat} {below : List Frame} {meth : Method} {c : Code} {D : va_G} {ct ad0 : Nat → Nat} {Ln : Nat} {xs : Nat → Int32}

set_option maxRecDepth 20000 in
theorem c_head (C0 : LC p l s m b meth c D ct ad0 Ln xs) (hLn : Ln ≤ 2048) {S : S_X6} {E C : S_XE} {kc ks : Nat} (hmc : kc ≤ 600130 ∧ ks ≤ 7301080) {k : Nat} (hk : k < 16) (kk : ∀ x kd t y, kd < 8 → t < 6 → (y = -1 ∨ ∃ a, a < 6 ∧ y = nI a) → LV p l e s m b below meth c D ct ad0 337 (LB (some (.int (nI k))) (some (.int x)) (some (.int (nI kd))) (some (.int (nI t))) (some (.int y)) none none none) [] (WW S E C) kc ks) : LV p l e s m b below meth c D ct ad0 286 (LB (some (.int (nI k))) none none none none none none none) [] (WW S E C) kc ks := by
  refine LV_run oL_head C0 (cs := []) (pc' := 290) (L' := LB (some (.int (nI k))) none none none none none none none) (st' := [.int 16, .int (nI k)]) (w' := WW S E C) [] 2 (by with_unfolding_all rfl) trivial ?_
  refine LV_br oL_head C0 rfl rfl (fun h => absurd ((ni_le (a := 16) (b := k) (by omega) (by omega)).mp h) (by omega)) (fun h => ?_)
  refine LV_run oL_head C0 (cs := []) (pc' := 298) (L' := LB (some (.int (nI k))) none none none none none none none) (st' := [.int (2 + (nI k)), .ref 999]) (w' := WW S E C) [] 4 (by with_unfolding_all rfl) trivial ?_
  refine LV_cell oL_head C0 hLn (2 + k) (show (2 : Int32) + nI k = nI (2 + k) by rw [show (2 : Int32) = nI 2 from rfl, ni_add]) (by omega) rfl rfl hmc ?_
  generalize cw_sc Ln xs (2 + k) = x
  refine LV_run oL_head C0 (cs := []) (pc' := 307) (L' := LB (some (.int (nI k))) (some (.int x)) none none none none none none) (st' := [.int 8, .int x]) (w' := WW S E C) [] 3 (by with_unfolding_all rfl) trivial ?_
  refine LV_low oL_head C0 8 rfl rfl rfl rfl rfl hmc (fun kd hkd => ?_)
  refine LV_run oL_head C0 (cs := []) (pc' := 318) (L' := LB (some (.int (nI k))) (some (.int x)) (some (.int (nI kd))) none none none none none) (st' := [.int 6, .int (x >>> (3 &&& 31))]) (w' := WW S E C) [] 5 (by with_unfolding_all rfl) trivial ?_
  refine LV_low oL_head C0 6 rfl rfl rfl rfl rfl hmc (fun t ht => ?_)
  refine LV_run oL_head C0 (cs := []) (pc' := 330) (L' := LB (some (.int (nI k))) (some (.int x)) (some (.int (nI kd))) (some (.int (nI t))) none none none none) (st' := [.int 7, .int (x >>> (6 &&& 31))]) (w' := WW S E C) [] 5 (by with_unfolding_all rfl) trivial ?_
  refine LV_low oL_head C0 7 rfl rfl rfl rfl rfl hmc (fun q hq => ?_)
  refine LV_run oL_head C0 (cs := []) (pc' := 337) (L' := LB (some (.int (nI k))) (some (.int x)) (some (.int (nI kd))) (some (.int (nI t))) (some (.int ((nI q) - 1))) none none none) (st' := []) (w' := WW S E C) [337] 3 (by with_unfolding_all rfl) trivial ?_
  exact kk x kd t (nI q - 1) hkd ht (oth hq)
set_option maxRecDepth 20000 in
theorem c_out (C0 : LC p l s m b meth c D ct ad0 Ln xs) (hr : meth.sig.returnType = ret) {S : S_X6} {E C : S_XE} {kc ks : Nat} (hmc : kc ≤ 600130 ∧ ks ≤ 7301080) : LV p l e s m b below meth c D ct ad0 286 (LB (some (.int (nI 16))) none none none none none none none) [] (WW S E C) kc ks := by
  refine LV_run oL_head C0 (cs := []) (pc' := 290) (L' := LB (some (.int (nI 16))) none none none none none none none) (st' := [.int 16, .int (nI 16)]) (w' := WW S E C) [] 2 (by with_unfolding_all rfl) trivial ?_
  refine LV_br oL_head C0 rfl rfl (fun h => ?_) (fun h => absurd (show nI 16 ≥ 16 from Int32.le_refl _) h)
  refine LV_run oL_end C0 (cs := []) (pc' := 776) (L' := LB (some (.int (nI 16))) none none none none none none none) (st' := [.int 1]) (w' := WW S E C) [] 1 (by with_unfolding_all rfl) trivial ?_
  exact LV_end oL_end C0 hr rfl hmc.1 hmc.2
set_option maxRecDepth 20000 in
theorem c_end {F : Nat} (hF : 6400 < F) (C0 : LC p l s m b meth c D ct ad0 Ln xs) {B T : Nat} {S : S_X6} {E C : S_XE} (q : KZ B T S E) {kc ks : Nat} (hmc : kc ≤ 600130 ∧ ks ≤ 7301080) {k t : Nat} (ht : t < 6) {x : Int32} (kk : ∀ S C, KZ B T S E → LV p l e s m b below meth c D ct ad0 286 (LB (some (.int (nI (k + 1)))) none none none none none none none) [] (WW S E C) kc ks) : LV p l e s m b below meth c D ct ad0 719 (LB (some (.int (nI k))) (some (.int x)) none (some (.int (nI t))) none none none none) [] (WW S E C) kc ks := by
  refine LV_run oL_end C0 (cs := []) (pc' := 726) (L' := LB (some (.int (nI k))) (some (.int x)) none (some (.int (nI t))) none none none none) (st' := [.ref 143, .ref 142, .ref 141, .ref 140, .ref 0]) (w' := WW S E C) [] 5 (by with_unfolding_all rfl) trivial ?_
  refine LV_same oL_end C0 (z_same hF q) rfl hmc ?_
  refine LV_br oL_end C0 rfl rfl (fun h => absurd h (by decide)) (fun h => ?_)
  refine LV_run oL_end C0 (cs := []) (pc' := 743) (L' := LB (some (.int (nI k))) (some (.int x)) none (some (.int (nI t))) none none none none) (st' := [.int 30, .int (x >>> (13 &&& 31)), .int 1, .int (nI t), .ref 0]) (w' := WW S E C) [] 7 (by with_unfolding_all rfl) trivial ?_
  refine LV_low oL_end C0 30 rfl rfl rfl rfl rfl hmc (fun u hu => ?_)
  refine LV_run oL_end C0 (cs := []) (pc' := 761) (L' := LB (some (.int (nI k))) (some (.int x)) none (some (.int (nI t))) none none none none) (st' := [.ref 147, .ref 146, .ref 145, .ref 144, .ref 143, .ref 142, .ref 141, .ref 140, .int (1 + (nI u)), .int (nI t), .ref 0]) (w' := WW S E C) [] 9 (by with_unfolding_all rfl) trivial ?_
  have hu1 : nI 1 + nI u = nI (1 + u) := ni_add 1 u
  obtain ⟨g2, C2, w1, w2⟩ := z_would hF q C ht (c := 1 + u) (by omega) (by omega)
  refine LV_nx (st' := [.ref 147, .ref 146, .ref 145, .ref 144, .ref 143, .ref 142, .ref 141, .ref 140, .int (nI (1 + u)), .int (nI t), .ref 0]) rfl (by rw [← hu1]; rfl) rfl rfl rfl ?_
  refine LV_would oL_end C0 w1 rfl hmc ?_
  refine LV_br oL_end C0 rfl rfl (fun h => ?_) (fun h => absurd h (show ¬ (1 : Int32) = 0 by decide))
  refine LV_run oL_end C0 (cs := []) (pc' := 286) (L' := LB (some (.int ((nI k) + 1))) (some (.int x)) none (some (.int (nI t))) none none none none) (st' := []) (w' := WW (m_X6_g g2 S) E C2) [286] 2 (by with_unfolding_all rfl) trivial ?_
  rw [ni_1]
  exact LV_weak LB_w1 (kk _ _ w2)
end LAWS
