/-! ===== the law's body: six things ===== -/
section LAWS
variable {p : Program} {l : Launch} {e : Env} {s : State} {m : MethodId} {b : Nat} {below : List Frame} {meth : Method} {c : Code} {D : va_G} {ct ad0 : Nat → Nat} {Ln : Nat} {xs : Nat → Int32}

def SB (k : Nat) (S : S_X6) (E : S_XE) : Prop := ∃ v, WX G0 0 0 k 0 0 0 (a_X4_now S.1) v ∧ RZ S ∧ ZA k v E ∧ ZE k E
theorem SB.of {S : S_X6} {E : S_XE} {v : Nat → Int32} (a : SA 5 S E v) (h1 : ∀ k, k < 7 → E.1 k = 0) (h2 : ∀ t, t < 6 → ∀ j, 2 ≤ j → j < 8 → E.2.1 (8 * t + j) = 0) (h3 : ∀ k, k < 28 → E.2.2.1 k = -1) : SB 0 S E := by
  obtain ⟨a1, a2, a3, a4, a5, -⟩ := a
  exact ⟨v, a1, a2, ⟨fun k hk _ => a3 k hk, a5, a4, fun t ht => absurd ht (by omega), fun k hk => absurd hk (by omega)⟩, h1, fun t ht => absurd ht (by omega), h2, h3⟩
theorem SB.add {F k r : Nat} (hF : 6400 < F) (hk : k < 6) (hr : r < 10) {S : S_X6} {E : S_XE} (a : SB k S E) : ∃ S', s_X4_add_6 F S (nI r) = some (nI k, S') ∧ SB (k + 1) S' (E.1, upd (upd E.2.1 (8 * k) 1) (8 * k + 1) (nI r), E.2.2.1, E.2.2.2) := by
  obtain ⟨v, a1, a2, a3, b1, b2, b3, b4⟩ := a
  obtain ⟨S', v', c1, c2, c3, c4⟩ := z_add hF a1 a2 (by omega) (d := r) (by omega)
  refine ⟨S', c1, v', c3, c2, a3.add hk c4 (fun t ht => ?_) ?_, b1, fun t ht => ?_, fun t ht j h1 h2 => ?_, b4⟩
  · rw [upd_ne _ _ (by omega), upd_ne _ _ (by omega)]
  · rw [upd_at]
  · dsimp only
    rw [upd_ne _ _ (by omega)]
    by_cases htk : t = k
    · rw [htk, upd_at]
    · rw [upd_ne _ _ (by omega)]
      exact b2 t (by omega)
  · dsimp only
    rw [upd_ne _ _ (by omega), upd_ne _ _ (by omega)]
    exact b3 t ht j h1 h2
theorem SB.end {S : S_X6} {E : S_XE} (a : SB 6 S E) : KZ 0 0 S E := by
  obtain ⟨v, a1, a2, a3, a4⟩ := a
  exact KZ.start a1 a3 a4 a2
set_option maxRecDepth 20000 in
theorem c_add {F : Nat} (hF : 6400 < F) (C0 : LC p l s m b meth c D ct ad0 Ln xs) (hLn : Ln ≤ 2048) {C : S_XE} {kc ks : Nat} (hmc : kc ≤ 600130 ∧ ks ≤ 7301080) (kk : ∀ S E, KZ 0 0 S E → LV p l e s m b below meth c D ct ad0 283 (LB (some (.int (nI 6))) none none none none none none none) [] (WW S E C) kc ks) : ∀ d k S E, k + d = 6 → SB k S E → LV p l e s m b below meth c D ct ad0 218 (LB (some (.int (nI k))) none none none none none none none) [] (WW S E C) kc ks := by
  intro d
  induction d with
  | zero =>
    intro k S E hk a
    obtain rfl : k = 6 := by omega
    refine LV_run oL_add C0 (cs := []) (pc' := 222) (L' := LB (some (.int (nI 6))) none none none none none none none) (st' := [.int 6, .int (nI 6)]) (w' := WW S E C) [] 2 (by with_unfolding_all rfl) trivial ?_
    refine LV_br oL_add C0 rfl rfl (fun h => ?_) (fun h => absurd (show nI 6 ≥ 6 from Int32.le_refl _) h)
    exact kk S E a.end
  | succ d ih =>
    intro k S E hk a
    refine LV_run oL_add C0 (cs := []) (pc' := 222) (L' := LB (some (.int (nI k))) none none none none none none none) (st' := [.int 6, .int (nI k)]) (w' := WW S E C) [] 2 (by with_unfolding_all rfl) trivial ?_
    refine LV_br oL_add C0 rfl rfl (fun h => absurd ((ni_le (a := 6) (b := k) (by omega) (by omega)).mp h) (by omega)) (fun h => ?_)
    have i8 : (8 : Int32) * nI k = nI (8 * k) := by rw [show (8 : Int32) = nI 8 from rfl, ni_mul]
    have i9 : (8 : Int32) * nI k + 1 = nI (8 * k + 1) := by rw [i8, ni_1]
    refine LV_run oL_add C0 (cs := [vp_in (8 * (nI k)) 48]) (pc' := 243) (L' := LB (some (.int (nI k))) none none none none none none none) (st' := [.int 1, .ref 999, .int ((8 * (nI k)) + 1), .ref 141]) (w' := WW S (E.1, (upd E.2.1 ((8 * (nI k)) : Int32).toNatClampNeg 1), E.2.2.1, E.2.2.2) C) [] 14 (by with_unfolding_all rfl) (by rw [i8]; exact ni_in (by omega) (by omega)) ?_
    refine LV_cell oL_add C0 hLn 1 rfl (by omega) rfl rfl hmc ?_
    refine LV_run oL_add C0 (cs := []) (pc' := 253) (L' := LB (some (.int (nI k))) none none none none none none none) (st' := [.int 10, .int ((cw_sc Ln xs 1) >>> ((3 * (nI k)) &&& 31)), .int ((8 * (nI k)) + 1), .ref 141]) (w' := WW S (E.1, (upd E.2.1 ((8 * (nI k)) : Int32).toNatClampNeg 1), E.2.2.1, E.2.2.2) C) [] 5 (by with_unfolding_all rfl) trivial ?_
    refine LV_low oL_add C0 10 rfl rfl rfl rfl rfl hmc (fun r hr => ?_)
    refine LV_run oL_add C0 (cs := [vp_in ((8 * (nI k)) + 1) 48, vp_in ((8 * (nI k)) + 1) 48]) (pc' := 267) (L' := LB (some (.int (nI k))) none none none none none none none) (st' := [.int ((upd (upd E.2.1 ((8 * (nI k)) : Int32).toNatClampNeg 1) (((8 * (nI k)) + 1) : Int32).toNatClampNeg (nI r)) (((8 * (nI k)) + 1) : Int32).toNatClampNeg), .ref 0]) (w' := WW S (E.1, (upd (upd E.2.1 ((8 * (nI k)) : Int32).toNatClampNeg 1) (((8 * (nI k)) + 1) : Int32).toNatClampNeg (nI r)), E.2.2.1, E.2.2.2) C) [] 9 (by with_unfolding_all rfl) ⟨(by rw [i9]; exact ni_in (by omega) (by omega)), (by rw [i9]; exact ni_in (by omega) (by omega))⟩ ?_
    obtain ⟨S2, c1, c2⟩ := SB.add (F := F) hF (by omega) hr a
    rw [i9, i8, ni_nat (show 8 * k < 2147483648 by omega), ni_nat (show 8 * k + 1 < 2147483648 by omega), upd_at]
    refine LV_six oL_add C0 (S' := S2) (z := .int (nI k)) (rest := []) (t_X4_add_6 F S (nI r) (nI k, S2) c1) cv_X4_add ml_L_law_120 rfl rfl rfl rfl ⟨rfl, rfl⟩ ⟨rfl, rfl⟩ hmc ?_
    refine LV_run oL_add C0 (cs := []) (pc' := 272) (L' := LB (some (.int (nI k))) none none none none none none none) (st' := [.int (nI k), .int (nI k)]) (w' := WW S2 (E.1, upd (upd E.2.1 (8 * k) 1) (8 * k + 1) (nI r), E.2.2.1, E.2.2.2) C) [] 1 (by with_unfolding_all rfl) trivial ?_
    refine LV_br oL_add C0 rfl rfl (fun h => ?_) (fun h => absurd rfl h)
    refine LV_run oL_add C0 (cs := []) (pc' := 218) (L' := LB (some (.int ((nI k) + 1))) none none none none none none none) (st' := []) (w' := WW S2 (E.1, upd (upd E.2.1 (8 * k) 1) (8 * k + 1) (nI r), E.2.2.1, E.2.2.2) C) [218] 2 (by with_unfolding_all rfl) trivial ?_
    rw [ni_1]
    exact ih (k + 1) S2 _ (by omega) c2
end LAWS
