/-- a virtual call on the first of one's own cells -/
theorem ev_callVp {μ μc : ev_M} {N0 : Option Nat} {X : ev_X} {pc : Nat} {L : ev_L} {st rest : List Value} {w wc tl : List ev_E} {kc ks ci n idx nx k x yy : Nat} {v : Value} {y : MethodName} {as1 : List Value} {fs : List Value} {wt : List ev_E} {post : Option Value → List ev_E → Prop}
    (hM : ev_A y μc none (.ref 0 :: as1) wc post) (hwc : wc = .inr (ci, fs) :: wt) (hw : w = wc ++ tl) (cv : ev_CV y μc ci n) (hl : ev_ml (ev_own μ) idx y) (hlk : ev_look (ev_tab μ) pc = some (.invokevirtual idx, nx, k, x, yy, v))
    (hst : as1.reverse ++ (.ref 0 :: rest) = st) (hn : as1.length = n)
    (hW : (rest.map fun v => v.category).sum ≤ 8) (hroom : ev_fr μc + 1 ≤ ev_fr μ ∧ 8 + (ev_nL μc + 11) + ev_lo μc ≤ ev_lo μ) (hmc : kc + ev_mc μc ≤ ev_mc μ ∧ ks + ev_ms μc ≤ ev_ms μ) (hlen : ∀ r w', post r w' → w'.length = wc.length)
    (kk : ∀ r w', post r w' → ev_V μ N0 X (pc + 3) L (r.toList ++ rest) (w' ++ tl) (kc + ev_mc μc) (ks + ev_ms μc)) : ev_V μ N0 X pc L st w kc ks := by
  have hsel := ev_pick_pre hw
  subst hwc
  have hmi : ∀ l : List Value, l.map (ev_cv fun k => k) = l := fun l => by rw [show (ev_cv fun k => k) = id from funext ev_cv_id, List.map_id]
  refine ev_callV (fun k => k) hM cv hl hlk (by rw [hmi]; exact hst) hn hsel (fun i _ j _ h => h) hW hroom hmc hlen fun r w' hp => ?_
  have hl' := hlen r w' hp
  have e1 : ev_putm (fun k => k) w 0 w' = w' ++ tl := by
    rw [ev_putm_row w' w 0 0 (fun i _ => rfl) (by rw [hw, List.length_append]; omega), ev_map_id]
    unfold ev_sput
    rw [List.take_zero, Nat.zero_add, hl', hw, List.drop_left]
    rfl
  have e2 : r.map (ev_cv fun k => k) = r := by
    cases r with
    | none => rfl
    | some z => exact congrArg some (ev_cv_id z)
  rw [e1, e2]
  exact kk r w' hp
def WLb (f : Nat → Int64) : List ev_E := [.inl (1, 1, .inr (.inl f))]
def WL (S : S_X6) (f : Nat → Int64) : List ev_E := W_X6 S ++ WLb f
theorem WL4 (S : S_X6) (f : Nat → Int64) : WL S f = W_X4 S.1 ++ (TL S.2.1 S.2.2 ++ WLb f) := by
  unfold WL
  rw [List.append_assoc]
theorem WL4g (S : S_X6) (u : S_X4) (f : Nat → Int64) : W_X4 u ++ (TL S.2.1 S.2.2 ++ WLb f) = WL (m_X6_g u S) f := by
  unfold WL
  rw [List.append_assoc]
theorem on4_inv {α : Type} {S S' : S_X6} {o : Option (α × S_X4)} {z : α} (h : on4 S o = some (z, S')) : ∃ u, o = some (z, u) ∧ S' = m_X6_g u S := by
  cases o with
  | none => cases h
  | some q => cases h; exact ⟨q.2, rfl, rfl⟩
theorem on0_inv {α : Type} {S S' : S_X6} {o : Option α} {z : α} (h : on0 S o = some (z, S')) : o = some z ∧ S' = S := by
  cases o with
  | none => cases h
  | some q => cases h; exact ⟨rfl, rfl⟩
