/-! small functions: isIn, placeOf, and the JDK's -/
def st_in (s t : Int32) : Bool := !decide ((s >>> (t &&& 31)) &&& 1 = 0)
def st_pl (t s : Int32) : Int32 := 4 + 4 * t + s
def jd_nz1 (q : Int32 × Int32) : Int32 × Int32 := if q.2 ≤ 65536 then q else (q.1 + 16, (q.2.toUInt32 >>> (Int32.toUInt32 16 &&& Int32.toUInt32 31)).toInt32)
def jd_nz2 (q : Int32 × Int32) : Int32 × Int32 := if q.2 ≤ 256 then q else (q.1 + 8, (q.2.toUInt32 >>> (Int32.toUInt32 8 &&& Int32.toUInt32 31)).toInt32)
def jd_nz3 (q : Int32 × Int32) : Int32 × Int32 := if q.2 ≤ 16 then q else (q.1 + 4, (q.2.toUInt32 >>> (Int32.toUInt32 4 &&& Int32.toUInt32 31)).toInt32)
def jd_nz4 (q : Int32 × Int32) : Int32 × Int32 := if q.2 ≤ 4 then q else (q.1 + 2, (q.2.toUInt32 >>> (Int32.toUInt32 2 &&& Int32.toUInt32 31)).toInt32)
def jd_ntz (x0 : Int32) : Int32 :=
  let x := (x0 ^^^ -1) &&& (x0 - 1)
  if 0 < x then
    let q := jd_nz4 (jd_nz3 (jd_nz2 (jd_nz1 (1, x))))
    q.1 + (q.2.toUInt32 >>> (Int32.toUInt32 1 &&& Int32.toUInt32 31)).toInt32
  else x &&& 32
def jd_us (x : Int32) (k : Int32) : Int32 := (x.toUInt32 >>> (k.toUInt32 &&& Int32.toUInt32 31)).toInt32
def jd_bc (x0 : Int32) : Int32 :=
  let x1 := x0 - (jd_us x0 1 &&& 1431655765)
  let x2 := (x1 &&& 858993459) + (jd_us x1 2 &&& 858993459)
  let x3 := (x2 + jd_us x2 4) &&& 252645135
  let x4 := x3 + jd_us x3 8
  let x5 := x4 + jd_us x4 16
  x5 &&& 63
def jd_fm (x y : Int32) : Int32 := if 0 ≤ (x ^^^ y) then x - x / y * y else if x - x / y * y = 0 then x - x / y * y else x - x / y * y + y

set_option maxRecDepth 20000 in
theorem t_X4_isIn (s t : Int32) : ev_A yX4_isIn mm_X4_isIn none [.int s, .int t] (([] : List ev_E)) (fun r w => r = some (.int (ev_b (st_in s t))) ∧ w = []) := by
  refine ev_start ok_X4_isIn (by decide +kernel) rfl rfl (Nat.le_of_ble_eq_true rfl) ?_
  refine ev_run [] 5 rfl trivial ?_
  refine ev_br rfl rfl (fun h1 => ?_) (fun h1 => ?_)
  · refine ev_run [] 1 rfl trivial ?_
    refine ev_exit ⟨_, _, rfl, ⟨rfl, Or.inr ⟨rfl, rfl⟩⟩, ?_, Nat.le_refl _, Nat.le_refl _⟩
    exact ⟨by simp [st_in, ev_b, h1], rfl⟩
  · refine ev_run [] 2 rfl trivial ?_
    refine ev_exit ⟨_, _, rfl, ⟨rfl, Or.inr ⟨rfl, rfl⟩⟩, ?_, Nat.le_refl _, Nat.le_refl _⟩
    exact ⟨by simp [st_in, ev_b, h1], rfl⟩

set_option maxRecDepth 20000 in
theorem t_X4_placeOf (t s : Int32) : ev_A yX4_placeOf mm_X4_placeOf none [.int t, .int s] (([] : List ev_E)) (fun r w => r = some (.int (st_pl t s)) ∧ w = []) := by
  refine ev_start ok_X4_placeOf (by decide +kernel) rfl rfl (Nat.le_of_ble_eq_true rfl) ?_
  refine ev_run [] 7 rfl trivial ?_
  refine ev_exit ⟨_, _, rfl, ⟨rfl, Or.inl rfl⟩, ?_, Nat.le_refl _, Nat.le_refl _⟩
  exact ⟨rfl, rfl⟩

set_option maxRecDepth 20000 in
theorem t_J6_numberOfTrailingZeros_0f7a4 (x : Int32) : ev_A yJ6_numberOfTrailingZeros_0f7a4 mm_J6_numberOfTrailingZeros_0f7a4 none [.int x] (([] : List ev_E)) (fun r w => r = some (.int (jd_ntz x)) ∧ w = []) := by
  refine ev_start ok_J6_numberOfTrailingZeros_0f7a4 (by decide +kernel) rfl rfl (Nat.le_of_ble_eq_true rfl) ?_
  refine ev_run [] 9 rfl trivial ?_
  refine ev_br rfl rfl (fun h1 => ?_) (fun h1 => ?_)
  · refine ev_run [] 4 rfl trivial ?_
    refine ev_br rfl rfl (fun h2 => ?_) (fun h2 => ?_)
    · refine ev_run [] 2 rfl trivial ?_
      refine ev_br rfl rfl (fun h3 => ?_) (fun h3 => ?_)
      · refine ev_run [] 2 rfl trivial ?_
        refine ev_br rfl rfl (fun h4 => ?_) (fun h4 => ?_)
        · refine ev_run [] 2 rfl trivial ?_
          refine ev_br rfl rfl (fun h5 => ?_) (fun h5 => ?_)
          · refine ev_run [] 5 rfl trivial ?_
            refine ev_exit ⟨_, _, rfl, ⟨rfl, Or.inl rfl⟩, ?_, Nat.le_refl _, Nat.le_refl _⟩
            exact ⟨by simp only [jd_ntz, jd_nz1, jd_nz2, jd_nz3, jd_nz4, ↓reduceIte, h1, h2, h3, h4, h5], rfl⟩
          · refine ev_run [] 10 rfl trivial ?_
            refine ev_exit ⟨_, _, rfl, ⟨rfl, Or.inl rfl⟩, ?_, Nat.le_refl _, Nat.le_refl _⟩
            exact ⟨by simp only [jd_ntz, jd_nz1, jd_nz2, jd_nz3, jd_nz4, ↓reduceIte, h1, h2, h3, h4, h5], rfl⟩
        · refine ev_run [] 7 rfl trivial ?_
          refine ev_br rfl rfl (fun h6 => ?_) (fun h6 => ?_)
          · refine ev_run [] 5 rfl trivial ?_
            refine ev_exit ⟨_, _, rfl, ⟨rfl, Or.inl rfl⟩, ?_, Nat.le_refl _, Nat.le_refl _⟩
            exact ⟨by simp only [jd_ntz, jd_nz1, jd_nz2, jd_nz3, jd_nz4, ↓reduceIte, h1, h2, h3, h4, h6], rfl⟩
          · refine ev_run [] 10 rfl trivial ?_
            refine ev_exit ⟨_, _, rfl, ⟨rfl, Or.inl rfl⟩, ?_, Nat.le_refl _, Nat.le_refl _⟩
            exact ⟨by simp only [jd_ntz, jd_nz1, jd_nz2, jd_nz3, jd_nz4, ↓reduceIte, h1, h2, h3, h4, h6], rfl⟩
      · refine ev_run [] 7 rfl trivial ?_
        refine ev_br rfl rfl (fun h7 => ?_) (fun h7 => ?_)
        · refine ev_run [] 2 rfl trivial ?_
          refine ev_br rfl rfl (fun h8 => ?_) (fun h8 => ?_)
          · refine ev_run [] 5 rfl trivial ?_
            refine ev_exit ⟨_, _, rfl, ⟨rfl, Or.inl rfl⟩, ?_, Nat.le_refl _, Nat.le_refl _⟩
            exact ⟨by simp only [jd_ntz, jd_nz1, jd_nz2, jd_nz3, jd_nz4, ↓reduceIte, h1, h2, h3, h7, h8], rfl⟩
          · refine ev_run [] 10 rfl trivial ?_
            refine ev_exit ⟨_, _, rfl, ⟨rfl, Or.inl rfl⟩, ?_, Nat.le_refl _, Nat.le_refl _⟩
            exact ⟨by simp only [jd_ntz, jd_nz1, jd_nz2, jd_nz3, jd_nz4, ↓reduceIte, h1, h2, h3, h7, h8], rfl⟩
        · refine ev_run [] 7 rfl trivial ?_
          refine ev_br rfl rfl (fun h9 => ?_) (fun h9 => ?_)
          · refine ev_run [] 5 rfl trivial ?_
            refine ev_exit ⟨_, _, rfl, ⟨rfl, Or.inl rfl⟩, ?_, Nat.le_refl _, Nat.le_refl _⟩
            exact ⟨by simp only [jd_ntz, jd_nz1, jd_nz2, jd_nz3, jd_nz4, ↓reduceIte, h1, h2, h3, h7, h9], rfl⟩
          · refine ev_run [] 10 rfl trivial ?_
            refine ev_exit ⟨_, _, rfl, ⟨rfl, Or.inl rfl⟩, ?_, Nat.le_refl _, Nat.le_refl _⟩
            exact ⟨by simp only [jd_ntz, jd_nz1, jd_nz2, jd_nz3, jd_nz4, ↓reduceIte, h1, h2, h3, h7, h9], rfl⟩
    · refine ev_run [] 7 rfl trivial ?_
      refine ev_br rfl rfl (fun h10 => ?_) (fun h10 => ?_)
      · refine ev_run [] 2 rfl trivial ?_
        refine ev_br rfl rfl (fun h11 => ?_) (fun h11 => ?_)
        · refine ev_run [] 2 rfl trivial ?_
          refine ev_br rfl rfl (fun h12 => ?_) (fun h12 => ?_)
          · refine ev_run [] 5 rfl trivial ?_
            refine ev_exit ⟨_, _, rfl, ⟨rfl, Or.inl rfl⟩, ?_, Nat.le_refl _, Nat.le_refl _⟩
            exact ⟨by simp only [jd_ntz, jd_nz1, jd_nz2, jd_nz3, jd_nz4, ↓reduceIte, h1, h2, h10, h11, h12], rfl⟩
          · refine ev_run [] 10 rfl trivial ?_
            refine ev_exit ⟨_, _, rfl, ⟨rfl, Or.inl rfl⟩, ?_, Nat.le_refl _, Nat.le_refl _⟩
            exact ⟨by simp only [jd_ntz, jd_nz1, jd_nz2, jd_nz3, jd_nz4, ↓reduceIte, h1, h2, h10, h11, h12], rfl⟩
        · refine ev_run [] 7 rfl trivial ?_
          refine ev_br rfl rfl (fun h13 => ?_) (fun h13 => ?_)
          · refine ev_run [] 5 rfl trivial ?_
            refine ev_exit ⟨_, _, rfl, ⟨rfl, Or.inl rfl⟩, ?_, Nat.le_refl _, Nat.le_refl _⟩
            exact ⟨by simp only [jd_ntz, jd_nz1, jd_nz2, jd_nz3, jd_nz4, ↓reduceIte, h1, h2, h10, h11, h13], rfl⟩
          · refine ev_run [] 10 rfl trivial ?_
            refine ev_exit ⟨_, _, rfl, ⟨rfl, Or.inl rfl⟩, ?_, Nat.le_refl _, Nat.le_refl _⟩
            exact ⟨by simp only [jd_ntz, jd_nz1, jd_nz2, jd_nz3, jd_nz4, ↓reduceIte, h1, h2, h10, h11, h13], rfl⟩
      · refine ev_run [] 7 rfl trivial ?_
        refine ev_br rfl rfl (fun h14 => ?_) (fun h14 => ?_)
        · refine ev_run [] 2 rfl trivial ?_
          refine ev_br rfl rfl (fun h15 => ?_) (fun h15 => ?_)
          · refine ev_run [] 5 rfl trivial ?_
            refine ev_exit ⟨_, _, rfl, ⟨rfl, Or.inl rfl⟩, ?_, Nat.le_refl _, Nat.le_refl _⟩
            exact ⟨by simp only [jd_ntz, jd_nz1, jd_nz2, jd_nz3, jd_nz4, ↓reduceIte, h1, h2, h10, h14, h15], rfl⟩
          · refine ev_run [] 10 rfl trivial ?_
            refine ev_exit ⟨_, _, rfl, ⟨rfl, Or.inl rfl⟩, ?_, Nat.le_refl _, Nat.le_refl _⟩
            exact ⟨by simp only [jd_ntz, jd_nz1, jd_nz2, jd_nz3, jd_nz4, ↓reduceIte, h1, h2, h10, h14, h15], rfl⟩
        · refine ev_run [] 7 rfl trivial ?_
          refine ev_br rfl rfl (fun h16 => ?_) (fun h16 => ?_)
          · refine ev_run [] 5 rfl trivial ?_
            refine ev_exit ⟨_, _, rfl, ⟨rfl, Or.inl rfl⟩, ?_, Nat.le_refl _, Nat.le_refl _⟩
            exact ⟨by simp only [jd_ntz, jd_nz1, jd_nz2, jd_nz3, jd_nz4, ↓reduceIte, h1, h2, h10, h14, h16], rfl⟩
          · refine ev_run [] 10 rfl trivial ?_
            refine ev_exit ⟨_, _, rfl, ⟨rfl, Or.inl rfl⟩, ?_, Nat.le_refl _, Nat.le_refl _⟩
            exact ⟨by simp only [jd_ntz, jd_nz1, jd_nz2, jd_nz3, jd_nz4, ↓reduceIte, h1, h2, h10, h14, h16], rfl⟩
  · refine ev_run [] 3 rfl trivial ?_
    refine ev_exit ⟨_, _, rfl, ⟨rfl, Or.inl rfl⟩, ?_, Nat.le_refl _, Nat.le_refl _⟩
    exact ⟨by simp only [jd_ntz, jd_nz1, jd_nz2, jd_nz3, jd_nz4, ↓reduceIte, h1], rfl⟩

set_option maxRecDepth 20000 in
theorem t_J6_bitCount_0f7a4 (x : Int32) : ev_A yJ6_bitCount_0f7a4 mm_J6_bitCount_0f7a4 none [.int x] (([] : List ev_E)) (fun r w => r = some (.int (jd_bc x)) ∧ w = []) := by
  refine ev_start ok_J6_bitCount_0f7a4 (by decide +kernel) rfl rfl (Nat.le_of_ble_eq_true rfl) ?_
  refine ev_run [] 41 rfl trivial ?_
  refine ev_exit ⟨_, _, rfl, ⟨rfl, Or.inl rfl⟩, ?_, Nat.le_refl _, Nat.le_refl _⟩
  exact ⟨rfl, rfl⟩

set_option maxRecDepth 20000 in
theorem t_J9_floorMod_7cf53 (x y : Int32) (hy : ¬ y = 0) : ev_A yJ9_floorMod_7cf53 mm_J9_floorMod_7cf53 none [.int x, .int y] (([] : List ev_E)) (fun r w => r = some (.int (jd_fm x y)) ∧ w = []) := by
  refine ev_startF ok_J9_floorMod_7cf53 (by decide +kernel) rfl rfl (Nat.le_of_ble_eq_true rfl) ?_
  refine ev_run [] 7 rfl ?_ ?_
  · exact hy
  refine ev_br rfl rfl (fun h1 => ?_) (fun h1 => ?_)
  · refine ev_run [] 1 rfl trivial ?_
    refine ev_exit ⟨_, _, rfl, ⟨rfl, Or.inl rfl⟩, ?_, Nat.le_refl _, Nat.le_refl _⟩
    exact ⟨by simp [jd_fm, h1], rfl⟩
  · refine ev_run [] 1 rfl trivial ?_
    refine ev_br rfl rfl (fun h2 => ?_) (fun h2 => ?_)
    · refine ev_run [] 1 rfl trivial ?_
      refine ev_exit ⟨_, _, rfl, ⟨rfl, Or.inl rfl⟩, ?_, Nat.le_refl _, Nat.le_refl _⟩
      exact ⟨by simp [jd_fm, h1, h2], rfl⟩
    · refine ev_run [] 3 rfl trivial ?_
      refine ev_exit ⟨_, _, rfl, ⟨rfl, Or.inl rfl⟩, ?_, Nat.le_refl _, Nat.le_refl _⟩
      exact ⟨by simp [jd_fm, h1, h2], rfl⟩
