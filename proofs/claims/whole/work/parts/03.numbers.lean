/-- a whole number that an int, a long can be -/
def sc_in (x : Int) : Prop := -2147483648 ≤ x ∧ x ≤ 2147483647
def sc_in6 (x : Int) : Prop := -9223372036854775808 ≤ x ∧ x ≤ 9223372036854775807
theorem sc_ti {x : Int} (h : sc_in x) : (Int32.ofInt x).toInt = x := Int32.toInt_ofInt_of_le h.1 (by have := h.2; omega)
theorem sc_tl {x : Int} (h : sc_in6 x) : (Int64.ofInt x).toInt = x := Int64.toInt_ofInt_of_le h.1 (by have := h.2; omega)
theorem sc_in_toInt (x : Int32) : sc_in x.toInt := ⟨by have := Int32.le_toInt x; omega, by have := Int32.toInt_lt x; omega⟩
theorem sc_in6_toInt (x : Int64) : sc_in6 x.toInt := ⟨by have := Int64.le_toInt x; omega, by have := Int64.toInt_lt x; omega⟩
theorem sc_ieq {x y : Int} (hx : sc_in x) (hy : sc_in y) : Int32.ofInt x = Int32.ofInt y ↔ x = y := by
  rw [← Int32.toInt_inj, sc_ti hx, sc_ti hy]
theorem sc_ilt {x y : Int} (hx : sc_in x) (hy : sc_in y) : Int32.ofInt x < Int32.ofInt y ↔ x < y := by
  rw [Int32.lt_iff_toInt_lt, sc_ti hx, sc_ti hy]
theorem sc_ile {x y : Int} (hx : sc_in x) (hy : sc_in y) : Int32.ofInt x ≤ Int32.ofInt y ↔ x ≤ y := by
  rw [Int32.le_iff_toInt_le, sc_ti hx, sc_ti hy]
theorem sc_leq {x y : Int} (hx : sc_in6 x) (hy : sc_in6 y) : Int64.ofInt x = Int64.ofInt y ↔ x = y := by
  rw [← Int64.toInt_inj, sc_tl hx, sc_tl hy]
theorem sc_llt {x y : Int} (hx : sc_in6 x) (hy : sc_in6 y) : Int64.ofInt x < Int64.ofInt y ↔ x < y := by
  rw [Int64.lt_iff_toInt_lt, sc_tl hx, sc_tl hy]
theorem sc_zero : sc_in 0 := ⟨by decide, by decide⟩
theorem sc_z32 : (0 : Int32) = Int32.ofInt 0 := rfl
theorem sc_idiv {x y : Int} (hx : sc_in x) (hy : sc_in y) (h0 : 0 < y) : Int32.ofInt x / Int32.ofInt y = Int32.ofInt (x.tdiv y) := by
  rw [← Int32.toInt_inj, Int32.toInt_div, sc_ti hx, sc_ti hy]
  have h : sc_in (x.tdiv y) := by
    obtain ⟨a, b⟩ := hx
    have e := Int.mul_tdiv_add_tmod x y
    rcases Int.lt_or_le x 0 with h | h
    · have h1 : x.tdiv y = -((-x).tdiv y) := by rw [Int.neg_tdiv]; omega
      have h2 : (-x).tdiv y ≤ -x := Int.tdiv_le_self _ (by omega)
      have h3 : 0 ≤ (-x).tdiv y := Int.tdiv_nonneg (by omega) (by omega)
      constructor <;> omega
    · have h2 : x.tdiv y ≤ x := Int.tdiv_le_self _ h
      have h3 : 0 ≤ x.tdiv y := Int.tdiv_nonneg h (by omega)
      constructor <;> omega
  rw [sc_ti h]
  obtain ⟨a, b⟩ := h
  exact Int.bmod_eq_of_le (by omega) (by omega)
theorem sc_ldiv {x y : Int} (hx : sc_in6 x) (hy : sc_in6 y) (h0 : 0 < y) : Int64.ofInt x / Int64.ofInt y = Int64.ofInt (x.tdiv y) := by
  rw [← Int64.toInt_inj, Int64.toInt_div, sc_tl hx, sc_tl hy]
  have h : sc_in6 (x.tdiv y) := by
    obtain ⟨a, b⟩ := hx
    rcases Int.lt_or_le x 0 with h | h
    · have h1 : x.tdiv y = -((-x).tdiv y) := by rw [Int.neg_tdiv]; omega
      have h2 : (-x).tdiv y ≤ -x := Int.tdiv_le_self _ (by omega)
      have h3 : 0 ≤ (-x).tdiv y := Int.tdiv_nonneg (by omega) (by omega)
      constructor <;> omega
    · have h2 : x.tdiv y ≤ x := Int.tdiv_le_self _ h
      have h3 : 0 ≤ x.tdiv y := Int.tdiv_nonneg h (by omega)
      constructor <;> omega
  rw [sc_tl h]
  obtain ⟨a, b⟩ := h
  exact Int.bmod_eq_of_le (by omega) (by omega)
theorem sc_imod {x y : Int} (hx : sc_in x) (hy : sc_in y) (h0 : 0 < y) : Int32.ofInt x - Int32.ofInt x / Int32.ofInt y * Int32.ofInt y = Int32.ofInt (x.tmod y) := by
  rw [sc_idiv hx hy h0, ← Int32.ofInt_mul, ← Int32.ofInt_sub, Int.tmod_def, Int.mul_comm]
theorem sc_lmod {x y : Int} (hx : sc_in6 x) (hy : sc_in6 y) (h0 : 0 < y) : Int64.ofInt x - Int64.ofInt x / Int64.ofInt y * Int64.ofInt y = Int64.ofInt (x.tmod y) := by
  rw [sc_ldiv hx hy h0, ← Int64.ofInt_mul, ← Int64.ofInt_sub, Int.tmod_def, Int.mul_comm]
theorem sc_i2l {x : Int} (hx : sc_in x) : (Int32.ofInt x).toInt64 = Int64.ofInt x := by
  rw [← Int64.toInt_inj, Int32.toInt_toInt64, sc_ti hx, sc_tl ⟨by have := hx.1; omega, by have := hx.2; omega⟩]
theorem sc_clamp {x : Int} (hx : sc_in x) : (Int32.ofInt x).toNatClampNeg = x.toNat := by
  show (Int32.ofInt x).toInt.toNat = x.toNat
  rw [sc_ti hx]
theorem sc_neg0 {x : Int} (hx : sc_in x) : (Int32.ofInt x < 0) ↔ x < 0 := by
  rw [sc_z32, sc_ilt hx sc_zero]
theorem sc_eq0 {x : Int} (hx : sc_in x) : (Int32.ofInt x = 0) ↔ x = 0 := by
  rw [sc_z32, sc_ieq hx sc_zero]
theorem sc_bad (n : Int) (h1 : -128 ≤ n) (h2 : n ≤ 127) : (Int8.ofInt n).toInt32 = Int32.ofInt n := by
  rw [← Int32.toInt_inj, Int8.toInt_toInt32, Int8.toInt_ofInt_of_le (by omega) (by omega), sc_ti ⟨by omega, by omega⟩]
theorem sc_shd (n : Int) (h1 : -32768 ≤ n) (h2 : n ≤ 32767) : (Int16.ofInt n).toInt32 = Int32.ofInt n := by
  rw [← Int32.toInt_inj, Int16.toInt_toInt32, Int16.toInt_ofInt_of_le (by omega) (by omega), sc_ti ⟨by omega, by omega⟩]
def sc_cmp (x y : Int) : Int := if x < y then -1 else if x = y then 0 else 1
theorem sc_lcmp {x y : Int} (hx : sc_in6 x) (hy : sc_in6 y) : lg_cmp (Int64.ofInt x) (Int64.ofInt y) = Int32.ofInt (sc_cmp x y) := by
  unfold lg_cmp sc_cmp
  simp only [gt_iff_lt, sc_llt hy hx, sc_leq hx hy]
  split
  · rw [if_neg (by omega), if_neg (by omega)]; rfl
  · split
    · rw [if_neg (by omega)]; rfl
    · rw [if_pos (by omega)]; rfl
/-- the machine's own bits; shut, all six by one choice, so that nobody works them out or holds two of them against each other by accident -/
theorem sc_b6_ex : ∃ f : Nat → Int → Int → Int, ∀ i x y, f i x y = (match i with
  | 0 => (Int32.ofInt x &&& Int32.ofInt y).toInt
  | 1 => (Int32.ofInt x ||| Int32.ofInt y).toInt
  | 2 => (Int32.ofInt x ^^^ Int32.ofInt y).toInt
  | 3 => (Int32.ofInt x <<< (Int32.ofInt y &&& 31)).toInt
  | 4 => (Int32.ofInt x >>> (Int32.ofInt y &&& 31)).toInt
  | _ => ((Int32.ofInt x).toUInt32 >>> ((Int32.ofInt y).toUInt32 &&& Int32.toUInt32 31)).toInt32.toInt) := ⟨_, fun _ _ _ => rfl⟩
noncomputable def sc_b6 : Nat → Int → Int → Int := Classical.choose sc_b6_ex
theorem sc_b6_eq (i : Nat) (x y : Int) : sc_b6 i x y = (match i with
  | 0 => (Int32.ofInt x &&& Int32.ofInt y).toInt
  | 1 => (Int32.ofInt x ||| Int32.ofInt y).toInt
  | 2 => (Int32.ofInt x ^^^ Int32.ofInt y).toInt
  | 3 => (Int32.ofInt x <<< (Int32.ofInt y &&& 31)).toInt
  | 4 => (Int32.ofInt x >>> (Int32.ofInt y &&& 31)).toInt
  | _ => ((Int32.ofInt x).toUInt32 >>> ((Int32.ofInt y).toUInt32 &&& Int32.toUInt32 31)).toInt32.toInt) := Classical.choose_spec sc_b6_ex i x y
noncomputable abbrev sc_band (x y : Int) : Int := sc_b6 0 x y
theorem sc_band_eq (x y : Int) : sc_band x y = (Int32.ofInt x &&& Int32.ofInt y).toInt := sc_b6_eq 0 x y
theorem sc_in_band (x y : Int) : sc_in (sc_band x y) := by
  rw [sc_band_eq]
  exact sc_in_toInt _
noncomputable abbrev sc_bor (x y : Int) : Int := sc_b6 1 x y
theorem sc_bor_eq (x y : Int) : sc_bor x y = (Int32.ofInt x ||| Int32.ofInt y).toInt := sc_b6_eq 1 x y
theorem sc_in_bor (x y : Int) : sc_in (sc_bor x y) := by
  rw [sc_bor_eq]
  exact sc_in_toInt _
noncomputable abbrev sc_bxor (x y : Int) : Int := sc_b6 2 x y
theorem sc_bxor_eq (x y : Int) : sc_bxor x y = (Int32.ofInt x ^^^ Int32.ofInt y).toInt := sc_b6_eq 2 x y
theorem sc_in_bxor (x y : Int) : sc_in (sc_bxor x y) := by
  rw [sc_bxor_eq]
  exact sc_in_toInt _
noncomputable abbrev sc_bshl (x y : Int) : Int := sc_b6 3 x y
theorem sc_bshl_eq (x y : Int) : sc_bshl x y = (Int32.ofInt x <<< (Int32.ofInt y &&& 31)).toInt := sc_b6_eq 3 x y
theorem sc_in_bshl (x y : Int) : sc_in (sc_bshl x y) := by
  rw [sc_bshl_eq]
  exact sc_in_toInt _
noncomputable abbrev sc_bshr (x y : Int) : Int := sc_b6 4 x y
theorem sc_bshr_eq (x y : Int) : sc_bshr x y = (Int32.ofInt x >>> (Int32.ofInt y &&& 31)).toInt := sc_b6_eq 4 x y
theorem sc_in_bshr (x y : Int) : sc_in (sc_bshr x y) := by
  rw [sc_bshr_eq]
  exact sc_in_toInt _
noncomputable abbrev sc_bush (x y : Int) : Int := sc_b6 5 x y
theorem sc_bush_eq (x y : Int) : sc_bush x y = ((Int32.ofInt x).toUInt32 >>> ((Int32.ofInt y).toUInt32 &&& Int32.toUInt32 31)).toInt32.toInt := sc_b6_eq 5 x y
theorem sc_in_bush (x y : Int) : sc_in (sc_bush x y) := by
  rw [sc_bush_eq]
  exact sc_in_toInt _
