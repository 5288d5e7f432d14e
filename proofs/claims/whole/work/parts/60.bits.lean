/-! sets of nodes as bits -/
theorem sc_bv (n : Nat) (h : n < 2147483648) : (Int32.ofInt (n : Int)).toBitVec = BitVec.ofNat 32 n := by
  show BitVec.ofInt 32 (n : Int) = BitVec.ofNat 32 n
  rw [BitVec.ofInt_natCast]
theorem sc_bvi (b : BitVec 32) (n : Nat) (h : n < 2147483648) (e : b.toNat = n) : b.toInt = (n : Int) := by
  rw [BitVec.toInt_eq_toNat_of_lt (by omega), e]
theorem sc_band_nat (n m : Nat) (hn : n < 2147483648) (hm : m < 2147483648) : sc_band (n : Int) (m : Int) = ((n &&& m : Nat) : Int) := by
  rw [sc_band_eq]
  show ((Int32.ofInt (n : Int) &&& Int32.ofInt (m : Int)).toBitVec).toInt = _
  rw [Int32.toBitVec_and, sc_bv n hn, sc_bv m hm]
  have h1 : n &&& m ≤ n := Nat.and_le_left
  refine sc_bvi _ _ (by omega) ?_
  rw [BitVec.toNat_and, BitVec.toNat_ofNat, BitVec.toNat_ofNat, Nat.mod_eq_of_lt (by omega), Nat.mod_eq_of_lt (by omega)]
theorem sc_bor_nat (n m : Nat) (hn : n < 1024) (hm : m < 1024) : sc_bor (n : Int) (m : Int) = ((n ||| m : Nat) : Int) := by
  rw [sc_bor_eq]
  show ((Int32.ofInt (n : Int) ||| Int32.ofInt (m : Int)).toBitVec).toInt = _
  rw [Int32.toBitVec_or, sc_bv n (by omega), sc_bv m (by omega)]
  have h1 : n ||| m < 2 ^ 10 := Nat.or_lt_two_pow (by omega) (by omega)
  refine sc_bvi _ _ (by omega) ?_
  rw [BitVec.toNat_or, BitVec.toNat_ofNat, BitVec.toNat_ofNat, Nat.mod_eq_of_lt (by omega), Nat.mod_eq_of_lt (by omega)]
theorem sc_bshl_nat (k : Nat) (hk : k < 10) : sc_bshl 1 (k : Int) = ((2 ^ k : Nat) : Int) := by
  rw [sc_bshl_eq]
  exact (by decide +kernel : ∀ k, k < 10 → (Int32.ofInt 1 <<< (Int32.ofInt ((k : Nat) : Int) &&& 31)).toInt = ((2 ^ k : Nat) : Int)) k hk
theorem sc_bshr_nat (n k : Nat) (hn : n < 1024) (hk : k < 10) : sc_bshr (n : Int) (k : Int) = ((n / 2 ^ k : Nat) : Int) := by
  rw [sc_bshr_eq]
  exact (by decide +kernel : ∀ k, k < 10 → ∀ n, n < 1024 → (Int32.ofInt ((n : Nat) : Int) >>> (Int32.ofInt ((k : Nat) : Int) &&& 31)).toInt = ((n / 2 ^ k : Nat) : Int)) k hk n hn
theorem sc_bclr_nat (n k : Nat) (hn : n < 1024) (hk : k < 10) : sc_band (n : Int) (sc_bxor (sc_bshl 1 (k : Int)) (-1)) = ((n - (if n.testBit k then 2 ^ k else 0) : Nat) : Int) := by
  rw [sc_bshl_nat k hk, sc_bxor_eq, sc_band_eq]
  exact (by decide +kernel : ∀ k, k < 10 → ∀ n, n < 1024 → (Int32.ofInt ((n : Nat) : Int) &&& Int32.ofInt ((Int32.ofInt ((2 ^ k : Nat) : Int) ^^^ Int32.ofInt (-1)).toInt)).toInt = ((n - (if n.testBit k then 2 ^ k else 0) : Nat) : Int)) k hk n hn
theorem sc_bit_nat (n k : Nat) (hn : n < 1024) (hk : k < 10) : sc_band (sc_bshr (n : Int) (k : Int)) 1 = if n.testBit k then 1 else 0 := by
  rw [sc_bshr_nat n k hn hk]
  have h1 : n / 2 ^ k ≤ n := Nat.div_le_self _ _
  rw [show (1 : Int) = ((1 : Nat) : Int) from rfl, sc_band_nat _ 1 (by omega) (by omega), Nat.and_one_is_mod, Nat.testBit_eq_decide_div_mod_eq]
  rcases Nat.mod_two_eq_zero_or_one (n / 2 ^ k) with h | h <;> simp [h]
theorem mo_bt_nat (n k : Nat) (hn : n < 1024) (hk : k < 10) : mo_bt (n : Int) k = if n.testBit k then 1 else 0 := sc_bit_nat n k hn hk
theorem mo_bt_01 (s : Int) (h : 0 ≤ s ∧ s < 1024) (k : Nat) (hk : k < 10) : mo_bt s k = 0 ∨ mo_bt s k = 1 := by
  obtain ⟨n, rfl⟩ := Int.eq_ofNat_of_zero_le h.1
  rw [mo_bt_nat n k (by omega) hk]
  split
  · exact Or.inr rfl
  · exact Or.inl rfl
theorem mo_bits_le (s : Int) (h : 0 ≤ s ∧ s < 1024) : ∀ k : Nat, k ≤ 10 → 0 ≤ mo_bits s k ∧ mo_bits s k ≤ k
  | 0, _ => by simp [mo_bits]
  | k + 1, hk => by
    have h1 := mo_bits_le s h k (by omega)
    have h2 := mo_bt_01 s h k (by omega)
    rw [mo_bits, sc_cast1]
    omega
/-- a set with one node more, and one less -/
theorem sc_bset_lt (s : Int) (h : 0 ≤ s ∧ s < 1024) (k : Nat) (hk : k < 10) : 0 ≤ sc_bor s (sc_bshl 1 (k : Int)) ∧ sc_bor s (sc_bshl 1 (k : Int)) < 1024 := by
  obtain ⟨n, rfl⟩ := Int.eq_ofNat_of_zero_le h.1
  have h2 : 2 ^ k < 2 ^ 10 := Nat.pow_lt_pow_right (by omega) hk
  rw [sc_bshl_nat k hk, sc_bor_nat n _ (by omega) (by omega)]
  have h1 : n ||| 2 ^ k < 2 ^ 10 := Nat.or_lt_two_pow (by omega) h2
  omega
theorem sc_bclr_lt (s : Int) (h : 0 ≤ s ∧ s < 1024) (k : Nat) (hk : k < 10) : 0 ≤ sc_band s (sc_bxor (sc_bshl 1 (k : Int)) (-1)) ∧ sc_band s (sc_bxor (sc_bshl 1 (k : Int)) (-1)) < 1024 := by
  obtain ⟨n, rfl⟩ := Int.eq_ofNat_of_zero_le h.1
  rw [sc_bclr_nat n k (by omega) hk]
  omega
theorem sc_bor_lt (s t : Int) (h : 0 ≤ s ∧ s < 1024) (h2 : 0 ≤ t ∧ t < 1024) : 0 ≤ sc_bor s t ∧ sc_bor s t < 1024 := by
  obtain ⟨n, rfl⟩ := Int.eq_ofNat_of_zero_le h.1
  obtain ⟨m, rfl⟩ := Int.eq_ofNat_of_zero_le h2.1
  rw [sc_bor_nat n m (by omega) (by omega)]
  have h1 : n ||| m < 2 ^ 10 := Nat.or_lt_two_pow (by omega) (by omega)
  omega
/-- put in and taken out again, and the other way -/
theorem sc_bset_clr (s : Int) (h : 0 ≤ s ∧ s < 1024) (k : Nat) (hk : k < 10) (hb : ¬ sc_band (sc_bshr s (k : Int)) 1 = 1) : sc_band (sc_bor s (sc_bshl 1 (k : Int))) (sc_bxor (sc_bshl 1 (k : Int)) (-1)) = s := by
  obtain ⟨n, rfl⟩ := Int.eq_ofNat_of_zero_le h.1
  have h2 : 2 ^ k < 2 ^ 10 := Nat.pow_lt_pow_right (by omega) hk
  have h1 : n ||| 2 ^ k < 2 ^ 10 := Nat.or_lt_two_pow (by omega) h2
  rw [sc_bit_nat n k (by omega) hk] at hb
  have hf : n.testBit k = false := by
    cases hq : n.testBit k
    · rfl
    · rw [hq] at hb; exact absurd rfl hb
  rw [show sc_bor (n : Int) (sc_bshl 1 (k : Int)) = ((n ||| 2 ^ k : Nat) : Int) by rw [sc_bshl_nat k hk, sc_bor_nat n _ (by omega) (by omega)], sc_bclr_nat _ k (by omega) hk]
  have := (by decide +kernel : ∀ k, k < 10 → ∀ n, n < 1024 → n.testBit k = false → (n ||| 2 ^ k) - (if (n ||| 2 ^ k).testBit k then 2 ^ k else 0) = n) k hk n (by omega) hf
  rw [this]
theorem sc_bclr_set (s : Int) (h : 0 ≤ s ∧ s < 1024) (k : Nat) (hk : k < 10) (hb : sc_band (sc_bshr s (k : Int)) 1 = 1) : sc_bor (sc_band s (sc_bxor (sc_bshl 1 (k : Int)) (-1))) (sc_bshl 1 (k : Int)) = s := by
  obtain ⟨n, rfl⟩ := Int.eq_ofNat_of_zero_le h.1
  have h2 : 2 ^ k < 2 ^ 10 := Nat.pow_lt_pow_right (by omega) hk
  rw [sc_bit_nat n k (by omega) hk] at hb
  have hf : n.testBit k = true := by
    cases hq : n.testBit k
    · rw [hq] at hb; exact absurd hb (by decide)
    · rfl
  rw [sc_bclr_nat _ k (by omega) hk, sc_bshl_nat k hk, sc_bor_nat _ _ (by omega) (by omega)]
  have := (by decide +kernel : ∀ k, k < 10 → ∀ n, n < 1024 → n.testBit k = true → ((n - (if n.testBit k then 2 ^ k else 0)) ||| 2 ^ k) = n) k hk n (by omega) hf
  rw [this]
