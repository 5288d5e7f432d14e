/-- is (k, w) a place of a forgetting plan -/
def fo_sl (M : sc_M) (N k w : Nat) : Prop := md_ic M k ∧ M 25 k < 0 ∧ md_nb M N (M 24 k) w = w
noncomputable def fo_mlt (p : Prop) (a b : Nat) : Nat := @ite Nat p (Classical.propDecidable p) (a * b) a
/-- how much a place counts: all places ahead, in this node from base b -/
noncomputable def fo_r (M : sc_M) (N k b : Nat) : Nat → Nat
  | 0 => b
  | w + 1 => fo_mlt (fo_sl M N k w) (fo_r M N k b w) (M 21 k).toNat
noncomputable def fo_b (M : sc_M) (N W : Nat) : Nat → Nat
  | 0 => 1
  | k + 1 => fo_r M N k (fo_b M N W k) W
noncomputable def fo_R (M : sc_M) (N W k w : Nat) : Nat := fo_r M N k (fo_b M N W k) w
/-- the t-th forgetting plan -/
noncomputable def fo_P (M : sc_M) (N W t : Nat) : Nat → Nat → Int := fun k w => sc_if (fo_sl M N k w ∧ w < W) ((t / fo_R M N W k w % (M 21 k).toNat : Nat) : Int) 0
theorem fo_mlt_pos {p : Prop} (a b : Nat) (h : p) : fo_mlt p a b = a * b := if_pos h
theorem fo_mlt_neg {p : Prop} (a b : Nat) (h : ¬ p) : fo_mlt p a b = a := if_neg h
theorem fo_mlt_dvd (p : Prop) (a b : Nat) : a ∣ fo_mlt p a b := by
  by_cases h : p
  · rw [fo_mlt_pos _ _ h]; exact Nat.dvd_mul_right a b
  · rw [fo_mlt_neg _ _ h]; exact Nat.dvd_refl a
theorem fo_r_dvd (M : sc_M) (N k b : Nat) (w : Nat) : ∀ j, fo_r M N k b w ∣ fo_r M N k b (w + j)
  | 0 => Nat.dvd_refl _
  | j + 1 => Nat.dvd_trans (fo_r_dvd M N k b w j) (fo_mlt_dvd _ _ _)
theorem fo_b_dvd (M : sc_M) (N W : Nat) (k : Nat) : ∀ j, fo_b M N W k ∣ fo_b M N W (k + j)
  | 0 => Nat.dvd_refl _
  | j + 1 => by
    refine Nat.dvd_trans (fo_b_dvd M N W k j) ?_
    show fo_b M N W (k + j) ∣ fo_r M N (k + j) (fo_b M N W (k + j)) W
    have := fo_r_dvd M N (k + j) (fo_b M N W (k + j)) 0 W
    rw [Nat.zero_add] at this
    exact this
theorem fo_r_pos {M : sc_M} {N : Nat} (hw : mo_w M N) (k b : Nat) (hk : k < N) (hb : 0 < b) : ∀ w, 0 < fo_r M N k b w
  | 0 => hb
  | w + 1 => by
    have ih := fo_r_pos hw k b hk hb w
    rw [fo_r]
    by_cases h : fo_sl M N k w
    · rw [fo_mlt_pos _ _ h]
      have := (hw.2.2.1 k hk).2.2.1 (mo_ic_ne hw hk h.1)
      exact Nat.mul_pos ih (by omega)
    · rw [fo_mlt_neg _ _ h]; exact ih
theorem fo_b_pos {M : sc_M} {N : Nat} (hw : mo_w M N) (W : Nat) : ∀ k, k ≤ N → 0 < fo_b M N W k
  | 0, _ => Nat.zero_lt_one
  | k + 1, hk => fo_r_pos hw k _ (by omega) (fo_b_pos hw W k (by omega)) W
/-- a place behind counts a multiple -/
theorem fo_R_dvd (M : sc_M) (N W k w : Nat) (hs : fo_sl M N k w) (hwW : w < W) (k' w' : Nat) (hw' : w' ≤ W) (h : k < k' ∨ (k = k' ∧ w < w')) : fo_R M N W k w * (M 21 k).toNat ∣ fo_R M N W k' w' := by
  have e : fo_R M N W k w * (M 21 k).toNat = fo_r M N k (fo_b M N W k) (w + 1) := by
    rw [fo_r, fo_mlt_pos _ _ hs]
    rfl
  rw [e]
  rcases h with h | ⟨h1, h2⟩
  · have a1 := fo_r_dvd M N k (fo_b M N W k) (w + 1) (W - (w + 1))
    rw [show w + 1 + (W - (w + 1)) = W by omega] at a1
    have a2 := fo_b_dvd M N W (k + 1) (k' - (k + 1))
    rw [show k + 1 + (k' - (k + 1)) = k' by omega] at a2
    have a3 := fo_r_dvd M N k' (fo_b M N W k') 0 w'
    rw [Nat.zero_add] at a3
    exact Nat.dvd_trans a1 (Nat.dvd_trans a2 a3)
  · subst h1
    have a1 := fo_r_dvd M N k (fo_b M N W k) (w + 1) (w' - (w + 1))
    rw [show w + 1 + (w' - (w + 1)) = w' by omega] at a1
    exact a1
/-- counting on by one -/
theorem fo_carry (t r S : Nat) (hr : 0 < r) (hS : 0 < S) (h : (t + 1) % r = 0) : (t + 1) / r = t / r + 1 ∧ (t / r % S + 1 < S → (t + 1) / r % S = t / r % S + 1 ∧ ∀ r', r * S ∣ r' → (t + 1) / r' = t / r') ∧ (¬ t / r % S + 1 < S → (t + 1) / r % S = 0 ∧ (t + 1) % (r * S) = 0) := by
  obtain ⟨q, hq⟩ := Nat.dvd_of_mod_eq_zero h
  have hq0 : 0 < q := by
    rcases Nat.eq_zero_or_pos q with h0 | h0
    · rw [h0] at hq; omega
    · exact h0
  have e1 : (t + 1) / r = q := by rw [hq]; exact Nat.mul_div_cancel_left q hr
  have e2 : t / r = q - 1 := by
    have : t = r * (q - 1) + (r - 1) := by
      have : r * q = r * (q - 1) + r := by
        rw [← Nat.mul_succ]; congr 1; omega
      omega
    rw [this, Nat.mul_add_div hr, Nat.div_eq_of_lt (by omega)]
    omega
  have hlt := Nat.mod_lt (q - 1) hS
  have hdm := Nat.div_add_mod (q - 1) S
  refine ⟨by omega, fun hc => ?_, fun hc => ?_⟩
  · rw [e1, e2]
    rw [e2] at hc
    have hqe : q = S * ((q - 1) / S) + ((q - 1) % S + 1) := by omega
    have e3 : q % S = (q - 1) % S + 1 := by
      have : q % S = (S * ((q - 1) / S) + ((q - 1) % S + 1)) % S := by rw [← hqe]
      rw [this, Nat.mul_add_mod, Nat.mod_eq_of_lt hc]
    refine ⟨e3, fun r' hd => ?_⟩
    obtain ⟨z, hz⟩ := hd
    have e4 : q / S = (q - 1) / S := by
      have : q / S = (S * ((q - 1) / S) + ((q - 1) % S + 1)) / S := by rw [← hqe]
      rw [this, Nat.mul_add_div hS, Nat.div_eq_of_lt hc]
      omega
    rw [hz, ← Nat.div_div_eq_div_mul, ← Nat.div_div_eq_div_mul, ← Nat.div_div_eq_div_mul, ← Nat.div_div_eq_div_mul, e1, e2, e4]
  · rw [e2] at hc
    have hqe : q = S * ((q - 1) / S + 1) := by
      rw [Nat.mul_add]
      omega
    have e3 : q % S = 0 := by rw [hqe]; exact Nat.mul_mod_right _ _
    refine ⟨by rw [e1]; exact e3, ?_⟩
    rw [hq, hqe, ← Nat.mul_assoc]
    exact Nat.mul_mod_right _ _
