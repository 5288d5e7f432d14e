/-! numbers of the reference, and what cells become -/
/-- one whole cell put in another's place -/
def sc_arr (μ : sc_M) (a : Nat) (f : Nat → Int) : sc_M := fun b => if b = a then f else μ b
theorem sc_arr_eq (μ : sc_M) (a : Nat) (f : Nat → Int) : sc_arr μ a f a = f := if_pos rfl
theorem sc_arr_ne (μ : sc_M) {a b : Nat} (f : Nat → Int) (h : b ≠ a) : sc_arr μ a f b = μ b := if_neg h
theorem sc_up_ne (μ : sc_M) {a b : Nat} (k : Nat) (v : Int) (h : b ≠ a) : sc_up μ a k v b = μ b := by
  funext j; simp [sc_up, h]
theorem sc_up_eq (μ : sc_M) (a k : Nat) (v : Int) : sc_up μ a k v a = fun j => if j = k then v else μ a j := by
  funext j; simp [sc_up]
theorem sc_up_arr (μ : sc_M) (a k : Nat) (v : Int) : sc_up μ a k v = sc_arr μ a (fun j => if j = k then v else μ a j) := by
  funext b j
  simp only [sc_up, sc_arr]
  by_cases h : b = a
  · subst h; simp
  · simp [h]
theorem sc_arr_arr (μ : sc_M) (a : Nat) (f g : Nat → Int) : sc_arr (sc_arr μ a f) a g = sc_arr μ a g := by
  funext b; simp only [sc_arr]; split <;> rfl
theorem sc_arr_self (μ : sc_M) (a : Nat) : sc_arr μ a (μ a) = μ := by
  funext b; simp only [sc_arr]; split
  · rename_i h; rw [h]
  · rfl
theorem sc_t3 (n k : Nat) : (3 * (n : Int) + (k : Int)).toNat = 3 * n + k := by omega
theorem sc_t27 (n k : Nat) : (27 * (n : Int) + (k : Int)).toNat = 27 * n + k := by omega
theorem sc_t243 (n k : Nat) : (243 * (n : Int) + (k : Int)).toNat = 243 * n + k := by omega
theorem sc_up_up (μ : sc_M) (a k : Nat) (v w : Int) : sc_up (sc_up μ a k v) a k w = sc_up μ a k w := by
  funext b j; simp only [sc_up]; grind
theorem sc_up_in_arr (μ : sc_M) (a k : Nat) (f : Nat → Int) (v : Int) : sc_up (sc_arr μ a f) a k v = sc_arr μ a (fun j => if j = k then v else f j) := by
  rw [sc_up_arr, sc_arr_arr, sc_arr_eq]
noncomputable def mo_bt (s : Int) (k : Nat) : Int := sc_band (sc_bshr s k) 1
noncomputable def mo_bits (s : Int) : Nat → Int
  | 0 => 0
  | k + 1 => mo_bits s k + mo_bt s k
abbrev mo_ic (K : Nat → Int) (h : Int) (n : Nat) : Prop := K n = 2 ∨ (n : Int) = h
def mo_m (K S : Nat → Int) (k : Nat) : Int := if K k = 0 then 1 else S k
def mo_sd (K S : Nat → Int) : Nat → Int
  | 0 => 1
  | k + 1 => mo_sd K S k * mo_m K S k
def mo_by (S R : Nat → Int) (n : Nat) : Nat → Int
  | 0 => 1
  | k + 1 => mo_by S R n k * S (R (3 * n + k)).toNat
def mo_rs (K S : Nat → Int) (w : Int) : Nat → Int
  | 0 => w
  | k + 1 => if K k = 0 then mo_rs K S w k else (mo_rs K S w k).tdiv (S k)
def mo_dg (K S : Nat → Int) (w : Int) (k : Nat) : Int := if K k = 0 then 0 else (mo_rs K S w k).tmod (S k)
def mo_now (K S : Nat → Int) (w : Int) (f : Nat → Int) (n : Nat) : Nat → Int := fun j => if j < n then mo_dg K S w j else f j
theorem mo_rs_le (K S : Nat → Int) {w : Int} (h0 : 0 ≤ w) (N : Nat) (hS : ∀ k, k < N → ¬ K k = 0 → 2 ≤ S k ∧ S k ≤ 3) : ∀ k, k ≤ N → 0 ≤ mo_rs K S w k ∧ mo_rs K S w k ≤ w := by
  intro k
  induction k with
  | zero => intro _; exact ⟨h0, Int.le_refl _⟩
  | succ k ih =>
    intro hk
    have h1 := ih (by omega)
    simp only [mo_rs]
    split
    · exact h1
    · rename_i hK
      have h2 := hS k (by omega) hK
      have h3 := Int.tdiv_le_self (S k) h1.1
      have h4 := Int.tdiv_nonneg h1.1 (show 0 ≤ S k by omega)
      omega
theorem mo_now_up (μ : sc_M) (K S : Nat → Int) (w : Int) (f : Nat → Int) (n : Nat) : sc_up (sc_arr μ 27 (mo_now K S w f n)) 27 n (mo_dg K S w n) = sc_arr μ 27 (mo_now K S w f (n + 1)) := by
  rw [sc_up_in_arr]
  congr 1
  funext j
  simp only [mo_now]
  by_cases h : j = n
  · subst h; simp
  · by_cases h2 : j < n
    · simp [h, h2, Nat.lt_succ_of_lt h2]
    · simp [h, h2, show ¬ j < n + 1 by omega]
noncomputable def mo_nb (K S f : Nat → Int) (s : Int) : Nat → Int
  | 0 => 0
  | k + 1 => mo_nb K S f s k + (if K k = 0 then 0 else if mo_bt s k = 1 then mo_sd K S k * f k else 0)
def mo_rw (S R f : Nat → Int) (n : Nat) : Nat → Int
  | 0 => 0
  | k + 1 => mo_rw S R f n k + mo_by S R n k * f (R (3 * n + k)).toNat
/-- the states are in order -/
def mo_ok (K S f : Nat → Int) (N : Nat) : Prop := ∀ k, k < N → ¬ K k = 0 → 0 ≤ f k ∧ f k < S k
theorem mo_sd_pos (K S : Nat → Int) (N : Nat) (hS : ∀ k, k < N → ¬ K k = 0 → 2 ≤ S k ∧ S k ≤ 3) : ∀ k, k ≤ N → 1 ≤ mo_sd K S k := by
  intro k
  induction k with
  | zero => intro _; simp [mo_sd]
  | succ k ih =>
    intro hk
    have h1 := ih (by omega)
    simp only [mo_sd, mo_m]
    split
    · omega
    · rename_i hK
      have h2 := hS k (by omega) hK
      have := Int.mul_le_mul h1 (show 1 ≤ S k by omega) (by omega) (by omega)
      omega
theorem mo_sd_mono (K S : Nat → Int) (N : Nat) (hS : ∀ k, k < N → ¬ K k = 0 → 2 ≤ S k ∧ S k ≤ 3) : ∀ j k, j ≤ k → k ≤ N → mo_sd K S j ≤ mo_sd K S k := by
  intro j k hjk
  induction k with
  | zero => intro _; rw [show j = 0 by omega]; exact Int.le_refl _
  | succ k ih =>
    intro hk
    rcases Nat.lt_or_ge j (k + 1) with h | h
    · have h1 := ih (by omega) (by omega)
      have h3 := mo_sd_pos K S N hS k (by omega)
      simp only [mo_sd, mo_m]
      split
      · omega
      · rename_i hK
        have h2 := hS k (by omega) hK
        have := Int.mul_le_mul_of_nonneg_left (show 1 ≤ S k by omega) (show 0 ≤ mo_sd K S k by omega)
        omega
    · rw [show j = k + 1 by omega]; exact Int.le_refl _
/-- a number of states stays below all worlds -/
theorem mo_nb_lt (K S f : Nat → Int) (s : Int) (N : Nat) (hS : ∀ k, k < N → ¬ K k = 0 → 2 ≤ S k ∧ S k ≤ 3) (hf : mo_ok K S f N) : ∀ k, k ≤ N → 0 ≤ mo_nb K S f s k ∧ mo_nb K S f s k < mo_sd K S k := by
  intro k
  induction k with
  | zero => intro _; simp [mo_nb, mo_sd]
  | succ k ih =>
    intro hk
    have h1 := ih (by omega)
    have h3 := mo_sd_pos K S N hS k (by omega)
    simp only [mo_nb, mo_sd, mo_m]
    split
    · omega
    · rename_i hK
      have h2 := hS k (by omega) hK
      have h4 := hf k (by omega) hK
      have a1 : mo_sd K S k * (f k + 1) ≤ mo_sd K S k * S k := Int.mul_le_mul_of_nonneg_left (by omega) (by omega)
      have a2 : 0 ≤ mo_sd K S k * f k := Int.mul_nonneg (by omega) h4.1
      rw [Int.mul_add, Int.mul_one] at a1
      split <;> omega
/-- a row stays below all rows -/
theorem mo_by_pos (K S R : Nat → Int) (n P : Nat) (hR : ∀ k, k < P → 2 ≤ S (R (3 * n + k)).toNat ∧ S (R (3 * n + k)).toNat ≤ 3) : ∀ k, k ≤ P → 1 ≤ mo_by S R n k ∧ mo_by S R n k ≤ 3 ^ k := by
  intro k
  induction k with
  | zero => intro _; simp [mo_by]
  | succ k ih =>
    intro hk
    have h1 := ih (by omega)
    have h2 := hR k (by omega)
    simp only [mo_by]
    have a1 := Int.mul_le_mul h1.1 (show 1 ≤ S (R (3 * n + k)).toNat by omega) (by omega) (by omega)
    have a2 := Int.mul_le_mul h1.2 h2.2 (by omega) (by omega)
    rw [Int.pow_succ]
    omega
theorem mo_rw_lt (S R f : Nat → Int) (n P : Nat) (hR : ∀ k, k < P → 2 ≤ S (R (3 * n + k)).toNat ∧ S (R (3 * n + k)).toNat ≤ 3) (hf : ∀ k, k < P → 0 ≤ f (R (3 * n + k)).toNat ∧ f (R (3 * n + k)).toNat < S (R (3 * n + k)).toNat) : ∀ k, k ≤ P → 0 ≤ mo_rw S R f n k ∧ mo_rw S R f n k < mo_by S R n k := by
  intro k
  induction k with
  | zero => intro _; simp [mo_rw, mo_by]
  | succ k ih =>
    intro hk
    have h1 := ih (by omega)
    have h2 := (mo_by_pos S S R n P hR k (by omega)).1
    have h4 := hf k (by omega)
    simp only [mo_rw, mo_by]
    have a1 : mo_by S R n k * (f (R (3 * n + k)).toNat + 1) ≤ mo_by S R n k * S (R (3 * n + k)).toNat := Int.mul_le_mul_of_nonneg_left (by omega) (by omega)
    have a2 : 0 ≤ mo_by S R n k * f (R (3 * n + k)).toNat := Int.mul_nonneg (by omega) h4.1
    rw [Int.mul_add, Int.mul_one] at a1
    omega
def mo_wn (K S C R T f : Nat → Int) (h : Int) : Nat → Int
  | 0 => 1
  | k + 1 => mo_wn K S C R T f h k * (if K k = 1 ∧ ¬ (k : Int) = h then T (27 * (k : Int) + 3 * mo_rw S R f k (C k).toNat + f k).toNat else 1)
def mo_on (K S C R T f : Nat → Int) : Nat → Int
  | 0 => 0
  | k + 1 => mo_on K S C R T f k + (if K k = 0 then T (27 * (k : Int) + mo_rw S R f k (C k).toNat).toNat else 0)
def mo_aw (K : Nat → Int) (h : Int) : Nat → Int
  | 0 => 1
  | k + 1 => mo_aw K h k * (if K k = 1 ∧ ¬ (k : Int) = h then 12 else 1)
