/-! which nodes a set has -/
theorem mo_bt_or (a b : Int) (ha : 0 ≤ a ∧ a < 1024) (hb : 0 ≤ b ∧ b < 1024) (k : Nat) (hk : k < 10) : mo_bt (sc_bor a b) k = 1 ↔ mo_bt a k = 1 ∨ mo_bt b k = 1 := by
  obtain ⟨n, rfl⟩ := Int.eq_ofNat_of_zero_le ha.1
  obtain ⟨m, rfl⟩ := Int.eq_ofNat_of_zero_le hb.1
  have l1 : n ||| m < 2 ^ 10 := Nat.or_lt_two_pow (by omega) (by omega)
  rw [sc_bor_nat n m (by omega) (by omega), mo_bt_nat _ k (by omega) hk, mo_bt_nat n k (by omega) hk, mo_bt_nat m k (by omega) hk, Nat.testBit_or]
  cases n.testBit k <;> cases m.testBit k <;> simp
theorem mo_bt_one (p k : Nat) (hp : p < 10) (hk : k < 10) : mo_bt (sc_bshl 1 (p : Int)) k = 1 ↔ k = p := by
  have h2 : 2 ^ p < 2 ^ 10 := Nat.pow_lt_pow_right (by omega) hp
  rw [sc_bshl_nat p hp, mo_bt_nat _ k (by omega) hk, Nat.testBit_two_pow]
  by_cases h : p = k
  · subst h; simp
  · simp [h]
    omega
theorem sc_one_lt (p : Nat) (hp : p < 10) : 0 ≤ sc_bshl 1 (p : Int) ∧ sc_bshl 1 (p : Int) < 1024 := by
  have h2 : 2 ^ p < 2 ^ 10 := Nat.pow_lt_pow_right (by omega) hp
  rw [sc_bshl_nat p hp]
  generalize 2 ^ p = z at h2 ⊢
  omega
theorem mo_bt_0 (k : Nat) (hk : k < 10) : ¬ mo_bt 0 k = 1 := by
  have := mo_bt_nat 0 k (by omega) hk
  rw [Nat.zero_testBit] at this
  simp only [Bool.false_eq_true, if_false] at this
  intro h
  rw [show (0 : Int) = ((0 : Nat) : Int) from rfl, this] at h
  omega
theorem mo_bt_ext (a b : Int) (ha : 0 ≤ a ∧ a < 1024) (hb : 0 ≤ b ∧ b < 1024) (h : ∀ k, k < 10 → (mo_bt a k = 1 ↔ mo_bt b k = 1)) : a = b := by
  obtain ⟨n, rfl⟩ := Int.eq_ofNat_of_zero_le ha.1
  obtain ⟨m, rfl⟩ := Int.eq_ofNat_of_zero_le hb.1
  congr 1
  refine Nat.eq_of_testBit_eq (fun k => ?_)
  rcases Nat.lt_or_ge k 10 with hk | hk
  · have := h k hk
    rw [mo_bt_nat n k (by omega) hk, mo_bt_nat m k (by omega) hk] at this
    cases h1 : n.testBit k <;> cases h2 : m.testBit k <;> simp [h1, h2] at this ⊢
  · have l1 : 2 ^ 10 ≤ 2 ^ k := Nat.pow_le_pow_right (by omega) hk
    rw [Nat.testBit_lt_two_pow (by omega), Nat.testBit_lt_two_pow (by omega)]
/-- what else is so of a chart -/
def mo_x (M : sc_M) (N : Nat) : Prop := (∀ n, n < N → M 25 n = -9 ∨ (0 ≤ M 25 n ∧ M 20 n = 2 ∧ M 25 n < M 21 n)) ∧ (∀ n, n < N → ∀ k, k < 10 → mo_bt (M 24 n) k = 1 → k < n ∧ M 20 k = 1) ∧ (∀ n, n < N → ¬ M 20 n = 2 → M 24 n = 0) ∧ (∀ n, n < N → ∀ i j : Nat, i < j → j < (M 22 n).toNat → ¬ M 23 (3 * n + i) = M 23 (3 * n + j))
/-- what a choice sees is ahead of it -/
theorem mo_so_bt {M : sc_M} {N : Nat} (hw : mo_w M N) (hx : ∀ n, n < N → ∀ k, k < 10 → mo_bt (M 24 n) k = 1 → k < n ∧ M 20 k = 1) (n : Nat) (hn : n < N) (k : Nat) (hk : k < 10) (h : mo_bt (mo_so (M 20) (M 22) (M 23) (M 24) (M 18 13) n) k = 1) : k < n ∧ M 20 k = 1 := by
  have hN1 := hw.1
  obtain ⟨-, -, -, -, k5, k6, -⟩ := hw.2.2.1 n hn
  have hlt : ∀ j, j ≤ (M 22 n).toNat → 0 ≤ mo_sof (M 20) (M 23) (M 24) n j ∧ mo_sof (M 20) (M 23) (M 24) n j < 1024 := by
    intro j
    induction j with
    | zero => intro _; exact k6
    | succ j ih =>
      intro hj
      have ih := ih (by omega)
      have h5 := k5 j (by omega)
      rw [mo_sof]
      split
      · obtain ⟨p, hp⟩ := Int.eq_ofNat_of_zero_le h5.1
        rw [hp]
        exact sc_bset_lt _ ih p (by omega)
      · exact sc_bor_lt _ _ ih ⟨by omega, by omega⟩
  have : ∀ j, j ≤ (M 22 n).toNat → mo_bt (mo_sof (M 20) (M 23) (M 24) n j) k = 1 → k < n ∧ M 20 k = 1 := by
    intro j
    induction j with
    | zero => intro _ h; exact hx n hn k hk h
    | succ j ih =>
      intro hj h
      have h5 := k5 j (by omega)
      obtain ⟨p, hp⟩ := Int.eq_ofNat_of_zero_le h5.1
      rw [mo_sof, hp, Int.toNat_natCast] at h
      rw [hp] at h5
      by_cases hc : M 20 p = 1
      · rw [if_pos hc] at h
        rcases (mo_bt_or _ _ (hlt j (by omega)) (sc_one_lt p (by omega)) k hk).mp h with h | h
        · exact ih (by omega) h
        · rw [(mo_bt_one p k (by omega) hk).mp h]
          exact ⟨by omega, hc⟩
      · rw [if_neg hc, (sc_or_0 _ (hlt j (by omega))).1] at h
        exact ih (by omega) h
  unfold mo_so at h
  split at h
  · exact this _ (Nat.le_refl _) h
  · exact hx n hn k hk h
theorem wo_ah_bt {M : sc_M} {N : Nat} (hw : mo_w M N) (k : Nat) (hk : k < 10) : ∀ n, n ≤ N → (mo_bt (wo_ah M n) k = 1 ↔ ∃ i, i < n ∧ md_ic M i ∧ (mo_bt (mo_so (M 20) (M 22) (M 23) (M 24) (M 18 13) i) k = 1 ∨ k = i))
  | 0, _ => by
    rw [wo_ah]
    constructor
    · intro h; exact absurd h (mo_bt_0 k hk)
    · rintro ⟨i, hi, -⟩; omega
  | n + 1, hn => by
    have hN1 := hw.1
    have ih := wo_ah_bt hw k hk n (by omega)
    have ha := wo_ah_lt hw n (by omega)
    have hso := mo_so_lt hw n (by omega)
    rw [wo_ah]
    by_cases hi : md_ic M n
    · rw [if_pos hi, mo_bt_or _ _ (sc_bor_lt _ _ ha hso) (sc_one_lt n (by omega)) k hk, mo_bt_or _ _ ha hso k hk, ih, mo_bt_one n k (by omega) hk]
      constructor
      · rintro ((⟨i, h1, h2⟩ | h) | h)
        · exact ⟨i, by omega, h2⟩
        · exact ⟨n, by omega, hi, Or.inl h⟩
        · exact ⟨n, by omega, hi, Or.inr h⟩
      · rintro ⟨i, h1, h2, h3⟩
        rcases Nat.lt_or_ge i n with h | h
        · exact Or.inl (Or.inl ⟨i, h, h2, h3⟩)
        · rw [show i = n by omega] at h3
          rcases h3 with h3 | h3
          · exact Or.inl (Or.inr h3)
          · exact Or.inr h3
    · rw [if_neg hi, ih]
      constructor
      · rintro ⟨i, h1, h2⟩; exact ⟨i, by omega, h2⟩
      · rintro ⟨i, h1, h2, h3⟩
        rcases Nat.lt_or_ge i n with h | h
        · exact ⟨i, h, h2, h3⟩
        · rw [show i = n by omega] at h2
          exact absurd h2 hi
theorem md_kn_lt {M : sc_M} {N : Nat} (hw : mo_w M N) (c : Nat) (hc : c < N) : 0 ≤ md_kn M c ∧ md_kn M c < 1024 := by
  rw [wo_kn_eq hw c hc]
  exact sc_bor_lt _ _ (wo_ah_lt hw c (by omega)) (mo_so_lt hw c hc)
theorem md_kn_bt {M : sc_M} {N : Nat} (hw : mo_w M N) (c : Nat) (hc : c < N) (k : Nat) (hk : k < 10) : mo_bt (md_kn M c) k = 1 ↔ (∃ i, i < c ∧ md_ic M i ∧ (mo_bt (mo_so (M 20) (M 22) (M 23) (M 24) (M 18 13) i) k = 1 ∨ k = i)) ∨ mo_bt (mo_so (M 20) (M 22) (M 23) (M 24) (M 18 13) c) k = 1 := by
  rw [wo_kn_eq hw c hc, mo_bt_or _ _ (wo_ah_lt hw c (by omega)) (mo_so_lt hw c hc) k hk, wo_ah_bt hw k hk c (by omega)]
theorem md_kn_ahead {M : sc_M} {N : Nat} (hw : mo_w M N) (hx : mo_x M N) (c : Nat) (hc : c < N) (k : Nat) (hk : k < 10) (h : mo_bt (md_kn M c) k = 1) : k < c ∧ ¬ M 20 k = 0 := by
  rcases (md_kn_bt hw c hc k hk).mp h with ⟨i, h1, h2, h3⟩ | h
  · rcases h3 with h3 | h3
    · have := mo_so_bt hw hx.2.1 i (by omega) k hk h3
      exact ⟨by omega, by omega⟩
    · subst h3
      exact ⟨h1, mo_ic_ne hw (by omega) h2⟩
  · have := mo_so_bt hw hx.2.1 c hc k hk h
    exact ⟨by omega, by omega⟩
theorem md_kn_has {M : sc_M} {N : Nat} (hw : mo_w M N) (c : Nat) (hc : c < N) (i : Nat) (hi : i < c) (hic : md_ic M i) : mo_bt (md_kn M c) i = 1 := by
  have hN1 := hw.1
  exact (md_kn_bt hw c hc i (by omega)).mpr (Or.inl ⟨i, hi, hic, Or.inr rfl⟩)
theorem md_kn_mono {M : sc_M} {N : Nat} (hw : mo_w M N) (c : Nat) (hc : c < N) (i : Nat) (hi : i < c) (hic : md_ic M i) (k : Nat) (hk : k < 10) (h : mo_bt (md_kn M i) k = 1) : mo_bt (md_kn M c) k = 1 := by
  rw [md_kn_bt hw c hc k hk]
  rcases (md_kn_bt hw i (by omega) k hk).mp h with ⟨j, h1, h2, h3⟩ | h
  · exact Or.inl ⟨j, by omega, h2, h3⟩
  · exact Or.inl ⟨i, hi, hic, Or.inl h⟩
/-- two worlds show the same of a set just where they are in the same states there -/
theorem md_nb_eq {M : sc_M} {N : Nat} (hw : mo_w M N) (s : Int) (w v : Nat) : ∀ n, n ≤ N → (mo_nb (M 20) (M 21) (md_dg M w) s n = mo_nb (M 20) (M 21) (md_dg M v) s n ↔ ∀ k, k < n → mo_bt s k = 1 → md_dg M w k = md_dg M v k)
  | 0, _ => by simp [mo_nb]
  | n + 1, hn => by
    have ih := md_nb_eq hw s w v n (by omega)
    have hS := fun k (hk : k < N) => (hw.2.2.1 k hk).2.2.1
    have b1 := mo_nb_lt (M 20) (M 21) (md_dg M w) s N hS (md_dg_ok hw w) n (by omega)
    have b2 := mo_nb_lt (M 20) (M 21) (md_dg M v) s N hS (md_dg_ok hw v) n (by omega)
    rw [mo_nb, mo_nb]
    by_cases hK : M 20 n = 0
    · rw [if_pos hK, if_pos hK, Int.add_zero, Int.add_zero, ih]
      constructor
      · intro h k hk hb
        rcases Nat.lt_or_ge k n with h1 | h1
        · exact h k h1 hb
        · rw [show k = n by omega, md_dg_w _ _ hK, md_dg_w _ _ hK]
      · exact fun h k hk => h k (by omega)
    · rw [if_neg hK, if_neg hK]
      by_cases hb : mo_bt s n = 1
      · rw [if_pos hb, if_pos hb]
        have d1 := md_dg_ok hw w n (by omega) hK
        have d2 := md_dg_ok hw v n (by omega) hK
        generalize mo_nb (M 20) (M 21) (md_dg M w) s n = a at b1 ih ⊢
        generalize mo_nb (M 20) (M 21) (md_dg M v) s n = b at b2 ih ⊢
        have hkey : a + mo_sd (M 20) (M 21) n * md_dg M w n = b + mo_sd (M 20) (M 21) n * md_dg M v n ↔ a = b ∧ md_dg M w n = md_dg M v n := by
          constructor
          · intro h
            have e1 : md_dg M w n = md_dg M v n := by
              rcases Int.lt_trichotomy (md_dg M w n) (md_dg M v n) with h1 | h1 | h1
              · have := Int.mul_le_mul_of_nonneg_left (show md_dg M w n + 1 ≤ md_dg M v n by omega) (show 0 ≤ mo_sd (M 20) (M 21) n by omega)
                rw [Int.mul_add, Int.mul_one] at this
                omega
              · exact h1
              · have := Int.mul_le_mul_of_nonneg_left (show md_dg M v n + 1 ≤ md_dg M w n by omega) (show 0 ≤ mo_sd (M 20) (M 21) n by omega)
                rw [Int.mul_add, Int.mul_one] at this
                omega
            rw [e1] at h
            exact ⟨by omega, e1⟩
          · rintro ⟨h1, h2⟩; rw [h1, h2]
        rw [hkey, ih]
        constructor
        · rintro ⟨h, h2⟩ k hk hb
          rcases Nat.lt_or_ge k n with h1 | h1
          · exact h k h1 hb
          · rw [show k = n by omega]; exact h2
        · exact fun h => ⟨fun k hk => h k (by omega), h n (by omega) hb⟩
      · rw [if_neg hb, if_neg hb, Int.add_zero, Int.add_zero, ih]
        constructor
        · intro h k hk hb2
          rcases Nat.lt_or_ge k n with h1 | h1
          · exact h k h1 hb2
          · rw [show k = n by omega] at hb2; exact absurd hb2 hb
        · exact fun h k hk => h k (by omega)
/-- what is known at c is a number below c's stride -/
theorem md_nb_stop {M : sc_M} {N : Nat} (hw : mo_w M N) (s : Int) (f : Nat → Int) (c : Nat) (hs : ∀ k, c ≤ k → k < N → ¬ mo_bt s k = 1) : ∀ j, c + j ≤ N → mo_nb (M 20) (M 21) f s (c + j) = mo_nb (M 20) (M 21) f s c
  | 0, _ => rfl
  | j + 1, hj => by
    have ih := md_nb_stop hw s f c hs j (by omega)
    rw [← Nat.add_assoc, mo_nb, ih, if_neg (hs (c + j) (by omega) (by omega))]
    split <;> omega
theorem md_nb_kn {M : sc_M} {N : Nat} (hw : mo_w M N) (hx : mo_x M N) (c : Nat) (hc : c < N) (w : Nat) : 0 ≤ md_nb M N (md_kn M c) w ∧ md_nb M N (md_kn M c) w < mo_sd (M 20) (M 21) c := by
  have hN1 := hw.1
  have e := md_nb_stop hw (md_kn M c) (md_dg M w) c (fun k h1 h2 h3 => by have := (md_kn_ahead hw hx c hc k (by omega) h3).1; omega) (N - c) (by omega)
  rw [show c + (N - c) = N by omega] at e
  unfold md_nb
  rw [e]
  exact mo_nb_lt (M 20) (M 21) (md_dg M w) _ N (fun k hk => (hw.2.2.1 k hk).2.2.1) (md_dg_ok hw w) c (by omega)
/-- the key with the choice's own state -/
theorem md_nb_own {M : sc_M} {N : Nat} (hw : mo_w M N) (hx : mo_x M N) (c : Nat) (hc : c < N) (hK : ¬ M 20 c = 0) (w : Nat) : md_nb M N (sc_bor (md_kn M c) (sc_bshl 1 (c : Int))) w = md_nb M N (md_kn M c) w + mo_sd (M 20) (M 21) c * md_dg M w c := by
  have hN1 := hw.1
  have hk := md_kn_lt hw c hc
  have hb : ∀ k, k < N → (mo_bt (sc_bor (md_kn M c) (sc_bshl 1 (c : Int))) k = 1 ↔ mo_bt (md_kn M c) k = 1 ∨ k = c) := fun k hkN => by
    rw [mo_bt_or _ _ hk (sc_one_lt c (by omega)) k (by omega), mo_bt_one c k (by omega) (by omega)]
  have : ∀ n, n ≤ N → mo_nb (M 20) (M 21) (md_dg M w) (sc_bor (md_kn M c) (sc_bshl 1 (c : Int))) n = mo_nb (M 20) (M 21) (md_dg M w) (md_kn M c) n + (if c < n then mo_sd (M 20) (M 21) c * md_dg M w c else 0) := by
    intro n
    induction n with
    | zero => intro _; simp [mo_nb]
    | succ n ih =>
      intro hn
      have ih := ih (by omega)
      rw [mo_nb, mo_nb, ih]
      by_cases hnc : n = c
      · subst hnc
        have h1 : mo_bt (sc_bor (md_kn M n) (sc_bshl 1 (n : Int))) n = 1 := (hb n (by omega)).mpr (Or.inr rfl)
        have h2 : ¬ mo_bt (md_kn M n) n = 1 := fun h => by have := (md_kn_ahead hw hx n hc n (by omega) h).1; omega
        rw [if_neg hK, if_neg hK, if_pos h1, if_neg h2, if_neg (by omega), if_pos (by omega)]
      · have h1 := hb n (by omega)
        by_cases hq : mo_bt (md_kn M c) n = 1
        · rw [if_pos hq, if_pos (h1.mpr (Or.inl hq))]
          by_cases h3 : c < n
          · rw [if_pos h3, if_pos (show c < n + 1 by omega)]; exact Int.add_right_comm _ _ _
          · rw [if_neg h3, if_neg (show ¬ c < n + 1 by omega), Int.add_zero, Int.add_zero]
        · rw [if_neg hq, if_neg (fun h => (h1.mp h).elim hq hnc)]
          by_cases h3 : c < n
          · rw [if_pos h3, if_pos (show c < n + 1 by omega)]; exact Int.add_right_comm _ _ _
          · rw [if_neg h3, if_neg (show ¬ c < n + 1 by omega), Int.add_zero, Int.add_zero]
  have := this N (Nat.le_refl _)
  rw [if_pos hc] at this
  exact this
