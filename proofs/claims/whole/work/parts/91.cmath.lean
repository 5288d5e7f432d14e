/-! THE CLASS'S PLAN IS THE REFERENCE'S -/
theorem mo_am_mul (a : Int) (ha : 0 < a) (g : Nat → Int) : ∀ n, mo_am (fun s => a * g s) n = mo_am g n
  | 0 => rfl
  | n + 1 => by
    have ih := mo_am_mul a ha g n
    rw [mo_am, mo_am, ih]
    have e : a * g (mo_am g n) < a * g n ↔ g (mo_am g n) < g n := by
      constructor
      · exact fun h => Int.lt_of_mul_lt_mul_left h (by omega)
      · exact fun h => Int.mul_lt_mul_of_pos_left h ha
    by_cases h : g (mo_am g n) < g n
    · rw [if_pos (e.mpr h), if_pos h]
    · rw [if_neg (fun q => h (e.mp q)), if_neg h]
theorem mo_am_zero (g : Nat → Int) (h : ∀ s, g s = 0) : ∀ n, mo_am g n = 0
  | 0 => rfl
  | n + 1 => by rw [mo_am, mo_am_zero g h n, h, h, if_neg (by omega)]
noncomputable def md_hb (M : sc_M) (n : Nat) : Int := sc_if (∃ k : Nat, k < n ∧ (k : Int) = M 18 13) 12 1
theorem md_hb_pos (M : sc_M) (n : Nat) : 0 < md_hb M n := by
  unfold md_hb
  by_cases h : ∃ k : Nat, k < n ∧ (k : Int) = M 18 13
  · rw [sc_if_pos _ _ h]; decide
  · rw [sc_if_neg _ _ h]; decide
theorem md_hb_s (M : sc_M) (n : Nat) : md_hb M (n + 1) = if (n : Int) = M 18 13 then 12 else md_hb M n := by
  unfold md_hb
  by_cases h : (n : Int) = M 18 13
  · rw [if_pos h, sc_if_pos _ _ ⟨n, by omega, h⟩]
  · rw [if_neg h]
    refine sc_if_iff _ _ ⟨?_, ?_⟩
    · rintro ⟨k, h1, h2⟩
      exact ⟨k, by rcases Nat.lt_or_ge k n with h3 | h3; exact h3; exact absurd (by rw [← h2]; omega) h, h2⟩
    · rintro ⟨k, h1, h2⟩; exact ⟨k, by omega, h2⟩
theorem md_hb_no (M : sc_M) (n : Nat) (h : (n : Int) = M 18 13) : md_hb M n = 1 := by
  unfold md_hb
  rw [sc_if_neg]
  rintro ⟨k, h1, h2⟩
  omega
theorem md_fo_s (M : sc_M) (n w : Nat) : md_fo M (n + 1) w ↔ md_fo M n w ∧ (M 25 n < 0 ∨ md_dg M w n = M 25 n) := by
  unfold md_fo
  constructor
  · exact fun h => ⟨fun k hk => h k (by omega), h n (by omega)⟩
  · rintro ⟨h1, h2⟩ k hk
    rcases Nat.lt_or_ge k n with h | h
    · exact h1 k h
    · rw [show k = n by omega]; exact h2
theorem cl_w_md {M : sc_M} {N : Nat} (hw : mo_w M N) (hx : mo_x M N) (w : Nat) : ∀ n, n ≤ N → cl_w M w n = md_hb M n * mo_wn (M 20) (M 21) (M 22) (M 23) (M 26) (md_dg M w) (M 18 13) n * sc_if (md_fo M n w) 1 0
  | 0, _ => by
    have h1 : md_hb M 0 = 1 := by
      unfold md_hb
      rw [sc_if_neg]
      rintro ⟨k, h1, -⟩; omega
    rw [cl_w, h1, mo_wn, sc_if_pos _ _ (show md_fo M 0 w from fun k hk => absurd hk (by omega))]
    rfl
  | n + 1, hn => by
    have ih := cl_w_md hw hx w n (by omega)
    have hF := hx.1 n (by omega)
    have hro := md_ro_lt hw n w (by omega)
    rw [cl_w, mo_wn, md_hb_s, ih]
    by_cases hK : M 20 n = 0
    · have hh : ¬ (n : Int) = M 18 13 := fun h => by have := hw.2.2.2.2.2 n (by omega) h; omega
      rw [if_pos hK, if_neg hh, if_neg (by omega), Int.mul_one, sc_if_iff 1 0 (md_fo_s M n w)]
      congr 1
      exact sc_if_iff _ _ ⟨fun h => ⟨h, Or.inl (by omega)⟩, fun h => h.1⟩
    · rw [if_neg hK]
      unfold cl_f
      by_cases hh : (n : Int) = M 18 13
      · have hK1 := hw.2.2.2.2.2 n (by omega) hh
        rw [if_pos hh, if_pos hh, if_neg (fun h => h.2 hh), Int.mul_one, md_hb_no M n hh, Int.one_mul, sc_if_iff 1 0 (md_fo_s M n w)]
        rw [sc_if_iff 1 0 (show md_fo M n w ∧ (M 25 n < 0 ∨ md_dg M w n = M 25 n) ↔ md_fo M n w from ⟨fun h => h.1, fun h => ⟨h, Or.inl (by omega)⟩⟩)]
        rw [Int.mul_comm, ← Int.mul_assoc]
      · rw [if_neg hh, if_neg hh]
        by_cases hK1 : M 20 n = 1
        · rw [if_pos hK1, if_pos ⟨hK1, hh⟩]
          have hd := md_dg_ok hw w n (by omega) hK
          have e : (27 * (n : Int) + 3 * mo_rw (M 21) (M 23) (md_dg M w) n (M 22 n).toNat + md_dg M w n).toNat = 27 * n + 3 * (md_ro M n w).toNat + (md_dg M w n).toNat := by
            have : mo_rw (M 21) (M 23) (md_dg M w) n (M 22 n).toNat = md_ro M n w := rfl
            omega
          rw [e, sc_if_iff 1 0 (md_fo_s M n w)]
          rw [sc_if_iff 1 0 (show md_fo M n w ∧ (M 25 n < 0 ∨ md_dg M w n = M 25 n) ↔ md_fo M n w from ⟨fun h => h.1, fun h => ⟨h, Or.inl (by omega)⟩⟩)]
          rw [← Int.mul_assoc, Int.mul_right_comm]
        · rw [if_neg hK1, if_neg (show ¬ (M 20 n = 1 ∧ ¬ (n : Int) = M 18 13) from fun h => hK1 h.1), Int.mul_one, sc_if_iff 1 0 (md_fo_s M n w)]
          by_cases h3 : M 25 n = -9 ∨ M 25 n = md_dg M w n
          · rw [if_pos h3, Int.mul_one]
            rw [sc_if_iff 1 0 (show md_fo M n w ∧ (M 25 n < 0 ∨ md_dg M w n = M 25 n) ↔ md_fo M n w from ⟨fun h => h.1, fun h => ⟨h, by omega⟩⟩)]
          · rw [if_neg h3, Int.mul_zero, sc_if_neg _ _ (fun h => by have := h.2; omega), Int.mul_zero]
theorem md_PL_stay (M : sc_M) (N W : Nat) (k : Nat) : ∀ i j, N ≤ j + k → j + i ≤ N → md_PL M N W (j + i) k = md_PL M N W j k
  | 0, _, _, _ => rfl
  | i + 1, j, h, h2 => by
    rw [← Nat.add_assoc]
    funext key
    show (if k = N - 1 - (j + i) ∧ md_ic M k then md_st M N (md_PL M N W (j + i)) W k key else md_PL M N W (j + i) k key) = md_PL M N W j k key
    rw [if_neg (by omega), md_PL_stay M N W k i j h (by omega)]
theorem md_go_stay {M : sc_M} {N W : Nat} (kn : Nat → Int) (w k i j : Nat) (h : N ≤ j + k) (h2 : j + i ≤ N) : md_go M N kn (md_PL M N W (j + i)) w k ↔ md_go M N kn (md_PL M N W j) w k := by
  unfold md_go
  rw [md_PL_stay M N W k i j h h2]
/-- free or firm -/
theorem md_ic_fr {M : sc_M} {N : Nat} (hw : mo_w M N) (hx : mo_x M N) {k : Nat} (hk : k < N) (hi : md_ic M k) : (cl_fr M k ∧ M 25 k < 0) ∨ (0 ≤ M 25 k ∧ M 20 k = 2 ∧ ¬ cl_fr M k) := by
  have hF := hx.1 k hk
  rcases hi with hi | hi
  · rcases hF with h | h
    · exact Or.inl ⟨Or.inr ⟨hi, h⟩, by omega⟩
    · refine Or.inr ⟨h.1, h.2.1, ?_⟩
      rintro (q | q)
      · have := hw.2.2.2.2.2 k hk q; omega
      · omega
  · have := hw.2.2.2.2.2 k hk hi
    exact Or.inl ⟨Or.inl hi, by omega⟩
def cl_gos (M : sc_M) (N W j w : Nat) : Prop := ∀ k, N ≤ j + k → k < N → cl_fr M k → md_go M N (md_kn M) (md_PL M N W j) w k
/-- all choices behind c go just where the free ones go and the firm ones are right -/
theorem md_bh_fr {M : sc_M} {N W : Nat} (hw : mo_w M N) (hx : mo_x M N) (c j w : Nat) (hj : j + c + 1 = N) : md_bh M N (md_kn M) (md_PL M N W j) c w ↔ cl_gos M N W j w ∧ ∀ k, c < k → k < N → M 25 k < 0 ∨ md_dg M w k = M 25 k := by
  constructor
  · intro h
    refine ⟨fun k h1 h2 h3 => h k (by omega) h2 (cl_fr_ic h3), fun k h1 h2 => ?_⟩
    rcases hx.1 k h2 with hF | hF
    · exact Or.inl (by omega)
    · have := h k h1 h2 (Or.inl hF.2.1)
      unfold md_go at this
      rw [if_pos hF.1] at this
      exact Or.inr this
  · rintro ⟨h1, h2⟩ k hk1 hk2 hi
    rcases md_ic_fr hw hx hk2 hi with hf | hf
    · exact h1 k (by omega) hk2 hf.1
    · unfold md_go
      rw [if_pos hf.1]
      exact (h2 k hk1 hk2).resolve_left (by omega)
/-- firm ones ahead are the same in worlds that show the same -/
theorem md_fo_same {M : sc_M} {N : Nat} (hw : mo_w M N) (hx : mo_x M N) (c : Nat) (hc : c < N) (w v : Nat) (h : md_nb M N (md_kn M c) w = md_nb M N (md_kn M c) v) (hf : md_fo M c v) : md_fo M c w := by
  intro k hk
  rcases hx.1 k (by omega) with hF | hF
  · exact Or.inl (by omega)
  · have hb := md_kn_has hw c hc k hk (Or.inl hF.2.1)
    have := (md_nb_eq hw (md_kn M c) w v N (Nat.le_refl _)).mp h k (by omega) hb
    rw [this]
    exact hf k hk
theorem cl_A_md {M : sc_M} {N : Nat} (hw : mo_w M N) (hx : mo_x M N) (c j : Nat) (hj : j + c + 1 = N) (hfr : cl_fr M c) (ω : Nat → Int) (hω : ∀ w, w < na_sd M N → ω w = sc_if (cl_gos M N (na_sd M N) j w) (cl_w M w N) 0) (key : Nat) : (mo_am (cl_A M N (na_sd M N) ω (md_on M N) c key) (M 21 c).toNat : Int) = md_st M N (md_PL M N (na_sd M N) j) (na_sd M N) c key := by
  have hc : c < N := by omega
  have hFc : M 25 c < 0 := by
    rcases md_ic_fr hw hx hc (cl_fr_ic hfr) with h | h
    · exact h.2
    · exact absurd hfr h.2.2
  unfold md_st
  by_cases hq : ∃ v, v < na_sd M N ∧ md_nb M N (md_kn M c) v = key ∧ md_fo M c v
  · obtain ⟨v, hv1, hv2, hv3⟩ := hq
    have hA : cl_A M N (na_sd M N) ω (md_on M N) c key = fun s => md_hb M N * md_sm M N (md_PL M N (na_sd M N) j) (na_sd M N) c key s := by
      funext s
      unfold cl_A md_sm
      rw [← sc_sum_mul]
      refine sc_sum_cg _ _ _ (fun w hw9 => ?_)
      unfold md_tm
      by_cases h1 : md_nb M N (md_kn M c) w = key ∧ md_dg M w c = s
      · have hfo := md_fo_same hw hx c hc w v (by rw [h1.1, hv2]) hv3
        have hbh := md_bh_fr (W := na_sd M N) hw hx c j w hj
        have hfa : md_fo M N w ↔ ∀ k, c < k → k < N → M 25 k < 0 ∨ md_dg M w k = M 25 k := by
          constructor
          · exact fun h k _ h2 => h k h2
          · intro h k hk
            rcases Nat.lt_trichotomy k c with h3 | h3 | h3
            · exact hfo k h3
            · rw [h3]; exact Or.inl hFc
            · exact h k h3 hk
        rw [sc_if_pos _ _ h1, hω w hw9]
        by_cases hb : md_bh M N (md_kn M) (md_PL M N (na_sd M N) j) c w
        · have hb2 := hbh.mp hb
          have h3 : md_nb M N (md_kn M c) w = (key : Int) ∧ md_dg M w c = (s : Int) ∧ md_bh M N (md_kn M) (md_PL M N (na_sd M N) j) c w := ⟨h1.1, h1.2, hb⟩
          rw [sc_if_pos _ _ h3, sc_if_pos _ _ hb2.1, cl_w_md hw hx w N (Nat.le_refl _), sc_if_pos _ _ (hfa.mpr hb2.2), Int.mul_one, Int.mul_assoc]
          rfl
        · have h3 : ¬ (md_nb M N (md_kn M c) w = (key : Int) ∧ md_dg M w c = (s : Int) ∧ md_bh M N (md_kn M) (md_PL M N (na_sd M N) j) c w) := fun h => hb h.2.2
          rw [sc_if_neg _ _ h3, Int.mul_zero]
          by_cases hg : cl_gos M N (na_sd M N) j w
          · rw [sc_if_pos _ _ hg, cl_w_md hw hx w N (Nat.le_refl _), sc_if_neg _ _ (fun h => hb (hbh.mpr ⟨hg, hfa.mp h⟩)), Int.mul_zero, Int.zero_mul]
          · rw [sc_if_neg _ _ hg, Int.zero_mul]
      · rw [sc_if_neg _ _ h1, sc_if_neg _ _ (fun h => h1 ⟨h.1, h.2.1⟩), Int.mul_zero]
    rw [hA, mo_am_mul _ (md_hb_pos M N)]
    by_cases hcb : md_cb M N (na_sd M N) c key
    · rw [sc_if_pos _ _ hcb]
    · rw [sc_if_neg _ _ hcb, mo_am_zero]
      · rfl
      · intro s
        unfold md_sm
        refine sc_sum_zero _ _ (fun w hw9 => ?_)
        unfold md_tm
        by_cases h1 : md_nb M N (md_kn M c) w = key ∧ md_dg M w c = s ∧ md_bh M N (md_kn M) (md_PL M N (na_sd M N) j) c w
        · have hz : md_wt M N w = 0 := by
            have h2 := md_wt_le hw w
            rcases Int.lt_or_le 0 (md_wt M N w) with h3 | h3
            · exact absurd ⟨w, hw9, h1.1, h3, md_fo_same hw hx c hc w v (by rw [h1.1, hv2]) hv3⟩ hcb
            · omega
          rw [sc_if_pos _ _ h1, hz, Int.zero_mul]
        · rw [sc_if_neg _ _ h1]
  · have hcb : ¬ md_cb M N (na_sd M N) c key := fun ⟨w, h1, h2, _, h4⟩ => hq ⟨w, h1, h2, h4⟩
    rw [sc_if_neg _ _ hcb, mo_am_zero]
    · rfl
    · intro s
      unfold cl_A
      refine sc_sum_zero _ _ (fun w hw9 => ?_)
      by_cases h1 : md_nb M N (md_kn M c) w = key ∧ md_dg M w c = s
      · rw [sc_if_pos _ _ h1, hω w hw9]
        have hz : cl_w M w N = 0 := by
          rw [cl_w_md hw hx w N (Nat.le_refl _), sc_if_neg _ _ (fun h => hq ⟨w, hw9, h1.1, fun k hk => h k (by omega)⟩), Int.mul_zero]
        rw [hz]
        by_cases hg : cl_gos M N (na_sd M N) j w
        · rw [sc_if_pos _ _ hg, Int.zero_mul]
        · rw [sc_if_neg _ _ hg, Int.zero_mul]
      · rw [sc_if_neg _ _ h1]
theorem cl_W_md {M : sc_M} {N : Nat} (hw : mo_w M N) (hx : mo_x M N) : ∀ j, j ≤ N → ∀ w, w < na_sd M N → cl_W M N (na_sd M N) (md_on M N) (fun w => cl_w M w N) j w = sc_if (cl_gos M N (na_sd M N) j w) (cl_w M w N) 0
  | 0, _, w, _ => by
    rw [cl_W, sc_if_pos]
    intro k h1 h2 _
    omega
  | j + 1, hj, w, hw9 => by
    have ih := cl_W_md hw hx j (by omega)
    have hcj : j + (N - 1 - j) + 1 = N := by omega
    rw [cl_W, cl_D]
    have hst : cl_gos M N (na_sd M N) (j + 1) w ↔ cl_gos M N (na_sd M N) j w ∧ (cl_fr M (N - 1 - j) → md_go M N (md_kn M) (md_PL M N (na_sd M N) (j + 1)) w (N - 1 - j)) := by
      constructor
      · intro h
        exact ⟨fun k h1 h2 h3 => (md_go_stay (md_kn M) w k 1 j h1 (by omega)).mp (h k (by omega) h2 h3), fun h3 => h _ (by omega) (by omega) h3⟩
      · rintro ⟨h1, h2⟩ k hk1 hk2 hk3
        rcases Nat.lt_or_ge (j + k) N with h | h
        · rw [show k = N - 1 - j by omega] at hk3 ⊢
          exact h2 hk3
        · exact (md_go_stay (md_kn M) w k 1 j h (by omega)).mpr (h1 k h hk2 hk3)
    by_cases hfr : cl_fr M (N - 1 - j)
    · have hA := cl_A_md hw hx (N - 1 - j) j hcj hfr _ ih (md_nb M N (md_kn M (N - 1 - j)) w).toNat
      have hFc : M 25 (N - 1 - j) < 0 := by
        rcases md_ic_fr hw hx (show N - 1 - j < N by omega) (cl_fr_ic hfr) with h | h
        · exact h.2
        · exact absurd hfr h.2.2
      have hgo : md_go M N (md_kn M) (md_PL M N (na_sd M N) (j + 1)) w (N - 1 - j) ↔ md_dg M w (N - 1 - j) = (mo_am (cl_A M N (na_sd M N) (cl_W M N (na_sd M N) (md_on M N) (fun w => cl_w M w N) j) (md_on M N) (N - 1 - j) (md_nb M N (md_kn M (N - 1 - j)) w).toNat) (M 21 (N - 1 - j)).toNat : Int) := by
        rw [hA]
        unfold md_go
        rw [if_neg (by omega), show md_PL M N (na_sd M N) (j + 1) (N - 1 - j) (md_nb M N (md_kn M (N - 1 - j)) w).toNat = md_st M N (md_PL M N (na_sd M N) j) (na_sd M N) (N - 1 - j) (md_nb M N (md_kn M (N - 1 - j)) w).toNat from if_pos ⟨rfl, cl_fr_ic hfr⟩]
      by_cases hd : md_dg M w (N - 1 - j) = (mo_am (cl_A M N (na_sd M N) (cl_W M N (na_sd M N) (md_on M N) (fun w => cl_w M w N) j) (md_on M N) (N - 1 - j) (md_nb M N (md_kn M (N - 1 - j)) w).toNat) (M 21 (N - 1 - j)).toNat : Int)
      · rw [sc_if_neg _ _ (fun h => h.2 hd), ih w hw9]
        exact sc_if_iff _ _ ⟨fun h => hst.mpr ⟨h, fun _ => hgo.mpr hd⟩, fun h => (hst.mp h).1⟩
      · rw [sc_if_pos _ _ ⟨hfr, hd⟩, sc_if_neg _ _ (fun h => hd (hgo.mp ((hst.mp h).2 hfr)))]
    · rw [sc_if_neg _ _ (fun h => hfr h.1), ih w hw9]
      exact sc_if_iff _ _ ⟨fun h => hst.mpr ⟨h, fun q => absurd q hfr⟩, fun h => (hst.mp h).1⟩
/-- the weights that are left are those of the worlds that come about -/
theorem cl_W_all {M : sc_M} {N : Nat} (hw : mo_w M N) (hx : mo_x M N) (w : Nat) (hw9 : w < na_sd M N) : cl_W M N (na_sd M N) (md_on M N) (fun w => cl_w M w N) N w = md_hb M N * sc_if (md_cm M N (md_kn M) (md_PL M N (na_sd M N) N) w) (md_wt M N w) 0 := by
  rw [cl_W_md hw hx N (Nat.le_refl _) w hw9, cl_w_md hw hx w N (Nat.le_refl _)]
  have hcm : md_cm M N (md_kn M) (md_PL M N (na_sd M N) N) w ↔ cl_gos M N (na_sd M N) N w ∧ md_fo M N w := by
    constructor
    · intro h
      refine ⟨fun k _ h2 h3 => h k h2 (cl_fr_ic h3), fun k hk => ?_⟩
      rcases hx.1 k hk with hF | hF
      · exact Or.inl (by omega)
      · have := h k hk (Or.inl hF.2.1)
        unfold md_go at this
        rw [if_pos hF.1] at this
        exact Or.inr this
    · rintro ⟨h1, h2⟩ k hk hi
      rcases md_ic_fr hw hx hk hi with hf | hf
      · exact h1 k (by omega) hk hf.1
      · unfold md_go
        rw [if_pos hf.1]
        exact (h2 k hk).resolve_left (by omega)
  by_cases hg : cl_gos M N (na_sd M N) N w
  · rw [sc_if_pos _ _ hg, Int.mul_assoc]
    congr 1
    by_cases hf : md_fo M N w
    · rw [sc_if_pos _ _ hf, Int.mul_one, sc_if_pos _ _ (hcm.mpr ⟨hg, hf⟩)]
      rfl
    · rw [sc_if_neg _ _ hf, Int.mul_zero, sc_if_neg _ _ (fun h => hf (hcm.mp h).2)]
  · rw [sc_if_neg _ _ hg, sc_if_neg _ _ (fun h => hg (hcm.mp h).1), Int.mul_zero]
theorem cl_best_md {M : sc_M} {N : Nat} (hw : mo_w M N) (hx : mo_x M N) : cl_best M N = md_hb M N * md_best M N (na_sd M N) := by
  unfold cl_best md_best md_tot
  rw [← sc_sum_mul]
  refine sc_sum_cg _ _ _ (fun w hw9 => ?_)
  rw [cl_W_all hw hx w hw9]
  by_cases hc : md_cm M N (md_kn M) (md_PL M N (na_sd M N) N) w
  · rw [sc_if_pos _ _ hc, sc_if_pos _ _ hc, Int.mul_assoc]
  · rw [sc_if_neg _ _ hc, sc_if_neg _ _ hc, Int.mul_zero, Int.zero_mul]
