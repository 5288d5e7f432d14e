/-- what one more world's number and weight can be -/
theorem mo_m1_facts {m : sc_M} {N : Nat} (hm : mo_w m N) (w c : Nat) (hc : c < N) (hK : ¬ m 20 c = 0) : mo_ok (mo_m1 N m w 20) (mo_m1 N m w 21) (mo_m1 N m w 27) N ∧ mo_w (mo_m1 N m w) N ∧ (0 ≤ mo_key N c (mo_m1 N m w) ∧ mo_key N c (mo_m1 N m w) < 243) ∧ (0 ≤ mo_m1 N m w 27 c ∧ mo_m1 N m w 27 c < 3) ∧ (0 ≤ mo_wgt N (mo_m1 N m w) ∧ mo_wgt N (mo_m1 N m w) ≤ 61917364224) ∧ (-1000 ≤ mo_wor N (mo_m1 N m w) ∧ mo_wor N (mo_m1 N m w) ≤ 1000) := by
  have hm1 : mo_w (mo_m1 N m w) N := mo_w_now _ hm
  have e1 : ∀ b, b ≠ 27 → mo_m1 N m w b = m b := fun b hb => sc_arr_ne _ _ hb
  have hS : ∀ k, k < N → ¬ m 20 k = 0 → 2 ≤ m 21 k ∧ m 21 k ≤ 3 := fun k hk => (hm.2.2.1 k hk).2.2.1
  have hok : mo_ok (mo_m1 N m w 20) (mo_m1 N m w 21) (mo_m1 N m w 27) N := by
    rw [e1 20 (by decide), e1 21 (by decide), show mo_m1 N m w 27 = _ from sc_arr_eq _ _ _]
    exact mo_now_ok _ _ (by omega) _ N hS
  have hK'' : ¬ mo_m1 N m w 20 c = 0 := by rw [e1 20 (by decide)]; exact hK
  clear e1
  generalize mo_m1 N m w = m1 at hm1 hok hK'' ⊢
  have hN1 := hm1.1
  have hkl := mo_nb_lt (m1 20) (m1 21) (m1 27) (m1 31 c) N (fun k hk => (hm1.2.2.1 k hk).2.2.1) hok N (Nat.le_refl _)
  have hsd := hm1.2.2.2.1
  have hwb := mo_wn_le m1 (m1 18 13) N hN1 hm1.2.2.1 hok N (Nat.le_refl _)
  have hob := mo_on_le m1 N hm1.2.2.1 hok N (Nat.le_refl _)
  have hdc := hok c hc hK''
  have hsc := (hm1.2.2.1 c hc).2.2.1 hK''
  have hNp : (12 : Int) ^ N ≤ 12 ^ 10 := (by decide : ∀ n, n < 11 → (12 : Int) ^ n ≤ 12 ^ 10) N (by omega)
  have hP10 : (12 : Int) ^ 10 = 61917364224 := by decide
  exact ⟨hok, hm1, ⟨hkl.1, by unfold mo_key; omega⟩, ⟨hdc.1, by omega⟩, ⟨hwb.1, by unfold mo_wgt; omega⟩, ⟨by unfold mo_wor; omega, by unfold mo_wor; omega⟩⟩
theorem mo_p3_29 (μ : sc_M) (N c : Nat) (hw : mo_w μ N) (hc : c < N) (hK : ¬ μ 20 c = 0) (h0 : ∀ i, i < 729 → μ 29 i = 0) : ∀ w i : Nat, (i < 729 → -((w : Int) * 61917364224000) ≤ mo_p3 μ N c w 29 i ∧ mo_p3 μ N c w 29 i ≤ (w : Int) * 61917364224000) ∧ (729 ≤ i → mo_p3 μ N c w 29 i = μ 29 i) := by
  intro w
  induction w with
  | zero => intro i; exact ⟨fun hi => by have := h0 i hi; simp only [mo_p3]; omega, fun _ => rfl⟩
  | succ w ih =>
    intro i
    have e : ∀ b, b ≠ 30 → b ≠ 29 → b ≠ 27 → mo_p3 μ N c w b = μ b := fun b h1 h2 h3 => mo_p3_ne μ N c h1 h2 h3 w
    have hm : mo_w (mo_p3 μ N c w) N := mo_w_cells hw (fun b hb => e b (by omega) (by omega) (by omega))
    have hK' : ¬ mo_p3 μ N c w 20 c = 0 := by rw [e 20 (by decide) (by decide) (by decide)]; exact hK
    obtain ⟨-, -, hk, hd, hg, ho⟩ := mo_m1_facts hm w c hc hK'
    have e29 : mo_m1 N (mo_p3 μ N c w) w 29 = mo_p3 μ N c w 29 := sc_arr_ne _ _ (by decide)
    have hi := ih i
    rw [mo_p3, mo_m3, sc_up_eq]
    simp only []
    rw [mo_m2_ne N c _ (by decide), e29]
    generalize mo_m1 N (mo_p3 μ N c w) w = m1 at hk hd hg ho ⊢
    have hmul : -61917364224000 ≤ mo_wgt N m1 * mo_wor N m1 ∧ mo_wgt N m1 * mo_wor N m1 ≤ 61917364224000 := by
      have a1 := Int.mul_le_mul_of_nonneg_left ho.2 hg.1
      have a2 := Int.mul_le_mul_of_nonneg_left ho.1 hg.1
      constructor <;> omega
    split
    · rename_i hidx
      have hi2 := (ih (3 * (mo_key N c m1).toNat + (m1 27 c).toNat)).1 (by omega)
      refine ⟨fun _ => ?_, fun h => by omega⟩
      rw [sc_cast1]
      split <;> constructor <;> omega
    · refine ⟨fun h => ?_, fun h => hi.2 h⟩
      have := hi.1 h
      rw [sc_cast1]
      constructor <;> omega
/-- the plan at a choice -/
noncomputable def mo_pa (μ : sc_M) (N c W9 St : Nat) : sc_M := mo_p4 (mo_p3 (mo_p2 (sc_fil μ 29 0 729) c 243) N c W9) c St 243
set_option maxRecDepth 100000 in
set_option maxHeartbeats 4000000 in
theorem sp_Mo_planAt (l : Launch) (G : sc_G) (d : Nat) (μ : sc_M) (N : Nat) (hw : mo_w μ N) (c : Nat) (hc : c < N) (hK : ¬ μ 20 c = 0) (W9 : Nat) (hW : mo_sd (μ 20) (μ 21) N = W9) (St : Nat) (hSt : μ 21 c = St) (hpl : ∀ i, sc_in (μ 28 i)) (h30 : ∀ i, 243 ≤ i → μ 30 i = 0) (h29 : ∀ i, 729 ≤ i → μ 29 i = 0) : sc_Sp l G (d + 2) mq_Mo_planAt [.inr (.inr (.inl (18))), .inl ((c : Int))] μ (fun r μ' => r = .inr (.inr (.inr ())) ∧ μ' = mo_pa μ N c W9 St) := by
  have hN1 := hw.1
  have hWb : W9 ≤ 243 := by have := hw.2.2.2.1; omega
  have e1 : ∀ b, b ≠ 29 → sc_fil μ 29 0 729 b = μ b := fun b hb => sc_fil_ne μ 0 729 hb
  have hw1 : mo_w (sc_fil μ 29 0 729) N := mo_w_cells hw (fun b hb => e1 b (by omega))
  have e2 : ∀ b, b ≠ 28 → b ≠ 30 → b ≠ 29 → mo_p2 (sc_fil μ 29 0 729) c 243 b = μ b := fun b h1 h2 h3 => by rw [mo_p2_ne _ _ _ h1 h2, e1 b h3]
  have hw2 : mo_w (mo_p2 (sc_fil μ 29 0 729) c 243) N := mo_w_cells hw (fun b hb => e2 b (by omega) (by omega) (by omega))
  have p28 : ∀ i, sc_in (mo_p2 (sc_fil μ 29 0 729) c 243 28 i) := fun i => by
    unfold mo_p2
    rw [sc_arr_eq]
    split
    · exact sc_zero
    · rw [e1 28 (by decide)]; exact hpl i
  have p30 : ∀ i, mo_p2 (sc_fil μ 29 0 729) c 243 30 i = 0 ∨ mo_p2 (sc_fil μ 29 0 729) c 243 30 i = 1 := fun i => by
    unfold mo_p2
    rw [sc_arr_ne _ _ (by decide)]
    by_cases hi : i < 243
    · exact Or.inl (by simp [sc_fil, hi])
    · exact Or.inl (by simp [sc_fil, hi]; exact h30 i (by omega))
  have p29 : ∀ i, mo_p2 (sc_fil μ 29 0 729) c 243 29 i = 0 := fun i => by
    rw [mo_p2_ne _ _ _ (by decide) (by decide)]
    by_cases hi : i < 729
    · simp [sc_fil, hi]
    · simp [sc_fil, hi]; exact h29 i (by omega)
  have pK : ¬ mo_p2 (sc_fil μ 29 0 729) c 243 20 c = 0 := by rw [e2 20 (by decide) (by decide) (by decide)]; exact hK
  have hS2 := (hw.2.2.1 c hc).2.2.1 hK
  have hp3 := mo_p3_29 (mo_p2 (sc_fil μ 29 0 729) c 243) N c hw2 hc pK (fun i _ => p29 i) W9
  have hend := fun v4 v5 v6 v7 v8 v9 => lp_plan_end l G (d + 2) (mo_p3 (mo_p2 (sc_fil μ 29 0 729) c 243) N c W9) c W9 St (by omega) (by rw [mo_p3_ne _ _ _ (by decide) (by decide) (by decide), e2 21 (by decide) (by decide) (by decide)]; exact hSt) (by omega) (mo_p3_30 _ N c p30 W9) (fun i => by
    by_cases hi : i < 729
    · have := (hp3 i).1 hi
      exact ⟨by omega, by omega⟩
    · rw [(hp3 i).2 (by omega), p29 i]
      exact ⟨by decide, by decide⟩) v6 v7 v8 v9 243 0 v4 v5 (by omega)
  simp only [mo_p4_0] at hend
  have hww := lp_plan_w l G d (mo_p2 (sc_fil μ 29 0 729) c 243) N hw2 p28 p30 c hc pK W9 hWb (fun r μ' => r = .inr (.inr (.inr ())) ∧ μ' = mo_pa μ N c W9 St) hend W9 0 (.inr (.inr (.inr ()))) (.inr (.inr (.inr ()))) (.inr (.inr (.inr ()))) (.inr (.inr (.inr ()))) (.inr (.inr (.inr ()))) (.inr (.inr (.inr ()))) (by omega)
  refine sc_enter cm_Mo_planAt (plainFor_of_name (by decide)) [.inr (.inr (.inl (18))), .inl ((c : Int)), .inr (.inr (.inr ())), .inr (.inr (.inr ())), .inr (.inr (.inr ())), .inr (.inr (.inr ())), .inr (.inr (.inr ())), .inr (.inr (.inr ())), .inr (.inr (.inr ())), .inr (.inr (.inr ()))] rfl rfl ?_
  refine lp_plan_a l G (d + 2) μ c (by omega) _ (lp_plan_b l G (d + 1) (sc_fil μ 29 0 729) N hw1 c hc W9 (by rw [e1 20 (by decide), e1 21 (by decide)]; exact hW) _ hww)
