theorem pr_lay (l : Launch) (G : sc_G) (d e : Nat) (x z v : Int) (hx : sc_in x) (hz : sc_in z) (hv : sc_in v) : iv_pr l G (d + 1) (e + 3) mq_Sc_lay mq_Mo_lay [.inl (x), .inl (z), .inl (v)] := fun μ N h => ⟨_, sp_Sc_lay l G d μ h.2.2.1 x z v hx hz, fun r1 μ1 h1 => by
  try dsimp only at h1
  by_cases c1 : 0 ≤ x ∧ x ≤ 3
  · obtain ⟨n, rfl⟩ := Int.eq_ofNat_of_zero_le c1.1
    have hn4 : n < 4 := by omega
    have hm : μ1 33 = μ 33 ∧ μ1 34 = μ 34 := by
      rw [if_pos c1, Int.toNat_natCast] at h1
      (repeat' split at h1) <;> (obtain ⟨-, rfl⟩ := h1)
      · exact ⟨sc_meet_ne _ _ (by omega) (by omega), sc_meet_ne _ _ (by omega) (by omega)⟩
      · exact ⟨by rw [sc_up_ne _ _ _ (by omega), sc_up_ne _ _ _ (by omega)], by rw [sc_up_ne _ _ _ (by omega), sc_up_ne _ _ _ (by omega)]⟩
      · exact ⟨sc_meet_ne _ _ (by omega) (by omega), sc_meet_ne _ _ (by omega) (by omega)⟩
    refine ⟨_, sp_Mo_lay l G e μ1 (n : Int) z v hx hz (by rw [hm.1]; exact h.2.2.1.1), fun r2 μ2 h2 => ?_⟩
    try dsimp only at h2
    rw [hm.1, hm.2] at h2
    rw [if_pos c1, Int.toNat_natCast] at h1 h2
    by_cases c2 : μ 33 n < 0
    · rw [if_pos c2] at h1 h2
      obtain ⟨rfl, rfl⟩ := h1
      obtain ⟨rfl, rfl⟩ := h2
      exact ⟨rfl, N, iv_meet h 1 (by omega)⟩
    · rw [if_neg c2] at h1 h2
      by_cases c3 : 0 ≤ z ∧ z < μ 33 n
      · rw [if_pos c3] at h1 h2
        obtain ⟨q, rfl⟩ := Int.eq_ofNat_of_zero_le c3.1
        rw [Int.toNat_natCast] at h1 h2
        obtain ⟨rfl, rfl⟩ := h1
        obtain ⟨rfl, rfl⟩ := h2
        obtain ⟨r1, r2, r3, r4⟩ := h.2.2.1
        have hq27 : q < 27 := by have := r1 n; omega
        refine ⟨rfl, N, ?_⟩
        have h9 : iv_ok (sc_up (sc_up μ (36 + n) q v) 34 (27 * n + q) v) N := by
          have en : ∀ b, b ≠ 36 + n → b ≠ 34 → sc_up (sc_up μ (36 + n) q v) 34 (27 * n + q) v b = μ b := fun b b1 b2 => by rw [sc_up_ne _ _ _ b2, sc_up_ne _ _ _ b1]
          have e34 : ∀ j, sc_up (sc_up μ (36 + n) q v) 34 (27 * n + q) v 34 j = if j = 27 * n + q then v else μ 34 j := fun j => by rw [sc_up_eq, sc_up_ne _ _ _ (by omega)]
          have er : ∀ j, sc_up (sc_up μ (36 + n) q v) 34 (27 * n + q) v (36 + n) j = if j = q then v else μ (36 + n) j := fun j => by rw [sc_up_ne _ _ _ (by omega), sc_up_eq]
          refine iv_rows h (fun b hb => en b (by omega) (by omega)) ⟨by rw [en 33 (by omega) (by decide)]; exact r1, fun i => ?_, by rw [en 33 (by omega) (by decide), en 16 (by omega) (by decide)]; exact r3, fun r hr i hi => ?_⟩
          · rw [e34]
            split
            · exact hv
            · exact r2 i
          · rw [e34]
            by_cases hq : r = n
            · subst hq
              rw [er]
              by_cases hiq : i = q
              · rw [if_pos hiq, if_pos (by omega)]
              · rw [if_neg hiq, if_neg (by omega)]
                exact r4 r hr i hi
            · rw [en (36 + r) (by omega) (by omega), if_neg (by omega)]
              exact r4 r hr i hi
        have e2 : sc_up (sc_up (sc_up (sc_up μ (36 + n) q v) 0 7 (μ 34 (27 * n + q))) 18 2 (μ 34 (27 * n + q))) 34 (27 * n + q) v = sc_up (sc_up (sc_up (sc_up μ (36 + n) q v) 34 (27 * n + q) v) 0 7 (μ 34 (27 * n + q))) 18 2 (μ 34 (27 * n + q)) := by
          funext b j
          simp only [sc_up]
          by_cases hb1 : b = 34 ∧ j = 27 * n + q
          · rw [if_pos hb1, if_neg (by omega), if_neg (by omega), if_pos hb1]
          · rw [if_neg hb1, if_neg hb1]
        rw [e2]
        exact iv_ask h9 _ (fun _ _ => rfl) (fun _ _ => rfl) (mo_sc_cells h9.2.2.2 (fun b hb => by rw [sc_up_ne _ _ _ (by omega), sc_up_ne _ _ _ (by omega)]))
      · rw [if_neg c3] at h1 h2
        obtain ⟨rfl, rfl⟩ := h1
        obtain ⟨rfl, rfl⟩ := h2
        exact ⟨rfl, N, iv_meet h 2 (by omega)⟩
  · rw [if_neg c1] at h1
    obtain ⟨rfl, rfl⟩ := h1
    refine ⟨_, sp_Mo_lay l G e μ1 x z v hx hz h.2.2.1.1, fun r2 μ2 h2 => ?_⟩
    try dsimp only at h2
    rw [if_neg c1] at h2
    obtain ⟨rfl, rfl⟩ := h2
    exact ⟨rfl, N, h⟩⟩
