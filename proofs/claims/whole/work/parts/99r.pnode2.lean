theorem pr_copy (l : Launch) (G : sc_G) (d e : Nat) (x i z j n : Int) (hx : sc_in x) (hi : sc_in i) (hz : sc_in z) (hj : sc_in j) (hn : sc_in n) : iv_pr l G (d + 1) (e + 2) mq_Sc_copy mq_Mo_copy [.inl (x), .inl (i), .inl (z), .inl (j), .inl (n)] := fun μ N h => ⟨_, sp_Sc_copy l G d μ h.2.2.1 x i z j n hx hi hz hj hn, fun r1 μ1 h1 => by
  try dsimp only at h1
  have hm : μ1 33 = μ 33 := by
    (repeat' split at h1) <;> (obtain ⟨-, rfl⟩ := h1) <;> first | rfl | exact sc_meet_ne _ _ (by omega) (by omega) | (unfold sc_cp; funext q; exact if_neg (by omega))
  refine ⟨_, sp_Mo_copy l G e μ1 x i z j n hx hi hz hj hn (fun i => by rw [hm]; exact h.2.2.1.1 i), fun r2 μ2 h2 => ?_⟩
  try dsimp only at h2
  rw [hm] at h2
  by_cases c1 : (0 ≤ x ∧ x ≤ 3) ∧ (0 ≤ z ∧ z ≤ 3)
  · rw [if_pos c1] at h1 h2
    by_cases c2 : n < 0
    · rw [if_pos c2] at h1 h2
      obtain ⟨rfl, rfl⟩ := h1
      obtain ⟨rfl, rfl⟩ := h2
      exact ⟨rfl, N, iv_meet h 5 (by omega)⟩
    · rw [if_neg c2] at h1 h2
      by_cases c3 : μ 33 x.toNat < 0 ∨ μ 33 z.toNat < 0
      · rw [if_pos c3] at h1 h2
        obtain ⟨rfl, rfl⟩ := h1
        obtain ⟨rfl, rfl⟩ := h2
        exact ⟨rfl, N, iv_meet h 1 (by omega)⟩
      · rw [if_neg c3] at h1 h2
        by_cases c4 : i < 0 ∨ j < 0 ∨ μ 33 x.toNat < i + n ∨ μ 33 z.toNat < j + n
        · rw [if_pos c4] at h1 h2
          obtain ⟨rfl, rfl⟩ := h1
          obtain ⟨rfl, rfl⟩ := h2
          exact ⟨rfl, N, iv_meet h 2 (by omega)⟩
        · rw [if_neg c4] at h1 h2
          obtain ⟨rfl, rfl⟩ := h1
          obtain ⟨rfl, rfl⟩ := h2
          obtain ⟨q1, q2, q3, q4⟩ := h.2.2.1
          have x27 := (q1 x.toNat).2
          have z27 := (q1 z.toNat).2
          have hxx : x.toNat < 4 := by omega
          have hzz : z.toNat < 4 := by omega
          have hin : i.toNat + n.toNat ≤ 27 := by omega
          have hjn : j.toNat + n.toNat ≤ 27 := by omega
          clear hm c4 c3 x27 z27
          generalize x.toNat = X at *
          generalize z.toNat = Z at *
          generalize i.toNat = I' at *
          generalize j.toNat = J' at *
          generalize n.toNat = L at *
          have en : ∀ b, b ≠ 34 → b ≠ 35 → b ≠ 36 + Z → mo_cpy (sc_cp μ (36 + X) (36 + Z) I' J' L) (27 * X + I') (27 * Z + J') L b = μ b := fun b b1 b2 b3 => by
            unfold mo_cpy mo_cp2 mo_cp1
            rw [sc_arr_ne _ _ b1, sc_arr_ne _ _ b2]
            unfold sc_cp
            funext q
            exact if_neg (fun k => b3 k.1)
          have er : ∀ q, mo_cpy (sc_cp μ (36 + X) (36 + Z) I' J' L) (27 * X + I') (27 * Z + J') L (36 + Z) q = if J' ≤ q ∧ q < J' + L then μ (36 + X) (I' + (q - J')) else μ (36 + Z) q := fun q => by
            unfold mo_cpy mo_cp2 mo_cp1
            rw [sc_arr_ne _ _ (by omega), sc_arr_ne _ _ (by omega)]
            unfold sc_cp
            by_cases c : J' ≤ q ∧ q < J' + L
            · rw [if_pos ⟨rfl, c⟩, if_pos c]
            · rw [if_neg (fun k => c k.2), if_neg c]
          have e34 : ∀ q, mo_cpy (sc_cp μ (36 + X) (36 + Z) I' J' L) (27 * X + I') (27 * Z + J') L 34 q = if 27 * Z + J' ≤ q ∧ q < 27 * Z + J' + L then μ 34 (27 * X + I' + (q - (27 * Z + J'))) else μ 34 q := fun q => by
            have e9 : ∀ b, b ≠ 36 + Z → sc_cp μ (36 + X) (36 + Z) I' J' L b = μ b := fun b hb => by
              unfold sc_cp
              funext q
              exact if_neg (fun k => hb k.1)
            unfold mo_cpy mo_cp2
            rw [sc_arr_eq]
            unfold mo_cp1
            rw [sc_arr_eq, sc_arr_ne _ _ (by decide), e9 34 (by omega)]
            by_cases c : 27 * Z + J' ≤ q ∧ q < 27 * Z + J' + L
            · rw [if_pos c, if_pos c]
              exact if_pos (by omega)
            · rw [if_neg c, if_neg c]
          generalize mo_cpy (sc_cp μ (36 + X) (36 + Z) I' J' L) (27 * X + I') (27 * Z + J') L = m at en er e34 ⊢
          refine ⟨rfl, N, iv_rows h (fun b hb => en b (by omega) (by omega) (by omega)) ⟨by rw [en 33 (by omega) (by omega) (by omega)]; exact q1, fun q => ?_, by rw [en 33 (by omega) (by omega) (by omega), en 16 (by omega) (by omega) (by omega)]; exact q3, fun r hr q hq => ?_⟩⟩
          · rw [e34]
            split
            · exact q2 _
            · exact q2 _
          · rw [e34]
            by_cases hrz : r = Z
            · subst hrz
              rw [er]
              by_cases c : J' ≤ q ∧ q < J' + L
              · rw [if_pos c, if_pos (by omega), q4 X hxx _ (by omega)]
                congr 1
                omega
              · rw [if_neg c, if_neg (by omega)]
                exact q4 r hr q hq
            · rw [en (36 + r) (by omega) (by omega) (by omega), if_neg (by omega)]
              exact q4 r hr q hq
  · rw [if_neg c1] at h1 h2
    obtain ⟨rfl, rfl⟩ := h1
    obtain ⟨rfl, rfl⟩ := h2
    exact ⟨rfl, N, h⟩⟩
theorem iv_nod {μ : sc_M} {N : Nat} (h : iv_ok μ N) (hN9 : N < 10) (k : Int) (S : Nat) (hk : 0 ≤ k ∧ k ≤ 2) (hS0 : k = 0 → S = 0) (hS1 : ¬ k = 0 → (2 ≤ S ∧ S ≤ 3) ∧ mo_sd (μ 20) (μ 21) N * (S : Int) ≤ 243) : iv_ok (mo_nn (sc_adm μ N k S) N k S) (N + 1) := by
  obtain ⟨⟨hw, hx, h13, hc, hsi, hfr⟩, ht, hr, hs⟩ := h
  have ha : ∀ b, b ≠ 2 → b ≠ 40 + 3 * N → b ≠ 42 + 3 * N → sc_adm μ N k S b = μ b := fun b b1 b2 b3 => by
    unfold sc_adm
    rw [sc_up_ne _ _ _ b1]
    split
    · rw [sc_up_ne _ _ _ b1, sc_clr_ne _ _ b3, sc_up_ne _ _ _ b2, sc_up_ne _ _ _ b2, sc_up_ne _ _ _ b2, sc_up_ne _ _ _ b2, sc_up_ne _ _ _ b2]
    · rw [sc_clr_ne _ _ b3, sc_up_ne _ _ _ b2, sc_up_ne _ _ _ b2, sc_up_ne _ _ _ b2, sc_up_ne _ _ _ b2, sc_up_ne _ _ _ b2]
  have ha2 : ∀ j, sc_adm μ N k S 2 j = if j = 1 then (N : Int) + 1 else if j = 2 ∧ 0 < (S : Int) then μ 2 2 * S else μ 2 j := fun j => by
    unfold sc_adm
    rw [sc_up_eq]
    by_cases hj : j = 1
    · subst hj; rfl
    · rw [if_neg hj]
      show ite _ _ _ = _
      rw [if_neg hj]
      by_cases h0 : 0 < (S : Int)
      · rw [if_pos h0, sc_up_eq]
        show ite _ _ _ = _
        by_cases hj2 : j = 2
        · rw [if_pos hj2, if_pos ⟨hj2, h0⟩]
        · rw [if_neg hj2, if_neg (show ¬ (j = 2 ∧ 0 < (S : Int)) from fun q => hj2 q.1), sc_clr_ne _ _ (by omega), sc_up_ne _ _ _ (by omega), sc_up_ne _ _ _ (by omega), sc_up_ne _ _ _ (by omega), sc_up_ne _ _ _ (by omega), sc_up_ne _ _ _ (by omega)]
      · rw [if_neg h0, if_neg (show ¬ (j = 2 ∧ 0 < (S : Int)) from fun q => h0 q.2), sc_clr_ne _ _ (by omega), sc_up_ne _ _ _ (by omega), sc_up_ne _ _ _ (by omega), sc_up_ne _ _ _ (by omega), sc_up_ne _ _ _ (by omega), sc_up_ne _ _ _ (by omega)]
  have h5 : ∀ j, sc_up (sc_up (sc_up (sc_up (sc_up μ (40 + 3 * N) 0 k) (40 + 3 * N) 1 S) (40 + 3 * N) 2 (μ 2 2)) (40 + 3 * N) 3 (-9)) (40 + 3 * N) 6 (if k = 2 then 0 else 1) (40 + 3 * N) j = if j = 6 then (if k = 2 then 0 else 1) else if j = 3 then -9 else if j = 2 then μ 2 2 else if j = 1 then (S : Int) else if j = 0 then k else μ (40 + 3 * N) j := fun j => by
    rw [sc_up_eq, sc_up_eq, sc_up_eq, sc_up_eq, sc_up_eq]
  have ha40 : ∀ j, sc_adm μ N k S (40 + 3 * N) j = if j = 6 then (if k = 2 then 0 else 1) else if j = 3 then -9 else if j = 2 then μ 2 2 else if j = 1 then (S : Int) else if j = 0 then k else μ (40 + 3 * N) j := fun j => by
    rw [← h5]
    unfold sc_adm
    rw [sc_up_ne _ _ _ (by omega)]
    split
    · rw [sc_up_ne _ _ _ (by omega), sc_clr_ne _ _ (by omega)]
    · rw [sc_clr_ne _ _ (by omega)]
  have ha42 : ∀ i, i < 27 → sc_adm μ N k S (42 + 3 * N) i = if (k = 1 ∧ 1 ≤ S) ∧ i % S = 0 then 12 else 0 := fun i hi => by
    have e1 := sc_clr_tb (sc_up (sc_up (sc_up (sc_up (sc_up μ (40 + 3 * N) 0 k) (40 + 3 * N) 1 S) (40 + 3 * N) 2 (μ 2 2)) (40 + 3 * N) 3 (-9)) (40 + 3 * N) 6 (if k = 2 then 0 else 1)) N S (by rw [h5]; rfl) i hi
    rw [h5 0] at e1
    simp only [Nat.reduceEqDiff, if_false, if_true] at e1
    rw [← e1]
    unfold sc_adm
    rw [sc_up_ne _ _ _ (by omega)]
    split
    · rw [sc_up_ne _ _ _ (by omega)]
    · rfl
  have en : ∀ b, b ≠ 2 → b ≠ 18 → b ≠ 20 → b ≠ 21 → b ≠ 22 → b ≠ 24 → b ≠ 25 → b ≠ 26 → mo_nn (sc_adm μ N k S) N k S b = sc_adm μ N k S b := fun b b0 b1 b2 b3 b4 b5 b6 b7 => by
    unfold mo_nn
    rw [sc_up_ne _ _ _ b1, mo_clt_ne _ _ _ b7, mo_n5_ne _ _ _ _ b2 b3 b4 b5 b6]
  have e2 : ∀ j, mo_nn (sc_adm μ N k S) N k S 2 j = if j = 1 then (N : Int) + 1 else if j = 2 ∧ 0 < (S : Int) then μ 2 2 * S else μ 2 j := fun j => by
    rw [← ha2]
    unfold mo_nn
    rw [sc_up_ne _ _ _ (by decide), mo_clt_ne _ _ _ (by decide), mo_n5_ne _ _ _ _ (by decide) (by decide) (by decide) (by decide) (by decide)]
  have e18 : ∀ j, mo_nn (sc_adm μ N k S) N k S 18 j = if j = 5 then (N : Int) + 1 else μ 18 j := fun j => by
    unfold mo_nn
    rw [sc_up_eq, mo_clt_ne _ _ _ (by decide), mo_n5_ne _ _ _ _ (by decide) (by decide) (by decide) (by decide) (by decide), ha 18 (by omega) (by omega) (by omega)]
  have n20 : ∀ j, mo_n5 (sc_adm μ N k S) N k S 20 j = if j = N then k else μ 20 j := fun j => by
    unfold mo_n5
    rw [sc_up_ne _ _ _ (by decide), sc_up_ne _ _ _ (by decide), sc_up_ne _ _ _ (by decide), sc_up_ne _ _ _ (by decide), sc_up_eq, ha 20 (by omega) (by omega) (by omega)]
  have e20 : ∀ j, mo_nn (sc_adm μ N k S) N k S 20 j = if j = N then k else μ 20 j := fun j => by
    rw [← n20]
    unfold mo_nn
    rw [sc_up_ne _ _ _ (by decide), mo_clt_ne _ _ _ (by decide)]
  have e21 : ∀ j, mo_nn (sc_adm μ N k S) N k S 21 j = if j = N then (S : Int) else μ 21 j := fun j => by
    unfold mo_nn
    rw [sc_up_ne _ _ _ (by decide), mo_clt_ne _ _ _ (by decide)]
    unfold mo_n5
    rw [sc_up_ne _ _ _ (by decide), sc_up_ne _ _ _ (by decide), sc_up_ne _ _ _ (by decide), sc_up_eq, sc_up_ne _ _ _ (by decide), ha 21 (by omega) (by omega) (by omega)]
  have e22 : ∀ j, mo_nn (sc_adm μ N k S) N k S 22 j = if j = N then 0 else μ 22 j := fun j => by
    unfold mo_nn
    rw [sc_up_ne _ _ _ (by decide), mo_clt_ne _ _ _ (by decide)]
    unfold mo_n5
    rw [sc_up_ne _ _ _ (by decide), sc_up_ne _ _ _ (by decide), sc_up_eq, sc_up_ne _ _ _ (by decide), sc_up_ne _ _ _ (by decide), ha 22 (by omega) (by omega) (by omega)]
  have e24 : ∀ j, mo_nn (sc_adm μ N k S) N k S 24 j = if j = N then 0 else μ 24 j := fun j => by
    unfold mo_nn
    rw [sc_up_ne _ _ _ (by decide), mo_clt_ne _ _ _ (by decide)]
    unfold mo_n5
    rw [sc_up_ne _ _ _ (by decide), sc_up_eq, sc_up_ne _ _ _ (by decide), sc_up_ne _ _ _ (by decide), sc_up_ne _ _ _ (by decide), ha 24 (by omega) (by omega) (by omega)]
  have e25 : ∀ j, mo_nn (sc_adm μ N k S) N k S 25 j = if j = N then -9 else μ 25 j := fun j => by
    unfold mo_nn
    rw [sc_up_ne _ _ _ (by decide), mo_clt_ne _ _ _ (by decide)]
    unfold mo_n5
    rw [sc_up_eq, sc_up_ne _ _ _ (by decide), sc_up_ne _ _ _ (by decide), sc_up_ne _ _ _ (by decide), sc_up_ne _ _ _ (by decide), ha 25 (by omega) (by omega) (by omega)]
  have e26 : ∀ i, i < 27 → mo_nn (sc_adm μ N k S) N k S 26 (27 * N + i) = if k = 1 ∧ i = 0 then 12 else 0 := fun i hi => by
    unfold mo_nn
    rw [sc_up_ne _ _ _ (by decide), mo_clt_tb _ _ _ _ hi, n20, if_pos rfl]
    have h1 : mo_by (mo_n5 (sc_adm μ N k S) N k S 21) (mo_n5 (sc_adm μ N k S) N k S 23) N 0 = 1 := rfl
    rw [h1]
    by_cases c : k = 1 ∧ i = 0
    · rw [if_pos c, if_pos ⟨c.1, by omega, by omega⟩]
    · rw [if_neg c, if_neg (fun q => c ⟨q.1, by have := q.2; omega⟩)]
  have e26o : ∀ q i, q ≠ N → i < 27 → mo_nn (sc_adm μ N k S) N k S 26 (27 * q + i) = μ 26 (27 * q + i) := fun q i hq hi => by
    unfold mo_nn
    rw [sc_up_ne _ _ _ (by decide), mo_clt_o _ _ _ q i (fun _ => by show (1 : Int) ≤ 9; decide) hq hi, mo_n5_ne _ _ _ _ (by decide) (by decide) (by decide) (by decide) (by decide), ha 26 (by omega) (by omega) (by omega)]
  clear n20 ha2 h5
  generalize mo_nn (sc_adm μ N k S) N k S = m at *
  have en2 : ∀ b, b ≠ 2 → b ≠ 18 → b ≠ 20 → b ≠ 21 → b ≠ 22 → b ≠ 24 → b ≠ 25 → b ≠ 26 → b ≠ 40 + 3 * N → b ≠ 42 + 3 * N → m b = μ b := fun b b0 b1 b2 b3 b4 b5 b6 b7 b8 b9 => by
    rw [en b b0 b1 b2 b3 b4 b5 b6 b7, ha b b0 b8 b9]
  have e40 : ∀ j, m (40 + 3 * N) j = if j = 6 then (if k = 2 then 0 else 1) else if j = 3 then -9 else if j = 2 then μ 2 2 else if j = 1 then (S : Int) else if j = 0 then k else μ (40 + 3 * N) j := fun j => by
    rw [en _ (by omega) (by omega) (by omega) (by omega) (by omega) (by omega) (by omega) (by omega), ha40]
  have e42 : ∀ i, i < 27 → m (42 + 3 * N) i = if (k = 1 ∧ 1 ≤ S) ∧ i % S = 0 then 12 else 0 := fun i hi => by
    rw [en _ (by omega) (by omega) (by omega) (by omega) (by omega) (by omega) (by omega) (by omega), ha42 i hi]
  clear en ha ha40 ha42
  generalize sc_adm μ N k S = a9 at *
  have e23 := en2 23 (by omega) (by omega) (by omega) (by omega) (by omega) (by omega) (by omega) (by omega) (by omega) (by omega)
  have hsd : ∀ n, n ≤ N → mo_sd (m 20) (m 21) n = mo_sd (μ 20) (μ 21) n := fun n hn => mo_sd_cg _ _ _ _ n (fun q hq => by rw [e20, if_neg (by omega)]) (fun q hq => by rw [e21, if_neg (by omega)])
  have hsdN : mo_sd (m 20) (m 21) (N + 1) = mo_sd (μ 20) (μ 21) N * (if k = 0 then 1 else (S : Int)) := by
    rw [mo_sd, hsd N (Nat.le_refl _), mo_m, e20, e21, if_pos rfl, if_pos rfl]
  have hfN := hfr N (Nat.le_refl _) hN9
  have hpar : ∀ n, n < N → ∀ j, j < (μ 22 n).toNat → 0 ≤ μ 23 (3 * n + j) ∧ μ 23 (3 * n + j) < n := fun n hn j hj => by
    have := (hw.2.2.1 n hn).2.2.2.2.1 j hj
    exact ⟨this.1, this.2.1⟩
  have hby : ∀ n, n < N → mo_by (m 21) (m 23) n (μ 22 n).toNat = mo_by (μ 21) (μ 23) n (μ 22 n).toNat := fun n hn => mo_by_cg _ _ _ _ n _ (fun q hq => by rw [e23]) (fun q hq => by
    have := hpar n hn q hq
    rw [e21, if_neg (by omega)])
  have hw' : mo_w m (N + 1) := by
    refine ⟨by omega, by rw [e18, if_pos rfl]; omega, fun n hn => ?_, ?_, ?_⟩
    · unfold mo_nd
      rw [e20, e21, e22, e24, e25, e23]
      by_cases hnN : n = N
      · subst hnN
        rw [if_pos rfl, if_pos rfl, if_pos rfl, if_pos rfl, if_pos rfl]
        refine ⟨hk, fun h0 => by rw [hS0 h0]; rfl, fun h0 => by have := hS1 h0; omega, by omega, fun j hj => by exact absurd hj (by omega), by omega, by omega, fun i hi => ?_⟩
        rw [e26 i hi]
        split
        · exact ⟨by decide, by decide, fun _ => by decide⟩
        · exact ⟨by decide, by decide, fun _ => by decide⟩
      · obtain ⟨a1, a2, a3, a4, a5, a6, a7, a8⟩ := hw.2.2.1 n (by omega)
        rw [if_neg hnN, if_neg hnN, if_neg hnN, if_neg hnN, if_neg hnN]
        refine ⟨a1, a2, a3, a4, fun j hj => ?_, a6, a7, fun i hi => ?_⟩
        · have h9 := a5 j hj
          refine ⟨h9.1, h9.2.1, ?_⟩
          rw [e20, if_neg (by omega)]
          exact h9.2.2
        · rw [e26o n i hnN hi]
          exact a8 i hi
    · rw [hsdN]
      by_cases h0 : k = 0
      · rw [if_pos h0, Int.mul_one]; exact hw.2.2.2.1
      · rw [if_neg h0]; exact (hS1 h0).2
    · rw [e18, if_neg (by decide), h13]
      exact ⟨⟨by decide, by decide⟩, fun q hq h9 => by exact absurd h9 (by omega)⟩
  have hx' : mo_x m (N + 1) := by
    obtain ⟨x1, x2, x3, x4⟩ := hx
    unfold mo_x
    refine ⟨fun n hn => ?_, fun n hn q hq hb => ?_, fun n hn h2 => ?_, fun n hn i j hij hj => ?_⟩
    · rw [e25, e20, e21]
      by_cases hnN : n = N
      · rw [if_pos hnN]; exact Or.inl rfl
      · rw [if_neg hnN, if_neg hnN, if_neg hnN]; exact x1 n (by omega)
    · rw [e24] at hb
      by_cases hnN : n = N
      · rw [if_pos hnN] at hb; exact absurd hb (mo_bt_0 q hq)
      · rw [if_neg hnN] at hb
        have := x2 n (by omega) q hq hb
        rw [e20, if_neg (by omega)]
        exact this
    · rw [e24]
      rw [e20] at h2
      by_cases hnN : n = N
      · rw [if_pos hnN]
      · rw [if_neg hnN] at h2 ⊢
        exact x3 n (by omega) h2
    · rw [e22] at hj
      by_cases hnN : n = N
      · rw [if_pos hnN] at hj; exact absurd hj (by omega)
      · rw [if_neg hnN] at hj
        rw [e23]
        exact x4 n (by omega) i j hij hj
  have hS3 : S ≤ 3 := by
    by_cases h0 : k = 0
    · rw [hS0 h0]; decide
    · exact (hS1 h0).1.2
  have hsdp := mo_sd_pos (μ 20) (μ 21) N (fun q hq => (hw.2.2.1 q hq).2.2.1) N (Nat.le_refl _)
  have hc' : cn_ok m m (N + 1) := by
    refine ⟨⟨by omega, by rw [e2, if_pos rfl]; omega, fun n hn => ?_⟩, ?_, fun n hn => ?_⟩
    · obtain ⟨a0, a1, a2, a3, a4, a5, a6, a7⟩ := hc.1.2.2 n hn
      by_cases hnN : n = N
      · subst hnN
        unfold sc_nd
        rw [e40, e40, e40, e40, e40, e40, e40]
        simp only [Nat.reduceEqDiff, if_false, if_true]
        rw [hfN.1, hfN.2, hc.2.1]
        have h243 := hw.2.2.2.1
        refine ⟨⟨by omega, by omega⟩, ⟨by omega, by omega⟩, ⟨by omega, by omega⟩, ⟨by decide, by decide⟩, sc_zero, ⟨by decide, by decide⟩, ?_, fun j hj => absurd hj (by omega)⟩
        split
        · exact sc_zero
        · exact ⟨by decide, by decide⟩
      · unfold sc_nd
        rw [en2 (40 + 3 * n) (by omega) (by omega) (by omega) (by omega) (by omega) (by omega) (by omega) (by omega) (by omega) (by omega), en2 (41 + 3 * n) (by omega) (by omega) (by omega) (by omega) (by omega) (by omega) (by omega) (by omega) (by omega) (by omega)]
        exact ⟨a0, a1, a2, a3, a4, a5, a6, fun j hj => ⟨(a7 j hj).1, by have := (a7 j hj).2; omega⟩⟩
    · rw [hsdN, e2, if_neg (by decide), hc.2.1]
      by_cases h0 : k = 0
      · rw [if_pos h0, if_neg (fun q => by have := hS0 h0; have := q.2; omega), Int.mul_one]
      · rw [if_neg h0, if_pos ⟨rfl, by have := hS1 h0; omega⟩]
    · unfold cn_nd
      by_cases hnN : n = N
      · subst hnN
        have f20 : m 20 n = k := by rw [e20, if_pos rfl]
        have f21 : m 21 n = (S : Int) := by rw [e21, if_pos rfl]
        have f25 : m 25 n = -9 := by rw [e25, if_pos rfl]
        have f22 : m 22 n = 0 := by rw [e22, if_pos rfl]
        rw [f20, f21, f25, f22, e40, e40, e40, e40, e40, e40, hsd n (Nat.le_refl _)]
        simp only [Nat.reduceEqDiff, if_false, if_true]
        have h1 : mo_by (m 21) (m 23) n (0 : Int).toNat = 1 := rfl
        rw [h1]
        refine ⟨trivial, trivial, hc.2.1, trivial, hfN.2, rfl, fun j hj => absurd hj (by omega), fun hK1 r s hr2 hs2 => ?_, fun hK0 i hi => ?_⟩
        · have hr0 : r = 0 := by omega
          subst hr0
          have h23 := (hS1 (by omega)).1
          rw [Int.toNat_natCast, show 0 * S + s = s by omega, show 27 * n + 3 * 0 + s = 27 * n + s by omega, e42 s (by omega), e26 s (by omega)]
          have hsS : s < S := by omega
          rw [Nat.mod_eq_of_lt hsS]
          by_cases hs0 : s = 0
          · rw [if_pos ⟨⟨hK1, by omega⟩, hs0⟩, if_pos ⟨hK1, hs0⟩]
          · rw [if_neg (fun q => hs0 q.2), if_neg (fun q => hs0 q.2)]
        · rw [e42 i (by omega), e26 i (by omega), if_neg (fun q => by have := q.1.1; omega), if_neg (fun q => by have := q.1; omega)]
      · obtain ⟨a0, a1, a2, a3, a4, a5, a6, a7, a8⟩ := hc.2.2 n (by omega)
        have hby0 := mo_byb hw n (by omega)
        have hS0 := mo_S3 hw n (by omega)
        have f20 : m 20 n = μ 20 n := by rw [e20, if_neg hnN]
        have f21 : m 21 n = μ 21 n := by rw [e21, if_neg hnN]
        have f25 : m 25 n = μ 25 n := by rw [e25, if_neg hnN]
        have f22 : m 22 n = μ 22 n := by rw [e22, if_neg hnN]
        rw [f20, f21, f25, f22, hsd n (by omega), hby n (by omega), e23, en2 (40 + 3 * n) (by omega) (by omega) (by omega) (by omega) (by omega) (by omega) (by omega) (by omega) (by omega) (by omega), en2 (41 + 3 * n) (by omega) (by omega) (by omega) (by omega) (by omega) (by omega) (by omega) (by omega) (by omega) (by omega), en2 (42 + 3 * n) (by omega) (by omega) (by omega) (by omega) (by omega) (by omega) (by omega) (by omega) (by omega) (by omega)]
        refine ⟨a0, a1, a2, a3, a4, a5, a6, fun hK1 r s hr2 hs2 => ?_, fun hK0 i hi => ?_⟩
        · have := hby0.2.2 hK1
          rw [show 27 * n + 3 * r + s = 27 * n + (3 * r + s) by omega, e26o n (3 * r + s) hnN (by omega), a7 hK1 r s hr2 hs2, show 27 * n + (3 * r + s) = 27 * n + 3 * r + s by omega]
        · rw [e26o n i hnN (by omega)]
          exact a8 hK0 i hi
  refine ⟨⟨hw', hx', by rw [e18, if_neg (by decide)]; exact h13, hc', fun n hn => ?_, fun n h1 h2 => ?_⟩, ?_, iv_rw_cells hr (fun b hb => en2 b (by omega) (by omega) (by omega) (by omega) (by omega) (by omega) (by omega) (by omega) (by omega) (by omega)), mo_sc_cells hs (fun b hb => en2 b (by omega) (by omega) (by omega) (by omega) (by omega) (by omega) (by omega) (by omega) (by omega) (by omega))⟩
  · rw [e24]
    by_cases hnN : n = N
    · subst hnN; rw [if_pos rfl, e40]; exact hfN.1
    · rw [if_neg hnN, en2 (40 + 3 * n) (by omega) (by omega) (by omega) (by omega) (by omega) (by omega) (by omega) (by omega) (by omega) (by omega)]
      exact hsi n (by omega)
  · rw [en2 (40 + 3 * n) (by omega) (by omega) (by omega) (by omega) (by omega) (by omega) (by omega) (by omega) (by omega) (by omega)]
    exact hfr n (by omega) h2
  · obtain ⟨t1, t2, t3, t4, t5⟩ := ht
    unfold iv_tl
    rw [e18, e18, e18, e18, en2 0 (by omega) (by omega) (by omega) (by omega) (by omega) (by omega) (by omega) (by omega) (by omega) (by omega), en2 17 (by omega) (by omega) (by omega) (by omega) (by omega) (by omega) (by omega) (by omega) (by omega) (by omega), en2 19 (by omega) (by omega) (by omega) (by omega) (by omega) (by omega) (by omega) (by omega) (by omega) (by omega)]
    exact ⟨t1, t2, t3, t4, t5⟩
theorem sc_adm_ne (μ : sc_M) (N : Nat) (k s : Int) {b : Nat} (b1 : b ≠ 2) (b2 : b < 40) : sc_adm μ N k s b = μ b := by
  have b2' : b ≠ 40 + 3 * N := by omega
  have b3 : b ≠ 42 + 3 * N := by omega
  unfold sc_adm
  rw [sc_up_ne _ _ _ b1]
  split
  · rw [sc_up_ne _ _ _ b1, sc_clr_ne _ _ b3, sc_up_ne _ _ _ b2', sc_up_ne _ _ _ b2', sc_up_ne _ _ _ b2', sc_up_ne _ _ _ b2', sc_up_ne _ _ _ b2']
  · rw [sc_clr_ne _ _ b3, sc_up_ne _ _ _ b2', sc_up_ne _ _ _ b2', sc_up_ne _ _ _ b2', sc_up_ne _ _ _ b2', sc_up_ne _ _ _ b2']
theorem pr_node (l : Launch) (G : sc_G) (d e : Nat) (x z : Int) (hx : sc_in x) (hz : sc_in z) : iv_pr l G (d + 4) (e + 2) mq_Sc_node mq_Mo_node [.inl (x), .inl (z)] := fun μ N h => ⟨_, sp_Sc_node l G d μ N h.1 x z hx hz, fun r1 μ1 h1 => by
  try dsimp only at h1
  have hm : mo_sm μ μ1 := by
    (repeat' split at h1) <;> (obtain ⟨-, rfl⟩ := h1) <;> first | exact fun b _ => rfl | exact fun b hb => sc_adm_ne _ _ _ _ (by omega) (by omega)
  have hw := mo_sm_w hm h.1.1
  refine ⟨_, sp_Mo_node l G e μ1 N hw x z hx hz, fun r2 μ2 h2 => ?_⟩
  try dsimp only at h2
  rw [hm 20 (by omega), hm 21 (by omega)] at h2
  by_cases c1 : (0 ≤ x ∧ x ≤ 2) ∧ (x = 0 ∨ (2 ≤ z ∧ z ≤ 3))
  · rw [if_pos c1] at h1 h2
    by_cases c2 : N = 10
    · rw [if_pos c2] at h1 h2
      obtain ⟨rfl, rfl⟩ := h1
      obtain ⟨rfl, rfl⟩ := h2
      exact ⟨rfl, N, h⟩
    · rw [if_neg c2] at h1 h2
      by_cases c3 : ¬ x = 0 ∧ 243 < mo_sd (μ 20) (μ 21) N * z
      · rw [if_pos c3] at h1 h2
        obtain ⟨rfl, rfl⟩ := h1
        obtain ⟨rfl, rfl⟩ := h2
        exact ⟨rfl, N, h⟩
      · rw [if_neg c3] at h1 h2
        obtain ⟨rfl, rfl⟩ := h1
        obtain ⟨rfl, rfl⟩ := h2
        have hN1 := h.1.1.1
        refine ⟨rfl, N + 1, ?_⟩
        by_cases h0 : x = 0
        · rw [if_pos h0]
          exact iv_nod h (by omega) x 0 c1.1 (fun _ => rfl) (fun h9 => absurd h0 h9)
        · rw [if_neg h0]
          obtain ⟨S, rfl⟩ := Int.eq_ofNat_of_zero_le (show 0 ≤ z by omega)
          exact iv_nod h (by omega) x S c1.1 (fun h9 => absurd h9 h0) (fun _ => ⟨by omega, by
            generalize mo_sd (μ 20) (μ 21) N * (S : Int) = q at c3 ⊢
            omega⟩)
  · rw [if_neg c1] at h1 h2
    obtain ⟨rfl, rfl⟩ := h1
    obtain ⟨rfl, rfl⟩ := h2
    exact ⟨rfl, N, h⟩⟩
