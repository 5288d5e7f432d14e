theorem mo_by_cg (S S' R R' : Nat → Int) (n : Nat) : ∀ P, (∀ k, k < P → R' (3 * n + k) = R (3 * n + k)) → (∀ k, k < P → S' (R (3 * n + k)).toNat = S (R (3 * n + k)).toNat) → mo_by S' R' n P = mo_by S R n P
  | 0, _, _ => rfl
  | P + 1, h1, h2 => by rw [mo_by, mo_by, mo_by_cg S S' R R' n P (fun k hk => h1 k (by omega)) (fun k hk => h2 k (by omega)), h1 P (by omega), h2 P (by omega)]
theorem mo_sd_cg (K K' S S' : Nat → Int) : ∀ n, (∀ k, k < n → K' k = K k) → (∀ k, k < n → S' k = S k) → mo_sd K' S' n = mo_sd K S n
  | 0, _, _ => rfl
  | n + 1, h1, h2 => by rw [mo_sd, mo_sd, mo_sd_cg K K' S S' n (fun k hk => h1 k (by omega)) (fun k hk => h2 k (by omega)), mo_m, mo_m, h1 n (by omega), h2 n (by omega)]
theorem sc_clr_tb (μ : sc_M) (n S : Nat) (hS : μ (40 + 3 * n) 1 = S) (i : Nat) (hi : i < 27) : sc_clr μ n (42 + 3 * n) i = if (μ (40 + 3 * n) 0 = 1 ∧ 1 ≤ S) ∧ i % S = 0 then 12 else 0 := by
  unfold sc_clr
  rw [hS, Int.toNat_natCast]
  by_cases c : μ (40 + 3 * n) 0 = 1 ∧ 1 ≤ (S : Int)
  · rw [if_pos c]
    unfold sc_cl
    rw [if_pos ⟨rfl, hi⟩]
    have h1 : 1 ≤ S := by omega
    have h2 : i < 27 * S := by omega
    by_cases c2 : i % S = 0
    · rw [if_pos ⟨c2, h2⟩, if_pos ⟨⟨c.1, h1⟩, c2⟩]
    · rw [if_neg (fun k => c2 k.1), if_neg (fun k => c2 k.2)]
  · rw [if_neg c, if_neg (fun k => c ⟨k.1.1, by omega⟩)]
    unfold sc_fil
    rw [if_pos ⟨rfl, hi⟩]
theorem mo_clt_tb (μ : sc_M) (n P i : Nat) (hi : i < 27) : mo_clt μ n P 26 (27 * n + i) = if μ 20 n = 1 ∧ i % 3 = 0 ∧ i / 3 < (mo_by (μ 21) (μ 23) n P).toNat then 12 else 0 := by
  unfold mo_clt mo_c2
  rw [sc_arr_eq]
  rw [show 27 * n + i - 27 * n = i by omega]
  have e1 : mo_c1 μ n 27 26 (27 * n + i) = 0 := by
    unfold mo_c1
    rw [sc_arr_eq]
    exact if_pos ⟨by omega, by omega⟩
  rw [e1]
  by_cases hK : μ 20 n = 1
  · rw [if_pos hK]
    by_cases c : i % 3 = 0 ∧ i / 3 < (mo_by (μ 21) (μ 23) n P).toNat
    · rw [if_pos ⟨by omega, c⟩, if_pos ⟨hK, c⟩]
    · rw [if_neg (fun k => c k.2), if_neg (fun k => c k.2)]
  · rw [if_neg hK, if_neg (show ¬ (27 * n ≤ 27 * n + i ∧ i % 3 = 0 ∧ i / 3 < 0) by omega), if_neg (fun k => hK k.1)]
theorem mo_clt_o (μ : sc_M) (n P k i : Nat) (hP : μ 20 n = 1 → mo_by (μ 21) (μ 23) n P ≤ 9) (hk : k ≠ n) (hi : i < 27) : mo_clt μ n P 26 (27 * k + i) = μ 26 (27 * k + i) := by
  unfold mo_clt mo_c2
  rw [sc_arr_eq]
  have e1 : mo_c1 μ n 27 26 (27 * k + i) = μ 26 (27 * k + i) := by
    unfold mo_c1
    rw [sc_arr_eq]
    exact if_neg (by omega)
  rw [e1]
  refine if_neg ?_
  by_cases hK : μ 20 n = 1
  · rw [if_pos hK]
    have := hP hK
    omega
  · rw [if_neg hK]
    omega
theorem iv_par {μ : sc_M} {N : Nat} (h : iv_ok μ N) (n : Nat) (hn : n < N) (p : Nat) (hp : p < n) (hKp : ¬ μ 20 p = 0) (hK : ¬ μ 20 n = 2) (P : Nat) (hPP : μ 22 n = P) (hP : (P : Int) < if μ 20 n = 0 then 3 else 2) (hno : ∀ k, k < P → ¬ μ 23 (3 * n + k) = p) : iv_ok (mo_np (sc_apm μ n P p (μ 21 p)) n P p) N := by
  obtain ⟨⟨hw, hx, h13, hc, hsi, hfr⟩, ht, hr, hs⟩ := h
  have hN1 := hw.1
  have hSn := hw.2.2.1 n hn
  have hSp := (hw.2.2.1 p (by omega)).2.2.1 hKp
  have hcn := hc.2.2 n hn
  have hP3 : P ≤ 2 ∧ (μ 20 n = 1 → P ≤ 1) := by
    have := hSn.1
    split at hP <;> omega
  have hbn := mo_byb hw n hn
  rw [hPP, Int.toNat_natCast] at hbn
  have hS3 := mo_S3 hw n hn
  obtain ⟨S, hS⟩ := Int.eq_ofNat_of_zero_le hS3.1
  have en : ∀ b, b ≠ 22 → b ≠ 23 → b ≠ 26 → b ≠ 40 + 3 * n → b ≠ 41 + 3 * n → b ≠ 42 + 3 * n → mo_np (sc_apm μ n P p (μ 21 p)) n P p b = μ b := fun b b1 b2 b3 b4 b5 b6 => by
    unfold mo_np
    rw [mo_clt_ne _ _ _ b3, sc_up_ne _ _ _ b1, sc_up_ne _ _ _ b2]
    unfold sc_apm
    rw [sc_clr_ne _ _ b6, sc_up_ne _ _ _ b4, sc_up_ne _ _ _ b4, sc_up_ne _ _ _ b5]
  have ea : ∀ b, b < 40 → sc_apm μ n P p (μ 21 p) b = μ b := fun b hb => by
    unfold sc_apm
    rw [sc_clr_ne _ _ (by omega), sc_up_ne _ _ _ (by omega), sc_up_ne _ _ _ (by omega), sc_up_ne _ _ _ (by omega)]
  have e22 : ∀ j, mo_np (sc_apm μ n P p (μ 21 p)) n P p 22 j = if j = n then (P : Int) + 1 else μ 22 j := fun j => by
    unfold mo_np
    rw [mo_clt_ne _ _ _ (by decide), sc_up_eq, sc_up_ne _ _ _ (by decide), ea 22 (by decide)]
  have e23 : ∀ j, mo_np (sc_apm μ n P p (μ 21 p)) n P p 23 j = if j = 3 * n + P then (p : Int) else μ 23 j := fun j => by
    unfold mo_np
    rw [mo_clt_ne _ _ _ (by decide), sc_up_ne _ _ _ (by decide), sc_up_eq, ea 23 (by decide)]
  have e40 : ∀ j, mo_np (sc_apm μ n P p (μ 21 p)) n P p (40 + 3 * n) j = if j = 6 then μ (40 + 3 * n) 6 * μ 21 p else if j = 5 then (P : Int) + 1 else μ (40 + 3 * n) j := fun j => by
    unfold mo_np
    rw [mo_clt_ne _ _ _ (by omega), sc_up_ne _ _ _ (by omega), sc_up_ne _ _ _ (by omega)]
    unfold sc_apm
    rw [sc_clr_ne _ _ (by omega), sc_up_eq, sc_up_eq, sc_up_ne _ _ _ (by omega)]
  have e41 : ∀ j, mo_np (sc_apm μ n P p (μ 21 p)) n P p (41 + 3 * n) j = if j = P then (p : Int) else μ (41 + 3 * n) j := fun j => by
    unfold mo_np
    rw [mo_clt_ne _ _ _ (by omega), sc_up_ne _ _ _ (by omega), sc_up_ne _ _ _ (by omega)]
    unfold sc_apm
    rw [sc_clr_ne _ _ (by omega), sc_up_ne _ _ _ (by omega), sc_up_ne _ _ _ (by omega), sc_up_eq]
  have e42 : ∀ i, i < 27 → mo_np (sc_apm μ n P p (μ 21 p)) n P p (42 + 3 * n) i = if (μ 20 n = 1 ∧ 1 ≤ S) ∧ i % S = 0 then 12 else 0 := fun i hi => by
    unfold mo_np
    rw [mo_clt_ne _ _ _ (by omega), sc_up_ne _ _ _ (by omega), sc_up_ne _ _ _ (by omega)]
    unfold sc_apm
    have e0 : ∀ j, sc_up (sc_up (sc_up μ (41 + 3 * n) P p) (40 + 3 * n) 5 ((P : Int) + 1)) (40 + 3 * n) 6 (μ (40 + 3 * n) 6 * μ 21 p) (40 + 3 * n) j = if j = 6 then μ (40 + 3 * n) 6 * μ 21 p else if j = 5 then (P : Int) + 1 else μ (40 + 3 * n) j := fun j => by
      rw [sc_up_eq, sc_up_eq, sc_up_ne _ _ _ (by omega)]
    have e00 := e0 0
    rw [if_neg (show ¬ (0 : Nat) = 6 by decide), if_neg (show ¬ (0 : Nat) = 5 by decide), hcn.1] at e00
    rw [sc_clr_tb _ n S (by rw [e0]; exact hcn.2.1.trans hS) i hi, e00]
  have hm23 : sc_up (sc_up (sc_apm μ n P p (μ 21 p)) 23 (3 * n + P) p) 22 n ((P : Int) + 1) 23 = mo_np (sc_apm μ n P p (μ 21 p)) n P p 23 := by
    unfold mo_np
    rw [mo_clt_ne _ _ _ (by decide)]
  have hm21 : sc_up (sc_up (sc_apm μ n P p (μ 21 p)) 23 (3 * n + P) p) 22 n ((P : Int) + 1) 21 = μ 21 := by
    rw [sc_up_ne _ _ _ (by decide), sc_up_ne _ _ _ (by decide), ea 21 (by decide)]
  have hm20 : sc_up (sc_up (sc_apm μ n P p (μ 21 p)) 23 (3 * n + P) p) 22 n ((P : Int) + 1) 20 = μ 20 := by
    rw [sc_up_ne _ _ _ (by decide), sc_up_ne _ _ _ (by decide), ea 20 (by decide)]
  have hby : mo_by (μ 21) (mo_np (sc_apm μ n P p (μ 21 p)) n P p 23) n (P + 1) = mo_by (μ 21) (μ 23) n P * μ 21 p := by
    rw [mo_by, e23, if_pos rfl, Int.toNat_natCast, mo_by_cg (μ 21) (μ 21) (μ 23) _ n P (fun k hk => by rw [e23, if_neg (by omega)]) (fun k hk => rfl)]
  have hR3 : ∀ k, k < P → 2 ≤ μ 21 (μ 23 (3 * n + k)).toNat ∧ μ 21 (μ 23 (3 * n + k)).toNat ≤ 3 := fun k hk => by
    have := hSn.2.2.2.2.1 k (by omega)
    exact (hw.2.2.1 (μ 23 (3 * n + k)).toNat (by omega)).2.2.1 this.2.2
  have hpw := (mo_by_pos (μ 20) (μ 21) (μ 23) n P hR3 P (Nat.le_refl _))
  have hb9 : 1 ≤ mo_by (μ 21) (μ 23) n P * μ 21 p ∧ mo_by (μ 21) (μ 23) n P * μ 21 p ≤ 27 ∧ (μ 20 n = 1 → mo_by (μ 21) (μ 23) n P * μ 21 p ≤ 9) := by
    generalize mo_by (μ 21) (μ 23) n P = B at hpw
    have hP012 : P = 0 ∨ P = 1 ∨ P = 2 := by omega
    have hSp23 : μ 21 p = 2 ∨ μ 21 p = 3 := by omega
    rcases hP012 with rfl | rfl | rfl <;> rcases hSp23 with e | e <;> rw [e] <;> (first | rw [show (3 : Int) ^ 0 = 1 from rfl] at hpw | rw [show (3 : Int) ^ 1 = 3 from rfl] at hpw | rw [show (3 : Int) ^ 2 = 9 from rfl] at hpw) <;> omega
  have e26 : ∀ i, i < 27 → mo_np (sc_apm μ n P p (μ 21 p)) n P p 26 (27 * n + i) = if μ 20 n = 1 ∧ i % 3 = 0 ∧ i / 3 < (mo_by (μ 21) (μ 23) n P * μ 21 p).toNat then 12 else 0 := fun i hi => by
    rw [← hby]
    unfold mo_np
    rw [mo_clt_tb _ _ _ _ hi, hm20, hm21, hm23, mo_clt_ne _ _ _ (by decide), hm23]
  have e26o : ∀ k i, k ≠ n → i < 27 → mo_np (sc_apm μ n P p (μ 21 p)) n P p 26 (27 * k + i) = μ 26 (27 * k + i) := fun k i hk hi => by
    have hq : sc_up (sc_up (sc_apm μ n P p (μ 21 p)) 23 (3 * n + P) p) 22 n ((P : Int) + 1) 20 n = 1 → mo_by (sc_up (sc_up (sc_apm μ n P p (μ 21 p)) 23 (3 * n + P) p) 22 n ((P : Int) + 1) 21) (sc_up (sc_up (sc_apm μ n P p (μ 21 p)) 23 (3 * n + P) p) 22 n ((P : Int) + 1) 23) n (P + 1) ≤ 9 := fun h9 => by
      rw [hm20] at h9
      rw [hm21, hm23, hby]
      exact hb9.2.2 h9
    unfold mo_np
    rw [mo_clt_o _ n (P + 1) k i hq hk hi, sc_up_ne _ _ _ (by decide), sc_up_ne _ _ _ (by decide), ea 26 (by decide)]
  generalize mo_np (sc_apm μ n P p (μ 21 p)) n P p = m at en e22 e23 e40 e41 e42 e26 e26o hby hm23 ⊢
  clear hm20 hm21 hm23 ea
  have b18 := en 18 (by omega) (by omega) (by omega) (by omega) (by omega) (by omega)
  have b20 := en 20 (by omega) (by omega) (by omega) (by omega) (by omega) (by omega)
  have b21 := en 21 (by omega) (by omega) (by omega) (by omega) (by omega) (by omega)
  have b24 := en 24 (by omega) (by omega) (by omega) (by omega) (by omega) (by omega)
  have b25 := en 25 (by omega) (by omega) (by omega) (by omega) (by omega) (by omega)
  have b2 := en 2 (by omega) (by omega) (by omega) (by omega) (by omega) (by omega)
  have hbo : ∀ k, k < N → k ≠ n → mo_by (μ 21) (m 23) k (m 22 k).toNat = mo_by (μ 21) (μ 23) k (μ 22 k).toNat := fun k hk hkn => by
    rw [e22, if_neg hkn]
    have := (hw.2.2.1 k hk).2.2.2.1
    exact mo_by_cg _ _ _ _ k _ (fun j hj => by rw [e23, if_neg (by omega)]) (fun j hj => rfl)
  have hw' : mo_w m N := by
    refine ⟨hN1, by rw [b18]; exact hw.2.1, fun k hk => ?_, by rw [b20, b21]; exact hw.2.2.2.1, by rw [b18, b20]; exact hw.2.2.2.2⟩
    obtain ⟨a1, a2, a3, a4, a5, a6, a7, a8⟩ := hw.2.2.1 k hk
    unfold mo_nd
    rw [b20, b21, b24, b25, e22]
    by_cases hkn : k = n
    · subst hkn
      rw [if_pos rfl]
      refine ⟨a1, a2, a3, ⟨by omega, by omega, fun h9 => by omega, fun h9 => absurd h9 hK⟩, fun j hj => ?_, a6, a7, fun i hi => ?_⟩
      · rw [e23]
        by_cases hjP : j = P
        · rw [if_pos (by omega), Int.toNat_natCast]
          exact ⟨by omega, by omega, hKp⟩
        · rw [if_neg (by omega)]
          exact a5 j (by omega)
      · rw [e26 i hi]
        split
        · exact ⟨by decide, by decide, fun _ => by decide⟩
        · exact ⟨by decide, by decide, fun _ => by decide⟩
    · rw [if_neg hkn]
      refine ⟨a1, a2, a3, a4, fun j hj => ?_, a6, a7, fun i hi => ?_⟩
      · rw [e23, if_neg (by omega)]
        exact a5 j hj
      · rw [e26o k i hkn hi]
        exact a8 i hi
  have hx' : mo_x m N := by
    unfold mo_x
    rw [b20, b21, b24, b25]
    refine ⟨hx.1, hx.2.1, hx.2.2.1, fun k hk i j hij hj => ?_⟩
    rw [e22] at hj
    by_cases hkn : k = n
    · subst hkn
      rw [if_pos rfl] at hj
      rw [e23, e23, if_neg (by omega)]
      by_cases hjP : j = P
      · rw [if_pos (by omega)]
        exact hno i (by omega)
      · rw [if_neg (by omega)]
        exact hx.2.2.2 k hk i j hij (by omega)
    · rw [if_neg hkn] at hj
      have := (hw.2.2.1 k hk).2.2.2.1
      rw [e23, e23, if_neg (by omega), if_neg (by omega)]
      exact hx.2.2.2 k hk i j hij hj
  have hc' : cn_ok m m N := by
    refine ⟨⟨hN1, by rw [b2]; exact hc.1.2.1, fun k hk => ?_⟩, by rw [b2, b20, b21]; exact hc.2.1, fun k hk => ?_⟩
    · obtain ⟨a0, a1, a2, a3, a4, a5, a6, a7⟩ := hc.1.2.2 k hk
      by_cases hkn : k = n
      · subst hkn
        unfold sc_nd
        rw [e40, e40, e40, e40, e40, e40, e40]
        simp only [Nat.reduceEqDiff, if_false, if_true]
        have h6 := hcn.2.2.2.2.2.1
        rw [if_neg hK, hPP, Int.toNat_natCast] at h6
        rw [h6]
        refine ⟨a0, a1, a2, a3, a4, ⟨by omega, by omega⟩, ⟨by omega, by omega⟩, fun j hj => ?_⟩
        rw [e41]
        split
        · omega
        · have h5 := hcn.2.2.2.2.1
          exact a7 j (by omega)
      · unfold sc_nd
        rw [en (40 + 3 * k) (by omega) (by omega) (by omega) (by omega) (by omega) (by omega), en (41 + 3 * k) (by omega) (by omega) (by omega) (by omega) (by omega) (by omega)]
        exact ⟨a0, a1, a2, a3, a4, a5, a6, a7⟩
    · obtain ⟨a0, a1, a2, a3, a4, a5, a6, a7, a8⟩ := hc.2.2 k hk
      by_cases hkn : k = n
      · subst hkn
        unfold cn_nd
        have e22n : m 22 k = (P : Int) + 1 := by rw [e22, if_pos rfl]
        rw [e22n, b20, b21, b25, e40, e40, e40, e40, e40, e40, show ((P : Int) + 1).toNat = P + 1 by omega, hby]
        simp only [Nat.reduceEqDiff, if_false, if_true]
        rw [if_neg hK]
        rw [if_neg hK, hPP, Int.toNat_natCast] at a5
        refine ⟨a0, a1, a2, a3, trivial, by rw [a5], fun j hj => ?_, fun hK1 r s hr2 hs2 => ?_, fun hK0 i hi => ?_⟩
        · rw [e41, e23]
          by_cases hjP : j = P
          · rw [if_pos hjP, if_pos (by omega)]
          · rw [if_neg hjP, if_neg (by omega)]
            exact a6 j (by omega)
        · have hb99 := hb9.2.2 hK1
          have h23 := hSn.2.2.1 (by omega)
          rw [hS] at hs2 h23 ⊢
          rw [Int.toNat_natCast]
          have hS23 : S = 2 ∨ S = 3 := by omega
          generalize mo_by (μ 21) (μ 23) k P * μ 21 p = B at hb99 hr2 e26
          have hrB : r < B.toNat := by omega
          have e1 := e26 (3 * r + s) (by omega)
          rw [show 27 * k + 3 * r + s = 27 * k + (3 * r + s) by omega, e1]
          rcases hS23 with rfl | rfl
          · rw [e42 _ (by omega)]
            by_cases hs0 : s = 0
            · rw [if_pos ⟨⟨hK1, by omega⟩, by omega⟩, if_pos ⟨hK1, by omega, by omega⟩]
            · rw [if_neg (fun q => by have := q.2; omega), if_neg (fun q => by have := q.2.1; omega)]
          · rw [e42 _ (by omega)]
            by_cases hs0 : s = 0
            · rw [if_pos ⟨⟨hK1, by omega⟩, by omega⟩, if_pos ⟨hK1, by omega, by omega⟩]
            · rw [if_neg (fun q => by have := q.2; omega), if_neg (fun q => by have := q.2.1; omega)]
        · rw [e42 i (by omega), e26 i (by omega), if_neg (fun q => by have := q.1.1; omega), if_neg (fun q => by have := q.1; omega)]
      · have hby0 := mo_byb hw k hk
        have hS0 := mo_S3 hw k hk
        have hbk := hbo k hk hkn
        unfold cn_nd
        rw [b20, b21, b25, en (40 + 3 * k) (by omega) (by omega) (by omega) (by omega) (by omega) (by omega), en (41 + 3 * k) (by omega) (by omega) (by omega) (by omega) (by omega) (by omega), en (42 + 3 * k) (by omega) (by omega) (by omega) (by omega) (by omega) (by omega), hbk, e22, if_neg hkn]
        have := (hw.2.2.1 k hk).2.2.2.1
        refine ⟨a0, a1, a2, a3, a4, a5, fun j hj => ?_, fun hK1 r s hr2 hs2 => ?_, fun hK0 i hi => ?_⟩
        · rw [e23, if_neg (by omega)]
          exact a6 j hj
        · have := hby0.2.2 hK1
          rw [show 27 * k + 3 * r + s = 27 * k + (3 * r + s) by omega, e26o k (3 * r + s) hkn (by omega), a7 hK1 r s hr2 hs2, show 27 * k + (3 * r + s) = 27 * k + 3 * r + s by omega]
        · rw [e26o k i hkn (by omega)]
          exact a8 hK0 i hi
  refine ⟨⟨hw', hx', by rw [b18]; exact h13, hc', fun k hk => ?_, fun k h1 h2 => ?_⟩, ?_, iv_rw_cells hr (fun b hb => en b (by omega) (by omega) (by omega) (by omega) (by omega) (by omega)), mo_sc_cells hs (fun b hb => en b (by omega) (by omega) (by omega) (by omega) (by omega) (by omega))⟩
  · rw [b24, ← hsi k hk]
    by_cases hkn : k = n
    · subst hkn; rw [e40]; rfl
    · rw [en (40 + 3 * k) (by omega) (by omega) (by omega) (by omega) (by omega) (by omega)]
  · rw [en (40 + 3 * k) (by omega) (by omega) (by omega) (by omega) (by omega) (by omega)]; exact hfr k h1 h2
  · unfold iv_tl
    rw [b18, en 0 (by omega) (by omega) (by omega) (by omega) (by omega) (by omega), en 17 (by omega) (by omega) (by omega) (by omega) (by omega) (by omega), en 19 (by omega) (by omega) (by omega) (by omega) (by omega) (by omega)]
    exact ht
theorem sc_apm_ne (μ : sc_M) (n P : Nat) (p s : Int) {b : Nat} (h : b < 40) : sc_apm μ n P p s b = μ b := by
  unfold sc_apm
  rw [sc_clr_ne _ _ (by omega), sc_up_ne _ _ _ (by omega), sc_up_ne _ _ _ (by omega), sc_up_ne _ _ _ (by omega)]
theorem pr_parent (l : Launch) (G : sc_G) (d e : Nat) (x p : Int) (hx : sc_in x) (hp : sc_in p) : iv_pr l G (d + 3) (e + 2) mq_Sc_parent mq_Mo_parent [.inl (x), .inl (p)] := fun μ N h => ⟨_, sp_Sc_parent l G d μ N h.1 x p hx hp, fun r1 μ1 h1 => by
  try dsimp only at h1
  have hm : mo_sm μ μ1 := by
    by_cases c1 : (0 ≤ x ∧ x < N) ∧ (0 ≤ p ∧ p < x) ∧ ¬ μ 20 p.toNat = 0 ∧ ¬ sc_any (fun k => μ 23 (3 * x.toNat + k)) p (μ 22 x.toNat).toNat = true
    · rw [if_pos c1] at h1
      by_cases c2 : μ 20 x.toNat = 2
      · rw [if_pos c2] at h1
        obtain ⟨-, rfl⟩ := h1
        exact fun b hb => sc_meet_ne _ _ (by omega) (by omega)
      · rw [if_neg c2] at h1
        by_cases c3 : μ 22 x.toNat = (if μ 20 x.toNat = 0 then 3 else 2)
        · rw [if_pos c3] at h1
          obtain ⟨-, rfl⟩ := h1
          exact fun b _ => rfl
        · rw [if_neg c3] at h1
          obtain ⟨-, rfl⟩ := h1
          exact fun b hb => sc_apm_ne _ _ _ _ _ (by omega)
    · rw [if_neg c1] at h1
      obtain ⟨-, rfl⟩ := h1
      exact fun b _ => rfl
  have hw := mo_sm_w hm h.1.1
  refine ⟨_, sp_Mo_parent l G e μ1 N hw x p hx hp, fun r2 μ2 h2 => ?_⟩
  try dsimp only at h2
  rw [hm 20 (by omega), hm 22 (by omega), hm 23 (by omega)] at h2
  by_cases c1 : (0 ≤ x ∧ x < N) ∧ (0 ≤ p ∧ p < x) ∧ ¬ μ 20 p.toNat = 0 ∧ ¬ sc_any (fun k => μ 23 (3 * x.toNat + k)) p (μ 22 x.toNat).toNat = true
  · rw [if_pos c1] at h1 h2
    by_cases c2 : μ 20 x.toNat = 2
    · rw [if_pos c2] at h1 h2
      obtain ⟨rfl, rfl⟩ := h1
      obtain ⟨rfl, rfl⟩ := h2
      exact ⟨rfl, N, iv_meet h 3 (by omega)⟩
    · rw [if_neg c2] at h1 h2
      by_cases c3 : μ 22 x.toNat = (if μ 20 x.toNat = 0 then 3 else 2)
      · rw [if_pos c3] at h1 h2
        obtain ⟨rfl, rfl⟩ := h1
        obtain ⟨rfl, rfl⟩ := h2
        exact ⟨rfl, N, h⟩
      · rw [if_neg c3] at h1 h2
        obtain ⟨rfl, rfl⟩ := h1
        obtain ⟨rfl, rfl⟩ := h2
        obtain ⟨n, rfl⟩ := Int.eq_ofNat_of_zero_le c1.1.1
        obtain ⟨q, rfl⟩ := Int.eq_ofNat_of_zero_le c1.2.1.1
        rw [Int.toNat_natCast] at c1 c2 c3 ⊢
        rw [Int.toNat_natCast] at c1 ⊢
        have h22 := (h.1.1.2.2.1 n (by omega)).2.2.2.1
        have h20 := (h.1.1.2.2.1 n (by omega)).1
        refine ⟨rfl, N, iv_par h n (by omega) q (by omega) c1.2.2.1 c2 (μ 22 n).toNat (by omega) ?_ (fun k hk he => c1.2.2.2 (sc_any_true hk he))⟩
        by_cases hz : μ 20 n = 0
        · rw [if_pos hz] at c3 ⊢; omega
        · rw [if_neg hz] at c3 ⊢; have := h22.2.2.1 (by omega); omega
  · rw [if_neg c1] at h1 h2
    obtain ⟨rfl, rfl⟩ := h1
    obtain ⟨rfl, rfl⟩ := h2
    exact ⟨rfl, N, h⟩⟩
