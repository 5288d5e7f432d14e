/-! THE CLASS: its nodes hold chart M -/
def cn_nd (M μ : sc_M) (n : Nat) : Prop := μ (40 + 3 * n) 0 = M 20 n ∧ μ (40 + 3 * n) 1 = M 21 n ∧ μ (40 + 3 * n) 2 = mo_sd (M 20) (M 21) n ∧ μ (40 + 3 * n) 3 = M 25 n ∧ μ (40 + 3 * n) 5 = M 22 n ∧ μ (40 + 3 * n) 6 = (if M 20 n = 2 then 0 else mo_by (M 21) (M 23) n (M 22 n).toNat) ∧ (∀ k, k < (M 22 n).toNat → μ (41 + 3 * n) k = M 23 (3 * n + k)) ∧ (M 20 n = 1 → ∀ r s : Nat, (r : Int) < mo_by (M 21) (M 23) n (M 22 n).toNat → (s : Int) < M 21 n → μ (42 + 3 * n) (r * (M 21 n).toNat + s) = M 26 (27 * n + 3 * r + s)) ∧ (M 20 n = 0 → ∀ i : Nat, (i : Int) < mo_by (M 21) (M 23) n (M 22 n).toNat → μ (42 + 3 * n) i = M 26 (27 * n + i))
def cn_ok (M μ : sc_M) (N : Nat) : Prop := sc_nw μ N ∧ μ 2 2 = mo_sd (M 20) (M 21) N ∧ ∀ n, n < N → cn_nd M μ n
theorem sc_nw_cells {μ μ' : sc_M} {N : Nat} (h : sc_nw μ N) (e : ∀ b, b = 2 ∨ 40 ≤ b → μ' b = μ b) : sc_nw μ' N := by
  refine ⟨h.1, by rw [e 2 (by omega)]; exact h.2.1, fun n hn => ?_⟩
  have := h.2.2 n hn
  unfold sc_nd at *
  rw [e (40 + 3 * n) (by omega), e (41 + 3 * n) (by omega)]
  exact this
theorem cn_ok_cells {M μ μ' : sc_M} {N : Nat} (h : cn_ok M μ N) (e : ∀ b, b = 2 ∨ 40 ≤ b → μ' b = μ b) : cn_ok M μ' N := by
  refine ⟨sc_nw_cells h.1 e, by rw [e 2 (by omega)]; exact h.2.1, fun n hn => ?_⟩
  have := h.2.2 n hn
  unfold cn_nd at *
  rw [e (40 + 3 * n) (by omega), e (41 + 3 * n) (by omega), e (42 + 3 * n) (by omega)]
  exact this
/-- how far apart, as a number without sign -/
def na_sd (M : sc_M) (k : Nat) : Nat := (mo_sd (M 20) (M 21) k).toNat
theorem na_sd_eq {M : sc_M} {N : Nat} (hw : mo_w M N) (k : Nat) (hk : k ≤ N) : mo_sd (M 20) (M 21) k = (na_sd M k : Int) ∧ 0 < na_sd M k := by
  have := mo_sd_pos (M 20) (M 21) N (fun k hk => (hw.2.2.1 k hk).2.2.1) k hk
  unfold na_sd
  omega
theorem na_sd_w {M : sc_M} {N : Nat} (hw : mo_w M N) {k : Nat} (hk : k < N) (hK : M 20 k = 0) : na_sd M (k + 1) = na_sd M k := by
  unfold na_sd
  rw [mo_sd, mo_m, if_pos hK, Int.mul_one]
theorem na_sd_s {M : sc_M} {N : Nat} (hw : mo_w M N) {k : Nat} (hk : k < N) (hK : ¬ M 20 k = 0) : na_sd M (k + 1) = na_sd M k * (M 21 k).toNat := by
  have h1 := na_sd_eq hw k (by omega)
  have h2 := (hw.2.2.1 k hk).2.2.1 hK
  have e : mo_sd (M 20) (M 21) (k + 1) = ((na_sd M k * (M 21 k).toNat : Nat) : Int) := by
    rw [mo_sd, mo_m, if_neg hK, h1.1, Int.natCast_mul, show (((M 21 k).toNat : Nat) : Int) = M 21 k by omega]
  unfold na_sd
  rw [e, Int.toNat_natCast]
  rfl
theorem na_sd_mono {M : sc_M} {N : Nat} (hw : mo_w M N) : ∀ j k, k + j ≤ N → na_sd M k ≤ na_sd M (k + j)
  | 0, _, _ => Nat.le_refl _
  | j + 1, k, h => by
    have ih := na_sd_mono hw j k (by omega)
    rw [← Nat.add_assoc]
    by_cases hK : M 20 (k + j) = 0
    · rw [na_sd_w hw (by omega) hK]; exact ih
    · rw [na_sd_s hw (by omega) hK]
      have := (hw.2.2.1 (k + j) (by omega)).2.2.1 hK
      exact Nat.le_trans ih (Nat.le_mul_of_pos_right _ (by omega))
theorem md_rs_nat {M : sc_M} {N : Nat} (hw : mo_w M N) (w : Nat) : ∀ k, k ≤ N → mo_rs (M 20) (M 21) (w : Int) k = ((w / na_sd M k : Nat) : Int)
  | 0, _ => by
    show (w : Int) = ((w / (mo_sd (M 20) (M 21) 0).toNat : Nat) : Int)
    rw [mo_sd]
    simp
  | k + 1, hk => by
    have ih := md_rs_nat hw w k (by omega)
    rw [mo_rs, ih]
    by_cases hK : M 20 k = 0
    · rw [if_pos hK, na_sd_w hw (by omega) hK]
    · have h2 := (hw.2.2.1 k (by omega)).2.2.1 hK
      rw [if_neg hK, na_sd_s hw (by omega) hK, ← Nat.div_div_eq_div_mul]
      obtain ⟨s, hs⟩ := Int.eq_ofNat_of_zero_le (show 0 ≤ M 21 k by omega)
      rw [hs, Int.toNat_natCast]
      rfl
theorem md_dg_nat {M : sc_M} {N : Nat} (hw : mo_w M N) (w k : Nat) (hk : k < N) (hK : ¬ M 20 k = 0) : md_dg M w k = ((w / na_sd M k % (M 21 k).toNat : Nat) : Int) := by
  have h2 := (hw.2.2.1 k hk).2.2.1 hK
  unfold md_dg mo_dg
  rw [if_neg hK, md_rs_nat hw w k (by omega)]
  obtain ⟨s, hs⟩ := Int.eq_ofNat_of_zero_le (show 0 ≤ M 21 k by omega)
  rw [hs, Int.toNat_natCast]
  rfl
theorem md_dg_w {M : sc_M} (w k : Nat) (hK : M 20 k = 0) : md_dg M w k = 0 := by
  unfold md_dg mo_dg
  rw [if_pos hK]
theorem cn_sti {M μ : sc_M} {N : Nat} (hw : mo_w M N) (hc : cn_ok M μ N) (w p : Nat) (hp : p < N) : sc_sti μ p (w : Int) = md_dg M w p := by
  obtain ⟨c0, c1, c2, -⟩ := hc.2.2 p hp
  unfold sc_sti
  rw [c1, c2]
  have hs := na_sd_eq hw p (by omega)
  by_cases hK : M 20 p = 0
  · rw [md_dg_w w p hK, (hw.2.2.1 p hp).2.1 hK, if_neg (by omega)]
  · have h2 := (hw.2.2.1 p hp).2.2.1 hK
    rw [if_pos (by omega), md_dg_nat hw w p hp hK, hs.1]
    obtain ⟨s, hs⟩ := Int.eq_ofNat_of_zero_le (show 0 ≤ M 21 p by omega)
    rw [hs, Int.toNat_natCast]
    rfl
theorem cn_tm {M μ : sc_M} {N : Nat} (hw : mo_w M N) (hc : cn_ok M μ N) (n : Nat) (hn : n < N) : ∀ k, k ≤ (M 22 n).toNat → sc_tm μ n k = mo_by (M 21) (M 23) n k
  | 0, _ => rfl
  | k + 1, hk => by
    have ih := cn_tm hw hc n hn k (by omega)
    have hp := (hw.2.2.1 n hn).2.2.2.2.1 k (by omega)
    rw [sc_tm, mo_by, ih, (hc.2.2 n hn).2.2.2.2.2.2.1 k (by omega), (hc.2.2 (M 23 (3 * n + k)).toNat (by omega)).2.1]
theorem cn_pl {M μ : sc_M} {N : Nat} (hw : mo_w M N) (hc : cn_ok M μ N) (w n : Nat) (hn : n < N) : ∀ k, k ≤ (M 22 n).toNat → sc_pl μ n (w : Int) k = mo_rw (M 21) (M 23) (md_dg M w) n k
  | 0, _ => rfl
  | k + 1, hk => by
    have ih := cn_pl hw hc w n hn k (by omega)
    have hp := (hw.2.2.1 n hn).2.2.2.2.1 k (by omega)
    rw [sc_pl, mo_rw, ih, cn_tm hw hc n hn k (by omega), (hc.2.2 n hn).2.2.2.2.2.2.1 k (by omega), cn_sti hw hc w (M 23 (3 * n + k)).toNat (by omega)]
/-- the row of a node in a world -/
def md_ro (M : sc_M) (n w : Nat) : Int := mo_rw (M 21) (M 23) (md_dg M w) n (M 22 n).toNat
theorem md_ro_lt {M : sc_M} {N : Nat} (hw : mo_w M N) (n w : Nat) (hn : n < N) : 0 ≤ md_ro M n w ∧ md_ro M n w < mo_by (M 21) (M 23) n (M 22 n).toNat := by
  have e : ∀ b, b ≠ 27 → sc_arr M 27 (md_dg M w) b = M b := fun b hb => sc_arr_ne _ _ hb
  have h := mo_rows (sc_arr M 27 (md_dg M w)) N (mo_w_now (md_dg M w) hw).2.2.1 (by rw [sc_arr_eq, e 20 (by decide), e 21 (by decide)]; exact md_dg_ok hw w) n hn
  rw [sc_arr_eq, e 20 (by decide), e 21 (by decide), e 22 (by decide), e 23 (by decide)] at h
  exact ⟨h.1, h.2.1⟩
set_option maxRecDepth 100000 in
set_option maxHeartbeats 4000000 in
theorem sp_Ch_placeIn1 (l : Launch) (G : sc_G) (d : Nat) (μ : sc_M) (M : sc_M) (N : Nat) (hw : mo_w M N) (hc : cn_ok M μ N) (n : Nat) (hn : n < N) (w : Nat) (hwb : w < 243) : sc_Sp l G (d + 1) mq_Ch_placeIn [.inr (.inr (.inl (2))), .inr (.inr (.inl (40 + 3 * n))), .inl ((w : Int))] μ (sc_pu (.inl (md_ro M n w)) μ) := by
  have hN1 := hw.1
  have h := sp_Ch_placeIn l G d μ N hc.1 n (by omega) (w : Int) (by omega) ⟨by omega, by omega⟩
  rw [(hc.2.2 n hn).2.2.2.2.1, cn_pl hw hc w n hn _ (Nat.le_refl _)] at h
  exact h
set_option maxRecDepth 100000 in
set_option maxHeartbeats 4000000 in
theorem sp_No_stateIn1 (l : Launch) (G : sc_G) (d : Nat) (μ : sc_M) (M : sc_M) (N : Nat) (hw : mo_w M N) (hc : cn_ok M μ N) (n : Nat) (hn : n < N) (w : Nat) (hwb : w < 243) : sc_Sp l G d mq_No_stateIn [.inr (.inr (.inl (40 + 3 * n))), .inl ((w : Int))] μ (sc_pu (.inl (md_dg M w n)) μ) := by
  have hN1 := hw.1
  have h1 := hc.1.2.2 n (by omega)
  have h := sp_No_stateIn l G d μ n (by omega) (w : Int) ⟨by omega, by omega⟩ h1.2.1 h1.2.2.1 (by omega)
  have e := cn_sti hw hc w n hn
  unfold sc_sti at e
  rw [e] at h
  exact h
/-- a world with one node more: the old digits stay, the new one is s -/
theorem md_dg_add {M : sc_M} {N : Nat} (hw : mo_w M N) (n : Nat) (hn : n < N) (hK : ¬ M 20 n = 0) (w s : Nat) (hwl : w < na_sd M n) (hs : (s : Int) < M 21 n) : (∀ k, k < n → md_dg M (s * na_sd M n + w) k = md_dg M w k) ∧ md_dg M (s * na_sd M n + w) n = s := by
  have h2 := (hw.2.2.1 n hn).2.2.1 hK
  have hp := (na_sd_eq hw n (by omega)).2
  refine ⟨fun k hk => ?_, ?_⟩
  · by_cases hKk : M 20 k = 0
    · rw [md_dg_w _ _ hKk, md_dg_w _ _ hKk]
    · rw [md_dg_nat hw _ k (by omega) hKk, md_dg_nat hw _ k (by omega) hKk]
      have hpk := (na_sd_eq hw k (by omega)).2
      have h3 := (hw.2.2.1 k (by omega)).2.2.1 hKk
      have hd : na_sd M k * (M 21 k).toNat ∣ na_sd M n := by
        rw [← na_sd_s hw (by omega) hKk]
        have : ∀ j, k + 1 + j ≤ N → na_sd M (k + 1) ∣ na_sd M (k + 1 + j) := by
          intro j
          induction j with
          | zero => intro _; exact Nat.dvd_refl _
          | succ j ih =>
            intro hj
            have ih := ih (by omega)
            rw [← Nat.add_assoc]
            by_cases hz : M 20 (k + 1 + j) = 0
            · rw [na_sd_w hw (by omega) hz]; exact ih
            · rw [na_sd_s hw (by omega) hz]; exact Nat.dvd_trans ih (Nat.dvd_mul_right _ _)
        have := this (n - (k + 1)) (by omega)
        rw [show k + 1 + (n - (k + 1)) = n by omega] at this
        exact this
      obtain ⟨q, hq⟩ := hd
      have e : (s * na_sd M n + w) / na_sd M k = s * ((M 21 k).toNat * q) + w / na_sd M k := by
        rw [hq, show s * (na_sd M k * (M 21 k).toNat * q) = na_sd M k * (s * ((M 21 k).toNat * q)) by rw [Nat.mul_assoc, Nat.mul_left_comm], Nat.mul_add_div hpk]
      rw [e, show s * ((M 21 k).toNat * q) = (M 21 k).toNat * (s * q) by rw [Nat.mul_left_comm], Nat.mul_add_mod]
  · rw [md_dg_nat hw _ n hn hK, Nat.mul_comm, Nat.mul_add_div hp, Nat.div_eq_of_lt hwl, Nat.add_zero, Nat.mod_eq_of_lt (by omega)]
