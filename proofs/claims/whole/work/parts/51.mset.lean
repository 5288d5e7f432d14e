theorem mo_am_cg (g g' : Nat → Int) : ∀ n, (∀ i, i < n → g i = g' i) → mo_am g n = mo_am g' n
  | 0, _ => rfl
  | 1, _ => by simp [mo_am]
  | n + 2, h => by
    have ih := mo_am_cg g g' (n + 1) (fun i hi => h i (by omega))
    have h1 := mo_am_lt g' (n + 1) (by omega)
    show (if g (mo_am g (n + 1)) < g (n + 1) then n + 1 else mo_am g (n + 1)) = (if g' (mo_am g' (n + 1)) < g' (n + 1) then n + 1 else mo_am g' (n + 1))
    rw [ih, h (n + 1) (by omega), h (mo_am g' (n + 1)) (by omega)]
theorem md_p3 {M m0 : sc_M} {N c : Nat} {P : Nat → Nat → Int} (hs : mo_sm M m0) (hw : mo_w M N) (hc : c < N) (hK : ¬ M 20 c = 0) (h31 : m0 31 c = md_kn M c) (hp : mo_has M m0 N (md_kn M) P (fun k => c < k)) (h29 : ∀ i, m0 29 i = 0) (h30 : ∀ i, m0 30 i = 0) :
    ∀ w, (∀ key s, key < 243 → s < 3 → mo_p3 m0 N c w 29 (3 * key + s) = sc_sum (md_tm M N P c key s) w) ∧ (∀ key : Nat, key < 243 → mo_p3 m0 N c w 30 key = sc_if (∃ v, v < w ∧ md_nb M N (md_kn M c) v = key ∧ 0 < md_wt M N v ∧ md_fo M c v) 1 0) ∧ (∀ i, 243 ≤ i → mo_p3 m0 N c w 30 i = 0) := by
  intro w
  induction w with
  | zero =>
    refine ⟨fun key s _ _ => h29 _, fun key _ => ?_, fun i _ => h30 i⟩
    rw [sc_if_neg]
    · exact h30 _
    · rintro ⟨v, hv, -⟩
      omega
  | succ w ih =>
    obtain ⟨ih1, ih2, ih3⟩ := ih
    have e : ∀ b, b ≠ 30 → b ≠ 29 → b ≠ 27 → mo_p3 m0 N c w b = m0 b := fun b h1 h2 h3 => mo_p3_ne m0 N c h1 h2 h3 w
    have e1 : ∀ b, b ≠ 27 → mo_m1 N (mo_p3 m0 N c w) w b = mo_p3 m0 N c w b := fun b hb => sc_arr_ne _ _ hb
    have hs1 : mo_sm M (mo_m1 N (mo_p3 m0 N c w) w) := fun b hb => by rw [e1 b (by omega), e b (by omega) (by omega) (by omega), hs b hb]
    have h27 : ∀ k, k < N → mo_m1 N (mo_p3 m0 N c w) w 27 k = md_dg M w k := fun k hk => by
      unfold mo_m1
      rw [sc_arr_eq, mo_now_dg _ _ _ _ _ k hk, e 20 (by decide) (by decide) (by decide), e 21 (by decide) (by decide) (by decide), hs 20 (by omega), hs 21 (by omega)]
      rfl
    have hp1 : mo_has M (mo_m1 N (mo_p3 m0 N c w) w) N (md_kn M) P (fun k => c < k) := fun k hk hq hi => by
      rw [e1 31 (by decide), e 31 (by decide) (by decide) (by decide), e1 28 (by decide), e 28 (by decide) (by decide) (by decide)]
      exact hp k hk hq hi
    have h31' : mo_m1 N (mo_p3 m0 N c w) w 31 c = md_kn M c := by rw [e1 31 (by decide), e 31 (by decide) (by decide) (by decide), h31]
    have e29 := e1 29 (by decide)
    have e30 := e1 30 (by decide)
    rw [mo_p3]
    generalize mo_p3 m0 N c w = m at ih1 ih2 ih3 e29 e30 hs1 h27 hp1 h31' ⊢
    generalize mo_m1 N m w = m1 at e29 e30 hs1 h27 hp1 h31' ⊢
    obtain ⟨a1, a2, a3⟩ := mo_w_at hs1 hw w h27
    have hbh := mo_bh_at hs1 hw w h27 hp1 hc
    have hfo : mo_fo (m1 25) (m1 27) c = true ↔ md_fo M c w := by
      rw [mo_fo_iff, hs1 25 (by omega)]
      unfold md_fo
      constructor
      · intro h k hk
        have := h k hk
        rw [h27 k (by omega)] at this
        exact this
      · intro h k hk
        rw [h27 k (by omega)]
        exact h k hk
    have hkey : mo_key N c m1 = md_nb M N (md_kn M c) w := by
      unfold mo_key
      rw [a1, h31']
    have hk := md_nb_lt hw (md_kn M c) w
    have hsd := hw.2.2.2.1
    have hd := md_dg_ok hw w c hc hK
    have hd2 := (hw.2.2.1 c hc).2.2.1 hK
    have hc27 := h27 c hc
    unfold mo_m3 mo_m2
    rw [hkey, show mo_wgt N m1 = md_wt M N w from a2, show mo_wor N m1 = md_on M N w from a3, hc27]
    have hmd : ∀ key s, md_tm M N P c key s w = sc_if (md_nb M N (md_kn M c) w = key ∧ md_dg M w c = s ∧ md_bh M N (md_kn M) P c w) (md_wt M N w * md_on M N w) 0 := fun _ _ => rfl
    generalize mo_bh (m1 20) (m1 21) (m1 27) (m1 25) (m1 31) (m1 28) (m1 18 13) N c (N - (c + 1)) = B at hbh ⊢
    refine ⟨fun key s hkey1 hs3 => ?_, fun key hkey1 => ?_, fun i hi => ?_⟩
    · rw [sc_up_eq]
      simp only []
      rw [sc_sum, ← ih1 key s hkey1 hs3, hmd, e29]
      by_cases hb : md_nb M N (md_kn M c) w = key ∧ md_dg M w c = s
      · have hi1 : 3 * key + s = 3 * (md_nb M N (md_kn M c) w).toNat + (md_dg M w c).toNat := by omega
        rw [if_pos hi1, ← hi1]
        congr 1
        cases hB : B
        · rw [sc_if_neg]
          · rfl
          · rintro ⟨-, -, h⟩
            rw [hbh.mpr h] at hB
            exact absurd hB (by decide)
        · rw [sc_if_pos]
          · rfl
          · exact ⟨hb.1, hb.2, hbh.mp hB⟩
      · rw [if_neg (by omega), sc_if_neg _ _ (fun h => hb ⟨h.1, h.2.1⟩), sc_up_ne _ _ _ (by decide), e29]
        omega
    · rw [sc_up_ne _ _ _ (by decide), sc_up_eq]
      simp only []
      rw [e30]
      have hi2 := ih2 key hkey1
      by_cases hb : key = (md_nb M N (md_kn M c) w).toNat
      · rw [if_pos hb, ← hb, hi2]
        by_cases hq : ∃ v, v < w ∧ md_nb M N (md_kn M c) v = key ∧ 0 < md_wt M N v ∧ md_fo M c v
        · rw [sc_if_pos _ _ hq, if_pos (Or.inl rfl), sc_if_pos]
          obtain ⟨v, h1, h2⟩ := hq
          exact ⟨v, by omega, h2⟩
        · rw [sc_if_neg _ _ hq]
          by_cases hz : 0 < md_wt M N w ∧ mo_fo (m1 25) (m1 27) c = true
          · rw [if_pos (Or.inr hz), sc_if_pos]
            exact ⟨w, by omega, by omega, hz.1, hfo.mp hz.2⟩
          · rw [if_neg (by rintro (h | h); exact absurd h (by decide); exact hz h), sc_if_neg]
            rintro ⟨v, h1, h2, h3, h4⟩
            rcases Nat.lt_or_ge v w with h | h
            · exact hq ⟨v, h, h2, h3, h4⟩
            · rw [show v = w by omega] at h3 h4
              exact hz ⟨h3, hfo.mpr h4⟩
      · rw [if_neg hb, hi2]
        refine sc_if_iff _ _ ⟨?_, ?_⟩
        · rintro ⟨v, h1, h2⟩
          exact ⟨v, by omega, h2⟩
        · rintro ⟨v, h1, h2, h3⟩
          rcases Nat.lt_or_ge v w with h | h
          · exact ⟨v, h, h2, h3⟩
          · rw [show v = w by omega] at h2
            omega
    · rw [sc_up_ne _ _ _ (by decide), sc_up_eq]
      simp only []
      rw [if_neg (by omega), e30]
      exact ih3 i hi
/-- what the reference's own scratch is like -/
def mo_sc (μ : sc_M) : Prop := (∀ i, sc_in (μ 28 i)) ∧ (∀ i, 243 ≤ i → μ 30 i = 0) ∧ (∀ i, 729 ≤ i → μ 29 i = 0)
theorem mo_pa_at {M μ : sc_M} {N c W St : Nat} {P : Nat → Nat → Int} (hs : mo_sm M μ) (hw : mo_w M N) (hc : c < N) (hK : ¬ M 20 c = 0) (h31 : μ 31 c = md_kn M c) (hp : mo_has M μ N (md_kn M) P (fun k => c < k)) (hsc : mo_sc μ) (hSt : M 21 c = St) :
    (∀ b, b ≠ 27 → b ≠ 28 → b ≠ 29 → b ≠ 30 → mo_pa μ N c W St b = μ b) ∧ (∀ key, key < 243 → mo_pa μ N c W St 28 (243 * c + key) = md_st M N P W c key) ∧ (∀ i, ¬ (243 * c ≤ i ∧ i < 243 * c + 243) → mo_pa μ N c W St 28 i = μ 28 i) ∧ mo_sc (mo_pa μ N c W St) := by
  obtain ⟨s28, s30, s29⟩ := hsc
  have e1 : ∀ b, b ≠ 29 → sc_fil μ 29 0 729 b = μ b := fun b hb => sc_fil_ne μ 0 729 hb
  have e2 : ∀ b, b ≠ 28 → b ≠ 30 → b ≠ 29 → mo_p2 (sc_fil μ 29 0 729) c 243 b = μ b := fun b h1 h2 h3 => by rw [mo_p2_ne _ _ _ h1 h2, e1 b h3]
  have p28 : ∀ i, mo_p2 (sc_fil μ 29 0 729) c 243 28 i = if 243 * c ≤ i ∧ i < 243 * c + 243 then 0 else μ 28 i := fun i => by
    unfold mo_p2
    rw [sc_arr_eq, e1 28 (by decide)]
  have p30 : ∀ i, mo_p2 (sc_fil μ 29 0 729) c 243 30 i = 0 := fun i => by
    unfold mo_p2
    rw [sc_arr_ne _ _ (by decide)]
    by_cases hi : i < 243
    · simp [sc_fil, hi]
    · simp [sc_fil, hi]; exact s30 i (by omega)
  have p29 : ∀ i, mo_p2 (sc_fil μ 29 0 729) c 243 29 i = 0 := fun i => by
    rw [mo_p2_ne _ _ _ (by decide) (by decide)]
    by_cases hi : i < 729
    · simp [sc_fil, hi]
    · simp [sc_fil, hi]; exact s29 i (by omega)
  have hs0 : mo_sm M (mo_p2 (sc_fil μ 29 0 729) c 243) := fun b hb => by rw [e2 b (by omega) (by omega) (by omega), hs b hb]
  have hp0 : mo_has M (mo_p2 (sc_fil μ 29 0 729) c 243) N (md_kn M) P (fun k => c < k) := fun k hk hq hi => by
    have h1 := hp k hk hq hi
    rw [e2 31 (by decide) (by decide) (by decide)]
    refine ⟨h1.1, fun key hkey => ?_⟩
    rw [p28, if_neg (by omega)]
    exact h1.2 key hkey
  have h31' : mo_p2 (sc_fil μ 29 0 729) c 243 31 c = md_kn M c := by rw [e2 31 (by decide) (by decide) (by decide), h31]
  have h3 := md_p3 hs0 hw hc hK h31' hp0 p29 p30 W
  have hw2 : mo_w (mo_p2 (sc_fil μ 29 0 729) c 243) N := mo_sm_w hs0 hw
  have h29b := mo_p3_29 _ N c hw2 hc (by rw [hs0 20 (by omega)]; exact hK) (fun i _ => p29 i) W
  have e3 : ∀ b, b ≠ 30 → b ≠ 29 → b ≠ 27 → mo_p3 (mo_p2 (sc_fil μ 29 0 729) c 243) N c W b = mo_p2 (sc_fil μ 29 0 729) c 243 b := fun b h1 h2 h3 => mo_p3_ne _ N c h1 h2 h3 W
  have e328 := e3 28 (by decide) (by decide) (by decide)
  have hS2 := (hw.2.2.1 c hc).2.2.1 hK
  have hbe : ∀ key, key < 243 → mo_be (mo_p3 (mo_p2 (sc_fil μ 29 0 729) c 243) N c W) St key = md_st M N P W c key := fun key hkey => by
    unfold mo_be md_st md_cb
    rw [h3.2.1 key hkey, hSt, Int.toNat_natCast]
    by_cases hq : ∃ v, v < W ∧ md_nb M N (md_kn M c) v = key ∧ 0 < md_wt M N v ∧ md_fo M c v
    · rw [sc_if_pos _ _ hq, if_pos rfl, sc_if_pos _ _ hq]
      congr 1
      exact mo_am_cg _ _ St (fun i hi => h3.1 key i hkey (by omega))
    · rw [sc_if_neg _ _ hq, if_neg (by decide), sc_if_neg _ _ hq]
  have p4 : ∀ i, mo_pa μ N c W St 28 i = if 243 * c ≤ i ∧ i < 243 * c + 243 then md_st M N P W c (i - 243 * c) else μ 28 i := fun i => by
    unfold mo_pa mo_p4
    rw [sc_arr_eq]
    by_cases hi : 243 * c ≤ i ∧ i < 243 * c + 243
    · rw [if_pos hi, if_pos hi, hbe _ (by omega)]
    · rw [if_neg hi, if_neg hi, e328, p28, if_neg hi]
  refine ⟨fun b h1 h2 h3 h4 => ?_, fun key hkey => ?_, fun i hi => ?_, fun i => ?_, fun i hi => ?_, fun i hi => ?_⟩
  · unfold mo_pa
    rw [mo_p4_ne _ _ _ _ h2, e3 b h4 h3 h1, e2 b h2 h4 h3]
  · rw [p4, if_pos (by omega), show 243 * c + key - 243 * c = key by omega]
  · rw [p4, if_neg hi]
  · rw [p4]
    split
    · unfold md_st
      by_cases hq : md_cb M N W c (i - 243 * c)
      · rw [sc_if_pos _ _ hq]
        have := mo_am_lt (md_sm M N P W c (i - 243 * c)) (M 21 c).toNat (by omega)
        exact ⟨by omega, by omega⟩
      · rw [sc_if_neg _ _ hq]
        exact sc_zero
    · exact s28 i
  · unfold mo_pa
    rw [mo_p4_ne _ _ _ _ (by decide)]
    exact h3.2.2 i hi
  · unfold mo_pa
    rw [mo_p4_ne _ _ _ _ (by decide), (h29b i).2 hi]
    exact p29 i
