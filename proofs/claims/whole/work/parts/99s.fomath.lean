/-! FORGETTING PLANS: the class's slots are the reference's -/
theorem md_dg_hi {M : sc_M} {N : Nat} (hw : mo_w M N) (n x : Nat) (hx : x < na_sd M n) (k : Nat) (h1 : n ≤ k) (h2 : k < N) : md_dg M x k = 0 := by
  by_cases hK : M 20 k = 0
  · exact md_dg_w x k hK
  · have h3 := na_sd_mono hw (k - n) n (by omega)
    rw [show n + (k - n) = k by omega] at h3
    rw [md_dg_nat hw x k h2 hK, Nat.div_eq_of_lt (by omega), Nat.zero_mod]
    rfl
theorem md_nb_hi {M : sc_M} {N : Nat} (hw : mo_w M N) (V : Int) (n x : Nat) (hx : x < na_sd M n) : ∀ j, n + j ≤ N → mo_nb (M 20) (M 21) (md_dg M x) V (n + j) = mo_nb (M 20) (M 21) (md_dg M x) V n
  | 0, _ => rfl
  | j + 1, hj => by
    rw [← Nat.add_assoc, mo_nb, md_nb_hi hw V n x hx j (by omega), md_dg_hi hw n x hx (n + j) (by omega) (by omega), Int.mul_zero]
    simp
theorem md_nb_sN {M : sc_M} {N : Nat} (hw : mo_w M N) (V : Int) (n x : Nat) (hn : n ≤ N) (hx : x < na_sd M n) : md_nb M N V x = mo_nb (M 20) (M 21) (md_dg M x) V n := by
  have h := md_nb_hi hw V n x hx (N - n) (by omega)
  rw [show n + (N - n) = N by omega] at h
  exact h
theorem md_nb_at {M : sc_M} {N : Nat} (hw : mo_w M N) (V : Int) (w n : Nat) (hn : n ≤ N) : 0 ≤ mo_nb (M 20) (M 21) (md_dg M w) V n ∧ mo_nb (M 20) (M 21) (md_dg M w) V n < (na_sd M n : Int) := by
  have h := mo_nb_lt (M 20) (M 21) (md_dg M w) V N (fun k hk => (hw.2.2.1 k hk).2.2.1) (md_dg_ok hw w) n hn
  rw [(na_sd_eq hw n hn).1] at h
  exact h
theorem na_sd_add {M : sc_M} {N : Nat} (hw : mo_w M N) (m : Nat) (hm : m < N) (hK : ¬ M 20 m = 0) (s v : Nat) (hs : (s : Int) < M 21 m) (hv : v < na_sd M m) : s * na_sd M m + v < na_sd M (m + 1) := by
  rw [na_sd_s hw hm hK]
  have h1 : (s + 1) * na_sd M m ≤ na_sd M m * (M 21 m).toNat := by
    rw [Nat.mul_comm]
    exact Nat.mul_le_mul_left _ (by omega)
  rw [Nat.add_mul, Nat.one_mul] at h1
  omega
theorem md_fix {M : sc_M} {N : Nat} (hw : mo_w M N) (V : Int) (m : Nat) (hm : m < N) (hK : ¬ M 20 m = 0) (s v : Nat) (hs : (s : Int) < M 21 m) (hv : v < na_sd M m) : md_nb M N V (s * na_sd M m + v) = ((s * na_sd M m + v : Nat) : Int) ↔ (mo_bt V m = 1 ∨ s = 0) ∧ md_nb M N V v = (v : Int) := by
  have hlt := na_sd_add hw m hm hK s v hs hv
  obtain ⟨d1, d2⟩ := md_dg_add hw m hm hK v s hv hs
  rw [md_nb_sN hw V (m + 1) _ (by omega) hlt, md_nb_sN hw V m v (by omega) hv, mo_nb, if_neg hK, d2, mo_nb_cg _ _ _ _ _ m d1, (na_sd_eq hw m (by omega)).1]
  have hb := md_nb_at hw V v m (by omega)
  generalize mo_nb (M 20) (M 21) (md_dg M v) V m = q at hb ⊢
  have e1 : ((s * na_sd M m + v : Nat) : Int) = (na_sd M m : Int) * (s : Int) + (v : Int) := by
    rw [Nat.mul_comm]
    rfl
  rw [e1]
  by_cases hb1 : mo_bt V m = 1
  · rw [if_pos hb1]
    generalize (na_sd M m : Int) * (s : Int) = P
    constructor
    · exact fun h => ⟨Or.inl hb1, by omega⟩
    · exact fun h => by have := h.2; omega
  · rw [if_neg hb1]
    constructor
    · intro h
      have hs0 : s = 0 := by
        rcases Nat.eq_zero_or_pos s with h0 | h0
        · exact h0
        · have h5 : na_sd M m * 1 ≤ na_sd M m * s := Nat.mul_le_mul_left _ h0
          have h6 : ((na_sd M m * s : Nat) : Int) = (na_sd M m : Int) * (s : Int) := rfl
          omega
      subst hs0
      refine ⟨Or.inr rfl, ?_⟩
      rw [show ((0 : Nat) : Int) = 0 from rfl, Int.mul_zero] at h
      omega
    · rintro ⟨h1, h2⟩
      rcases h1 with h1 | h1
      · exact absurd h1 hb1
      · subst h1
        rw [show ((0 : Nat) : Int) = 0 from rfl, Int.mul_zero]
        omega
theorem cl_mn_add (q q' : Nat → Prop) (a : Nat) : ∀ x, (∀ v, v < x → (q (a + v) ↔ q' v)) → cl_mn q (a + x) = cl_mn q a + cl_mn q' x
  | 0, _ => rfl
  | x + 1, h => by
    have ih := cl_mn_add q q' a x (fun v hv => h v (by omega))
    rw [← Nat.add_assoc]
    by_cases hq : q' x
    · rw [cl_mn_pos q _ ((h x (by omega)).mpr hq), cl_mn_pos q' _ hq, ih]; omega
    · rw [cl_mn_neg q _ (fun k => hq ((h x (by omega)).mp k)), cl_mn_neg q' _ hq, ih]
theorem cl_mn_none (q : Nat → Prop) (a : Nat) : ∀ x, (∀ v, v < x → ¬ q (a + v)) → cl_mn q (a + x) = cl_mn q a
  | 0, _ => rfl
  | x + 1, h => by
    rw [← Nat.add_assoc, cl_mn_neg q _ (h x (by omega)), cl_mn_none q a x (fun v hv => h v (by omega))]
theorem cl_mn_mul (q : Nat → Prop) (Z S : Nat) (h : ∀ s v, s < S → v < Z → (q (s * Z + v) ↔ q v)) : ∀ s, s ≤ S → cl_mn q (s * Z) = s * cl_mn q Z
  | 0, _ => by rw [Nat.zero_mul, Nat.zero_mul]; rfl
  | s + 1, hs => by rw [Nat.add_mul, Nat.one_mul, cl_mn_add q q (s * Z) Z (fun v hv => h s v (by omega) hv), cl_mn_mul q Z S h s (by omega), Nat.add_mul, Nat.one_mul]
/-- in which way the seen ones are -/
noncomputable def fo_wy (V : Int) (S f : Nat → Int) : Nat → Int
  | 0 => 0
  | p + 1 => fo_wy V S f p + (if mo_bt V p = 1 then fo_rw V S p * f p else 0)
theorem fo_wy_cg (V : Int) (S f g : Nat → Int) : ∀ n, (∀ k, k < n → mo_bt V k = 1 → f k = g k) → fo_wy V S f n = fo_wy V S g n
  | 0, _ => rfl
  | n + 1, h => by
    rw [fo_wy, fo_wy, fo_wy_cg V S f g n (fun k hk hb => h k (by omega) hb)]
    by_cases hb : mo_bt V n = 1
    · rw [if_pos hb, if_pos hb, h n (by omega) hb]
    · rw [if_neg hb, if_neg hb]
theorem fo_wy_lt {M : sc_M} {N : Nat} (hw : mo_w M N) (V : Int) (hV : ∀ k, k < N → mo_bt V k = 1 → ¬ M 20 k = 0) (w : Nat) : ∀ n, n ≤ N → 0 ≤ fo_wy V (M 21) (md_dg M w) n ∧ fo_wy V (M 21) (md_dg M w) n < fo_rw V (M 21) n
  | 0, _ => by simp [fo_wy, fo_rw]
  | n + 1, hn => by
    have ih := fo_wy_lt hw V hV w n (by omega)
    rw [fo_wy, fo_rw]
    by_cases hb : mo_bt V n = 1
    · rw [if_pos hb, if_pos hb]
      have hd := md_dg_ok hw w n (by omega) (hV n (by omega) hb)
      generalize fo_wy V (M 21) (md_dg M w) n = a at ih ⊢
      generalize fo_rw V (M 21) n = r at ih ⊢
      generalize md_dg M w n = x at hd ⊢
      have h0 : 0 ≤ r * x := Int.mul_nonneg (by omega) hd.1
      have h1 : r * (x + 1) ≤ r * M 21 n := Int.mul_le_mul_of_nonneg_left (by omega) (by omega)
      rw [Int.mul_add, Int.mul_one] at h1
      omega
    · rw [if_neg hb, if_neg hb, Int.mul_one, Int.add_zero]
      exact ih
theorem fo_rw_stop (V : Int) (S : Nat → Int) (c : Nat) : ∀ j, (∀ k, c ≤ k → k < c + j → ¬ mo_bt V k = 1) → fo_rw V S (c + j) = fo_rw V S c
  | 0, _ => rfl
  | j + 1, h => by rw [← Nat.add_assoc, fo_rw, fo_rw_stop V S c j (fun k h1 h2 => h k h1 (by omega)), if_neg (h (c + j) (by omega) (by omega)), Int.mul_one]
/-- how many of the worlds ahead stand for themselves -/
theorem fo_cnt {M : sc_M} {N : Nat} (hw : mo_w M N) (V : Int) (hV : ∀ k, k < N → mo_bt V k = 1 → ¬ M 20 k = 0) (q : Nat → Prop) (hq : ∀ w, q w ↔ md_nb M N V w = (w : Int)) : ∀ m, m ≤ N → (cl_mn q (na_sd M m) : Int) = fo_rw V (M 21) m ∧ ∀ u, u < na_sd M m → q u → (cl_mn q u : Int) = fo_wy V (M 21) (md_dg M u) m
  | 0, _ => by
    have h1 : na_sd M 0 = 1 := rfl
    have h2 : q 0 := by
      rw [hq, md_nb_sN hw V 0 0 (by omega) (by rw [h1]; decide)]
      rfl
    rw [h1]
    refine ⟨?_, fun u hu _ => ?_⟩
    · rw [cl_mn_pos q 0 h2]
      rfl
    · rw [show u = 0 by omega]
      rfl
  | m + 1, hm => by
    obtain ⟨i1, i2⟩ := fo_cnt hw V hV q hq m (by omega)
    by_cases hK : M 20 m = 0
    · have hb : ¬ mo_bt V m = 1 := fun h => hV m (by omega) h hK
      rw [na_sd_w hw (by omega) hK, fo_rw, if_neg hb, Int.mul_one]
      refine ⟨i1, fun u hu hqu => ?_⟩
      rw [fo_wy, if_neg hb, Int.add_zero]
      exact i2 u hu hqu
    · have hS := (hw.2.2.1 m (by omega)).2.2.1 hK
      obtain ⟨S, hSe⟩ := Int.eq_ofNat_of_zero_le (show 0 ≤ M 21 m by omega)
      have hZ := (na_sd_eq hw m (by omega)).2
      have hfx : ∀ s v, s < S → v < na_sd M m → (q (s * na_sd M m + v) ↔ (mo_bt V m = 1 ∨ s = 0) ∧ q v) := fun s v hs hv => by
        rw [hq, hq]
        exact md_fix hw V m (by omega) hK s v (by omega) hv
      have hdv : ∀ u, u < na_sd M (m + 1) → ∃ s v, s < S ∧ v < na_sd M m ∧ u = s * na_sd M m + v := fun u hu => by
        rw [na_sd_s hw (by omega) hK, hSe, Int.toNat_natCast] at hu
        refine ⟨u / na_sd M m, u % na_sd M m, Nat.div_lt_of_lt_mul hu, Nat.mod_lt _ hZ, ?_⟩
        have := Nat.div_add_mod u (na_sd M m)
        rw [Nat.mul_comm] at this
        omega
      have hZ1 : na_sd M (m + 1) = S * na_sd M m := by
        rw [na_sd_s hw (by omega) hK, hSe, Int.toNat_natCast, Nat.mul_comm]
      by_cases hb : mo_bt V m = 1
      · have hp : ∀ s v, s < S → v < na_sd M m → (q (s * na_sd M m + v) ↔ q v) := fun s v hs hv => by
          rw [hfx s v hs hv]
          exact ⟨fun k => k.2, fun k => ⟨Or.inl hb, k⟩⟩
        have hmul := cl_mn_mul q (na_sd M m) S hp
        refine ⟨?_, fun u hu hqu => ?_⟩
        · rw [hZ1, hmul S (Nat.le_refl _), fo_rw, if_pos hb, hSe, ← i1, Int.mul_comm]
          rfl
        · obtain ⟨s, v, hs, hv, rfl⟩ := hdv u hu
          obtain ⟨d1, d2⟩ := md_dg_add hw m (by omega) hK v s hv (by omega)
          rw [cl_mn_add q q (s * na_sd M m) v (fun x hx => hp s x hs (by omega)), hmul s (by omega), fo_wy, if_pos hb, d2, fo_wy_cg V (M 21) _ (md_dg M v) m (fun k hk _ => d1 k hk), ← i2 v hv ((hp s v hs hv).mp hqu), ← i1, Int.mul_comm]
          generalize cl_mn q v = a
          generalize cl_mn q (na_sd M m) = b
          have e : ((s * b + a : Nat) : Int) = (s : Int) * (b : Int) + (a : Int) := rfl
          rw [e, Int.add_comm]
      · have hno : ∀ v, v < (S - 1) * na_sd M m → ¬ q (na_sd M m + v) := fun v hv hqv => by
          have hmm : (S - 1) * na_sd M m + na_sd M m = S * na_sd M m := by
            rw [← Nat.succ_mul, show Nat.succ (S - 1) = S by omega]
          obtain ⟨s, x, hs, hx, he⟩ := hdv (na_sd M m + v) (by omega)
          rw [he] at hqv
          rcases ((hfx s x hs hx).mp hqv).1 with h9 | h9
          · exact hb h9
          · rw [h9, Nat.zero_mul] at he
            omega
        refine ⟨?_, fun u hu hqu => ?_⟩
        · have hmm : na_sd M m + (S - 1) * na_sd M m = S * na_sd M m := by
            rw [Nat.add_comm, ← Nat.succ_mul, show Nat.succ (S - 1) = S by omega]
          rw [hZ1, ← hmm, cl_mn_none q (na_sd M m) _ hno, fo_rw, if_neg hb, Int.mul_one]
          exact i1
        · obtain ⟨s, v, hs, hv, rfl⟩ := hdv u hu
          have h9 := (hfx s v hs hv).mp hqu
          have hs0 : s = 0 := h9.1.resolve_left hb
          subst hs0
          rw [Nat.zero_mul, Nat.zero_add, fo_wy, if_neg hb, Int.add_zero]
          exact i2 v hv h9.2
/-- the number of what is seen has its states -/
theorem md_dg_nb {M : sc_M} {N : Nat} (hw : mo_w M N) (V : Int) (w : Nat) : ∀ n, n ≤ N → ∀ k, k < n → mo_bt V k = 1 → md_dg M (mo_nb (M 20) (M 21) (md_dg M w) V n).toNat k = md_dg M w k
  | 0, _, k, hk, _ => absurd hk (Nat.not_lt_zero _)
  | n + 1, hn, k, hk, hb => by
    have ih := md_dg_nb hw V w n (by omega)
    have hr := md_nb_at hw V w n (by omega)
    rw [mo_nb]
    by_cases hK : M 20 n = 0
    · rw [if_pos hK, Int.add_zero]
      by_cases hkn : k = n
      · subst hkn
        rw [md_dg_w _ _ hK, md_dg_w _ _ hK]
      · exact ih k (by omega) hb
    · rw [if_neg hK]
      have hd := md_dg_ok hw w n (by omega) hK
      obtain ⟨s, hs⟩ := Int.eq_ofNat_of_zero_le hd.1
      obtain ⟨v, hv⟩ := Int.eq_ofNat_of_zero_le hr.1
      rw [hv] at hr ih ⊢
      rw [Int.toNat_natCast] at ih
      by_cases hbn : mo_bt V n = 1
      · rw [if_pos hbn, hs, (na_sd_eq hw n (by omega)).1]
        have e : ((v : Int) + (na_sd M n : Int) * (s : Int)).toNat = s * na_sd M n + v := by
          have : ((s * na_sd M n + v : Nat) : Int) = (s : Int) * (na_sd M n : Int) + (v : Int) := rfl
          rw [Int.mul_comm, Int.add_comm, ← this, Int.toNat_natCast]
        rw [e]
        obtain ⟨d1, d2⟩ := md_dg_add hw n (by omega) hK v s (by omega) (by rw [← hs]; exact hd.2)
        by_cases hkn : k = n
        · subst hkn
          rw [d2, hs]
        · rw [d1 k (by omega)]
          exact ih k (by omega) hb
      · rw [if_neg hbn, Int.add_zero, Int.toNat_natCast]
        by_cases hkn : k = n
        · subst hkn
          exact absurd hb hbn
        · exact ih k (by omega) hb
theorem md_nb_nb {M : sc_M} {N : Nat} (hw : mo_w M N) (V : Int) (w : Nat) : md_nb M N V (md_nb M N V w).toNat = md_nb M N V w := (md_nb_eq hw V _ w N (Nat.le_refl _)).mpr (fun k hk hb => md_dg_nb hw V w N (Nat.le_refl _) k hk hb)
theorem fo_r_mn (M : sc_M) (N k b : Nat) : ∀ w, fo_r M N k b w = b * (M 21 k).toNat ^ cl_mn (fo_sl M N k) w
  | 0 => by rw [fo_r]; exact (Nat.mul_one _).symm
  | w + 1 => by
    rw [fo_r]
    by_cases h : fo_sl M N k w
    · rw [fo_mlt_pos _ _ h, cl_mn_pos _ _ h, fo_r_mn M N k b w, Nat.pow_succ, Nat.mul_assoc]
    · rw [fo_mlt_neg _ _ h, cl_mn_neg _ _ h, fo_r_mn M N k b w]
/-- a choice that is free; its ways; where its slots begin -/
def fo_fr (M : sc_M) (k : Nat) : Prop := M 20 k = 2 ∧ M 25 k < 0
noncomputable def fo_ws (M : sc_M) (k : Nat) : Nat := (fo_rw (M 24 k) (M 21) k).toNat
noncomputable def fo_bs (M : sc_M) : Nat → Nat
  | 0 => 0
  | k + 1 => if M 20 k = 2 ∧ M 25 k < 0 then fo_bs M k + fo_ws M k else fo_bs M k
theorem fo_bs_yes {M : sc_M} {k : Nat} (h : fo_fr M k) : fo_bs M (k + 1) = fo_bs M k + fo_ws M k := if_pos h
theorem fo_bs_no {M : sc_M} {k : Nat} (h : ¬ fo_fr M k) : fo_bs M (k + 1) = fo_bs M k := if_neg h
theorem fo_bs_mono (M : sc_M) (k : Nat) : ∀ j, fo_bs M k ≤ fo_bs M (k + j)
  | 0 => Nat.le_refl _
  | j + 1 => by
    have := fo_bs_mono M k j
    rw [← Nat.add_assoc]
    by_cases h : fo_fr M (k + j)
    · rw [fo_bs_yes h]; omega
    · rw [fo_bs_no h]; omega
/-- the chart and its sights, of a free choice -/
theorem fo_sees {M : sc_M} {N : Nat} (hx : mo_x M N) (hN : N ≤ 10) {c : Nat} (hc : c < N) : ∀ k, k < N → mo_bt (M 24 c) k = 1 → ¬ M 20 k = 0 := fun k hk hb => by
  have := hx.2.1 c hc k (by omega) hb
  omega
theorem fo_ws_N {M : sc_M} {N : Nat} (hw : mo_w M N) (hx : mo_x M N) {c : Nat} (hc : c < N) : fo_rw (M 24 c) (M 21) N = (fo_ws M c : Int) ∧ 0 < fo_ws M c := by
  have h1 := fo_rw_stop (M 24 c) (M 21) c (N - c) (fun k h1 h2 hb => by
    have := hw.1
    have := hx.2.1 c hc k (by omega) hb
    omega)
  rw [show c + (N - c) = N by omega] at h1
  have h2 := fo_wy_lt hw (M 24 c) (fo_sees hx hw.1 hc) 0 N (Nat.le_refl _)
  rw [h1] at h2 ⊢
  unfold fo_ws
  omega
theorem fo_sl_iff {M : sc_M} {N c : Nat} (hf : fo_fr M c) (w : Nat) : fo_sl M N c w ↔ md_nb M N (M 24 c) w = (w : Int) := ⟨fun h => h.2.2, fun h => ⟨Or.inl hf.1, hf.2, h⟩⟩
theorem fo_way {M : sc_M} {N : Nat} (hw : mo_w M N) (hx : mo_x M N) {c : Nat} (hc : c < N) (hf : fo_fr M c) (w : Nat) : (cl_mn (fo_sl M N c) (md_nb M N (M 24 c) w).toNat : Int) = fo_wy (M 24 c) (M 21) (md_dg M w) N := by
  have h1 := md_nb_at hw (M 24 c) w N (Nat.le_refl _)
  have h2 := md_nb_nb hw (M 24 c) w
  have h3 := md_dg_nb hw (M 24 c) w N (Nat.le_refl _)
  have h4 := (fo_cnt hw (M 24 c) (fo_sees hx hw.1 hc) (fo_sl M N c) (fo_sl_iff hf) N (Nat.le_refl _)).2 (md_nb M N (M 24 c) w).toNat
  unfold md_nb at h2 h4 ⊢
  obtain ⟨u, hu⟩ := Int.eq_ofNat_of_zero_le h1.1
  rw [hu] at h1 h2 h3 h4 ⊢
  rw [Int.toNat_natCast] at *
  rw [h4 (by omega) ((fo_sl_iff hf u).mpr h2)]
  exact fo_wy_cg _ _ _ _ N h3
theorem fo_all {M : sc_M} {N : Nat} (hw : mo_w M N) (hx : mo_x M N) {c : Nat} (hc : c < N) (hf : fo_fr M c) : cl_mn (fo_sl M N c) (na_sd M N) = fo_ws M c := by
  have h4 := (fo_cnt hw (M 24 c) (fo_sees hx hw.1 hc) (fo_sl M N c) (fo_sl_iff hf) N (Nat.le_refl _)).1
  have h5 := fo_ws_N hw hx hc
  omega
theorem fo_b_yes {M : sc_M} {N : Nat} (hw : mo_w M N) (hx : mo_x M N) {c : Nat} (hc : c < N) (hf : fo_fr M c) : fo_b M N (na_sd M N) (c + 1) = fo_b M N (na_sd M N) c * (M 21 c).toNat ^ fo_ws M c := by
  rw [fo_b, fo_r_mn, fo_all hw hx hc hf]
theorem fo_b_no {M : sc_M} {N : Nat} (h13 : M 18 13 = -9) {c : Nat} (hf : ¬ fo_fr M c) : fo_b M N (na_sd M N) (c + 1) = fo_b M N (na_sd M N) c := by
  rw [fo_b, fo_r_no _ (fun w h => hf ⟨by have := h.1; unfold md_ic mo_ic at this; omega, h.2.1⟩)]
/-- so many plans -/
theorem fo_it_ex (s x : Int) : ∀ i, fo_it s x i ≤ 512 → fo_it s x i = x * s ^ i ∧ ∀ j, j ≤ i → fo_it s x j ≤ 512
  | 0, h => ⟨by rw [Int.pow_zero, Int.mul_one]; rfl, fun j hj => by rw [show j = 0 by omega]; exact h⟩
  | i + 1, h => by
    rw [fo_it] at h
    by_cases h1 : fo_it s x i ≤ 512
    · obtain ⟨i1, i2⟩ := fo_it_ex s x i h1
      rw [if_pos h1] at h
      refine ⟨?_, fun j hj => ?_⟩
      · rw [fo_it, if_pos h1, i1, Int.pow_succ, Int.mul_assoc]
      · by_cases hji : j = i + 1
        · rw [hji, fo_it, if_pos h1]; exact h
        · exact i2 j (by omega)
    · rw [if_neg h1] at h
      exact absurd h h1
theorem fo_it_big (s x : Int) (h : ¬ x ≤ 512) : ∀ i, fo_it s x i = x
  | 0 => rfl
  | i + 1 => by rw [fo_it, fo_it_big s x h i, if_neg h]
theorem fo_pl_big {M : sc_M} (k : Nat) (h : ¬ fo_pl M k ≤ 512) : ∀ j, fo_pl M (k + j) = fo_pl M k
  | 0 => rfl
  | j + 1 => by
    rw [← Nat.add_assoc, fo_pl, fo_pl_big k h j]
    split
    · exact fo_it_big _ _ h _
    · rfl
theorem fo_pl_yes {M : sc_M} {k : Nat} (h : fo_fr M k) : fo_pl M (k + 1) = fo_it (M 21 k) (fo_pl M k) (fo_ws M k) := if_pos h
theorem fo_pl_no {M : sc_M} {k : Nat} (h : ¬ fo_fr M k) : fo_pl M (k + 1) = fo_pl M k := if_neg h
theorem fo_pl_b {M : sc_M} {N : Nat} (hw : mo_w M N) (hx : mo_x M N) (h13 : M 18 13 = -9) : ∀ k, k ≤ N → fo_pl M k ≤ 512 → fo_pl M k = (fo_b M N (na_sd M N) k : Int) ∧ 2 ^ fo_bs M k ≤ fo_b M N (na_sd M N) k
  | 0, _, _ => ⟨rfl, Nat.le_refl _⟩
  | k + 1, hk, h => by
    by_cases hf : fo_fr M k
    · rw [fo_pl_yes hf] at h ⊢
      obtain ⟨e1, e2⟩ := fo_it_ex _ _ _ h
      have h0 := e2 0 (Nat.zero_le _)
      obtain ⟨i1, i2⟩ := fo_pl_b hw hx h13 k (by omega) h0
      have hS := (hw.2.2.1 k (by omega)).2.2.1 (by have := hf.1; omega)
      obtain ⟨S, hSe⟩ := Int.eq_ofNat_of_zero_le (show 0 ≤ M 21 k by omega)
      rw [e1, i1, fo_b_yes hw hx (by omega) hf, fo_bs_yes hf, hSe, Int.toNat_natCast, Nat.pow_add]
      refine ⟨?_, Nat.mul_le_mul i2 (Nat.pow_le_pow_left (by omega) _)⟩
      rw [Int.natCast_mul, Int.natCast_pow]
    · rw [fo_pl_no hf] at h ⊢
      rw [fo_b_no h13 hf, fo_bs_no hf]
      exact fo_pl_b hw hx h13 k (by omega) h
theorem fo_bs_9 {M : sc_M} {N : Nat} (hw : mo_w M N) (hx : mo_x M N) (h13 : M 18 13 = -9) (k : Nat) (hk : k ≤ N) (h : fo_pl M k ≤ 512) : fo_bs M k ≤ 9 := by
  obtain ⟨h1, h2⟩ := fo_pl_b hw hx h13 k hk h
  rcases Nat.lt_or_ge 9 (fo_bs M k) with h3 | h3
  · have : 2 ^ 10 ≤ 2 ^ fo_bs M k := Nat.pow_le_pow_right (by omega) h3
    omega
  · exact h3
/-- the states of the slots, and what a slot of a plan has -/
def fo_tb (M : sc_M) (st : Nat → Int) (k : Nat) : Prop := ∀ k' i, k' < k → fo_fr M k' → i < fo_ws M k' → st (fo_bs M k' + i) = M 21 k'
def fo_pr (st : Nat → Int) : Nat → Nat
  | 0 => 1
  | j + 1 => fo_pr st j * (st j).toNat
theorem fo_pr_pow (st : Nat → Int) (b S : Nat) : ∀ i, (∀ j, j < i → st (b + j) = (S : Int)) → fo_pr st (b + i) = fo_pr st b * S ^ i
  | 0, _ => by rw [Nat.pow_zero, Nat.mul_one]; rfl
  | i + 1, h => by rw [← Nat.add_assoc, fo_pr, fo_pr_pow st b S i (fun j hj => h j (by omega)), h i (by omega), Int.toNat_natCast, Nat.pow_succ, Nat.mul_assoc]
theorem fo_pr_b {M : sc_M} {N : Nat} (hw : mo_w M N) (hx : mo_x M N) (h13 : M 18 13 = -9) (st : Nat → Int) (ht : fo_tb M st N) : ∀ k, k ≤ N → fo_pr st (fo_bs M k) = fo_b M N (na_sd M N) k
  | 0, _ => rfl
  | k + 1, hk => by
    have ih := fo_pr_b hw hx h13 st ht k (by omega)
    by_cases hf : fo_fr M k
    · obtain ⟨S, hSe⟩ := Int.eq_ofNat_of_zero_le (mo_S3 hw k (by omega)).1
      rw [fo_b_yes hw hx (by omega) hf, fo_bs_yes hf, fo_pr_pow st _ S _ (fun j hj => by rw [ht k j (by omega) hf hj, hSe]), ih, hSe, Int.toNat_natCast]
    · rw [fo_b_no h13 hf, fo_bs_no hf, ih]
theorem fo_dgt {M : sc_M} {N : Nat} (hw : mo_w M N) (hx : mo_x M N) (h13 : M 18 13 = -9) (st : Nat → Int) (ht : fo_tb M st N) {c : Nat} (hc : c < N) (hf : fo_fr M c) (w t : Nat) : fo_P M N (na_sd M N) t c (md_nb M N (M 24 c) w).toNat = ((t / fo_pr st (fo_bs M c + (fo_wy (M 24 c) (M 21) (md_dg M w) N).toNat) % (M 21 c).toNat : Nat) : Int) ∧ st (fo_bs M c + (fo_wy (M 24 c) (M 21) (md_dg M w) N).toNat) = M 21 c := by
  have h1 := md_nb_at hw (M 24 c) w N (Nat.le_refl _)
  have h2 := fo_way hw hx hc hf w
  have h3 := fo_wy_lt hw (M 24 c) (fo_sees hx hw.1 hc) w N (Nat.le_refl _)
  have h4 := fo_ws_N hw hx hc
  have h5 := md_nb_nb hw (M 24 c) w
  have h1' : (md_nb M N (M 24 c) w).toNat < na_sd M N := by
    unfold md_nb
    omega
  have h6 : fo_sl M N c (md_nb M N (M 24 c) w).toNat := (fo_sl_iff hf _).mpr (by
    rw [h5]
    unfold md_nb
    omega)
  rw [fo_P_yes t c _ h6 h1', fo_R, fo_r_mn]
  generalize fo_wy (M 24 c) (M 21) (md_dg M w) N = y at h2 h3 ⊢
  rw [← h2] at h3 ⊢
  rw [Int.toNat_natCast]
  generalize cl_mn (fo_sl M N c) (md_nb M N (M 24 c) w).toNat = i at h3 ⊢
  obtain ⟨S, hSe⟩ := Int.eq_ofNat_of_zero_le (mo_S3 hw c hc).1
  have hi : i < fo_ws M c := by omega
  refine ⟨?_, ht c i hc hf hi⟩
  rw [fo_pr_pow st _ S i (fun j hj => by rw [ht c j hc hf (by omega), hSe]), fo_pr_b hw hx h13 st ht c (by omega), hSe, Int.toNat_natCast]
/-- what a world needs, what a plan gives, as bits -/
noncomputable def fo_nd (M : sc_M) (N w : Nat) : Nat → Nat
  | 0 => 0
  | k + 1 => if M 20 k = 2 ∧ M 25 k < 0 then fo_nd M N w k ||| 2 ^ (3 * (fo_bs M k + (fo_wy (M 24 k) (M 21) (md_dg M w) N).toNat) + (md_dg M w k).toNat) else fo_nd M N w k
theorem fo_nd_yes {M : sc_M} {k : Nat} (N w : Nat) (h : fo_fr M k) : fo_nd M N w (k + 1) = fo_nd M N w k ||| 2 ^ (3 * (fo_bs M k + (fo_wy (M 24 k) (M 21) (md_dg M w) N).toNat) + (md_dg M w k).toNat) := if_pos h
theorem fo_nd_no {M : sc_M} {k : Nat} (N w : Nat) (h : ¬ fo_fr M k) : fo_nd M N w (k + 1) = fo_nd M N w k := if_neg h
theorem fo_nd_tb (M : sc_M) (N w i : Nat) : ∀ n, (fo_nd M N w n).testBit i = true ↔ ∃ k, k < n ∧ fo_fr M k ∧ i = 3 * (fo_bs M k + (fo_wy (M 24 k) (M 21) (md_dg M w) N).toNat) + (md_dg M w k).toNat
  | 0 => by
    rw [fo_nd, Nat.zero_testBit]
    exact ⟨fun h => absurd h (by decide), fun ⟨k, hk, _⟩ => absurd hk (Nat.not_lt_zero _)⟩
  | n + 1 => by
    have ih := fo_nd_tb M N w i n
    by_cases hf : fo_fr M n
    · rw [fo_nd_yes N w hf, Nat.testBit_or, Bool.or_eq_true, ih, Nat.testBit_two_pow, decide_eq_true_eq]
      constructor
      · rintro (⟨k, h1, h2⟩ | h)
        · exact ⟨k, by omega, h2⟩
        · exact ⟨n, by omega, hf, h.symm⟩
      · rintro ⟨k, h1, h2, h3⟩
        by_cases hkn : k = n
        · subst hkn; exact Or.inr h3.symm
        · exact Or.inl ⟨k, by omega, h2, h3⟩
    · rw [fo_nd_no N w hf, ih]
      constructor
      · rintro ⟨k, h1, h2⟩
        exact ⟨k, by omega, h2⟩
      · rintro ⟨k, h1, h2, h3⟩
        by_cases hkn : k = n
        · subst hkn; exact absurd h2 hf
        · exact ⟨k, by omega, h2, h3⟩
def fo_pb (st : Nat → Int) (t : Nat) : Nat → Nat
  | 0 => 0
  | k + 1 => fo_pb st t k ||| 2 ^ (3 * k + t / fo_pr st k % (st k).toNat)
theorem fo_pb_tb (st : Nat → Int) (t i : Nat) : ∀ n, (fo_pb st t n).testBit i = true ↔ ∃ j, j < n ∧ i = 3 * j + t / fo_pr st j % (st j).toNat
  | 0 => by
    rw [fo_pb, Nat.zero_testBit]
    exact ⟨fun h => absurd h (by decide), fun ⟨k, hk, _⟩ => absurd hk (Nat.not_lt_zero _)⟩
  | n + 1 => by
    have ih := fo_pb_tb st t i n
    rw [fo_pb, Nat.testBit_or, Bool.or_eq_true, ih, Nat.testBit_two_pow, decide_eq_true_eq]
    constructor
    · rintro (⟨k, h1, h2⟩ | h)
      · exact ⟨k, by omega, h2⟩
      · exact ⟨n, by omega, h.symm⟩
    · rintro ⟨k, h1, h2⟩
      by_cases hkn : k = n
      · subst hkn; exact Or.inr h2.symm
      · exact Or.inl ⟨k, by omega, h2⟩
theorem fo_wy_in {M : sc_M} {N : Nat} (hw : mo_w M N) (hx : mo_x M N) {c : Nat} (hc : c < N) (hf : fo_fr M c) (w : Nat) : fo_bs M c + (fo_wy (M 24 c) (M 21) (md_dg M w) N).toNat < fo_bs M N ∧ (0 ≤ md_dg M w c ∧ md_dg M w c < 3) := by
  have h3 := fo_wy_lt hw (M 24 c) (fo_sees hx hw.1 hc) w N (Nat.le_refl _)
  have h4 := fo_ws_N hw hx hc
  have h5 := fo_bs_mono M (c + 1) (N - (c + 1))
  rw [show c + 1 + (N - (c + 1)) = N by omega, fo_bs_yes hf] at h5
  have hK : ¬ M 20 c = 0 := by have := hf.1; omega
  have h6 := md_dg_ok hw w c hc hK
  have h7 := (hw.2.2.1 c hc).2.2.1 hK
  omega
theorem fo_st3 {M : sc_M} {N : Nat} (hw : mo_w M N) (st : Nat → Int) (ht : fo_tb M st N) : ∀ k, k ≤ N → ∀ j, j < fo_bs M k → 2 ≤ st j ∧ st j ≤ 3
  | 0, _, j, hj => absurd hj (Nat.not_lt_zero _)
  | k + 1, hk, j, hj => by
    have ih := fo_st3 hw st ht k (by omega) j
    by_cases hf : fo_fr M k
    · rw [fo_bs_yes hf] at hj
      by_cases h1 : j < fo_bs M k
      · exact ih h1
      · have h2 := ht k (j - fo_bs M k) (by omega) hf (by omega)
        rw [show fo_bs M k + (j - fo_bs M k) = j by omega] at h2
        rw [h2]
        exact (hw.2.2.1 k (by omega)).2.2.1 (by have := hf.1; omega)
    · rw [fo_bs_no hf] at hj
      exact ih hj
theorem fo_nd_lt {M : sc_M} {N : Nat} (hw : mo_w M N) (hx : mo_x M N) (h9 : fo_bs M N ≤ 9) (w : Nat) : ∀ n, n ≤ N → fo_nd M N w n < 2 ^ 27
  | 0, _ => by rw [fo_nd]; decide
  | n + 1, hn => by
    have ih := fo_nd_lt hw hx h9 w n (by omega)
    by_cases hf : fo_fr M n
    · rw [fo_nd_yes N w hf]
      have := fo_wy_in hw hx (by omega) hf w
      exact Nat.or_lt_two_pow ih (Nat.pow_lt_pow_right (by decide) (by omega))
    · rw [fo_nd_no N w hf]
      exact ih
theorem fo_pb_lt (st : Nat → Int) (t B : Nat) (hB : B ≤ 9) (h : ∀ j, j < B → 2 ≤ st j ∧ st j ≤ 3) : ∀ n, n ≤ B → fo_pb st t n < 2 ^ 27
  | 0, _ => by rw [fo_pb]; decide
  | n + 1, hn => by
    have ih := fo_pb_lt st t B hB h n (by omega)
    have h1 := h n (by omega)
    have h2 : t / fo_pr st n % (st n).toNat < (st n).toNat := Nat.mod_lt _ (by omega)
    rw [fo_pb]
    exact Nat.or_lt_two_pow ih (Nat.pow_lt_pow_right (by decide) (by omega))
/-- a world comes about by a plan -/
theorem fo_sub {M : sc_M} {N : Nat} (hw : mo_w M N) (hx : mo_x M N) (h13 : M 18 13 = -9) (st : Nat → Int) (ht : fo_tb M st N) (w t : Nat) : (∀ i, (fo_nd M N w N).testBit i = true → (fo_pb st t (fo_bs M N)).testBit i = true) ↔ ∀ k, k < N → fo_fr M k → md_dg M w k = fo_P M N (na_sd M N) t k (md_nb M N (M 24 k) w).toNat := by
  constructor
  · intro h k hk hf
    obtain ⟨d1, d2⟩ := fo_dgt hw hx h13 st ht hk hf w t
    have h1 := h _ ((fo_nd_tb M N w _ N).mpr ⟨k, hk, hf, rfl⟩)
    obtain ⟨j, hj, he⟩ := (fo_pb_tb st t _ _).mp h1
    obtain ⟨b1, b2, b3⟩ := fo_wy_in hw hx hk hf w
    have s3 := fo_st3 hw st ht N (Nat.le_refl _) j hj
    have h2 : t / fo_pr st j % (st j).toNat < (st j).toNat := Nat.mod_lt _ (by omega)
    have hjj : j = fo_bs M k + (fo_wy (M 24 k) (M 21) (md_dg M w) N).toNat := by omega
    rw [d1, ← d2, ← hjj]
    omega
  · intro h i hi
    obtain ⟨k, hk, hf, rfl⟩ := (fo_nd_tb M N w i N).mp hi
    obtain ⟨d1, d2⟩ := fo_dgt hw hx h13 st ht hk hf w t
    obtain ⟨b1, b2, b3⟩ := fo_wy_in hw hx hk hf w
    refine (fo_pb_tb st t _ _).mpr ⟨_, b1, ?_⟩
    have h1 := h k hk hf
    rw [d1] at h1
    rw [d2, h1, Int.toNat_natCast]
theorem md_cm_fr {M : sc_M} {N : Nat} (hx : mo_x M N) (h13 : M 18 13 = -9) (P : Nat → Nat → Int) (w : Nat) : md_cm M N (M 24) P w ↔ md_fo M N w ∧ ∀ k, k < N → fo_fr M k → md_dg M w k = P k (md_nb M N (M 24 k) w).toNat := by
  constructor
  · intro h
    refine ⟨fun k hk => ?_, fun k hk hf => ?_⟩
    · rcases hx.1 k hk with h1 | h1
      · exact Or.inl (by omega)
      · have h2 := h k hk (Or.inl h1.2.1)
        unfold md_go at h2
        rw [if_pos h1.1] at h2
        exact Or.inr h2
    · have h2 := h k hk (Or.inl hf.1)
      unfold md_go at h2
      rw [if_neg (by have := hf.2; omega)] at h2
      exact h2
  · rintro ⟨h1, h2⟩ k hk hi
    have hi2 : M 20 k = 2 := by
      unfold md_ic mo_ic at hi
      omega
    unfold md_go
    by_cases hf : 0 ≤ M 25 k
    · rw [if_pos hf]
      rcases h1 k hk with h3 | h3
      · omega
      · exact h3
    · rw [if_neg hf]
      exact h2 k hk ⟨hi2, by omega⟩
/-- the mean of a plan, as the class has it -/
noncomputable def fo_g (M : sc_M) (N : Nat) (b : Nat) : Int := sc_sum (fun w => sc_if (∀ i, (fo_nd M N w N).testBit i = true → b.testBit i = true) (cl_w M w N * md_on M N w) 0) (na_sd M N)
theorem fo_g_f {M : sc_M} {N : Nat} (hw : mo_w M N) (hx : mo_x M N) (h13 : M 18 13 = -9) (st : Nat → Int) (ht : fo_tb M st N) (t : Nat) : fo_g M N (fo_pb st t (fo_bs M N)) = fo_f M N (na_sd M N) t := by
  unfold fo_g fo_f md_tot
  refine sc_sum_cg _ _ _ (fun w hw9 => ?_)
  rw [sc_if_iff _ _ (fo_sub hw hx h13 st ht w t), sc_if_iff _ _ (md_cm_fr hx h13 (fo_P M N (na_sd M N) t) w), cl_w_md hw hx w N (Nat.le_refl _), iv_hb h13, Int.one_mul]
  generalize (∀ k, k < N → fo_fr M k → md_dg M w k = fo_P M N (na_sd M N) t k (md_nb M N (M 24 k) w).toNat) = A
  generalize md_fo M N w = F
  show sc_if A (md_wt M N w * sc_if F 1 0 * md_on M N w) 0 = _
  by_cases h1 : F
  · rw [sc_if_pos _ _ h1, Int.mul_one]
    exact sc_if_iff _ _ ⟨fun h => ⟨h1, h⟩, fun h => h.2⟩
  · rw [sc_if_neg _ _ h1, Int.mul_zero, Int.zero_mul, sc_if_neg (p := F ∧ A) _ _ (fun k => h1 k.1)]
    by_cases h2 : A
    · rw [sc_if_pos _ _ h2]
    · rw [sc_if_neg _ _ h2]
/-- bits -/
theorem sc_bor_nat2 (n m : Nat) (hn : n < 2 ^ 27) (hm : m < 2 ^ 27) : sc_bor (n : Int) (m : Int) = ((n ||| m : Nat) : Int) := by
  rw [sc_bor_eq]
  show ((Int32.ofInt (n : Int) ||| Int32.ofInt (m : Int)).toBitVec).toInt = _
  rw [Int32.toBitVec_or, sc_bv n (by omega), sc_bv m (by omega)]
  have h1 : n ||| m < 2 ^ 27 := Nat.or_lt_two_pow hn hm
  refine sc_bvi _ _ (by omega) ?_
  rw [BitVec.toNat_or, BitVec.toNat_ofNat, BitVec.toNat_ofNat, Nat.mod_eq_of_lt (by omega), Nat.mod_eq_of_lt (by omega)]
theorem sc_bshl_nat2 (k : Nat) (hk : k < 27) : sc_bshl 1 (k : Int) = ((2 ^ k : Nat) : Int) := by
  rw [sc_bshl_eq]
  exact (by decide +kernel : ∀ k, k < 27 → (Int32.ofInt 1 <<< (Int32.ofInt ((k : Nat) : Int) &&& 31)).toInt = ((2 ^ k : Nat) : Int)) k hk
theorem sc_bsub (n b : Nat) (hn : n < 2 ^ 27) (hb : b < 2 ^ 27) : sc_band (n : Int) (sc_bxor (b : Int) (-1)) = 0 ↔ ∀ i, n.testBit i = true → b.testBit i = true := by
  rw [sc_band_eq, sc_bxor_eq]
  have e1 : Int32.ofInt ((Int32.ofInt (b : Int) ^^^ Int32.ofInt (-1)).toInt) = Int32.ofInt (b : Int) ^^^ Int32.ofInt (-1) := Int32.ofInt_toInt _
  rw [e1]
  have e2 : ∀ x : Int32, x.toInt = 0 ↔ x.toBitVec = 0#32 := fun x => by
    constructor
    · intro h
      exact BitVec.eq_of_toInt_eq h
    · intro h
      show x.toBitVec.toInt = 0
      rw [h]; rfl
  rw [e2, Int32.toBitVec_and, Int32.toBitVec_xor, sc_bv n (by omega), sc_bv b (by omega)]
  have e3 : (Int32.ofInt (-1)).toBitVec = BitVec.allOnes 32 := by decide
  rw [e3]
  have hlo : ∀ x, x < 2 ^ 27 → ∀ i, 32 ≤ i → x.testBit i = false := fun x hx i hi => Nat.testBit_lt_two_pow (Nat.lt_of_lt_of_le hx (Nat.pow_le_pow_right (by decide) (by omega)))
  constructor
  · intro h i hi
    rcases Nat.lt_or_ge i 32 with h32 | h32
    · have h4 := congrArg (fun z => z.getLsbD i) h
      simp only [BitVec.getLsbD_and, BitVec.getLsbD_xor, BitVec.getLsbD_ofNat, BitVec.getLsbD_allOnes, h32, decide_true, Bool.true_and, hi, Bool.xor_true, BitVec.getLsbD_zero, Nat.zero_testBit] at h4
      cases hbt : b.testBit i
      · rw [hbt] at h4; exact absurd h4 (by decide)
      · rfl
    · rw [hlo n hn i h32] at hi
      exact absurd hi (by decide)
  · intro h
    refine BitVec.eq_of_getLsbD_eq (fun i hi => ?_)
    simp only [BitVec.getLsbD_and, BitVec.getLsbD_xor, BitVec.getLsbD_ofNat, BitVec.getLsbD_allOnes, hi, decide_true, Bool.true_and, Bool.xor_true, BitVec.getLsbD_zero, Nat.zero_testBit]
    cases hnt : n.testBit i
    · rfl
    · rw [h i hnt]; rfl
