/-! HOW FAR A NUMBER GOES: the class looks at some worlds alone -/
theorem cl_W_R {M : sc_M} {N : Nat} (hw : mo_w M N) (c : Nat) (hcN : c < N) (hic : md_ic M c) (key : Nat) (ω1 v1 ω2 v2 : Nat → Int) (h : ∀ w, w < na_sd M N → (md_nb M N (md_kn M c) w = (key : Int) → ω1 w = ω2 w ∧ ω1 w * v1 w = ω2 w * v2 w) ∧ (¬ md_nb M N (md_kn M c) w = (key : Int) → ω1 w = 0)) :
    ∀ j, j + c + 1 ≤ N → ∀ w, w < na_sd M N → (md_nb M N (md_kn M c) w = (key : Int) → cl_W M N (na_sd M N) v1 ω1 j w = cl_W M N (na_sd M N) v2 ω2 j w ∧ cl_W M N (na_sd M N) v1 ω1 j w * v1 w = cl_W M N (na_sd M N) v2 ω2 j w * v2 w) ∧ (¬ md_nb M N (md_kn M c) w = (key : Int) → cl_W M N (na_sd M N) v1 ω1 j w = 0)
  | 0, _, w, hw9 => h w hw9
  | j + 1, hj, w, hw9 => by
    have ih := cl_W_R hw c hcN hic key ω1 v1 ω2 v2 h j (by omega)
    have ihw := ih w hw9
    rw [cl_W, cl_W, cl_D, cl_D]
    refine ⟨fun hψ => ?_, fun hψ => ?_⟩
    · by_cases hfr : cl_fr M (N - 1 - j)
      · have hA : cl_A M N (na_sd M N) (cl_W M N (na_sd M N) v1 ω1 j) v1 (N - 1 - j) (md_nb M N (md_kn M (N - 1 - j)) w).toNat = cl_A M N (na_sd M N) (cl_W M N (na_sd M N) v2 ω2 j) v2 (N - 1 - j) (md_nb M N (md_kn M (N - 1 - j)) w).toNat := by
          funext s
          unfold cl_A
          refine sc_sum_cg _ _ _ (fun u hu => ?_)
          by_cases hq : md_nb M N (md_kn M (N - 1 - j)) u = ((md_nb M N (md_kn M (N - 1 - j)) w).toNat : Int) ∧ md_dg M u (N - 1 - j) = (s : Int)
          · have h1 : md_nb M N (md_kn M (N - 1 - j)) u = md_nb M N (md_kn M (N - 1 - j)) w := by
              have := (md_nb_lt hw (md_kn M (N - 1 - j)) w).1
              rw [hq.1]; omega
            have h2 := (md_nb_eq hw (md_kn M (N - 1 - j)) u w N (Nat.le_refl _)).mp h1
            have h3 : md_nb M N (md_kn M c) u = md_nb M N (md_kn M c) w := (md_nb_eq hw (md_kn M c) u w N (Nat.le_refl _)).mpr (fun k hk hb => h2 k hk (md_kn_mono hw (N - 1 - j) (by omega) c (by omega) hic k (by have := hw.1; omega) hb))
            rw [sc_if_pos _ _ hq, sc_if_pos _ _ hq]
            exact ((ih u hu).1 (by rw [h3]; exact hψ)).2
          · rw [sc_if_neg _ _ hq, sc_if_neg _ _ hq]
        rw [hA]
        by_cases hd : cl_fr M (N - 1 - j) ∧ ¬ md_dg M w (N - 1 - j) = (mo_am (cl_A M N (na_sd M N) (cl_W M N (na_sd M N) v2 ω2 j) v2 (N - 1 - j) (md_nb M N (md_kn M (N - 1 - j)) w).toNat) (M 21 (N - 1 - j)).toNat : Int)
        · rw [sc_if_pos _ _ hd, sc_if_pos _ _ hd, Int.zero_mul, Int.zero_mul]
          exact ⟨rfl, rfl⟩
        · rw [sc_if_neg _ _ hd, sc_if_neg _ _ hd]
          exact ihw.1 hψ
      · rw [sc_if_neg _ _ (fun q => hfr q.1), sc_if_neg _ _ (fun q => hfr q.1)]
        exact ihw.1 hψ
    · have hz := ihw.2 hψ
      rw [hz]
      by_cases hd : cl_fr M (N - 1 - j) ∧ ¬ md_dg M w (N - 1 - j) = (mo_am (cl_A M N (na_sd M N) (cl_W M N (na_sd M N) v1 ω1 j) v1 (N - 1 - j) (md_nb M N (md_kn M (N - 1 - j)) w).toNat) (M 21 (N - 1 - j)).toNat : Int)
      · rw [sc_if_pos _ _ hd]
      · rw [sc_if_neg _ _ hd]
theorem cl_dec_R {M : sc_M} {N : Nat} (hw : mo_w M N) (c : Nat) (hcN : c < N) (hic : md_ic M c) (key : Nat) (ω1 v1 ω2 v2 : Nat → Int) (h : ∀ w, w < na_sd M N → (md_nb M N (md_kn M c) w = (key : Int) → ω1 w = ω2 w ∧ ω1 w * v1 w = ω2 w * v2 w) ∧ (¬ md_nb M N (md_kn M c) w = (key : Int) → ω1 w = 0)) : cl_dec M N c key ω1 v1 = cl_dec M N c key ω2 v2 := by
  unfold cl_dec
  have hR := cl_W_R hw c hcN hic key ω1 v1 ω2 v2 h (N - (c + 1)) (by omega)
  have hA : cl_A M N (na_sd M N) (cl_W M N (na_sd M N) v1 ω1 (N - (c + 1))) v1 c key = cl_A M N (na_sd M N) (cl_W M N (na_sd M N) v2 ω2 (N - (c + 1))) v2 c key := by
    funext s
    unfold cl_A
    refine sc_sum_cg _ _ _ (fun u hu => ?_)
    by_cases hq : md_nb M N (md_kn M c) u = (key : Int) ∧ md_dg M u c = (s : Int)
    · rw [sc_if_pos _ _ hq, sc_if_pos _ _ hq]
      exact ((hR u hu).1 hq.1).2
    · rw [sc_if_neg _ _ hq, sc_if_neg _ _ hq]
  rw [hA]
/-- what the tables are for nothing in -/
theorem md_dg_26 (M : sc_M) (i : Nat) (y : Int) : md_dg (sc_up M 26 i y) = md_dg M := by
  funext w
  unfold md_dg
  rw [sc_up_ne _ _ _ (by decide), sc_up_ne _ _ _ (by decide)]
theorem md_kn_26 (M : sc_M) (i : Nat) (y : Int) : md_kn (sc_up M 26 i y) = md_kn M := by
  funext w
  unfold md_kn
  rw [sc_up_ne M i y (a := 26) (b := 20) (by decide), sc_up_ne M i y (a := 26) (b := 22) (by decide), sc_up_ne M i y (a := 26) (b := 23) (by decide), sc_up_ne M i y (a := 26) (b := 24) (by decide), sc_up_ne M i y (a := 26) (b := 18) (by decide)]
theorem md_nb_26 (M : sc_M) (i : Nat) (y : Int) : md_nb (sc_up M 26 i y) = md_nb M := by
  funext N s w
  unfold md_nb
  rw [md_dg_26, sc_up_ne M i y (a := 26) (b := 20) (by decide), sc_up_ne M i y (a := 26) (b := 21) (by decide)]
theorem cl_fr_26 (M : sc_M) (i : Nat) (y : Int) : cl_fr (sc_up M 26 i y) = cl_fr M := by
  funext k
  unfold cl_fr
  rw [sc_up_ne M i y (a := 26) (b := 18) (by decide), sc_up_ne M i y (a := 26) (b := 20) (by decide), sc_up_ne M i y (a := 26) (b := 25) (by decide)]
theorem na_sd_26 (M : sc_M) (i : Nat) (y : Int) : na_sd (sc_up M 26 i y) = na_sd M := by
  funext k
  unfold na_sd
  rw [sc_up_ne M i y (a := 26) (b := 20) (by decide), sc_up_ne M i y (a := 26) (b := 21) (by decide)]
theorem md_ro_26 (M : sc_M) (i : Nat) (y : Int) : md_ro (sc_up M 26 i y) = md_ro M := by
  funext n w
  unfold md_ro
  rw [md_dg_26, sc_up_ne M i y (a := 26) (b := 21) (by decide), sc_up_ne M i y (a := 26) (b := 22) (by decide), sc_up_ne M i y (a := 26) (b := 23) (by decide)]
theorem cl_A_26 (M : sc_M) (i : Nat) (y : Int) : cl_A (sc_up M 26 i y) = cl_A M := by
  funext N W ω v c key s
  unfold cl_A
  rw [md_nb_26, md_kn_26, md_dg_26]
theorem cl_W_26 (M : sc_M) (i : Nat) (y : Int) (N W : Nat) (v ω : Nat → Int) : ∀ j, cl_W (sc_up M 26 i y) N W v ω j = cl_W M N W v ω j
  | 0 => rfl
  | j + 1 => by
    rw [cl_W, cl_W, cl_W_26 M i y N W v ω j]
    funext w
    unfold cl_D
    rw [cl_fr_26, md_dg_26, cl_A_26, md_nb_26, md_kn_26, sc_up_ne M i y (a := 26) (b := 21) (by decide)]
theorem cl_dec_26 (M : sc_M) (i : Nat) (y : Int) (N c key : Nat) (κ v : Nat → Int) : cl_dec (sc_up M 26 i y) N c key κ v = cl_dec M N c key κ v := by
  unfold cl_dec
  rw [cl_A_26, na_sd_26, cl_W_26, sc_up_ne M i y (a := 26) (b := 21) (by decide)]
theorem cl_w_26 {M : sc_M} {N : Nat} (hw : mo_w M N) (n p : Nat) (hn : n < N) (hK : M 20 n = 0) (hp : p < 27) (y : Int) (w : Nat) : ∀ k, k ≤ N → cl_w (sc_up M 26 (27 * n + p) y) w k = cl_w M w k
  | 0, _ => rfl
  | k + 1, hk => by
    rw [cl_w, cl_w, cl_w_26 hw n p hn hK hp y w k (by omega), md_ro_26, md_dg_26, sc_up_ne M (27 * n + p) y (a := 26) (b := 20) (by decide)]
    by_cases hKk : M 20 k = 0
    · rw [if_pos hKk, if_pos hKk]
    · rw [if_neg hKk, if_neg hKk]
      congr 1
      unfold cl_f
      rw [sc_up_ne M (27 * n + p) y (a := 26) (b := 18) (by decide), sc_up_ne M (27 * n + p) y (a := 26) (b := 20) (by decide), sc_up_ne M (27 * n + p) y (a := 26) (b := 25) (by decide), sc_up_eq]
      by_cases h1 : (k : Int) = M 18 13
      · rw [if_pos h1, if_pos h1]
      · rw [if_neg h1, if_neg h1]
        by_cases h2 : M 20 k = 1
        · rw [if_pos h2, if_pos h2]
          have hro := md_ro_lt hw k w (by omega)
          have hby := (mo_byb hw k (by omega)).2.2 h2
          have hd := md_dg_ok hw w k (by omega) hKk
          have hS := (hw.2.2.1 k (by omega)).2.2.1 hKk
          have hkn : ¬ k = n := fun h => by rw [h] at hKk; exact hKk hK
          simp only []
          rw [if_neg (by omega)]
        · rw [if_neg h2, if_neg h2]
theorem md_on_26 {M : sc_M} {N : Nat} (hw : mo_w M N) (n p : Nat) (hn : n < N) (hK : M 20 n = 0) (hp : p < 27) (y : Int) (w : Nat) : ∀ k, k ≤ N → md_onp (sc_up M 26 (27 * n + p) y) w k = md_onp M w k + (if n < k ∧ md_ro M n w = (p : Int) then y - M 26 (27 * n + p) else 0)
  | 0, _ => by
    rw [if_neg (by omega)]
    rfl
  | k + 1, hk => by
    have ih := md_on_26 hw n p hn hK hp y w k (by omega)
    rw [md_onp_s, md_onp_s, ih, md_ro_26, sc_up_ne M (27 * n + p) y (a := 26) (b := 20) (by decide), sc_up_eq]
    have hro := md_ro_lt hw k w (by omega)
    have hby := mo_byb hw k (by omega)
    simp only []
    by_cases hkn : k = n
    · subst hkn
      rw [if_pos hK, if_pos hK, if_neg (show ¬ (k < k ∧ md_ro M k w = (p : Int)) by omega)]
      by_cases hq : md_ro M k w = (p : Int)
      · rw [if_pos (show (27 * (k : Int) + md_ro M k w).toNat = 27 * k + p by omega), if_pos (show k < k + 1 ∧ md_ro M k w = (p : Int) from ⟨by omega, hq⟩), show (27 * (k : Int) + md_ro M k w).toNat = 27 * k + p by omega]
        omega
      · rw [if_neg (show ¬ (27 * (k : Int) + md_ro M k w).toNat = 27 * k + p by omega), if_neg (show ¬ (k < k + 1 ∧ md_ro M k w = (p : Int)) from fun h => hq h.2)]
        omega
    · rw [if_neg (show ¬ (27 * (k : Int) + md_ro M k w).toNat = 27 * n + p by omega)]
      have e : (n < k + 1 ∧ md_ro M n w = (p : Int)) ↔ (n < k ∧ md_ro M n w = (p : Int)) := ⟨fun h => ⟨by omega, h.2⟩, fun h => ⟨by omega, h.2⟩⟩
      by_cases hq : n < k ∧ md_ro M n w = (p : Int)
      · rw [if_pos hq, if_pos (e.mpr hq)]
        split <;> omega
      · rw [if_neg hq, if_neg (fun h => hq (e.mp h))]
        split <;> omega
theorem mo_x_26 {M : sc_M} {N : Nat} (hx : mo_x M N) (i : Nat) (y : Int) : mo_x (sc_up M 26 i y) N := by
  unfold mo_x at *
  rw [sc_up_ne M i y (a := 26) (b := 25) (by decide), sc_up_ne M i y (a := 26) (b := 20) (by decide), sc_up_ne M i y (a := 26) (b := 21) (by decide), sc_up_ne M i y (a := 26) (b := 22) (by decide), sc_up_ne M i y (a := 26) (b := 23) (by decide), sc_up_ne M i y (a := 26) (b := 24) (by decide)]
  exact hx
/-- where all worlds count, the class decides as the reference -/
theorem cl_dec_md {M : sc_M} {N : Nat} (hw : mo_w M N) (hx : mo_x M N) (c : Nat) (hcN : c < N) (hfr : cl_fr M c) (key : Nat) : cl_dec M N c key (fun w => cl_w M w N) (md_on M N) = md_PL M N (na_sd M N) N c key := by
  have hA := cl_A_md hw hx c (N - (c + 1)) (by omega) hfr _ (cl_W_md hw hx (N - (c + 1)) (by omega)) key
  have e1 := congrFun (md_PL_stay M N (na_sd M N) c c (N - c) (by omega) (by omega)) key
  rw [show N - c + c = N by omega] at e1
  rw [e1, show N - c = (N - (c + 1)) + 1 by omega]
  show cl_dec M N c key (fun w => cl_w M w N) (md_on M N) = if c = N - 1 - (N - (c + 1)) ∧ md_ic M c then md_st M N (md_PL M N (na_sd M N) (N - (c + 1))) (na_sd M N) c key else md_PL M N (na_sd M N) (N - (c + 1)) c key
  rw [if_pos ⟨by omega, cl_fr_ic hfr⟩, ← hA]
  rfl
theorem md_fk_kn {M : sc_M} {N : Nat} (hw : mo_w M N) (hx : mo_x M N) (c : Nat) (hc : c < N) : md_fk M N c = mo_nb (M 20) (M 21) (md_fs M c) (md_kn M c) c := by
  have hN1 := hw.1
  have e := md_nb_stop hw (md_kn M c) (md_fs M c) c (fun k h1 h2 h3 => by have := (md_kn_ahead hw hx c hc k (by omega) h3).1; omega) (N - c) (by omega)
  rw [show c + (N - c) = N by omega] at e
  exact e
theorem md_fk_26 (M : sc_M) (i : Nat) (y : Int) (N c : Nat) : md_fk (sc_up M 26 i y) N c = md_fk M N c := by
  unfold md_fk md_fs
  rw [md_kn_26, sc_up_ne M i y (a := 26) (b := 20) (by decide), sc_up_ne M i y (a := 26) (b := 21) (by decide), sc_up_ne M i y (a := 26) (b := 25) (by decide)]
theorem cl_span_dec {M : sc_M} {N : Nat} (hw : mo_w M N) (hx : mo_x M N) (c : Nat) (hcN : c < N) (hfr : cl_fr M c) (n p : Nat) (hn : n < N) (hK : M 20 n = 0) (hp : p < 27) (key : Nat) (hkk : mo_nb (M 20) (M 21) (md_fs M c) (md_kn M c) c = (key : Int)) (κ : Nat → Int) (hκ : κ = fun w => if md_nb M N (md_kn M c) w = (key : Int) then cl_w M w N else 0) (mv : Nat → Prop) (hmv : mv = fun w => ¬ κ w = 0 ∧ md_ro M n w = (p : Int)) (y : Int) (hy : -100 ≤ y ∧ y ≤ 100) : cl_dec M N c key κ (cl_vd mv (md_on M N) (y - M 26 (27 * n + p))) = md_fd (sc_up M 26 (27 * n + p) y) N (na_sd M N) c := by
  have hw' := mo_w_26 hw n p hK hp y hy
  have hx' := mo_x_26 hx (27 * n + p) y
  have h1 := cl_dec_md hw' hx' c hcN (by rw [cl_fr_26]; exact hfr) key
  rw [cl_dec_26, na_sd_26] at h1
  unfold md_fd
  rw [md_fk_26, md_fk_kn hw hx c hcN, hkk, Int.toNat_natCast, ← h1]
  refine cl_dec_R hw c hcN (cl_fr_ic hfr) key _ _ _ _ (fun w hw9 => ⟨fun hψ => ?_, fun hψ => ?_⟩)
  · have e1 : κ w = cl_w M w N := by rw [hκ]; exact if_pos hψ
    have e2 : cl_w (sc_up M 26 (27 * n + p) y) w N = cl_w M w N := cl_w_26 hw n p hn hK hp y w N (Nat.le_refl _)
    have e3 : md_on (sc_up M 26 (27 * n + p) y) N w = md_on M N w + (if n < N ∧ md_ro M n w = (p : Int) then y - M 26 (27 * n + p) else 0) := md_on_26 hw n p hn hK hp y w N (Nat.le_refl _)
    rw [e1, e2, e3]
    refine ⟨rfl, ?_⟩
    by_cases hz : cl_w M w N = 0
    · rw [hz, Int.zero_mul, Int.zero_mul]
    · congr 1
      unfold cl_vd
      congr 1
      by_cases hro : md_ro M n w = (p : Int)
      · rw [sc_if_pos _ _ (by rw [hmv]; exact ⟨by rw [e1]; exact hz, hro⟩), if_pos ⟨hn, hro⟩]
      · rw [sc_if_neg _ _ (by rw [hmv]; exact fun h => hro h.2), if_neg (fun h => hro h.2)]
  · rw [hκ]
    exact if_neg hψ
theorem sc_far_cg (g g' : Int → Int) (be st : Int) (h : ∀ y, -100 ≤ y ∧ y ≤ 100 → g y = g' y) : ∀ f e, sc_far g be st f e = sc_far g' be st f e
  | 0, _ => rfl
  | f + 1, e => by
    rw [sc_far, sc_far, sc_far_cg g g' be st h f (e + st)]
    by_cases hr : -100 ≤ e + st ∧ e + st ≤ 100
    · rw [if_pos hr, if_pos hr, h _ hr]
    · rw [if_neg hr, if_neg hr]
theorem sc_far_all (g : Int → Int) (be st : Int) (hst : st = 1 ∨ st = -1) (h : ∀ y, -100 ≤ y ∧ y ≤ 100 → g y = be) : ∀ (f : Nat) (e : Int), -100 ≤ e ∧ e ≤ 100 → 100 - st * e < (f : Int) → sc_far g be st f e = st * 100
  | 0, e, h1, h2 => by exfalso; rcases hst with rfl | rfl <;> omega
  | f + 1, e, h1, h2 => by
    rw [sc_far]
    by_cases hr : -100 ≤ e + st ∧ e + st ≤ 100
    · rw [if_pos hr, if_pos (h _ hr)]
      exact sc_far_all g be st hst h f (e + st) hr (by rcases hst with rfl | rfl <;> omega)
    · rw [if_neg hr]
      rcases hst with rfl | rfl <;> omega
/-- the class's answer is the reference's -/
theorem cl_span_md {M : sc_M} {N : Nat} (hw : mo_w M N) (hx : mo_x M N) (c : Nat) (hcN : c < N) (hfr : cl_fr M c) (n p : Nat) (hn : n < N) (hK : M 20 n = 0) (hp : p < 27) (key : Nat) (hkk : mo_nb (M 20) (M 21) (md_fs M c) (md_kn M c) c = (key : Int)) (κ : Nat → Int) (hκ : κ = fun w => if md_nb M N (md_kn M c) w = (key : Int) then cl_w M w N else 0) (mv : Nat → Prop) (hmv : mv = fun w => ¬ κ w = 0 ∧ md_ro M n w = (p : Int)) (st : Int) (hst : st = 1 ∨ st = -1) : (if cl_mn mv (na_sd M N) = 0 then st * 100 else sc_far (fun y => cl_dec M N c key κ (cl_vd mv (md_on M N) (y - M 26 (27 * n + p)))) (cl_dec M N c key κ (md_on M N)) st 201 (M 26 (27 * n + p))) = sc_far (fun y => md_fd (sc_up M 26 (27 * n + p) y) N (na_sd M N) c) (md_fd M N (na_sd M N) c) st 201 (M 26 (27 * n + p)) := by
  have hd := fun y hy => cl_span_dec hw hx c hcN hfr n p hn hK hp key hkk κ hκ mv hmv y hy
  have hxr := (hw.2.2.1 n hn).2.2.2.2.2.2.2 p hp
  have eself : sc_up M 26 (27 * n + p) (M 26 (27 * n + p)) = M := by
    rw [sc_up_arr, show (fun j => if j = 27 * n + p then M 26 (27 * n + p) else M 26 j) = M 26 from funext fun j => by
      split
      · rename_i h; rw [h]
      · rfl, sc_arr_self]
  have h0 := hd (M 26 (27 * n + p)) ⟨hxr.1, hxr.2.1⟩
  rw [Int.sub_self, cl_vd_0, eself] at h0
  rw [h0, sc_far_cg _ _ _ _ hd]
  by_cases hc : cl_mn mv (na_sd M N) = 0
  · rw [if_pos hc]
    refine (sc_far_all _ _ st hst (fun y hy => ?_) 201 _ ⟨hxr.1, hxr.2.1⟩ (by rcases hst with rfl | rfl <;> omega)).symm
    rw [← hd y hy, ← h0]
    have hno : ∀ w, w < na_sd M N → ¬ mv w := fun w hw9 hm => by
      have a1 := cl_mn_pos mv w hm
      have a2 := (cl_mn_le mv (na_sd M N - (w + 1)) (w + 1)).1
      rw [show w + 1 + (na_sd M N - (w + 1)) = na_sd M N by omega] at a2
      omega
    refine cl_dec_R hw c hcN (cl_fr_ic hfr) key _ _ _ _ (fun w hw9 => ⟨fun _ => ⟨rfl, ?_⟩, fun hψ => by rw [hκ]; exact if_neg hψ⟩)
    unfold cl_vd
    rw [sc_if_neg _ _ (hno w hw9), Int.add_zero]
  · rw [if_neg hc]
