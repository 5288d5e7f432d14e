/-! THE PLAN AS NUMBERS. M: a memory whose cells 18, 20 .. 26 are the chart -/
noncomputable def sc_if (p : Prop) (a b : Int) : Int := @ite Int p (Classical.propDecidable p) a b
theorem sc_if_pos {p : Prop} (a b : Int) (h : p) : sc_if p a b = a := if_pos h
theorem sc_if_neg {p : Prop} (a b : Int) (h : ¬ p) : sc_if p a b = b := if_neg h
theorem sc_if_iff {p q : Prop} (a b : Int) (h : p ↔ q) : sc_if p a b = sc_if q a b := by rw [propext h]
def sc_sum (f : Nat → Int) : Nat → Int
  | 0 => 0
  | w + 1 => sc_sum f w + f w
theorem sc_sum_cg (f g : Nat → Int) : ∀ W, (∀ w, w < W → f w = g w) → sc_sum f W = sc_sum g W
  | 0, _ => rfl
  | W + 1, h => by rw [sc_sum, sc_sum, sc_sum_cg f g W (fun w hw => h w (by omega)), h W (by omega)]
theorem sc_sum_mul (a : Int) (f : Nat → Int) : ∀ W, sc_sum (fun w => a * f w) W = a * sc_sum f W
  | 0 => by simp [sc_sum]
  | W + 1 => by rw [sc_sum, sc_sum, sc_sum_mul a f W, Int.mul_add]
theorem sc_sum_zero (f : Nat → Int) : ∀ W, (∀ w, w < W → f w = 0) → sc_sum f W = 0
  | 0, _ => rfl
  | W + 1, h => by rw [sc_sum, sc_sum_zero f W (fun w hw => h w (by omega)), h W (by omega)]; rfl
theorem sc_sum_le (f : Nat → Int) (B : Int) : ∀ W : Nat, (∀ w, w < W → -B ≤ f w ∧ f w ≤ B) → -(W * B) ≤ sc_sum f W ∧ sc_sum f W ≤ W * B
  | 0, _ => by simp [sc_sum]
  | W + 1, h => by
    have h1 := sc_sum_le f B W (fun w hw => h w (by omega))
    have h2 := h W (by omega)
    rw [sc_sum, sc_cast1, Int.add_mul, Int.one_mul]
    constructor <;> omega
def md_dg (M : sc_M) (w : Nat) : Nat → Int := mo_dg (M 20) (M 21) (w : Int)
noncomputable def md_kn (M : sc_M) (c : Nat) : Int := mo_ka (M 20) (M 22) (M 23) (M 24) (M 18 13) c c
/-- the number of the states that a set of nodes shows -/
noncomputable def md_nb (M : sc_M) (N : Nat) (s : Int) (w : Nat) : Int := mo_nb (M 20) (M 21) (md_dg M w) s N
def md_wt (M : sc_M) (N w : Nat) : Int := mo_wn (M 20) (M 21) (M 22) (M 23) (M 26) (md_dg M w) (M 18 13) N
def md_on (M : sc_M) (N w : Nat) : Int := mo_on (M 20) (M 21) (M 22) (M 23) (M 26) (md_dg M w) N
abbrev md_ic (M : sc_M) (k : Nat) : Prop := mo_ic (M 20) (M 18 13) k
/-- does world w go at k as plan P says, by what is known kn -/
noncomputable def md_go (M : sc_M) (N : Nat) (kn : Nat → Int) (P : Nat → Nat → Int) (w k : Nat) : Prop := md_dg M w k = if 0 ≤ M 25 k then M 25 k else P k (md_nb M N (kn k) w).toNat
def md_bh (M : sc_M) (N : Nat) (kn : Nat → Int) (P : Nat → Nat → Int) (c w : Nat) : Prop := ∀ k, c < k → k < N → md_ic M k → md_go M N kn P w k
def md_cm (M : sc_M) (N : Nat) (kn : Nat → Int) (P : Nat → Nat → Int) (w : Nat) : Prop := ∀ k, k < N → md_ic M k → md_go M N kn P w k
def md_fo (M : sc_M) (c w : Nat) : Prop := ∀ k, k < c → M 25 k < 0 ∨ md_dg M w k = M 25 k
noncomputable def md_tm (M : sc_M) (N : Nat) (P : Nat → Nat → Int) (c key s w : Nat) : Int := sc_if (md_nb M N (md_kn M c) w = key ∧ md_dg M w c = s ∧ md_bh M N (md_kn M) P c w) (md_wt M N w * md_on M N w) 0
noncomputable def md_sm (M : sc_M) (N : Nat) (P : Nat → Nat → Int) (W c key s : Nat) : Int := sc_sum (md_tm M N P c key s) W
def md_cb (M : sc_M) (N W c key : Nat) : Prop := ∃ w, w < W ∧ md_nb M N (md_kn M c) w = key ∧ 0 < md_wt M N w ∧ md_fo M c w
noncomputable def md_st (M : sc_M) (N : Nat) (P : Nat → Nat → Int) (W c key : Nat) : Int := sc_if (md_cb M N W c key) (mo_am (md_sm M N P W c key) (M 21 c).toNat : Int) 0
/-- the plan when the last j nodes are through -/
noncomputable def md_PL (M : sc_M) (N W : Nat) : Nat → Nat → Nat → Int
  | 0 => fun _ _ => 0
  | j + 1 => fun k key => if k = N - 1 - j ∧ md_ic M k then md_st M N (md_PL M N W j) W k key else md_PL M N W j k key
noncomputable def md_tot (M : sc_M) (N W : Nat) (kn : Nat → Int) (P : Nat → Nat → Int) : Int := sc_sum (fun w => sc_if (md_cm M N kn P w) (md_wt M N w * md_on M N w) 0) W
noncomputable def md_best (M : sc_M) (N W : Nat) : Int := md_tot M N W (md_kn M) (md_PL M N W N)
/-- two memories that hold the same chart -/
def mo_sm (M μ : sc_M) : Prop := ∀ b, b = 18 ∨ (20 ≤ b ∧ b ≤ 26) → μ b = M b
theorem mo_sm_w {M μ : sc_M} {N : Nat} (h : mo_sm M μ) (hw : mo_w M N) : mo_w μ N := mo_w_cells hw h
theorem mo_nb_cg (K S f g : Nat → Int) (s : Int) : ∀ n, (∀ k, k < n → f k = g k) → mo_nb K S f s n = mo_nb K S g s n
  | 0, _ => rfl
  | n + 1, h => by rw [mo_nb, mo_nb, mo_nb_cg K S f g s n (fun k hk => h k (by omega)), h n (by omega)]
theorem mo_rw_cg (S R f g : Nat → Int) (i : Nat) : ∀ n, (∀ k, k < n → f (R (3 * i + k)).toNat = g (R (3 * i + k)).toNat) → mo_rw S R f i n = mo_rw S R g i n
  | 0, _ => rfl
  | n + 1, h => by rw [mo_rw, mo_rw, mo_rw_cg S R f g i n (fun k hk => h k (by omega)), h n (by omega)]
theorem mo_rw_cg1 (M : sc_M) (N : Nat) (hw : ∀ n, n < N → mo_nd M n) (f g : Nat → Int) (h : ∀ k, k < N → f k = g k) (n : Nat) (hn : n < N) : mo_rw (M 21) (M 23) f n (M 22 n).toNat = mo_rw (M 21) (M 23) g n (M 22 n).toNat := by
  refine mo_rw_cg _ _ _ _ _ _ (fun k hk => h _ ?_)
  obtain ⟨-, -, -, -, hp, -, -, -⟩ := hw n hn
  have := hp k hk
  omega
theorem mo_wn_cg (M : sc_M) (N : Nat) (hw : ∀ n, n < N → mo_nd M n) (f g : Nat → Int) (h : ∀ k, k < N → f k = g k) (z : Int) : ∀ n, n ≤ N → mo_wn (M 20) (M 21) (M 22) (M 23) (M 26) f z n = mo_wn (M 20) (M 21) (M 22) (M 23) (M 26) g z n
  | 0, _ => rfl
  | n + 1, hn => by rw [mo_wn, mo_wn, mo_wn_cg M N hw f g h z n (by omega), mo_rw_cg1 M N hw f g h n (by omega), h n (by omega)]
theorem mo_on_cg (M : sc_M) (N : Nat) (hw : ∀ n, n < N → mo_nd M n) (f g : Nat → Int) (h : ∀ k, k < N → f k = g k) : ∀ n, n ≤ N → mo_on (M 20) (M 21) (M 22) (M 23) (M 26) f n = mo_on (M 20) (M 21) (M 22) (M 23) (M 26) g n
  | 0, _ => rfl
  | n + 1, hn => by rw [mo_on, mo_on, mo_on_cg M N hw f g h n (by omega), mo_rw_cg1 M N hw f g h n (by omega)]
theorem mo_fo_iff (F f : Nat → Int) : ∀ c, mo_fo F f c = true ↔ ∀ k, k < c → F k < 0 ∨ f k = F k
  | 0 => by simp [mo_fo]
  | c + 1 => by
    rw [mo_fo, Bool.and_eq_true, mo_fo_iff F f c, Bool.or_eq_true, decide_eq_true_eq, decide_eq_true_eq]
    constructor
    · intro ⟨h1, h2⟩ k hk
      rcases Nat.lt_or_ge k c with h | h
      · exact h1 k h
      · rw [show k = c by omega]; exact h2
    · exact fun h => ⟨fun k hk => h k (by omega), h c (by omega)⟩
theorem mo_bh_iff (K S f F kn pl : Nat → Int) (h : Int) (N c : Nat) : ∀ j, mo_bh K S f F kn pl h N c j = true ↔ ∀ i, i < j → mo_ic K h (c + 1 + i) → f (c + 1 + i) = mo_gv K S f F kn pl N (c + 1 + i)
  | 0 => by simp [mo_bh]
  | j + 1 => by
    rw [mo_bh, Bool.and_eq_true, mo_bh_iff K S f F kn pl h N c j, Bool.or_eq_true, decide_eq_true_eq, decide_eq_true_eq]
    constructor
    · intro ⟨h1, h2⟩ k hk hi
      rcases Nat.lt_or_ge k j with h | h
      · exact h1 k h hi
      · rw [show k = j by omega] at hi ⊢; exact h2.resolve_left (fun q => q hi)
    · refine fun h => ⟨fun k hk => h k (by omega), ?_⟩
      by_cases hi : mo_ic K ‹Int› (c + 1 + j)
      · exact Or.inr (h j (by omega) hi)
      · exact Or.inl hi
theorem mo_cm_iff (K S f F kn pl : Nat → Int) (h : Int) (N : Nat) : ∀ j, mo_cm K S f F kn pl h N j = true ↔ ∀ i, i < j → mo_ic K h i → f i = mo_gv K S f F kn pl N i
  | 0 => by simp [mo_cm]
  | j + 1 => by
    rw [mo_cm, Bool.and_eq_true, mo_cm_iff K S f F kn pl h N j, Bool.or_eq_true, decide_eq_true_eq, decide_eq_true_eq]
    constructor
    · intro ⟨h1, h2⟩ k hk hi
      rcases Nat.lt_or_ge k j with h | h
      · exact h1 k h hi
      · rw [show k = j by omega] at hi ⊢; exact h2.resolve_left (fun q => q hi)
    · refine fun h => ⟨fun k hk => h k (by omega), ?_⟩
      by_cases hi : mo_ic K ‹Int› j
      · exact Or.inr (h j (by omega) hi)
      · exact Or.inl hi
theorem mo_now_dg (K S : Nat → Int) (w : Int) (f : Nat → Int) (N : Nat) : ∀ k, k < N → mo_now K S w f N k = mo_dg K S w k := fun k hk => by
  simp only [mo_now, hk, if_true]
theorem md_dg_ok {M : sc_M} {N : Nat} (hw : mo_w M N) (w : Nat) : mo_ok (M 20) (M 21) (md_dg M w) N := by
  have h := mo_now_ok (M 20) (M 21) (w := (w : Int)) (by omega) (M 27) N (fun k hk => (hw.2.2.1 k hk).2.2.1)
  intro k hk hK
  have h1 := h k hk hK
  rw [mo_now_dg _ _ _ _ _ k hk] at h1
  exact h1
theorem md_nb_lt {M : sc_M} {N : Nat} (hw : mo_w M N) (s : Int) (w : Nat) : 0 ≤ md_nb M N s w ∧ md_nb M N s w < mo_sd (M 20) (M 21) N := mo_nb_lt _ _ _ s N (fun k hk => (hw.2.2.1 k hk).2.2.1) (md_dg_ok hw w) N (Nat.le_refl _)
/-- what is so of the memory while world w is set -/
theorem mo_w_at {M m : sc_M} {N : Nat} (hs : mo_sm M m) (hw : mo_w M N) (w : Nat) (h27 : ∀ k, k < N → m 27 k = md_dg M w k) : (∀ s, mo_nb (m 20) (m 21) (m 27) s N = md_nb M N s w) ∧ mo_wn (m 20) (m 21) (m 22) (m 23) (m 26) (m 27) (m 18 13) N = md_wt M N w ∧ mo_on (m 20) (m 21) (m 22) (m 23) (m 26) (m 27) N = md_on M N w := by
  rw [hs 20 (by omega), hs 21 (by omega), hs 22 (by omega), hs 23 (by omega), hs 26 (by omega), hs 18 (by omega)]
  exact ⟨fun s => mo_nb_cg _ _ _ _ _ _ h27, mo_wn_cg M N hw.2.2.1 _ _ h27 _ N (Nat.le_refl _), mo_on_cg M N hw.2.2.1 _ _ h27 N (Nat.le_refl _)⟩
/-- as far as the choices in question go, the memory has this plan -/
def mo_has (M m : sc_M) (N : Nat) (kn : Nat → Int) (P : Nat → Nat → Int) (q : Nat → Prop) : Prop := ∀ k, k < N → q k → md_ic M k → m 31 k = kn k ∧ ∀ key, key < 243 → m 28 (243 * k + key) = P k key
theorem mo_gv_at {M m : sc_M} {N : Nat} (hs : mo_sm M m) (hw : mo_w M N) (w : Nat) (h27 : ∀ k, k < N → m 27 k = md_dg M w k) {kn : Nat → Int} {P : Nat → Nat → Int} {q : Nat → Prop} (hp : mo_has M m N kn P q) (k : Nat) (hk : k < N) (hq : q k) (hi : md_ic M k) : (m 27 k = mo_gv (m 20) (m 21) (m 27) (m 25) (m 31) (m 28) N k) ↔ md_go M N kn P w k := by
  have h1 := hp k hk hq hi
  unfold mo_gv md_go
  rw [(mo_w_at hs hw w h27).1, h27 k hk, hs 25 (by omega), h1.1]
  have h2 := md_nb_lt hw (kn k) w
  have h3 := hw.2.2.2.1
  rw [show (243 * (k : Int) + md_nb M N (kn k) w).toNat = 243 * k + (md_nb M N (kn k) w).toNat by omega, h1.2 _ (by omega)]
theorem mo_bh_at {M m : sc_M} {N : Nat} (hs : mo_sm M m) (hw : mo_w M N) (w : Nat) (h27 : ∀ k, k < N → m 27 k = md_dg M w k) {kn : Nat → Int} {P : Nat → Nat → Int} {c : Nat} (hp : mo_has M m N kn P (fun k => c < k)) (hc : c < N) : mo_bh (m 20) (m 21) (m 27) (m 25) (m 31) (m 28) (m 18 13) N c (N - (c + 1)) = true ↔ md_bh M N kn P c w := by
  rw [mo_bh_iff]
  have e : ∀ k, mo_ic (m 20) (m 18 13) k ↔ md_ic M k := fun k => by unfold mo_ic; rw [hs 20 (by omega), hs 18 (by omega)]
  constructor
  · intro h k hk1 hk2 hi
    have h1 := h (k - (c + 1)) (by omega)
    rw [show c + 1 + (k - (c + 1)) = k by omega, e] at h1
    exact (mo_gv_at hs hw w h27 hp k hk2 hk1 hi).mp (h1 hi)
  · intro h i hi1 hi
    rw [e] at hi
    exact (mo_gv_at hs hw w h27 hp (c + 1 + i) (by omega) (by omega) hi).mpr (h _ (by omega) (by omega) hi)
theorem mo_cm_at {M m : sc_M} {N : Nat} (hs : mo_sm M m) (hw : mo_w M N) (w : Nat) (h27 : ∀ k, k < N → m 27 k = md_dg M w k) {kn : Nat → Int} {P : Nat → Nat → Int} (hp : mo_has M m N kn P (fun _ => True)) : mo_cm (m 20) (m 21) (m 27) (m 25) (m 31) (m 28) (m 18 13) N N = true ↔ md_cm M N kn P w := by
  rw [mo_cm_iff]
  have e : ∀ k, mo_ic (m 20) (m 18 13) k ↔ md_ic M k := fun k => by unfold mo_ic; rw [hs 20 (by omega), hs 18 (by omega)]
  constructor
  · intro h k hk hi
    exact (mo_gv_at hs hw w h27 hp k hk trivial hi).mp (h k hk ((e k).mpr hi))
  · intro h k hk hi
    rw [e] at hi
    exact (mo_gv_at hs hw w h27 hp k hk trivial hi).mpr (h k hk hi)
