theorem ck_g_2 (G : sc_G) (u : Nat → Nat) : (ck_g G u).2.1 = G.2.1 := rfl
theorem ck_Lsc_cg {G : sc_G} {u u2 : Nat → Nat} (h : ∀ a, a < 18 ∨ 36 ≤ a → u a = u2 a) : ck_w G u ck_Lsc = ck_w G u2 ck_Lsc := by
  have f : ∀ v : Nat → Nat, ck_w G v ck_Lsc = (v 0, sc_cel (ck_g G v) ck_0 0) :: (ck_w G v ck_Lwo ++ ck_w G v [12, 13, 14] ++ ck_w G v [15, 36, 37, 38, 39] ++ ck_w G v [16] ++ ck_w G v [17]) := fun v => by
    rw [← ck_w_app, ← ck_w_app, ← ck_w_app, ← ck_w_app]
    rfl
  have g : ∀ v : Nat → Nat, ck_w G v [12, 13, 14] = [(v 12, sc_cel (ck_g G v) ck_0 12), (v 13, sc_cel (ck_g G v) ck_0 13), (v 14, sc_cel (ck_g G v) ck_0 14)] := fun v => rfl
  have g2 : ∀ v : Nat → Nat, ck_w G v [15, 36, 37, 38, 39] = [(v 15, sc_cel (ck_g G v) ck_0 15), (v 36, sc_cel (ck_g G v) ck_0 36), (v 37, sc_cel (ck_g G v) ck_0 37), (v 38, sc_cel (ck_g G v) ck_0 38), (v 39, sc_cel (ck_g G v) ck_0 39)] := fun v => rfl
  have g1 : ∀ v : Nat → Nat, ∀ a, ck_w G v [a] = [(v a, sc_cel (ck_g G v) ck_0 a)] := fun v a => rfl
  rw [f, f, ck_Lwo_cg (fun a ha => h a (by omega)), g, g, g2, g2, g1, g1, g1, g1, ck_cel_0, ck_cel_0, ck_cel_12, ck_cel_12, ck_cel_13, ck_cel_13, ck_cel_14, ck_cel_14, ck_cel_15, ck_cel_15, ck_cel_36, ck_cel_36, ck_cel_37, ck_cel_37, ck_cel_38, ck_cel_38, ck_cel_39, ck_cel_39, ck_cel_16, ck_cel_16, ck_cel_17, ck_cel_17, h 0 (by omega), h 1 (by omega), h 2 (by omega), h 12 (by omega), h 13 (by omega), h 14 (by omega), h 15 (by omega), h 36 (by omega), h 37 (by omega), h 38 (by omega), h 39 (by omega), h 16 (by omega), h 17 (by omega), show (fun i => some (u (36 + i))) = fun i => some (u2 (36 + i)) from funext fun i => by rw [h (36 + i) (by omega)]]
theorem ck_Lmo_cg {G : sc_G} {u u2 : Nat → Nat} (h : ∀ a, 18 ≤ a ∧ a < 36 → u a = u2 a) : ck_w G u ck_Lmo = ck_w G u2 ck_Lmo := by
  unfold ck_w ck_Lmo
  simp only [List.map_cons, List.map_nil, ck_cel_18, ck_cel_19, ck_cel_20, ck_cel_21, ck_cel_22, ck_cel_23, ck_cel_24, ck_cel_25, ck_cel_26, ck_cel_27, ck_cel_28, ck_cel_29, ck_cel_30, ck_cel_31, ck_cel_32, ck_cel_33, ck_cel_34, ck_cel_35]
  rw [h 18 (by omega), h 19 (by omega), h 20 (by omega), h 21 (by omega), h 22 (by omega), h 23 (by omega), h 24 (by omega), h 25 (by omega), h 26 (by omega), h 27 (by omega), h 28 (by omega), h 29 (by omega), h 30 (by omega), h 31 (by omega), h 32 (by omega), h 33 (by omega), h 34 (by omega), h 35 (by omega)]
theorem ck_all : ∀ a, a < 70 → a ∈ ck_Lsc ++ ck_Lmo := by decide
theorem ck_nodup : va_nd (ck_Lsc ++ ck_Lmo) = true := by decide +kernel
section
variable {p : Program} {l : Launch} {e : Env} {s : State} {m : MethodId} {below : List Frame} {meth : Method} {c : Code} {b L : Nat} {xs : Nat → Int32} {G : sc_G}
theorem lw_inc {i : Nat} {μ : sc_M} (C : lw_At p s m meth c b L xs) (k : lw_W p l e s m below meth c b G (i + 6) μ 18 []) : lw_W p l e s m below meth c b G i μ 1208 [] := by
  intro H locs ls hP hS hl
  obtain ⟨hx, hb, -⟩ := C
  refine lv_iinc (v := Int32.ofInt ((i + 6 : Nat) : Int)) (lv' := [(3, .int (Int32.ofInt ((i + 6 : Nat) : Int))), (2, .ref (G.2.2 18)), (1, .ref (G.2.2 0)), (0, .ref b)]) hx hb d_law_1208 hl (k := 0) rfl (by rw [← Int32.ofInt_add]; rfl) (by decide) rfl (fun ls hl => ?_)
  refine lv_goto (tgt := 18) hx hb d_law_1211 (by decide) ?_
  exact k H locs ls hP hS hl
theorem lw_exit {i : Nat} {μ : sc_M} (C : lw_At p s m meth c b L xs) : lw_W p l e s m below meth c b G i μ 1214 [] := by
  intro H locs ls hP hS hl
  obtain ⟨hx, hb, hr, -, -, -, -, -, hlocks, -⟩ := C
  refine lv_iconst (v := 1) hx hb d_law_1214 (by decide) ?_
  refine va_forget (fun q hq => hS.2.2 q hq) ?_
  refine W.widen (k := 600000) (n := 7302250) (by omega) (by omega) ?_
  exact lw_ret hx hb hr hlocks d_law_1215
theorem lw_turn {i N : Nat} {μ : sc_M} (C : lw_At p s m meth c b L xs) (hG : lw_G G s) (hL : L ≤ 3072) (hi : i + 6 ≤ L) (hiv : iv_ok μ N) (k : ∀ μ2 N2, iv_ok μ2 N2 → lw_W p l e s m below meth c b G i μ2 1208 []) : lw_W p l e s m below meth c b G i μ 27 [] := by
  intro H locs ls hP hS hl
  have C0 := C
  obtain ⟨hx, hb, -, -, -, -, hX, hbl, -, -⟩ := C
  obtain ⟨f1, f2⟩ := lw_vin (j := i) (L := L) (by omega) hL
  refine lv_aload_n hx hb d_law_27 rfl (lv_at hl 3 rfl) ?_
  refine lv_iload_n hx hb d_law_28 rfl (lv_at hl 0 rfl) ?_
  refine va_sld (A := fun q : Nat => s.heap.size ≤ q) hx hb hX hbl (by show ¬ s.heap.size ≤ b; omega) hS f2 d_law_29 ?_
  refine lv_bipush (v := 63) hx hb d_law_30 (by decide) ?_
  refine lv_iand hx hb d_law_32 ?_
  refine lv_topi (fun y _ => ?_)
  by_cases hy : 0 ≤ y.toInt ∧ y.toInt ≤ 34
  · obtain ⟨t, ht⟩ : ∃ t, t = y.toInt := ⟨_, rfl⟩
    have h35 : t = 0 ∨ t = 1 ∨ t = 2 ∨ t = 3 ∨ t = 4 ∨ t = 5 ∨ t = 6 ∨ t = 7 ∨ t = 8 ∨ t = 9 ∨ t = 10 ∨ t = 11 ∨ t = 12 ∨ t = 13 ∨ t = 14 ∨ t = 15 ∨ t = 16 ∨ t = 17 ∨ t = 18 ∨ t = 19 ∨ t = 20 ∨ t = 21 ∨ t = 22 ∨ t = 23 ∨ t = 24 ∨ t = 25 ∨ t = 26 ∨ t = 27 ∨ t = 28 ∨ t = 29 ∨ t = 30 ∨ t = 31 ∨ t = 32 ∨ t = 33 ∨ t = 34 := by omega
    rcases h35 with rfl | rfl | rfl | rfl | rfl | rfl | rfl | rfl | rfl | rfl | rfl | rfl | rfl | rfl | rfl | rfl | rfl | rfl | rfl | rfl | rfl | rfl | rfl | rfl | rfl | rfl | rfl | rfl | rfl | rfl | rfl | rfl | rfl | rfl | rfl
    · exact lv_tableIn (off := 155) (tgt := 188) hx hb d_law_33 (by omega) (by omega) (by rw [← ht]; rfl) (by decide) (lw_c0 C0 hG hL hi hiv k H locs ls hP hS hl)
    · exact lv_tableIn (off := 188) (tgt := 221) hx hb d_law_33 (by omega) (by omega) (by rw [← ht]; rfl) (by decide) (lw_c1 C0 hG hL hi hiv k H locs ls hP hS hl)
    · exact lv_tableIn (off := 221) (tgt := 254) hx hb d_law_33 (by omega) (by omega) (by rw [← ht]; rfl) (by decide) (lw_c2 C0 hG hL hi hiv k H locs ls hP hS hl)
    · exact lv_tableIn (off := 254) (tgt := 287) hx hb d_law_33 (by omega) (by omega) (by rw [← ht]; rfl) (by decide) (lw_c3 C0 hG hL hi hiv k H locs ls hP hS hl)
    · exact lv_tableIn (off := 287) (tgt := 320) hx hb d_law_33 (by omega) (by omega) (by rw [← ht]; rfl) (by decide) (lw_c4 C0 hG hL hi hiv k H locs ls hP hS hl)
    · exact lv_tableIn (off := 340) (tgt := 373) hx hb d_law_33 (by omega) (by omega) (by rw [← ht]; rfl) (by decide) (lw_c5 C0 hG hL hi hiv k H locs ls hP hS hl)
    · exact lv_tableIn (off := 383) (tgt := 416) hx hb d_law_33 (by omega) (by omega) (by rw [← ht]; rfl) (by decide) (lw_c6 C0 hG hL hi hiv k H locs ls hP hS hl)
    · exact lv_tableIn (off := 426) (tgt := 459) hx hb d_law_33 (by omega) (by omega) (by rw [← ht]; rfl) (by decide) (lw_c7 C0 hG hL hi hiv k H locs ls hP hS hl)
    · exact lv_tableIn (off := 459) (tgt := 492) hx hb d_law_33 (by omega) (by omega) (by rw [← ht]; rfl) (by decide) (lw_c8 C0 hG hL hi hiv k H locs ls hP hS hl)
    · exact lv_tableIn (off := 492) (tgt := 525) hx hb d_law_33 (by omega) (by omega) (by rw [← ht]; rfl) (by decide) (lw_c9 C0 hG hL hi hiv k H locs ls hP hS hl)
    · exact lv_tableIn (off := 525) (tgt := 558) hx hb d_law_33 (by omega) (by omega) (by rw [← ht]; rfl) (by decide) (lw_c10 C0 hG hL hi hiv k H locs ls hP hS hl)
    · exact lv_tableIn (off := 548) (tgt := 581) hx hb d_law_33 (by omega) (by omega) (by rw [← ht]; rfl) (by decide) (lw_c11 C0 hG hL hi hiv k H locs ls hP hS hl)
    · exact lv_tableIn (off := 561) (tgt := 594) hx hb d_law_33 (by omega) (by omega) (by rw [← ht]; rfl) (by decide) (lw_c12 C0 hG hL hi hiv k H locs ls hP hS hl)
    · exact lv_tableIn (off := 574) (tgt := 607) hx hb d_law_33 (by omega) (by omega) (by rw [← ht]; rfl) (by decide) (lw_c13 C0 hG hL hi hiv k H locs ls hP hS hl)
    · exact lv_tableIn (off := 607) (tgt := 640) hx hb d_law_33 (by omega) (by omega) (by rw [← ht]; rfl) (by decide) (lw_c14 C0 hG hL hi hiv k H locs ls hP hS hl)
    · exact lv_tableIn (off := 620) (tgt := 653) hx hb d_law_33 (by omega) (by omega) (by rw [← ht]; rfl) (by decide) (lw_c15 C0 hG hL hi hiv k H locs ls hP hS hl)
    · exact lv_tableIn (off := 633) (tgt := 666) hx hb d_law_33 (by omega) (by omega) (by rw [← ht]; rfl) (by decide) (lw_c16 C0 hG hL hi hiv k H locs ls hP hS hl)
    · exact lv_tableIn (off := 666) (tgt := 699) hx hb d_law_33 (by omega) (by omega) (by rw [← ht]; rfl) (by decide) (lw_c17 C0 hG hL hi hiv k H locs ls hP hS hl)
    · exact lv_tableIn (off := 679) (tgt := 712) hx hb d_law_33 (by omega) (by omega) (by rw [← ht]; rfl) (by decide) (lw_c18 C0 hG hL hi hiv k H locs ls hP hS hl)
    · exact lv_tableIn (off := 702) (tgt := 735) hx hb d_law_33 (by omega) (by omega) (by rw [← ht]; rfl) (by decide) (lw_c19 C0 hG hL hi hiv k H locs ls hP hS hl)
    · exact lv_tableIn (off := 735) (tgt := 768) hx hb d_law_33 (by omega) (by omega) (by rw [← ht]; rfl) (by decide) (lw_c20 C0 hG hL hi hiv k H locs ls hP hS hl)
    · exact lv_tableIn (off := 794) (tgt := 827) hx hb d_law_33 (by omega) (by omega) (by rw [← ht]; rfl) (by decide) (lw_c21 C0 hG hL hi hiv k H locs ls hP hS hl)
    · exact lv_tableIn (off := 827) (tgt := 860) hx hb d_law_33 (by omega) (by omega) (by rw [← ht]; rfl) (by decide) (lw_c22 C0 hG hL hi hiv k H locs ls hP hS hl)
    · exact lv_tableIn (off := 866) (tgt := 899) hx hb d_law_33 (by omega) (by omega) (by rw [← ht]; rfl) (by decide) (lw_c23 C0 hG hL hi hiv k H locs ls hP hS hl)
    · exact lv_tableIn (off := 899) (tgt := 932) hx hb d_law_33 (by omega) (by omega) (by rw [← ht]; rfl) (by decide) (lw_c24 C0 hG hL hi hiv k H locs ls hP hS hl)
    · exact lv_tableIn (off := 942) (tgt := 975) hx hb d_law_33 (by omega) (by omega) (by rw [← ht]; rfl) (by decide) (lw_c25 C0 hG hL hi hiv k H locs ls hP hS hl)
    · exact lv_tableIn (off := 965) (tgt := 998) hx hb d_law_33 (by omega) (by omega) (by rw [← ht]; rfl) (by decide) (lw_c26 C0 hG hL hi hiv k H locs ls hP hS hl)
    · exact lv_tableIn (off := 1028) (tgt := 1061) hx hb d_law_33 (by omega) (by omega) (by rw [← ht]; rfl) (by decide) (lw_c27 C0 hG hL hi hiv k H locs ls hP hS hl)
    · exact lv_tableIn (off := 1061) (tgt := 1094) hx hb d_law_33 (by omega) (by omega) (by rw [← ht]; rfl) (by decide) (lw_c28 C0 hG hL hi hiv k H locs ls hP hS hl)
    · exact lv_tableIn (off := 1074) (tgt := 1107) hx hb d_law_33 (by omega) (by omega) (by rw [← ht]; rfl) (by decide) (lw_c29 C0 hG hL hi hiv k H locs ls hP hS hl)
    · exact lv_tableIn (off := 1088) (tgt := 1121) hx hb d_law_33 (by omega) (by omega) (by rw [← ht]; rfl) (by decide) (lw_c30 C0 hG hL hi hiv k H locs ls hP hS hl)
    · exact lv_tableIn (off := 1102) (tgt := 1135) hx hb d_law_33 (by omega) (by omega) (by rw [← ht]; rfl) (by decide) (lw_c31 C0 hG hL hi hiv k H locs ls hP hS hl)
    · exact lv_tableIn (off := 1125) (tgt := 1158) hx hb d_law_33 (by omega) (by omega) (by rw [← ht]; rfl) (by decide) (lw_c32 C0 hG hL hi hiv k H locs ls hP hS hl)
    · exact lv_tableIn (off := 1138) (tgt := 1171) hx hb d_law_33 (by omega) (by omega) (by rw [← ht]; rfl) (by decide) (lw_c33 C0 hG hL hi hiv k H locs ls hP hS hl)
    · exact lv_tableIn (off := 1161) (tgt := 1194) hx hb d_law_33 (by omega) (by omega) (by rw [← ht]; rfl) (by decide) (lw_c34 C0 hG hL hi hiv k H locs ls hP hS hl)
  · exact lv_tableOut (tgt := 1208) hx hb d_law_33 (by omega) (by decide) (k μ N hiv H locs ls hP hS hl)
theorem lw_loop (C : lw_At p s m meth c b L xs) (hG : lw_G G s) (hL : L ≤ 3072) : ∀ (n i : Nat) (μ : sc_M) (N : Nat), L < i + n → i ≤ L + 6 → iv_ok μ N → lw_W p l e s m below meth c b G i μ 18 [] := by
  have head : ∀ (i : Nat) (μ : sc_M), i ≤ L + 6 → (¬ i + 6 ≤ L → lw_W p l e s m below meth c b G i μ 1214 []) → (i + 6 ≤ L → lw_W p l e s m below meth c b G i μ 27 []) → lw_W p l e s m below meth c b G i μ 18 [] := by
    intro i μ hi6 k1 k2 H locs ls hP hS hl
    obtain ⟨hx, hb, -, -, -, -, hX, hbl, -, -⟩ := C
    refine lv_iload_n hx hb d_law_18 rfl (lv_at hl 0 rfl) ?_
    refine lv_aload_n hx hb d_law_19 rfl (lv_at hl 3 rfl) ?_
    refine va_slen (A := fun q : Nat => s.heap.size ≤ q) hx hb hX hbl (by show ¬ s.heap.size ≤ b; omega) hS d_law_20 ?_
    refine lv_bipush (v := Int32.ofInt 6) hx hb d_law_21 (by decide) ?_
    refine lv_isub hx hb d_law_23 ?_
    have e1 : Int32.ofNat L - Int32.ofInt 6 = Int32.ofInt ((L : Int) - 6) := by
      rw [Int32.ofInt_sub]
      rfl
    rw [e1]
    refine lv_icmp_gt (tgt := 1214) hx hb d_law_24 (by decide) (fun q => ?_) (fun q => ?_)
    · rw [sc_ilt ⟨by omega, by omega⟩ ⟨by omega, by omega⟩] at q
      exact k1 (by omega) H locs ls hP hS hl
    · rw [sc_ilt ⟨by omega, by omega⟩ ⟨by omega, by omega⟩] at q
      exact k2 (by omega) H locs ls hP hS hl
  intro n
  induction n with
  | zero => exact fun i μ N h hi6 hiv => head i μ hi6 (fun _ => lw_exit C) (fun h2 => absurd h2 (by omega))
  | succ n ih => exact fun i μ N h hi6 hiv => head i μ hi6 (fun _ => lw_exit C) (fun h2 => lw_turn C hG hL h2 hiv (fun μ2 N2 hiv2 => lw_inc C (ih (i + 6) μ2 N2 (by omega) (by omega) hiv2)))
end
set_option maxHeartbeats 4000000 in
set_option maxRecDepth 100000 in
/-- THE LAW, from its entry -/
theorem whole_start {p : Program} {e : Env} {s : State} {m : MethodId} {below : List Frame} {meth : Method} {c : Code} (l : Launch) {b L : Nat} {xs : Nat → Int32} (hL : L ≤ 3072) (C0 : lw_At p s m meth c b L xs) : W p l e room_1 s m #[Value.ref b] below meth c s.heap [] 0 0 (lw_Z below #[Value.ref b] s) (entryFrame m ([Value.ref b] : List Value).toArray 4) := by
  have hg := lw_hg C0
  obtain ⟨hx, hb, hr, hml, hown, hts, hX, hbl, hlocks, hgv⟩ := id C0
  have hA : ∀ q : Nat, s.heap.size ≤ q → (fun q : Nat => s.heap.size ≤ q) q := fun _ h => h
  obtain ⟨c0, iS0, hKn0⟩ := u_known (C := RX0) (T := TX0) (N := 3) (n := 3) hg sc_in0 (hg (.instantiable RX0 3) (sc_mem_ok (by decide +kernel)))
  obtain ⟨c1, iS1, hKn1⟩ := u_known (C := RX1) (T := TX1) (N := 4) (n := 4) hg sc_in1 (hg (.instantiable RX1 4) (sc_mem_ok (by decide +kernel)))
  obtain ⟨c2, iS2, hKn2⟩ := u_known (C := RX2) (T := TX2) (N := 9) (n := 9) hg sc_in2 (hg (.instantiable RX2 9) (sc_mem_ok (by decide +kernel)))
  obtain ⟨c3, iS3, hKn3⟩ := u_known (C := RX3) (T := TX3) (N := 12) (n := 12) hg sc_in3 (hg (.instantiable RX3 12) (sc_mem_ok (by decide +kernel)))
  obtain ⟨c4, iS4, hKn4⟩ := u_known (C := RX4) (T := TX4) (N := 10) (n := 10) hg sc_in4 (hg (.instantiable RX4 10) (sc_mem_ok (by decide +kernel)))
  obtain ⟨c5, iS5, hKn5⟩ := u_known (C := RX5) (T := TX5) (N := 23) (n := 23) hg sc_in5 (hg (.instantiable RX5 23) (sc_mem_ok (by decide +kernel)))
  obtain ⟨dC, dI, hKc⟩ : ∃ (dC : Nat → ClassId) (dI : Nat → Nat → Nat), ∀ (k : Nat) (q : vw_C), vwCl[k]? = some q → u_Kn s q.1 q.2.1 q.2.2 (dC k) (dI k) := by
    refine ⟨fun k => [c0, c1, c2, c3, c4, c5].getD k c0, fun k => [iS0, iS1, iS2, iS3, iS4, iS5].getD k iS0, ?_⟩
    intro k q hq
    match k, hq with
    | 0, hq => cases hq; exact hKn0
    | 1, hq => cases hq; exact hKn1
    | 2, hq => cases hq; exact hKn2
    | 3, hq => cases hq; exact hKn3
    | 4, hq => cases hq; exact hKn4
    | 5, hq => cases hq; exact hKn5
    | k + 6, hq => simp [vwCl] at hq
  obtain ⟨a0, k0, m0, n1, n2, n3⟩ := Cond.arrayClass_spec (hg (.arrayClass .int) (sc_mem_ok (by decide +kernel)))
  obtain ⟨a1, k1, m1, n4, n5, n6⟩ := Cond.arrayClass_spec (hg (.arrayClass .long) (sc_mem_ok (by decide +kernel)))
  obtain ⟨a2, k2, m2, n7, n8, n9⟩ := Cond.arrayClass_spec (hg (.arrayClass .boolean) (sc_mem_ok (by decide +kernel)))
  have hAO : va_AO "SightChart$Node" s := va_AO.of (hts (.arrayOver (.object "SightChart$Node")) (by decide +kernel))
  obtain ⟨m3, a3, k3, o1, -, o2, o3, o4⟩ := Cond.arrayOver_spec hAO
  obtain ⟨m4, a4, k4, o5, -, o6, o7, o8⟩ := arrayOverA_spec (hts (.arrayOver (.array .int)) (by decide +kernel))
  have e40 : m4 = a0 := Option.some.inj (o5.symm.trans n1)
  subst e40
  have hKt : ∀ u : Nat → Nat, va_K (dC, dI) vwCl (sc_tys ((dC, dI), ((fun k => [m4, a1, a2, a3, a4].getD k m4), u))) s := fun u => by
    refine ⟨hKc, fun k q hq => ?_⟩
    match k, hq with
    | 0, hq => cases hq; exact ⟨fun n z => ⟨fun k h => (by cases h), k0, n2, m0, n3⟩, n1⟩
    | 1, hq => cases hq; exact ⟨fun n z => ⟨fun k h => (by cases h), k1, n5, m1, n6⟩, n4⟩
    | 2, hq => cases hq; exact ⟨fun n z => ⟨fun k h => (by cases h), k2, n8, m2, n9⟩, n7⟩
    | 3, hq => cases hq; exact ⟨fun n z => ⟨fun k h => (by cases h), k3, o2, m3, o3⟩, k3, m3, o2, o3, o1, o4⟩
    | 4, hq => cases hq; exact ⟨fun n z => ⟨fun k h => (by cases h), k4, o6, m4, o7⟩, o8⟩
    | k + 5, hq => simp [sc_tys] at hq
  obtain ⟨G0, hG0⟩ : ∃ G0 : sc_G, G0 = ((dC, dI), ((fun k => [m4, a1, a2, a3, a4].getD k m4), fun _ => 0)) := ⟨_, rfl⟩
  have hK : va_K G0.1 vwCl (sc_tys G0) s := by rw [hG0]; exact hKt _
  have hN : ck_N G0 s := by
    rw [hG0]
    exact ⟨va_Nw.of rfl (hts _ (by decide +kernel)), va_Nw.of rfl (hts _ (by decide +kernel)), va_Nw.of rfl (hts _ (by decide +kernel)), hAO, k4, o6, o7⟩
  have hKu : ∀ u : Nat → Nat, va_K (ck_g G0 u).1 vwCl (sc_tys (ck_g G0 u)) s := fun u => by rw [hG0]; exact hKt u
  clear hKt hKc
  have hS : va_S (fun q : Nat => s.heap.size ≤ q) s.heap s.heap [] := va_S.rf
  have hP : va_P G0.1 vwCl ([] : va_W) s.heap := fun k q h => by simp at h
  have hD : va_D (fun q : Nat => s.heap.size ≤ q) ([] : va_W) := ⟨fun i j p q h => by simp at h, fun k q h => by simp at h⟩
  have hl := lv_entry ([.ref b]) (n := 4) (Nat.le_of_ble_eq_true rfl)
  rw [lg_entry_eq]
  generalize (lg_sl ([.ref b]) ++ List.replicate (4 - (lg_sl ([.ref b])).length) Slot.unset).toArray = ls at hl ⊢
  have hl : lv_has ls 4 [(0, .ref b)] := hl
  refine va_new (ci := 4) (fs := [.null, .null, .null, .null, .null, .null, .int 0, .int 0, .long 0, .long 0]) (C := RX4) (T := TX4) (N := 10) hx hb hg sc_in4 tyX4 tyX4_ok hown (hg (.classLink "SightChartLaw" 7 RX4) (sc_mem_ok (by decide +kernel))) (hg (.instantiable RX4 10) (sc_mem_ok (by decide +kernel))) (hg (.initialized RX4) (sc_mem_ok (by decide +kernel))) hK hP hD hS hA rfl (fun j hj => by rcases (show j = 0 ∨ j = 1 ∨ j = 2 ∨ j = 3 ∨ j = 4 ∨ j = 5 ∨ j = 6 ∨ j = 7 ∨ j = 8 ∨ j = 9 by omega) with rfl | rfl | rfl | rfl | rfl | rfl | rfl | rfl | rfl | rfl <;> rfl) (by decide) (by decide) d_law_0 (fun qn H hP hD hS => ?_)
  refine W.widen (k := 1) (n := 10) (by omega) (by omega) ?_
  refine lv_dup hx hb d_law_3 rfl ?_
  have hFc := ck_free (ws := ([] : va_W)) hD hS hA
  refine va_callv (va_runI (As := []) (rest := [.ref qn]) ⟨hx, hb, hml, hown, hg⟩ (ct_Sc_init l G0 qn H.size) (cwI 0 hg (ck_good cm_Sc_init) rfl rfl rfl (hg (.initialized mq_Sc_init.1.cls) (sc_mem_ok (by decide +kernel))) (hg (.methodLink "SightChartLaw" 9 mq_Sc_init.1) (sc_mem_ok (by decide +kernel))) (hg (.instanceMethod mq_Sc_init.1) (sc_mem_ok (by decide +kernel))) rfl (by decide +kernel) ⟨by decide, by decide⟩) (ck_pr (ck_P_last (ws := ([] : va_W)) hP) hK hN) rfl rfl hl.1 rfl (lv_room (Nat.le_of_ble_eq_true rfl)) d_law_4 ⟨by decide, by decide⟩) hS (fun q _ h => hFc q h) hFc (fun u1 t H1 locs ht hvm hw hB hz1 hk1 hS => ?_)
  obtain ⟨hP1, hD1⟩ := hB
  rw [ht] at hP1
  obtain ⟨hP9, hD9⟩ := ck_join (ws := ([] : va_W)) hP hD hk1 hFc hP1 hD1
  clear hP hD hFc hk1 hP1 hD1
  subst hw
  have hP : va_P G0.1 vwCl (ck_w G0 u1 ck_Lsc) H1 := hP9
  have hD : va_D (fun q : Nat => s.heap.size ≤ q) (ck_w G0 u1 ck_Lsc) := hD9
  clear hP9 hD9
  refine W.widen (k := 52) (n := 2281) (by omega) (by omega) ?_
  refine lv_astore_n (lv' := [(1, .ref (u1 0)), (0, .ref b)]) hx hb d_law_7 rfl hl (by decide) rfl (fun ls hl => ?_)
  refine va_new (ci := 5) (fs := [.int 0, .null, .int 0, .long 0, .long 0, .int 0, .null, .null, .null, .null, .null, .null, .null, .int 0, .null, .null, .null, .null, .null, .null, .null, .null, .null]) (C := RX5) (T := TX5) (N := 23) hx hb hg sc_in5 tyX5 tyX5_ok hown (hg (.classLink "SightChartLaw" 10 RX5) (sc_mem_ok (by decide +kernel))) (hg (.instantiable RX5 23) (sc_mem_ok (by decide +kernel))) (hg (.initialized RX5) (sc_mem_ok (by decide +kernel))) hK hP hD hS hA rfl (fun j hj => by rcases (show j = 0 ∨ j = 1 ∨ j = 2 ∨ j = 3 ∨ j = 4 ∨ j = 5 ∨ j = 6 ∨ j = 7 ∨ j = 8 ∨ j = 9 ∨ j = 10 ∨ j = 11 ∨ j = 12 ∨ j = 13 ∨ j = 14 ∨ j = 15 ∨ j = 16 ∨ j = 17 ∨ j = 18 ∨ j = 19 ∨ j = 20 ∨ j = 21 ∨ j = 22 by omega) with rfl | rfl | rfl | rfl | rfl | rfl | rfl | rfl | rfl | rfl | rfl | rfl | rfl | rfl | rfl | rfl | rfl | rfl | rfl | rfl | rfl | rfl | rfl <;> rfl) (by decide) (by decide) d_law_8 (fun qm H hP hD hS => ?_)
  refine W.widen (k := 53) (n := 2304) (by omega) (by omega) ?_
  refine lv_dup hx hb d_law_11 rfl ?_
  have hFc := ck_free (ws := ck_w G0 u1 ck_Lsc) hD hS hA
  refine va_callv (va_runI (As := []) (rest := [.ref qm]) ⟨hx, hb, hml, hown, hg⟩ (ct_Mo_init l G0 qm H.size) (cwI 0 hg (ck_good cm_Mo_init) rfl rfl rfl (hg (.initialized mq_Mo_init.1.cls) (sc_mem_ok (by decide +kernel))) (hg (.methodLink "SightChartLaw" 12 mq_Mo_init.1) (sc_mem_ok (by decide +kernel))) (hg (.instanceMethod mq_Mo_init.1) (sc_mem_ok (by decide +kernel))) rfl (by decide +kernel) ⟨by decide, by decide⟩) (ck_pr (ck_P_last (ws := ck_w G0 u1 ck_Lsc) hP) hK hN) rfl rfl hl.1 rfl (lv_room (Nat.le_of_ble_eq_true rfl)) d_law_12 ⟨by decide, by decide⟩) hS (fun q _ h => hFc q h) hFc (fun u2 t2 H2 locs ht2 hvm2 hw2 hB hz2 hk2 hS => ?_)
  obtain ⟨hP1, hD1⟩ := hB
  rw [ht2] at hP1
  obtain ⟨hP9, hD9⟩ := ck_join (ws := ck_w G0 u1 ck_Lsc) hP hD hk2 hFc hP1 hD1
  clear hP hD hFc hk2 hP1 hD1
  subst hw2
  refine W.widen (k := 70) (n := 6231) (by omega) (by omega) ?_
  refine lv_astore_n (lv' := [(2, .ref (u2 18)), (1, .ref (u1 0)), (0, .ref b)]) hx hb d_law_15 rfl hl (by decide) rfl (fun ls hl => ?_)
  refine lv_iconst (v := Int32.ofInt ((0 : Nat) : Int)) hx hb d_law_16 (by decide) ?_
  refine lv_istore_n (lv' := [(3, .int (Int32.ofInt ((0 : Nat) : Int))), (2, .ref (u2 18)), (1, .ref (u1 0)), (0, .ref b)]) hx hb d_law_17 rfl hl (by decide) rfl (fun ls hl => ?_)
  obtain ⟨u, hu⟩ : ∃ u : Nat → Nat, u = fun a => if 18 ≤ a ∧ a < 36 then u2 a else u1 a := ⟨_, rfl⟩
  have hu1 : ∀ a, a < 18 ∨ 36 ≤ a → u a = u1 a := fun a ha => by rw [hu]; exact if_neg (by omega)
  have hu2 : ∀ a, 18 ≤ a ∧ a < 36 → u a = u2 a := fun a ha => by rw [hu]; exact if_pos ha
  have e0 : ck_w G0 u1 ck_Lsc ++ ck_w G0 u2 ck_Lmo = ck_w G0 u (ck_Lsc ++ ck_Lmo) := by
    rw [ck_w_app, ck_Lsc_cg hu1, ck_Lmo_cg hu2]
  rw [e0] at hP9 hD9
  rw [← hu1 0 (by omega), ← hu2 18 (by omega)] at hl
  have hmem : ∀ a, a < 70 → (u a, sc_cel (ck_g G0 u) ck_0 a) ∈ ck_w G0 u (ck_Lsc ++ ck_Lmo) := fun a ha => List.mem_map.mpr ⟨a, ck_all a ha, rfl⟩
  have hG : lw_G (ck_g G0 u) s := by
    refine ⟨⟨fun a1 a2 h1 h2 h3 => ?_, hKu u⟩, fun a ha => ?_⟩
    · obtain ⟨i, hi⟩ := List.getElem?_of_mem (ck_all a1 h1)
      obtain ⟨j, hj⟩ := List.getElem?_of_mem (ck_all a2 h2)
      have f1 : (ck_w G0 u (ck_Lsc ++ ck_Lmo))[i]? = some (u a1, sc_cel (ck_g G0 u) ck_0 a1) := by
        unfold ck_w
        rw [List.getElem?_map, hi]
        rfl
      have f2 : (ck_w G0 u (ck_Lsc ++ ck_Lmo))[j]? = some (u a2, sc_cel (ck_g G0 u) ck_0 a2) := by
        unfold ck_w
        rw [List.getElem?_map, hj]
        rfl
      have hij := hD9.1 i j _ _ f1 f2 h3
      subst hij
      rw [hi] at hj
      exact Option.some.inj hj
    · obtain ⟨i, hi⟩ := List.getElem?_of_mem (hmem a ha)
      exact hD9.2 i _ hi
  have hPw : va_P (ck_g G0 u).1 vwCl (sc_w (ck_g G0 u) ck_0) H2 := by
    refine ck_P_of (fun q hq => ?_)
    obtain ⟨a, ha, rfl⟩ := List.mem_map.mp hq
    exact ck_P_mem hP9 (hmem a (List.mem_range.mp ha))
  exact lw_loop C0 hG hL (L + 1) 0 ck_0 0 (by omega) (by omega) ck_iv H2 _ ls hPw hS hl
-- ===== YOUR PART ENDS =====
set_option maxHeartbeats 4000000 in
theorem lw_walk (l : Launch) (b : Addr) (xs : List Int32) : MetFree l x (headSpec (Jvm.Cond.code x code maxLocals ret :: tables_1) room_1) (lw_P b xs) (fun _ _ _ _ _ => True) lw_Q := by
  refine MetFree.of_bodyS (code := code) (maxLocals := maxLocals) (ret := ret) (by decide) ?_ ?_
  · intro args s m h hn
    obtain ⟨meth, c, h1, h2, h3, h4, h5, h6, -, -⟩ := Cond.code_spec hn (atoms_spec (ws := Jvm.Cond.code x code maxLocals ret :: tables_1) h _ List.mem_cons_self)
    exact ⟨meth, c, h1, h2, h3, h4, h5, h6⟩
  · intro p e s m args below meth c s₁ B hml0 hP _
    obtain ⟨rfl, hx, hbd, hgv⟩ := hP
    obtain ⟨scr, harrAt, hlist, hof, hsmall⟩ := hx
    obtain ⟨hcb, hkn, -, -⟩ := State.arrayAt?_spec harrAt
    have hown : s.vm.findClass R_law = some m.cls := findClass_of_methodNamed B.named
    have hts0 : ∀ c ∈ (Jvm.Cond.code x code maxLocals ret :: tables_1), c.before #[Value.ref b] s = true := atoms_spec (ws := Jvm.Cond.code x code maxLocals ret :: tables_1) B.pre
    have hts : ∀ w ∈ lw_tbl, w.before #[Value.ref b] s = true := k2_hts_sels lw_privs (fun w hw => hts0 w (List.mem_cons_of_mem _ hw)) lw_privs_ok
    have hml : c.maxLocals = 4 := B.maxLocals_eq (hts0 _ List.mem_cons_self)
    have X₀ : Stand p l e room_1 s m #[Value.ref b] below meth c s₁ [] 0 0 := Stand.of_body B
    have hh0 : s₁.heap = s.heap := by rw [B.state]; rfl
    have hsz : scr.slots.size = xs.length := by rw [← Array.length_toList, hlist, List.length_map]
    have hval : ∀ j : Nat, j < xs.length → scr.slots[j]? = some (.int (xs.getD j 0)) := fun j hj => by
      rw [← Array.getElem?_toList, hlist]
      simp [hj]
    have hbl : b < s.heap.size := (Array.getElem?_eq_some_iff.mp hcb).1
    have hX : va_X b xs.length (fun j => xs.getD j 0) s s.heap := ⟨scr, hcb, hof, hkn, hsz, hval⟩
    have K : W p l e room_1 s m #[Value.ref b] below meth c s₁.heap [] 0 0 (lw_Z below #[Value.ref b] s) (entryFrame m ([Value.ref b] : List Value).toArray 4) := by
      rw [hh0]
      exact whole_start l hbd ⟨B.exec, B.bytes, B.returns, hml, hown, hts, hX, hbl, B.notSynchronized, hgv⟩
    obtain ⟨t, a1, o, b1, b2, b3⟩ := K s₁ rfl X₀
    exact ⟨t, o, a1, b1, b2, b3⟩
theorem lw_pre_spec {args : Array Value} {s : State} (h : (Jvm.Cond.and given_1 narrow_1).before args s = true) (hr : rest_1_c.before args s = true) : ∃ (b : Addr) (xs : List Int32), lw_P b xs args s := by
  have hs := flat_of_before _ h
  have hq := flat_of_before _ hr
  have hc : (Cond.count 1).before args s = true := hs _ (by decide +kernel)
  have harr : (Cond.arrayOf (.arg 0) .int).before args s = true := hs _ (by decide +kernel)
  have hle : (Cond.le (.length (.arg 0)) (.int 3072)).before args s = true := hs _ (by decide +kernel)
  have hlen : (Cond.isInt (.length (.arg 0))).before args s = true := hq _ (by decide +kernel)
  have hall : (Cond.all (.arg 0) (.isInt (.elem (.arg 0) (.index 0)))).before args s = true := hq _ (by decide +kernel)
  obtain ⟨b, xs, hb, hx⟩ := State.ints_of_pre rfl harr hlen hall
  have hsm : xs.length < 2 ^ 31 := hx.choose_spec.2.2.2
  have hev : (Term.length (.arg 0)).eval args s none [] s = some (.int xs.length.toInt32) := hx.length_eval hb
  have hv := Cond.le_ints hev (show (Term.int 3072).eval args s none [] s = some (.int 3072) from rfl)
  have hd : xs.length.toInt32 ≤ 3072 := by
    simpa [Cond.before, Cond.holds, hv] using hle
  have hN : xs.length ≤ 3072 := (Int32.ofNat_le_ofNat hsm (by decide)).mp (show Int32.ofNat xs.length ≤ Int32.ofNat 3072 from hd)
  exact ⟨b, xs, Cond.one_arg hc (show args[0]? = some (.ref b) from hb), hx, hN, h⟩
theorem lw_comes (l : Launch) : Comes l x (Jvm.Cond.code x code maxLocals ret :: tables_1) room_1 (fun tb e args s => Calls_1 tb e args s ∧ rest_1 tb e args s ∧ Pre_1 tb e args s)
    (fun _ _ args s o t => lw_Q args s o t) := by
  intro p e ha hc hk s m args below hf hfit hheap happ hpre
  obtain ⟨b, xs, hP⟩ := lw_pre_spec hpre.2.2 hpre.2.1
  obtain ⟨k, o, h1, h2, h3, hQ⟩ := lw_walk l b xs p e ha hc hk s m args below hf ((Spec.applies_iff_loose hf).mp happ).1 hP trivial
  exact ⟨k, o, h1, h2, h3, hQ⟩
theorem lw_frame {s t : State} {o : Outcome} {args : Array Value} (h : Framed s o t [] 600000 7302250) :
    Framed s o t (fieldLocs frame_1_writes args s ++ arrayLocs frame_1_arrays args s ++ staticLocs frame_1_statics s) 600000 7302250 := h
theorem lw_limb (L : Cond) (hL : ∀ (args : Array Value) (s t : State), L.after args s (.returned (some (.int 1))) t = true) :
    ArmFor flags0 classFile x code maxLocals ret World_1 tables_1 room_1 Calls_1 rest_1 Pre_1
      (fun tb e a s o t => postC L tb e a s o t ∧ Framed s o t (fieldLocs frame_1_writes a s ++ arrayLocs frame_1_arrays a s ++ staticLocs frame_1_statics s) 600000 7302250) := by
  intro l _ _ _ p e ha hc hk s m args below hf hfit hheap happ hpre
  obtain ⟨k, o, h1, h2, h3, rfl, hF⟩ := lw_comes l p e ha hc hk s m args below hf hfit hheap happ hpre
  exact ⟨k, _, h1, h2, h3, hL args s _, lw_frame hF⟩
theorem i_vc : Claimed_1_1 ∧ Claimed_1_2 := ⟨lw_limb limb_1_1 (fun args s t => by simp [limb_1_1, Cond.after, Cond.holds, Cond.value]), lw_limb limb_1_2 (fun args s t => Cond.after_iff.mpr (by
  first | (rw [show limb_1_2 = Cond.eq .result (.int 1) from rfl, Cond.eq_ints (x := 1) (y := 1) rfl rfl]; simp; done) | (simp [limb_1_2, Cond.value, Term.eval]; done)))⟩
