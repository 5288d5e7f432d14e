/-! THE CELLS AS THEY BEGIN -/
def ck_0 : sc_M := fun a k => if a = 0 then (if k = 9 then 1 else 0) else if a = 2 then (if k = 2 then 1 else 0) else if a = 16 then (if k < 4 then -1 else 0) else if a = 18 then (if k = 4 then 1 else if k = 13 then -9 else 0) else if a = 33 then (if k < 4 then -9 else 0) else 0
def ck_g (G : sc_G) (u : Nat → Nat) : sc_G := (G.1, (G.2.1, u))
def ck_w (G : sc_G) (u : Nat → Nat) (L : List Nat) : va_W := L.map (fun a => (u a, sc_cel (ck_g G u) ck_0 a))
theorem ck_w_app (G : sc_G) (u : Nat → Nat) (L L2 : List Nat) : ck_w G u (L ++ L2) = ck_w G u L ++ ck_w G u L2 := List.map_append
theorem ck_i0 : Int32.ofInt 0 = 0 := rfl
theorem ck_iif (i : Nat) (z : Int) (y : Int32) (h : Int32.ofInt z = y) : Int32.ofInt (if i < 4 then z else 0) = if i < 4 then y else 0 := by split <;> first | exact h | rfl
theorem ck_cel_0 (G : sc_G) (u : Nat → Nat) : sc_cel (ck_g G u) ck_0 0 = .inr (4, [.ref (u 1), .ref (u 2), .ref (u 12), .ref (u 15), .ref (u 16), .ref (u 17), .int 0, .int 0, .long 0, .long 1]) := rfl
theorem ck_cel_1 (G : sc_G) (u : Nat → Nat) : sc_cel (ck_g G u) ck_0 1 = .inr (3, [.ref (u 2), .ref (u 4), .ref (u 5), .ref (u 6), .ref (u 7), .ref (u 8), .ref (u 9), .ref (u 10), .ref (u 11), .int 0, .int 0, .int 0]) := rfl
theorem ck_cel_2 (G : sc_G) (u : Nat → Nat) : sc_cel (ck_g G u) ck_0 2 = .inr (0, [.ref (u 3), .int 0, .int 1]) := rfl
theorem ck_cel_3 (G : sc_G) (u : Nat → Nat) : sc_cel (ck_g G u) ck_0 3 = .inl (G.2.1 3, 10, .inr (.inr (.inr (.inr (fun i => some (u (40 + 3 * i))))))) := rfl
theorem ck_cel_4 (G : sc_G) (u : Nat → Nat) : sc_cel (ck_g G u) ck_0 4 = .inl (G.2.1 0, 10, .inl (fun _ => 0)) := rfl
theorem ck_cel_5 (G : sc_G) (u : Nat → Nat) : sc_cel (ck_g G u) ck_0 5 = .inl (G.2.1 0, 10, .inl (fun _ => 0)) := rfl
theorem ck_cel_6 (G : sc_G) (u : Nat → Nat) : sc_cel (ck_g G u) ck_0 6 = .inl (G.2.1 0, 243, .inl (fun _ => 0)) := rfl
theorem ck_cel_7 (G : sc_G) (u : Nat → Nat) : sc_cel (ck_g G u) ck_0 7 = .inl (G.2.1 0, 243, .inl (fun _ => 0)) := rfl
theorem ck_cel_8 (G : sc_G) (u : Nat → Nat) : sc_cel (ck_g G u) ck_0 8 = .inl (G.2.1 0, 243, .inl (fun _ => 0)) := rfl
theorem ck_cel_9 (G : sc_G) (u : Nat → Nat) : sc_cel (ck_g G u) ck_0 9 = .inl (G.2.1 1, 243, .inr (.inl (fun _ => 0))) := rfl
theorem ck_cel_10 (G : sc_G) (u : Nat → Nat) : sc_cel (ck_g G u) ck_0 10 = .inl (G.2.1 0, 243, .inl (fun _ => 0)) := rfl
theorem ck_cel_11 (G : sc_G) (u : Nat → Nat) : sc_cel (ck_g G u) ck_0 11 = .inl (G.2.1 0, 243, .inl (fun _ => 0)) := rfl
theorem ck_cel_12 (G : sc_G) (u : Nat → Nat) : sc_cel (ck_g G u) ck_0 12 = .inr (1, [.ref (u 13), .ref (u 14), .int 0, .int 0]) := rfl
theorem ck_cel_13 (G : sc_G) (u : Nat → Nat) : sc_cel (ck_g G u) ck_0 13 = .inl (G.2.1 0, 9, .inl (fun _ => 0)) := rfl
theorem ck_cel_14 (G : sc_G) (u : Nat → Nat) : sc_cel (ck_g G u) ck_0 14 = .inl (G.2.1 0, 243, .inl (fun _ => 0)) := rfl
theorem ck_cel_15 (G : sc_G) (u : Nat → Nat) : sc_cel (ck_g G u) ck_0 15 = .inl (G.2.1 4, 4, .inr (.inr (.inr (.inr (fun i => some (u (36 + i))))))) := rfl
theorem ck_cel_16 (G : sc_G) (u : Nat → Nat) : sc_cel (ck_g G u) ck_0 16 = .inl (G.2.1 0, 4, .inl (fun i => if i < 4 then -1 else 0)) := by
  have h : sc_cel (ck_g G u) ck_0 16 = .inl (G.2.1 0, 4, .inl (fun i => Int32.ofInt (if i < 4 then -1 else 0))) := rfl
  rw [h]
  congr 4
  funext i
  exact ck_iif i (-1) (-1) rfl
theorem ck_cel_17 (G : sc_G) (u : Nat → Nat) : sc_cel (ck_g G u) ck_0 17 = .inl (G.2.1 0, 6, .inl (fun _ => 0)) := rfl
theorem ck_cel_18 (G : sc_G) (u : Nat → Nat) : sc_cel (ck_g G u) ck_0 18 = .inr (5, [.int 0, .ref (u 19), .int 0, .long 0, .long 1, .int 0, .ref (u 20), .ref (u 21), .ref (u 22), .ref (u 23), .ref (u 24), .ref (u 25), .ref (u 26), .int (-9), .ref (u 27), .ref (u 28), .ref (u 29), .ref (u 30), .ref (u 31), .ref (u 32), .ref (u 33), .ref (u 34), .ref (u 35)]) := rfl
theorem ck_cel_19 (G : sc_G) (u : Nat → Nat) : sc_cel (ck_g G u) ck_0 19 = .inl (G.2.1 0, 6, .inl (fun _ => 0)) := rfl
theorem ck_cel_20 (G : sc_G) (u : Nat → Nat) : sc_cel (ck_g G u) ck_0 20 = .inl (G.2.1 0, 10, .inl (fun _ => 0)) := rfl
theorem ck_cel_21 (G : sc_G) (u : Nat → Nat) : sc_cel (ck_g G u) ck_0 21 = .inl (G.2.1 0, 10, .inl (fun _ => 0)) := rfl
theorem ck_cel_22 (G : sc_G) (u : Nat → Nat) : sc_cel (ck_g G u) ck_0 22 = .inl (G.2.1 0, 10, .inl (fun _ => 0)) := rfl
theorem ck_cel_23 (G : sc_G) (u : Nat → Nat) : sc_cel (ck_g G u) ck_0 23 = .inl (G.2.1 0, 30, .inl (fun _ => 0)) := rfl
theorem ck_cel_24 (G : sc_G) (u : Nat → Nat) : sc_cel (ck_g G u) ck_0 24 = .inl (G.2.1 0, 10, .inl (fun _ => 0)) := rfl
theorem ck_cel_25 (G : sc_G) (u : Nat → Nat) : sc_cel (ck_g G u) ck_0 25 = .inl (G.2.1 0, 10, .inl (fun _ => 0)) := rfl
theorem ck_cel_26 (G : sc_G) (u : Nat → Nat) : sc_cel (ck_g G u) ck_0 26 = .inl (G.2.1 0, 270, .inl (fun _ => 0)) := rfl
theorem ck_cel_27 (G : sc_G) (u : Nat → Nat) : sc_cel (ck_g G u) ck_0 27 = .inl (G.2.1 0, 10, .inl (fun _ => 0)) := rfl
theorem ck_cel_28 (G : sc_G) (u : Nat → Nat) : sc_cel (ck_g G u) ck_0 28 = .inl (G.2.1 0, 2430, .inl (fun _ => 0)) := rfl
theorem ck_cel_29 (G : sc_G) (u : Nat → Nat) : sc_cel (ck_g G u) ck_0 29 = .inl (G.2.1 1, 729, .inr (.inl (fun _ => 0))) := rfl
theorem ck_cel_30 (G : sc_G) (u : Nat → Nat) : sc_cel (ck_g G u) ck_0 30 = .inl (G.2.1 2, 243, .inl (fun _ => 0)) := rfl
theorem ck_cel_31 (G : sc_G) (u : Nat → Nat) : sc_cel (ck_g G u) ck_0 31 = .inl (G.2.1 0, 10, .inl (fun _ => 0)) := rfl
theorem ck_cel_32 (G : sc_G) (u : Nat → Nat) : sc_cel (ck_g G u) ck_0 32 = .inl (G.2.1 0, 10, .inl (fun _ => 0)) := rfl
theorem ck_cel_33 (G : sc_G) (u : Nat → Nat) : sc_cel (ck_g G u) ck_0 33 = .inl (G.2.1 0, 4, .inl (fun i => if i < 4 then -9 else 0)) := by
  have h : sc_cel (ck_g G u) ck_0 33 = .inl (G.2.1 0, 4, .inl (fun i => Int32.ofInt (if i < 4 then -9 else 0))) := rfl
  rw [h]
  congr 4
  funext i
  exact ck_iif i (-9) (-9) rfl
theorem ck_cel_34 (G : sc_G) (u : Nat → Nat) : sc_cel (ck_g G u) ck_0 34 = .inl (G.2.1 0, 108, .inl (fun _ => 0)) := rfl
theorem ck_cel_35 (G : sc_G) (u : Nat → Nat) : sc_cel (ck_g G u) ck_0 35 = .inl (G.2.1 0, 27, .inl (fun _ => 0)) := rfl
theorem ck_cel_36 (G : sc_G) (u : Nat → Nat) : sc_cel (ck_g G u) ck_0 36 = .inl (G.2.1 0, 27, .inl (fun _ => 0)) := rfl
theorem ck_cel_37 (G : sc_G) (u : Nat → Nat) : sc_cel (ck_g G u) ck_0 37 = .inl (G.2.1 0, 27, .inl (fun _ => 0)) := rfl
theorem ck_cel_38 (G : sc_G) (u : Nat → Nat) : sc_cel (ck_g G u) ck_0 38 = .inl (G.2.1 0, 27, .inl (fun _ => 0)) := rfl
theorem ck_cel_39 (G : sc_G) (u : Nat → Nat) : sc_cel (ck_g G u) ck_0 39 = .inl (G.2.1 0, 27, .inl (fun _ => 0)) := rfl
theorem ck_0_N (a k : Nat) (h : 36 ≤ a) : ck_0 a k = 0 := by
  unfold ck_0
  rw [if_neg (by omega), if_neg (by omega), if_neg (by omega), if_neg (by omega), if_neg (by omega)]
theorem ck_cel_N0 (G : sc_G) (u : Nat → Nat) (n : Nat) (hn : n < 10) : sc_cel (ck_g G u) ck_0 (40 + 3 * n) = .inr (2, [.int 0, .int 0, .int 0, .int 0, .int 0, .int 0, .int 0, .ref (u (41 + 3 * n)), .ref (u (42 + 3 * n))]) := by
  have h1 : sc_rt (40 + 3 * n) 7 = 41 + 3 * n := by unfold sc_rt; rw [if_neg (by omega)]; omega
  have h2 : sc_rt (40 + 3 * n) 8 = 42 + 3 * n := by unfold sc_rt; rw [if_neg (by omega)]; omega
  have h0 : ∀ k, ck_0 (40 + 3 * n) k = 0 := fun k => ck_0_N _ k (by omega)
  have e : ∀ k, sc_fv ck_0 2 (40 + 3 * n) k = match sc_ft 2 k with | 0 => .inl 0 | 1 => .inr (.inl 0) | _ => .inr (.inr (.inl (sc_rt (40 + 3 * n) k))) := fun k => by
    unfold sc_fv
    rw [h0]
    rcases sc_ft 2 k with _ | _ | _ <;> rfl
  rw [sc_cel_obj (c := 2) (ck_g G u) ck_0 (by rw [kd_N0 n hn]), kd_N0 n hn]
  show Sum.inr (2, [sc_rv (ck_g G u) (sc_fv ck_0 2 (40 + 3 * n) 0), sc_rv (ck_g G u) (sc_fv ck_0 2 (40 + 3 * n) 1), sc_rv (ck_g G u) (sc_fv ck_0 2 (40 + 3 * n) 2), sc_rv (ck_g G u) (sc_fv ck_0 2 (40 + 3 * n) 3), sc_rv (ck_g G u) (sc_fv ck_0 2 (40 + 3 * n) 4), sc_rv (ck_g G u) (sc_fv ck_0 2 (40 + 3 * n) 5), sc_rv (ck_g G u) (sc_fv ck_0 2 (40 + 3 * n) 6), sc_rv (ck_g G u) (sc_fv ck_0 2 (40 + 3 * n) 7), sc_rv (ck_g G u) (sc_fv ck_0 2 (40 + 3 * n) 8)]) = _
  rw [e, e, e, e, e, e, e, e, e, h1, h2]
  rfl
theorem ck_cel_N1 (G : sc_G) (u : Nat → Nat) (n : Nat) (hn : n < 10) : sc_cel (ck_g G u) ck_0 (41 + 3 * n) = .inl (G.2.1 0, 3, .inl (fun _ => 0)) := by
  rw [sc_cel_i (ck_g G u) ck_0 (by rw [kd_N1 n hn]), kd_N1 n hn, show (fun i => Int32.ofInt (ck_0 (41 + 3 * n) i)) = fun _ => 0 from funext fun i => by rw [ck_0_N _ i (by omega)]; rfl]
  rfl
theorem ck_cel_N2 (G : sc_G) (u : Nat → Nat) (n : Nat) (hn : n < 10) : sc_cel (ck_g G u) ck_0 (42 + 3 * n) = .inl (G.2.1 0, 27, .inl (fun _ => 0)) := by
  rw [sc_cel_i (ck_g G u) ck_0 (by rw [kd_N2 n hn]), kd_N2 n hn, show (fun i => Int32.ofInt (ck_0 (42 + 3 * n) i)) = fun _ => 0 from funext fun i => by rw [ck_0_N _ i (by omega)]; rfl]
  rfl
theorem ck_w_N (G : sc_G) (u : Nat → Nat) (n : Nat) (hn : n < 10) : ck_w G u [40 + 3 * n, 41 + 3 * n, 42 + 3 * n] = [(u (40 + 3 * n), .inr (2, [.int 0, .int 0, .int 0, .int 0, .int 0, .int 0, .int 0, .ref (u (41 + 3 * n)), .ref (u (42 + 3 * n))])), (u (41 + 3 * n), .inl (G.2.1 0, 3, .inl (fun _ => 0))), (u (42 + 3 * n), .inl (G.2.1 0, 27, .inl (fun _ => 0)))] := by
  unfold ck_w
  rw [List.map_cons, List.map_cons, List.map_cons, List.map_nil, ck_cel_N0 G u n hn, ck_cel_N1 G u n hn, ck_cel_N2 G u n hn]
theorem ck_w_cg {G : sc_G} {u u2 : Nat → Nat} {L : List Nat} (h : ∀ a ∈ L, u a = u2 a ∧ sc_cel (ck_g G u) ck_0 a = sc_cel (ck_g G u2) ck_0 a) : ck_w G u L = ck_w G u2 L := List.map_congr_left (fun a ha => by rw [(h a ha).1, (h a ha).2])
theorem ck_w_N_cg {G : sc_G} {u u2 : Nat → Nat} (n : Nat) (hn : n < 10) (h : ∀ a, 40 + 3 * n ≤ a → a ≤ 42 + 3 * n → u a = u2 a) : ck_w G u [40 + 3 * n, 41 + 3 * n, 42 + 3 * n] = ck_w G u2 [40 + 3 * n, 41 + 3 * n, 42 + 3 * n] := by
  rw [ck_w_N G u n hn, ck_w_N G u2 n hn, h (40 + 3 * n) (by omega) (by omega), h (41 + 3 * n) (by omega) (by omega), h (42 + 3 * n) (by omega) (by omega)]
/-- the nodes' cells, i of them -/
def ck_LN : Nat → List Nat
  | 0 => []
  | i + 1 => ck_LN i ++ [40 + 3 * i, 41 + 3 * i, 42 + 3 * i]
theorem ck_LN_cg {G : sc_G} {u u2 : Nat → Nat} : ∀ i, i ≤ 10 → (∀ a, 40 ≤ a → a < 40 + 3 * i → u a = u2 a) → ck_w G u (ck_LN i) = ck_w G u2 (ck_LN i)
  | 0, _, _ => rfl
  | i + 1, hi, h => by
    rw [ck_LN, ck_w_app, ck_w_app, ck_LN_cg i (by omega) (fun a h1 h2 => h a h1 (by omega)), ck_w_N_cg i (by omega) (fun a h1 h2 => h a (by omega) (by omega))]
theorem ck_LN_len (G : sc_G) (u : Nat → Nat) : ∀ i, (ck_w G u (ck_LN i)).length = 3 * i
  | 0 => rfl
  | i + 1 => by
    rw [ck_LN, ck_w_app, List.length_append, ck_LN_len G u i]
    show 3 * i + 3 = _
    omega
/-- what a world is, by its members -/
theorem ck_P_mem {D : va_G} {cl : List vw_C} {ws : va_W} {H : Heap} (h : va_P D cl ws H) {q : Nat × va_E} (hq : q ∈ ws) : va_at D cl q H := by
  obtain ⟨i, hi⟩ := List.getElem?_of_mem hq
  exact h i q hi
theorem ck_P_of {D : va_G} {cl : List vw_C} {ws : va_W} {H : Heap} (h : ∀ q ∈ ws, va_at D cl q H) : va_P D cl ws H := fun _ q hk => h q (List.mem_of_getElem? hk)
theorem ck_D_1 {A : Nat → Prop} {x : Nat × va_E} (h : A x.1) : va_D A [x] := ⟨fun i j p q hp hq _ => by
    have h1 := (List.getElem?_eq_some_iff.mp hp).1
    have h2 := (List.getElem?_eq_some_iff.mp hq).1
    simp at h1 h2
    omega, fun k q hk => by
    have h1 := (List.getElem?_eq_some_iff.mp hk).1
    simp at h1
    subst h1
    cases hk
    exact h⟩
theorem ck_D_last {A : Nat → Prop} {ws : va_W} {x : Nat × va_E} (hD : va_D A (ws ++ [x])) : va_D A [x] := ck_D_1 (hD.2 ws.length x (by simp))
theorem ck_P_last {D : va_G} {cl : List vw_C} {ws : va_W} {x : Nat × va_E} {H : Heap} (hP : va_P D cl (ws ++ [x]) H) : va_P D cl [x] H := ck_P_of (fun q hq => ck_P_mem hP (List.mem_append_right _ hq))
theorem ck_free {A0 : Nat → Prop} {ws : va_W} {x : Nat × va_E} {H0 H : Heap} {locs : List Loc} (hD : va_D A0 (ws ++ [x])) (hS : va_S A0 H0 H locs) (hA : ∀ q, H0.size ≤ q → A0 q) : ∀ q, va_A [x] H.size q → A0 q := va_free (wc := [x]) hD hS hA [ws.length] (by simp)
theorem ck_nd (n : Nat) : va_nd (List.range n) = true := by
  have key : ∀ (k a : Nat), va_nd (List.range' a k) = true := by
    intro k
    induction k with
    | zero => intro a; rfl
    | succ k ih =>
      intro a
      rw [List.range'_succ, va_nd, ih (a + 1), Bool.and_true, decide_eq_true_eq]
      intro h
      have := (List.mem_range'_1.mp h).1
      omega
  rw [List.range_eq_range']
  exact key n 0
theorem ck_join {A0 : Nat → Prop} {D : va_G} {cl : List vw_C} {ws w1 : va_W} {x : Nat × va_E} {H H1 : Heap} (hP : va_P D cl (ws ++ [x]) H) (hD : va_D A0 (ws ++ [x])) (hk : ∀ q : Nat, q < H.size → ¬ va_A [x] H.size q → H1[q]? = H[q]?) (hF : ∀ q, va_A [x] H.size q → A0 q) (hP1 : va_P D cl w1 H1) (hD1 : va_D (va_A [x] H.size) w1) : va_P D cl (ws ++ w1) H1 ∧ va_D A0 (ws ++ w1) := by
  refine va_join (wc := [x]) (wr := ws) hP hD [ws.length] (List.range ws.length) (by simp) ?_ (ck_nd _) ?_ hk hF hP1 hD1
  · apply List.ext_getElem?
    intro i
    rw [List.getElem?_map, List.getElem?_map]
    by_cases h : i < ws.length
    · rw [List.getElem?_range h]
      show some ((ws ++ [x])[i]?) = _
      rw [List.getElem?_append_left h, List.getElem?_eq_getElem h]
      rfl
    · rw [List.getElem?_eq_none (by simp; omega), List.getElem?_eq_none (by omega)]
      rfl
  · intro i hi
    have := List.mem_range.mp hi
    simp
    omega
/-- what the tables say besides: private constructors, arrays of arrays -/
def ck_N (G : sc_G) (U : State) : Prop := va_Nw (.methodLinkNest "SightChart$Chart" 21 mq_No_init.1 "SightChart") U ∧ va_Nw (.methodLinkNest "SightChart" 9 mq_Wo_init.1 "SightChart") U ∧ va_Nw (.methodLinkNest "SightChart" 23 mq_Fo_init.1 "SightChart") U ∧ va_AO "SightChart$Node" U ∧ ∃ kA : Class, U.vm.classes[G.2.1 4]? = some kA ∧ kA.kind = .array (G.2.1 0) (.array .int)
theorem ck_N.warm {G : sc_G} {s U : State} (hW : s.WarmedH U.vm) (h : ck_N G s) : ck_N G U := by
  obtain ⟨h1, h2, h3, h4, kA, h5, h6⟩ := h
  obtain ⟨k2, hk2, he⟩ := hW.alike.2.2 _ _ h5
  exact ⟨va_Nw.warmM hW h1, va_Nw.warmM hW h2, va_Nw.warmM hW h3, va_AO.moved hW.alike h4, k2, hk2, by rw [he]; exact h6⟩
theorem ck_N.call {G : sc_G} {U : State} {g : JFrame} {mk : MethodId} {a : Array Value} (h : ck_N G U) : ck_N G (U.calling g mk a) := by
  obtain ⟨h1, h2, h3, h4, kA, h5, h6⟩ := h
  exact ⟨va_Nw.same rfl (rfl : U.vm = (U.calling g mk a).vm) h1, va_Nw.same rfl (rfl : U.vm = (U.calling g mk a).vm) h2, va_Nw.same rfl (rfl : U.vm = (U.calling g mk a).vm) h3, va_AO.moved (u := U) (U := U.calling g mk a) (Vm.Alike.refl U.vm) h4, kA, h5, h6⟩
def ck_pre (G : sc_G) (ci : Nat) (fs : List Value) (h0 sz : Nat) : State → Prop := fun U => U.heap.size = sz ∧ va_P G.1 vwCl [(h0, .inr (ci, fs))] U.heap ∧ va_K G.1 vwCl (sc_tys G) U ∧ ck_N G U
theorem ck_pr {G : sc_G} {s : State} {H : Heap} {ci : Nat} {fs : List Value} {q : Nat} (hP : va_P G.1 vwCl [(q, .inr (ci, fs))] H) (hK : va_K G.1 vwCl (sc_tys G) s) (hN : ck_N G s) : PreS s H (va_Pc [.ref q] (ck_pre G ci fs q H.size)) [.ref q] :=
  ⟨fun a U g mk h => ⟨h.1, h.2.1, h.2.2.1, va_K.moved (u := U) (U := U.calling g mk a) (Vm.Alike.refl U.vm) h.2.2.2.1, ck_N.call h.2.2.2.2⟩, fun U hU hW => ⟨rfl, by rw [hU], by rw [hU]; exact hP, va_K.moved hW.alike hK, ck_N.warm hW hN⟩⟩
def ct_rm (F C S : Nat) : Room := { frames := F, cells := C, slots := S, locals := 36 * F }
def ck_Q (G : sc_G) (a0 : Nat) (L : List Nat) (h0 : Nat) (A : Nat → Prop) : Array Value → State → Outcome → State → Prop := va_Qv (fun u : Nat → Nat => u a0 = h0) (fun u t => va_P G.1 vwCl (ck_w G u L) t.heap ∧ va_D A (ck_w G u L)) A
theorem ck_good {q : sc_Q} (hm : Cond.code q.1 q.2.1 q.2.2.1 q.2.2.2 ∈ sc_gw) : GoodIn sc_gw (sc_ws q) := fun w hw => (List.mem_cons.mp hw).elim (fun e => by subst e; exact ⟨hm, sc_gw_good hm⟩) (fun h9 => sc_gw_goodIn w h9)
theorem ck_obj : Cond.code Lib.objectInit ⟨#[0xb1]⟩ 1 none ∈ sc_gw := sc_gw_of (List.mem_of_getElem? (i := 56) rfl) rfl
section
variable {p : Program} {l : Launch} {e : Env} {R : Room} {s : State} {m : MethodId} {args : Array Value} {below : List Frame} {meth : Method} {c : Code} {H H0 : Heap} {locs : List Loc} {cells slots : Nat} {Q : State → Prop} {cc : ByteArray} {pc : Nat} {ls : Array Slot} {rest : List Value} {D : va_G} {cl : List vw_C} {tys : List (ClassId × FieldType)} {ws : va_W} {A : Nat → Prop}
theorem ck_by {N : Nat} {ty : FieldType} (h : N ≤ 3000) (ht : ty = .int ∨ ty = .long ∨ ty = .boolean) : N * componentBytes ty ≤ 536870912 := by
  rcases ht with rfl | rfl | rfl
  · show N * 4 ≤ _; omega
  · show N * 8 ≤ _; omega
  · show N * 1 ≤ _; omega
/-- a new array, of a class that is known -/
theorem ck_newa (hexec : p.tables.exec = Jvm.exec) (hb : c.code = cc) {atype : ArrayType} (harr : (Cond.arrayClass (newarray.typeOf atype)).before args s = true) {ty : FieldType} (hty : newarray.typeOf atype = ty) (hK : va_K D cl tys s) {t0 : Nat} {cA : ClassId} (ht : tys[t0]? = some (cA, ty)) (hP : va_P D cl ws H) (hD : va_D A ws) (hS : va_S A H0 H locs) (hA : ∀ q, H0.size ≤ q → A q)
    {n : Int32} {N' : Nat} {a0 : vp_A} (ha : ∀ cA : ClassId, vp_cell cA a0 = arrV cA N' (fun _ => defaultValue ty)) (hn : ¬ n < 0) (hN : n.toNatClampNeg = N') (hbytes : N' * componentBytes ty ≤ 536870912) (hcells : cells + 1 ≤ R.cells) (hslots : slots + N' ≤ R.slots) (hdg : decode cc pc = .ok (.newarray atype, 2))
    (kk : ∀ (q : Nat) (H1 : Heap), va_P D cl (ws ++ [(q, .inl (cA, a0))]) H1 → va_D A (ws ++ [(q, .inl (cA, a0))]) → va_S A H0 H1 locs → W p l e R s m args below meth c H1 locs (cells + 1) (slots + N') Q (F0 m (pc + 2) ls (.ref q :: rest))) : W p l e R s m args below meth c H locs cells slots Q (F0 m pc ls (.int n :: rest)) := by
  refine va_newa hexec hb harr hty hK hP hD hS hA ha hn hN hbytes hcells hslots hdg (fun q cA2 H1 hK2 hP2 hD2 hS2 => ?_)
  have h1 := (hK2.2 tys.length (cA2, ty) (by simp)).2
  have h2 := (hK.2 t0 _ ht).2
  have e1 : cA2 = cA := by
    subst hty
    cases atype <;> exact Option.some.inj (h1.symm.trans h2)
  subst e1
  exact kk q H1 hP2 hD2 hS2
theorem ck_newq (hexec : p.tables.exec = Jvm.exec) (hb : c.code = cc) {own C : String} {index : Nat} (hown : s.vm.findClass own = some m.cls) (hclink : (Cond.classLink own index C).before args s = true) (hover : va_AO C s) (hK : va_K D cl tys s) {t0 : Nat} {cA : ClassId} (ht : tys[t0]? = some (cA, .object C)) (hP : va_P D cl ws H) (hD : va_D A ws) (hS : va_S A H0 H locs) (hA : ∀ q, H0.size ≤ q → A q)
    {n : Int32} {N' : Nat} (hn : ¬ n < 0) (hN : n.toNatClampNeg = N') (hbytes : N' * 4 ≤ 536870912) (hcells : cells + 1 ≤ R.cells) (hslots : slots + N' ≤ R.slots) (hdg : decode cc pc = .ok (.anewarray index, 3))
    (kk : ∀ (q : Nat) (H1 : Heap), va_P D cl (ws ++ [(q, .inl (cA, N', .inr (.inr (.inr (.inr (fun _ => none))))))]) H1 → va_D A (ws ++ [(q, .inl (cA, N', .inr (.inr (.inr (.inr (fun _ => none))))))]) → va_S A H0 H1 locs → W p l e R s m args below meth c H1 locs (cells + 1) (slots + N') Q (F0 m (pc + 3) ls (.ref q :: rest))) : W p l e R s m args below meth c H locs cells slots Q (F0 m pc ls (.int n :: rest)) := by
  refine va_newq hexec hb hown hclink hover hK hP hD hS hA hn hN hbytes hcells hslots hdg (fun q cA2 H1 hK2 hP2 hD2 hS2 => ?_)
  obtain ⟨-, -, -, -, -, h1⟩ := (hK2.2 tys.length (cA2, .object C) (by simp)).2
  obtain ⟨-, -, -, -, -, h2⟩ := (hK.2 t0 _ ht).2
  have e1 : cA2 = cA := Option.some.inj (h1.symm.trans h2)
  subst e1
  exact kk q H1 hP2 hD2 hS2
end
