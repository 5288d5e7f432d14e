/-! ROWS OF CELLS AND CALLS -/
theorem sc_len_le : ∀ a, a < 70 → (sc_kd a).2 ≤ 2430 := by decide
theorem sc_kd_obj : ∀ a, a < 70 → ∀ c, c < 6 → (sc_kd a).1 = c + 5 → (sc_kd a).2 = [3, 4, 9, 12, 10, 23].getD c 0 := by decide
theorem sc_cl_ok {c : Nat} {q : vw_C} (h : vwCl[c]? = some q) : c < 6 ∧ q.2.2 = [3, 4, 9, 12, 10, 23].getD c 0 ∧ (∀ w ∈ u_ws q.1 q.2.1 q.2.2, w ∈ sc_gw) ∧ (∃ ty : Nat → FieldType, ∀ k, k < q.2.2 → parseFieldDescriptor (q.2.1 k).2.2.1 = some (ty k)) ∧ (∀ a, a < q.2.2 → ∀ b, b < q.2.2 → a ≠ b → (q.2.1 a).2.1 ≠ (q.2.1 b).2.1) := by
  rcases c with _ | _ | _ | _ | _ | _ | c
  · cases h; exact ⟨by decide, rfl, sc_in0, ⟨_, tyX0_ok⟩, nmX0⟩
  · cases h; exact ⟨by decide, rfl, sc_in1, ⟨_, tyX1_ok⟩, nmX1⟩
  · cases h; exact ⟨by decide, rfl, sc_in2, ⟨_, tyX2_ok⟩, nmX2⟩
  · cases h; exact ⟨by decide, rfl, sc_in3, ⟨_, tyX3_ok⟩, nmX3⟩
  · cases h; exact ⟨by decide, rfl, sc_in4, ⟨_, tyX4_ok⟩, nmX4⟩
  · cases h; exact ⟨by decide, rfl, sc_in5, ⟨_, tyX5_ok⟩, nmX5⟩
  · cases h
theorem sc_obj_lt {a c : Nat} (hc : c < 6) (h : (sc_kd a).1 = c + 5) : a < 70 := sc_kd_lt (by omega)
theorem sc_cel_obj (G : sc_G) (μ : sc_M) {a c : Nat} (h : (sc_kd a).1 = c + 5) : sc_cel G μ a = .inr (c, (List.range (sc_kd a).2).map (fun k => sc_rv G (sc_fv μ c a k))) := by
  unfold sc_cel
  rw [h]
theorem sc_cel_i (G : sc_G) (μ : sc_M) {a : Nat} (h : (sc_kd a).1 = 0) : sc_cel G μ a = .inl (G.2.1 0, (sc_kd a).2, .inl (fun i => Int32.ofInt (μ a i))) := by
  unfold sc_cel
  rw [h]
theorem sc_cel_j (G : sc_G) (μ : sc_M) {a : Nat} (h : (sc_kd a).1 = 1) : sc_cel G μ a = .inl (G.2.1 1, (sc_kd a).2, .inr (.inl (fun i => Int64.ofInt (μ a i)))) := by
  unfold sc_cel
  rw [h]
theorem sc_cel_z (G : sc_G) (μ : sc_M) {a : Nat} (h : (sc_kd a).1 = 2) : sc_cel G μ a = .inl (G.2.1 2, (sc_kd a).2, .inl (fun i => Int32.ofInt (μ a i))) := by
  unfold sc_cel
  rw [h]
theorem sc_cel_n (G : sc_G) (μ : sc_M) {a : Nat} (h : (sc_kd a).1 = 3) : sc_cel G μ a = .inl (G.2.1 3, (sc_kd a).2, .inr (.inr (.inr (.inr (fun i => some (G.2.2 (sc_ra a i))))))) := by
  unfold sc_cel
  rw [h]
theorem sc_cel_r (G : sc_G) (μ : sc_M) {a : Nat} (h : (sc_kd a).1 = 4) : sc_cel G μ a = .inl (G.2.1 4, (sc_kd a).2, .inr (.inr (.inr (.inr (fun i => some (G.2.2 (sc_ra a i))))))) := by
  unfold sc_cel
  rw [h]
theorem sc_vin {a : Nat} {i : Int} (ha : a < 70) (h0 : 0 ≤ i) (h1 : i < (sc_kd a).2) : sc_in i ∧ vp_in (Int32.ofInt i) (sc_kd a).2 := by
  have h2 := sc_len_le a ha
  have hi : sc_in i := ⟨by omega, by omega⟩
  refine ⟨hi, fun h => ?_⟩
  rcases h with h | h
  · rw [sc_neg0 hi] at h; omega
  · rw [sc_clamp hi] at h; omega
theorem sc_map_set {f f' : Nat → Value} {n k : Nat} {v : Value} (h1 : ∀ j, j ≠ k → f' j = f j) (h2 : f' k = v) : (List.range n).map f' = ((List.range n).map f).set k v := by
  apply List.ext_getElem?
  intro i
  rw [List.getElem?_set]
  by_cases hn : i < n
  · rw [List.getElem?_map, List.getElem?_range hn]
    by_cases hi : k = i
    · subst hi
      rw [if_pos rfl, if_pos (by simpa using hn), ← h2]
      rfl
    · rw [if_neg hi, List.getElem?_map, List.getElem?_range hn]
      exact congrArg some (h1 i (fun e => hi e.symm))
  · rw [List.getElem?_eq_none (by simp; omega)]
    split
    · rw [if_neg (by simp; omega)]
    · rw [List.getElem?_eq_none (by simp; omega)]
section SCH
variable {l : Launch} {G : sc_G} {d : Nat} {y : sc_Q} {pc : Nat} {L st : List sc_V} {μ : sc_M} {Post : sc_V → sc_M → Prop}
theorem sc_r_getf {c k a idx : Nat} {q : vw_C} (hd : decode y.2.1 pc = .ok (.getfield idx, 3)) (hq : vwCl[c]? = some q) (hk : k < q.2.2) (hT : (q.2.1 k).1 = q.1) (hw : Cond.fieldLink y.1.cls idx q.1 (q.2.1 k).2.1 (q.2.1 k).2.2.1 ∈ sc_gw) (ha : (sc_kd a).1 = c + 5)
    (kk : sc_Wp l G d y (pc + 3) L (sc_fv μ c a k :: st) μ Post) : sc_Wp l G d y pc L (.inr (.inr (.inl a)) :: st) μ Post := by
  intro p e s m args below meth c9 H locs ls C hP hS hL
  have h := kk p e s m args below meth c9 H locs ls C hP hS hL
  obtain ⟨hc6, hlen, hin, -, -⟩ := sc_cl_ok hq
  have ha7 := sc_obj_lt hc6 ha
  have hn := sc_kd_obj a ha7 c hc6 ha
  have he := sc_w_at G μ ha7
  rw [sc_cel_obj G μ ha] at he
  obtain ⟨hx, hb, -, -, hown, -, hts, hK⟩ := C
  refine va_get (D := G.1) (ci := c) (C := q.1) (T := q.2.1) (N := q.2.2) (v := sc_rv G (sc_fv μ c a k)) hx hb hts hin hown hK.2 hP a he hq k hk (hts _ hw) (fun x hx9 => by rw [hT] at hx9; exact hx9) ?_ hd h
  rw [List.getElem?_map, List.getElem?_range (by rw [hn, ← hlen]; exact hk)]
  rfl
theorem sc_r_putI {c k a idx : Nat} {q : vw_C} {x : Int} (hd : decode y.2.1 pc = .ok (.putfield idx, 3)) (hq : vwCl[c]? = some q) (hk : k < q.2.2) (hT : (q.2.1 k).1 = q.1) (hw : Cond.fieldLink y.1.cls idx q.1 (q.2.1 k).2.1 (q.2.1 k).2.2.1 ∈ sc_gw) (hfin : (q.2.1 k).2.2.2 = false) (hty : parseFieldDescriptor (q.2.1 k).2.2.1 = some .int) (hft : sc_ft c k = 0) (ha : (sc_kd a).1 = c + 5)
    (kk : sc_Wp l G d y (pc + 3) L st (sc_up μ a k x) Post) : sc_Wp l G d y pc L (.inl x :: .inr (.inr (.inl a)) :: st) μ Post := by
  intro p e s m args below meth c9 H locs ls C hP hS hL
  obtain ⟨hc6, hlen, hin, ⟨ty0, hty0⟩, hnm⟩ := sc_cl_ok hq
  have ha7 := sc_obj_lt hc6 ha
  have hn := sc_kd_obj a ha7 c hc6 ha
  have he := sc_w_at G μ ha7
  rw [sc_cel_obj G μ ha] at he
  have C0 := C
  obtain ⟨hx, hb, -, -, hown, -, hts, hK⟩ := C
  refine va_put (D := G.1) (ci := c) (C := q.1) (T := q.2.1) (N := q.2.2) (v := .int (Int32.ofInt x)) (ty := .int) hx hb hts hin ty0 hty0 hnm hown hK.2 hP (sc_w_D hK.1) hS a he hq k hk (hts _ hw) (fun x hx9 => by rw [hT] at hx9; exact hx9) hfin hty rfl rfl (by simp; omega) hd (fun H1 locs1 hP1 _ hS1 => ?_)
  refine kk p e s m args below meth c9 H1 locs1 ls C0 ?_ hS1 hL
  rw [← sc_w_set G (μ := μ) (a := a) (fun b hb => sc_cel_up_ne G μ k x hb) rfl, sc_cel_obj G _ ha]
  rw [sc_map_set (f := fun j => sc_rv G (sc_fv μ c a j)) (k := k) (v := .int (Int32.ofInt x)) (fun j hj => by simp [sc_fv, sc_up, hj]) (by simp [sc_fv, hft, sc_up, sc_rv])]
  exact hP1
theorem sc_r_putJ {c k a idx : Nat} {q : vw_C} {x : Int} (hd : decode y.2.1 pc = .ok (.putfield idx, 3)) (hq : vwCl[c]? = some q) (hk : k < q.2.2) (hT : (q.2.1 k).1 = q.1) (hw : Cond.fieldLink y.1.cls idx q.1 (q.2.1 k).2.1 (q.2.1 k).2.2.1 ∈ sc_gw) (hfin : (q.2.1 k).2.2.2 = false) (hty : parseFieldDescriptor (q.2.1 k).2.2.1 = some .long) (hft : sc_ft c k = 1) (ha : (sc_kd a).1 = c + 5)
    (kk : sc_Wp l G d y (pc + 3) L st (sc_up μ a k x) Post) : sc_Wp l G d y pc L (.inr (.inl x) :: .inr (.inr (.inl a)) :: st) μ Post := by
  intro p e s m args below meth c9 H locs ls C hP hS hL
  obtain ⟨hc6, hlen, hin, ⟨ty0, hty0⟩, hnm⟩ := sc_cl_ok hq
  have ha7 := sc_obj_lt hc6 ha
  have hn := sc_kd_obj a ha7 c hc6 ha
  have he := sc_w_at G μ ha7
  rw [sc_cel_obj G μ ha] at he
  have C0 := C
  obtain ⟨hx, hb, -, -, hown, -, hts, hK⟩ := C
  refine va_put (D := G.1) (ci := c) (C := q.1) (T := q.2.1) (N := q.2.2) (v := .long (Int64.ofInt x)) (ty := .long) hx hb hts hin ty0 hty0 hnm hown hK.2 hP (sc_w_D hK.1) hS a he hq k hk (hts _ hw) (fun x hx9 => by rw [hT] at hx9; exact hx9) hfin hty rfl rfl (by simp; omega) hd (fun H1 locs1 hP1 _ hS1 => ?_)
  refine kk p e s m args below meth c9 H1 locs1 ls C0 ?_ hS1 hL
  rw [← sc_w_set G (μ := μ) (a := a) (fun b hb => sc_cel_up_ne G μ k x hb) rfl, sc_cel_obj G _ ha]
  rw [sc_map_set (f := fun j => sc_rv G (sc_fv μ c a j)) (k := k) (v := .long (Int64.ofInt x)) (fun j hj => by simp [sc_fv, sc_up, hj]) (by simp [sc_fv, hft, sc_up, sc_rv])]
  exact hP1
theorem sc_r_iald {a : Nat} {i : Int} (hd : decode y.2.1 pc = .ok (.iaload, 1)) (ha : (sc_kd a).1 = 0) (h0 : 0 ≤ i) (h1 : i < (sc_kd a).2) (kk : sc_Wp l G d y (pc + 1) L (.inl (μ a i.toNat) :: st) μ Post) : sc_Wp l G d y pc L (.inl i :: .inr (.inr (.inl a)) :: st) μ Post := by
  intro p e s m args below meth c9 H locs ls C hP hS hL
  have h := kk p e s m args below meth c9 H locs ls C hP hS hL
  have ha7 : a < 70 := sc_kd_lt (by omega)
  obtain ⟨hi, hv⟩ := sc_vin ha7 h0 h1
  have he := sc_w_at G μ ha7
  rw [sc_cel_i G μ ha] at he
  obtain ⟨hx, hb, -, -, hown, -, hts, hK⟩ := C
  refine va_iald hx hb hK.2 hP a 0 he rfl hv hd ?_
  rw [sc_clamp hi]
  exact h
theorem sc_r_lald {a : Nat} {i : Int} (hd : decode y.2.1 pc = .ok (.laload, 1)) (ha : (sc_kd a).1 = 1) (h0 : 0 ≤ i) (h1 : i < (sc_kd a).2) (kk : sc_Wp l G d y (pc + 1) L (.inr (.inl (μ a i.toNat)) :: st) μ Post) : sc_Wp l G d y pc L (.inl i :: .inr (.inr (.inl a)) :: st) μ Post := by
  intro p e s m args below meth c9 H locs ls C hP hS hL
  have h := kk p e s m args below meth c9 H locs ls C hP hS hL
  have ha7 : a < 70 := sc_kd_lt (by omega)
  obtain ⟨hi, hv⟩ := sc_vin ha7 h0 h1
  have he := sc_w_at G μ ha7
  rw [sc_cel_j G μ ha] at he
  obtain ⟨hx, hb, -, -, hown, -, hts, hK⟩ := C
  refine va_lald hx hb hK.2 hP a 1 he rfl hv hd ?_
  rw [sc_clamp hi]
  exact h
theorem sc_r_zald {a : Nat} {i : Int} (hd : decode y.2.1 pc = .ok (.baload, 1)) (ha : (sc_kd a).1 = 2) (h0 : 0 ≤ i) (h1 : i < (sc_kd a).2) (kk : sc_Wp l G d y (pc + 1) L (.inl (μ a i.toNat) :: st) μ Post) : sc_Wp l G d y pc L (.inl i :: .inr (.inr (.inl a)) :: st) μ Post := by
  intro p e s m args below meth c9 H locs ls C hP hS hL
  have h := kk p e s m args below meth c9 H locs ls C hP hS hL
  have ha7 : a < 70 := sc_kd_lt (by omega)
  obtain ⟨hi, hv⟩ := sc_vin ha7 h0 h1
  have he := sc_w_at G μ ha7
  rw [sc_cel_z G μ ha] at he
  obtain ⟨hx, hb, -, -, hown, -, hts, hK⟩ := C
  refine va_zald hx hb hK.2 hP a 2 he rfl hv hd ?_
  rw [sc_clamp hi]
  exact h
theorem sc_r_iast {a : Nat} {i x : Int} (hd : decode y.2.1 pc = .ok (.iastore, 1)) (ha : (sc_kd a).1 = 0) (h0 : 0 ≤ i) (h1 : i < (sc_kd a).2) (kk : sc_Wp l G d y (pc + 1) L st (sc_up μ a i.toNat x) Post) : sc_Wp l G d y pc L (.inl x :: .inl i :: .inr (.inr (.inl a)) :: st) μ Post := by
  intro p e s m args below meth c9 H locs ls C hP hS hL
  have ha7 : a < 70 := sc_kd_lt (by omega)
  obtain ⟨hi, hv⟩ := sc_vin ha7 h0 h1
  have he := sc_w_at G μ ha7
  rw [sc_cel_i G μ ha] at he
  have C0 := C
  obtain ⟨hx, hb, -, -, hown, -, hts, hK⟩ := C
  refine va_iast hx hb hK.2 hP (sc_w_D hK.1) hS a 0 he rfl hv hd (fun H1 locs1 hP1 _ hS1 => ?_)
  refine kk p e s m args below meth c9 H1 locs1 ls C0 ?_ hS1 hL
  rw [← sc_w_set G (μ := μ) (a := a) (fun b hb => sc_cel_up_ne G μ i.toNat x hb) rfl, sc_cel_i G _ ha]
  rw [sc_clamp hi] at hP1
  refine Eq.mp (congrArg (fun f => va_P G.1 vwCl ((sc_w G μ).set a (G.2.2 a, .inl (G.2.1 0, (sc_kd a).2, .inl f))) H1) (funext fun j => ?_)) hP1
  by_cases hj : j = i.toNat
  · simp [upd, sc_up, hj]
  · simp [upd, sc_up, hj]
theorem sc_r_last {a : Nat} {i x : Int} (hd : decode y.2.1 pc = .ok (.lastore, 1)) (ha : (sc_kd a).1 = 1) (h0 : 0 ≤ i) (h1 : i < (sc_kd a).2) (kk : sc_Wp l G d y (pc + 1) L st (sc_up μ a i.toNat x) Post) : sc_Wp l G d y pc L (.inr (.inl x) :: .inl i :: .inr (.inr (.inl a)) :: st) μ Post := by
  intro p e s m args below meth c9 H locs ls C hP hS hL
  have ha7 : a < 70 := sc_kd_lt (by omega)
  obtain ⟨hi, hv⟩ := sc_vin ha7 h0 h1
  have he := sc_w_at G μ ha7
  rw [sc_cel_j G μ ha] at he
  have C0 := C
  obtain ⟨hx, hb, -, -, hown, -, hts, hK⟩ := C
  refine va_last hx hb hK.2 hP (sc_w_D hK.1) hS a 1 he rfl hv hd (fun H1 locs1 hP1 _ hS1 => ?_)
  refine kk p e s m args below meth c9 H1 locs1 ls C0 ?_ hS1 hL
  rw [← sc_w_set G (μ := μ) (a := a) (fun b hb => sc_cel_up_ne G μ i.toNat x hb) rfl, sc_cel_j G _ ha]
  rw [sc_clamp hi] at hP1
  refine Eq.mp (congrArg (fun f => va_P G.1 vwCl ((sc_w G μ).set a (G.2.2 a, .inl (G.2.1 1, (sc_kd a).2, .inr (.inl f)))) H1) (funext fun j => ?_)) hP1
  by_cases hj : j = i.toNat
  · simp [vp_updL, sc_up, hj]
  · simp [vp_updL, sc_up, hj]
theorem sc_r_zast {a : Nat} {i x : Int} (hd : decode y.2.1 pc = .ok (.bastore, 1)) (ha : (sc_kd a).1 = 2) (h0 : 0 ≤ i) (h1 : i < (sc_kd a).2) (hx1 : x = 0 ∨ x = 1) (kk : sc_Wp l G d y (pc + 1) L st (sc_up μ a i.toNat x) Post) : sc_Wp l G d y pc L (.inl x :: .inl i :: .inr (.inr (.inl a)) :: st) μ Post := by
  intro p e s m args below meth c9 H locs ls C hP hS hL
  have ha7 : a < 70 := sc_kd_lt (by omega)
  obtain ⟨hi, hv⟩ := sc_vin ha7 h0 h1
  have he := sc_w_at G μ ha7
  rw [sc_cel_z G μ ha] at he
  have C0 := C
  obtain ⟨hx, hb, -, -, hown, -, hts, hK⟩ := C
  refine va_zast hx hb hK.2 hP (sc_w_D hK.1) hS a 2 he rfl hv hd (fun H1 locs1 hP1 _ hS1 => ?_)
  refine kk p e s m args below meth c9 H1 locs1 ls C0 ?_ hS1 hL
  rw [← sc_w_set G (μ := μ) (a := a) (fun b hb => sc_cel_up_ne G μ i.toNat x hb) rfl, sc_cel_z G _ ha]
  rw [sc_clamp hi] at hP1
  have hz : vp_nar .boolean (Int32.ofInt x) = Int32.ofInt x := by rcases hx1 with rfl | rfl <;> rfl
  rw [hz] at hP1
  refine Eq.mp (congrArg (fun f => va_P G.1 vwCl ((sc_w G μ).set a (G.2.2 a, .inl (G.2.1 2, (sc_kd a).2, .inl f))) H1) (funext fun j => ?_)) hP1
  by_cases hj : j = i.toNat
  · simp [upd, sc_up, hj]
  · simp [upd, sc_up, hj]
theorem sc_r_aald {a : Nat} {i : Int} (hd : decode y.2.1 pc = .ok (.aaload, 1)) (ha : (sc_kd a).1 = 3 ∨ (sc_kd a).1 = 4) (h0 : 0 ≤ i) (h1 : i < (sc_kd a).2) (kk : sc_Wp l G d y (pc + 1) L (.inr (.inr (.inl (sc_ra a i.toNat))) :: st) μ Post) : sc_Wp l G d y pc L (.inl i :: .inr (.inr (.inl a)) :: st) μ Post := by
  intro p e s m args below meth c9 H locs ls C hP hS hL
  have h := kk p e s m args below meth c9 H locs ls C hP hS hL
  have ha7 : a < 70 := sc_kd_lt (by omega)
  obtain ⟨hi, hv⟩ := sc_vin ha7 h0 h1
  have he := sc_w_at G μ ha7
  obtain ⟨hx, hb, -, -, hown, -, hts, hK⟩ := C
  have hc := sc_clamp hi
  have hlt : (Int32.ofInt i).toNatClampNeg < (sc_kd a).2 := by rw [hc]; omega
  rcases ha with ha | ha
  · rw [sc_cel_n G μ ha] at he
    exact W.aald (v := .ref (G.2.2 (sc_ra a i.toNat))) (ty := .object "SightChart$Node") hx hb (hP a _ he) ((hK.2.2 3 _ rfl).1 _ _) rfl (fun q => by cases q) (by show ¬ (_ < 0 ∨ (arrV _ _ _).slots.size ≤ _); rw [arrV_size]; exact hv) (by show (arrV _ _ _).slots[_]? = _; rw [arrV_read _ _ hlt, hc]; rfl) rfl rfl hd h
  · rw [sc_cel_r G μ ha] at he
    exact W.aald (v := .ref (G.2.2 (sc_ra a i.toNat))) (ty := .array .int) hx hb (hP a _ he) ((hK.2.2 4 _ rfl).1 _ _) rfl (fun q => by cases q) (by show ¬ (_ < 0 ∨ (arrV _ _ _).slots.size ≤ _); rw [arrV_size]; exact hv) (by show (arrV _ _ _).slots[_]? = _; rw [arrV_read _ _ hlt, hc]; rfl) rfl rfl hd h
theorem sc_r_alen {a : Nat} (hd : decode y.2.1 pc = .ok (.arraylength, 1)) (ha : (sc_kd a).1 = 0 ∨ (sc_kd a).1 = 1) (kk : sc_Wp l G d y (pc + 1) L (.inl ((sc_kd a).2 : Int) :: st) μ Post) : sc_Wp l G d y pc L (.inr (.inr (.inl a)) :: st) μ Post := by
  intro p e s m args below meth c9 H locs ls C hP hS hL
  have h := kk p e s m args below meth c9 H locs ls C hP hS hL
  have ha7 : a < 70 := sc_kd_lt (by omega)
  have he := sc_w_at G μ ha7
  obtain ⟨hx, hb, -, -, hown, -, hts, hK⟩ := C
  rcases ha with ha | ha
  · rw [sc_cel_i G μ ha] at he
    exact va_alen hx hb hK.2 hP a 0 he rfl rfl hd h
  · rw [sc_cel_j G μ ha] at he
    exact va_alen hx hb hK.2 hP a 1 he rfl rfl hd h
def sc_psh (r : sc_V) (st : List sc_V) : List sc_V := match r with
  | .inr (.inr (.inr _)) => st
  | v => v :: st
theorem sc_psh_map (G : sc_G) (r : sc_V) (st : List sc_V) : (sc_psh r st).map (sc_rv G) = (sc_rr G r).toList ++ st.map (sc_rv G) := by
  rcases r with r | r | r | r <;> rfl
def sc_cats : List sc_V → Nat
  | [] => 0
  | .inr (.inl _) :: st => 2 + sc_cats st
  | _ :: st => 1 + sc_cats st
theorem sc_cats_eq (G : sc_G) (st : List sc_V) : ((st.map (sc_rv G)).map fun v => v.category).sum = sc_cats st := by
  induction st with
  | nil => rfl
  | cons v st ih =>
    rcases v with v | v | v | v
    all_goals simp [sc_cats, sc_rv, Value.category] at ih ⊢
    all_goals rw [ih]
/-- what comes behind a call -/
theorem sc_behind {p : Program} {e : Env} {s : State} {m : MethodId} {args : Array Value} {below : List Frame} {meth : Method} {c : Code} {H : Heap} {locs : List Loc} {ls : Array Slot} {P1 : sc_V → sc_M → Prop} {st0 : List Value} {a9 : Array Value}
    (hr : va_Run p l e (sc_rm d) s m args below meth c H locs 0 0 0 0 (F0 m pc ls st0) (st.map (sc_rv G)) (sc_Qc G P1 a9) (sc_A G)) (C : sc_Cx G y p s m args meth c) (hS : va_S (sc_A G) s.heap H locs) (hL : sc_lr G ls L y.2.2.1)
    (kk : ∀ r μ1, P1 r μ1 → sc_Wp l G d y (pc + 3) L (sc_psh r st) μ1 Post) : W p l e (sc_rm d) s m args below meth c H locs 0 0 (MQ below (sc_Qc G Post) args s 0 0 (sc_A G)) (F0 m pc ls st0) := by
  intro T hT X
  obtain ⟨v, st₀, t, T', L9, h0, X', hL9, e1, e2, ⟨⟨r, μ1, hv, hp, hw⟩, hz, hk⟩, stp⟩ := hr T hT X
  rw [h0] at hz hk
  have hv1 : v = sc_rr G r := by cases hv; rfl
  subst hv1
  have hS1 : va_S (sc_A G) s.heap T'.heap (locs ++ L9) := ⟨Nat.le_trans hS.1 (by rw [e1]; exact hz), fun q h1 h2 => by rw [e1, hk q (Nat.lt_of_lt_of_le h1 hS.1) h2]; exact hS.2.1 q h1 h2, fun q hq => by
      rcases List.mem_append.mp hq with h | h
      · exact hS.2.2 q h
      · exact hL9 q h⟩
  obtain ⟨t2, a1, b1⟩ := kk r μ1 hp p e s m args below meth c T'.heap (locs ++ L9) ls C (by rw [e1]; exact hw) hS1 hL T' rfl X'
  rw [sc_psh_map] at a1
  exact ⟨t2, stp t2 a1, b1⟩
theorem sc_pre {s : State} {H : Heap} (C : sc_K G s) (hP : va_P G.1 vwCl (sc_w G μ) H) (av : List Value) : FrameBlind (va_Pc av (fun U => va_P G.1 vwCl (sc_w G μ) U.heap ∧ sc_K G U)) ∧ ∀ U : State, U.heap = H → s.WarmedH U.vm → va_Pc av (fun U => va_P G.1 vwCl (sc_w G μ) U.heap ∧ sc_K G U) av.toArray U :=
  ⟨fun a U g mk q => ⟨q.1, q.2.1, sc_K.moved (Vm.Alike.refl U.vm) q.2.2⟩, fun U hU hW => ⟨rfl, by rw [hU]; exact hP, sc_K.moved hW.alike C⟩⟩
theorem sc_room {q : sc_Q} (h : q.2.2.1 ≤ 17) : (sc_rm d).frames + 1 ≤ (sc_rm (d + 1)).frames ∧ 8 + (q.2.2.1 + 11) + (sc_rm d).locals ≤ (sc_rm (d + 1)).locals := by
  simp only [sc_rm]
  omega
theorem sc_callB {q : sc_Q} {s : State} {args : Array Value} {own : String} {idx n : Nat} (hts : ∀ w ∈ sc_gw, w.before args s = true) (hm : Cond.code q.1 q.2.1 q.2.2.1 q.2.2.2 ∈ sc_gw) (hini : Cond.initialized q.1.cls ∈ sc_gw) (hl : Cond.methodLink own idx q.1 ∈ sc_gw)
    (hd : q.1.cls ≠ "java/lang/invoke/MethodHandle" ∧ q.1.cls ≠ "java/lang/invoke/VarHandle" ∧ (parseMethodDescriptor q.1.desc).map (fun d => d.parameters.length) = some n) (h : q.2.2.1 ≤ 17) : CallB (sc_rm (d + 1)) s args own idx q.1 q.2.1 q.2.2.1 q.2.2.2 (sc_ws q) (sc_rm d) 0 0 n :=
  callB_of n hts (fun w hw => (List.mem_cons.mp hw).elim (fun e => by subst e; exact ⟨hm, sc_gw_good hm⟩) (fun h9 => sc_gw_goodIn w h9)) rfl rfl rfl (hts _ hini) (hts _ hl) hd (sc_room h)
theorem sc_r_callV {q : sc_Q} {as : List sc_V} {b c idx : Nat} {r : vw_C} {P1 : sc_V → sc_M → Prop} (hd : decode y.2.1 pc = .ok (.invokevirtual idx, 3)) (hl : Cond.methodLink y.1.cls idx q.1 ∈ sc_gw) (hi : Cond.instanceMethod q.1 ∈ sc_gw) (hsel : Cond.selects q.1.cls q.1 q.1 ∈ sc_gw) (hini : Cond.initialized q.1.cls ∈ sc_gw)
    (hn : q.1.cls ≠ "java/lang/invoke/MethodHandle" ∧ q.1.cls ≠ "java/lang/invoke/VarHandle" ∧ (parseMethodDescriptor q.1.desc).map (fun d => d.parameters.length) = some as.length) (hmax : q.2.2.1 ≤ 17) (hq : vwCl[c]? = some r) (hcls : r.1 = q.1.cls) (hb : (sc_kd b).1 = c + 5) (hst : sc_cats st ≤ 8)
    (hsp : sc_Sp l G d q (.inr (.inr (.inl b)) :: as) μ P1) (kk : ∀ r μ1, P1 r μ1 → sc_Wp l G (d + 1) y (pc + 3) L (sc_psh r st) μ1 Post) : sc_Wp l G (d + 1) y pc L (as.reverse ++ .inr (.inr (.inl b)) :: st) μ Post := by
  intro p e s m args below meth c9 H locs ls C hP hS hL
  have C0 := C
  obtain ⟨hx, hbb, -, hml, hown, -, hts, hK⟩ := C
  obtain ⟨hm, hM⟩ := hsp
  have hb7 := sc_obj_lt (sc_cl_ok hq).1 hb
  have he := sc_w_at G μ hb7
  rw [sc_cel_obj G μ hb] at he
  have hrc := va_recv hK.2 hP hq he
  rw [hcls] at hrc
  obtain ⟨f1, f2⟩ := sc_pre (μ := μ) hK hP ((.inr (.inr (.inl b)) :: as).map (sc_rv G))
  refine sc_behind (va_runV (Ts := sc_gw) (own := y.1.cls) (C := q.1.cls) (b := G.2.2 b) (As := as.map (sc_rv G)) (n := as.length) ⟨hx, hbb, hml, hown, hts⟩ hM ⟨sc_callB hts hm hini hl hn hmax, hts _ hi, hts _ hsel⟩ ⟨f1, hrc, f2⟩ rfl (by simp) (by exact hL.1) ?_ ?_ hd ⟨Nat.le_refl _, Nat.le_refl _⟩) C0 hS hL kk
  · show List.map (sc_rv G) (as.reverse ++ .inr (.inr (.inl b)) :: st) = _
    rw [List.map_append, List.map_reverse]
    rfl
  · rw [sc_cats_eq]
    exact (Nat.zero_add _).symm ▸ hst
theorem sc_r_callS {q : sc_Q} {as : List sc_V} {idx : Nat} {P1 : sc_V → sc_M → Prop} (hd : decode y.2.1 pc = .ok (.invokestatic idx, 3)) (hl : Cond.methodLink y.1.cls idx q.1 ∈ sc_gw) (hi : Cond.static q.1 ∈ sc_gw) (hini : Cond.initialized q.1.cls ∈ sc_gw)
    (hn : q.1.cls ≠ "java/lang/invoke/MethodHandle" ∧ q.1.cls ≠ "java/lang/invoke/VarHandle" ∧ (parseMethodDescriptor q.1.desc).map (fun d => d.parameters.length) = some as.length) (hmax : q.2.2.1 ≤ 17) (hst : sc_cats st ≤ 8)
    (hsp : sc_Sp l G d q as μ P1) (kk : ∀ r μ1, P1 r μ1 → sc_Wp l G (d + 1) y (pc + 3) L (sc_psh r st) μ1 Post) : sc_Wp l G (d + 1) y pc L (as.reverse ++ st) μ Post := by
  intro p e s m args below meth c9 H locs ls C hP hS hL
  have C0 := C
  obtain ⟨hx, hbb, -, hml, hown, -, hts, hK⟩ := C
  obtain ⟨hm, hM⟩ := hsp
  refine sc_behind (va_runS (Ts := sc_gw) (own := y.1.cls) (As := as.map (sc_rv G)) (n := as.length) ⟨hx, hbb, hml, hown, hts⟩ hM ⟨sc_callB hts hm hini hl hn hmax, hts _ hi⟩ (sc_pre (μ := μ) hK hP (as.map (sc_rv G))) rfl (by simp) (by exact hL.1) ?_ ?_ hd ⟨Nat.le_refl _, Nat.le_refl _⟩) C0 hS hL kk
  · show List.map (sc_rv G) (as.reverse ++ st) = _
    rw [List.map_append, List.map_reverse]
  · rw [sc_cats_eq]
    exact (Nat.zero_add _).symm ▸ hst
def sc_cp (μ : sc_M) (a b sp dp n : Nat) : sc_M := fun c j => if c = b ∧ dp ≤ j ∧ j < dp + n then μ a (sp + (j - dp)) else μ c j
theorem sc_r_copy {a b idx : Nat} {sp dp n : Int} (hd : decode y.2.1 pc = .ok (.invokestatic idx, 3)) (hl : Cond.methodLink y.1.cls idx arraycopyName ∈ sc_gw) (h1 : Cond.native arraycopyName ∈ sc_gw) (h2 : Cond.static arraycopyName ∈ sc_gw) (h3 : Cond.initialized "java/lang/System" ∈ sc_gw)
    (ha : (sc_kd a).1 = 0) (hb : (sc_kd b).1 = 0) (g1 : 0 ≤ sp) (g2 : 0 ≤ dp) (g3 : 0 ≤ n) (g4 : sp + n ≤ (sc_kd a).2) (g5 : dp + n ≤ (sc_kd b).2) (hst : sc_cats st ≤ 8)
    (kk : sc_Wp l G (d + 1) y (pc + 3) L st (sc_cp μ a b sp.toNat dp.toNat n.toNat) Post) : sc_Wp l G (d + 1) y pc L (.inl n :: .inl dp :: .inr (.inr (.inl b)) :: .inl sp :: .inr (.inr (.inl a)) :: st) μ Post := by
  intro p e s m args below meth c9 H locs ls C hP hS hL
  have C0 := C
  obtain ⟨hx, hbb, -, hml, hown, -, hts, hK⟩ := C
  have ha7 : a < 70 := sc_kd_lt (by omega)
  have hb7 : b < 70 := sc_kd_lt (by omega)
  have l1 := sc_len_le a ha7
  have l2 := sc_len_le b hb7
  have he := sc_w_at G μ ha7
  rw [sc_cel_i G μ ha] at he
  have hf := sc_w_at G μ hb7
  rw [sc_cel_i G μ hb] at hf
  have i1 : sc_in sp := ⟨by omega, by omega⟩
  have i2 : sc_in dp := ⟨by omega, by omega⟩
  have i3 : sc_in n := ⟨by omega, by omega⟩
  refine va_copyi hx hbb (hml.trans hL.1.symm) hown (hts _ hl) (hts _ h1) (hts _ h2) (hts _ h3) hK.2 hP (sc_w_D hK.1) hS a b 0 0 (ty := .int) he hf rfl rfl rfl (fun q => by rw [sc_neg0 i1] at q; omega) (fun q => by rw [sc_neg0 i2] at q; omega) (fun q => by rw [sc_neg0 i3] at q; omega) (by rw [sc_clamp i1, sc_clamp i3]; omega) (by rw [sc_clamp i2, sc_clamp i3]; omega) (fun _ _ => rfl) (by show 1 ≤ d + 1; omega) ?_ hd (fun H1 locs1 hP1 _ hS1 => ?_)
  · rw [sc_cats_eq]
    show _ ≤ 36 * (d + 1)
    have : nativeFrameWords "java/lang/System" "arraycopy" 5 + 11 ≤ 28 := by decide
    omega
  · refine kk p e s m args below meth c9 H1 locs1 ls C0 ?_ hS1 hL
    rw [sc_clamp i1, sc_clamp i2, sc_clamp i3] at hP1
    have hw9 : (sc_w G μ).set b (G.2.2 b, .inl (G.2.1 0, (sc_kd b).2, .inl (va_cpy (fun i => Int32.ofInt (μ a i)) (fun i => Int32.ofInt (μ b i)) sp.toNat dp.toNat n.toNat))) = sc_w G (sc_cp μ a b sp.toNat dp.toNat n.toNat) := by
      refine sc_w_set G (fun c hc => ?_) ?_
      · have e : ∀ i, sc_cp μ a b sp.toNat dp.toNat n.toNat c i = μ c i := fun i => by simp [sc_cp, hc]
        unfold sc_cel sc_fv
        simp only [e]
      · rw [sc_cel_i G _ hb]
        congr 4
        funext j
        simp only [sc_cp, va_cpy, true_and]
        split <;> rfl
    rw [← hw9]
    exact hP1
end SCH
