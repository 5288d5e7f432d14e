theorem mw_locs_base (h : Nat) : ∀ i, ∀ q ∈ mw_locs h i, q.base = h
  | 0, q, hq => by cases hq
  | i + 1, q, hq => by
    rcases List.mem_append.mp hq with h1 | h1
    · exact mw_locs_base h i q h1
    · rw [List.mem_singleton.mp h1]
section
variable {p : Program} {l : Launch} {e : Env} {R : Room} {s : State} {m : MethodId} {args : Array Value} {below : List Frame} {meth : Method} {c : Code} {H H0 : Heap} {locs : List Loc} {cells slots : Nat} {Q : State → Prop} {cc : ByteArray} {pc : Nat} {ls : Array Slot} {rest : List Value} {D : va_G} {cl : List vw_C} {tys : List (ClassId × FieldType)} {ws : va_W} {A : Nat → Prop}
theorem ck_multi (g : Nat → Nat) (hexec : p.tables.exec = Jvm.exec) (hb : c.code = cc) {own : String} {index : Nat} (hown : s.vm.findClass own = some m.cls) (hclink : (Cond.classLink own index "[[I").before args s = true) (hK : va_K D cl tys s) {t0 t4 : Nat} {c0 c4 : ClassId} (ht0 : tys[t0]? = some (c0, .int)) (ht4 : tys[t4]? = some (c4, .array .int)) {kA : Class} (hA2 : s.vm.classes[c4]? = some kA) (hA3 : kA.kind = .array c0 (.array .int)) (hP : va_P D cl ws H) (hD : va_D A ws) (hS : va_S A H0 H locs) (hA : ∀ q, H0.size ≤ q → A q)
    (hcells : cells + 5 ≤ R.cells) (hslots : slots + 112 ≤ R.slots) (hdg : decode cc pc = .ok (.multianewarray index 2, 4))
    (kk : ∀ (q : Nat) (H1 : Heap) (locs1 : List Loc), va_P D cl (ws ++ [(q, .inl (c4, 4, .inr (.inr (.inr (.inr (fun i => some (if i < 4 then q + 1 + i else g i))))))), (q + 1, .inl (c0, 27, .inl (fun _ => 0))), (q + 2, .inl (c0, 27, .inl (fun _ => 0))), (q + 3, .inl (c0, 27, .inl (fun _ => 0))), (q + 4, .inl (c0, 27, .inl (fun _ => 0)))]) H1 → va_D A (ws ++ [(q, .inl (c4, 4, .inr (.inr (.inr (.inr (fun i => some (if i < 4 then q + 1 + i else g i))))))), (q + 1, .inl (c0, 27, .inl (fun _ => 0))), (q + 2, .inl (c0, 27, .inl (fun _ => 0))), (q + 3, .inl (c0, 27, .inl (fun _ => 0))), (q + 4, .inl (c0, 27, .inl (fun _ => 0)))]) → va_S A H0 H1 locs1 →
      W p l e R s m args below meth c H1 locs1 (cells + 5) (slots + 112) Q (F0 m (pc + 4) ls (.ref q :: rest))) : W p l e R s m args below meth c H locs cells slots Q (F0 m pc ls (.int 27 :: .int 4 :: rest)) := by
  obtain ⟨-, kC, hkC, cI, hkI⟩ := (hK.2 t0 _ ht0).1 0 (fun _ => .null)
  have hA1 : s.vm.findClass "[[I" = some c4 := (hK.2 t4 _ ht4).2
  refine mw_multi hexec hb hown hclink hA1 hA2 hA3 hkC hkI hcells hslots hdg (fun H1 h1 h2 h3 h4 => ?_)
  have hlt : ∀ q ∈ ws, q.1 < H.size := fun q hq => (ck_P_mem hP hq).lt
  refine kk H.size H1 _ ?_ ?_ ⟨Nat.le_trans hS.1 (by omega), fun x h5 h6 => (h4 x (Nat.lt_of_lt_of_le h5 hS.1)).trans (hS.2.1 x h5 h6), fun x hx => ?_⟩
  · refine va_P.app (hP.kept (fun k x hx => h4 x.1 (hlt x (List.mem_of_getElem? hx)))) (ck_P_of (fun q hq => ?_))
    simp only [List.mem_cons, List.not_mem_nil, or_false] at hq
    rcases hq with rfl | rfl | rfl | rfl | rfl
    · show H1[H.size]? = some (vp_cell _ _)
      rw [h1, vp_cell_q]
      congr 1
    · show H1[H.size + 1]? = some (vp_cell _ _)
      exact h2 0 (by omega)
    · show H1[H.size + 2]? = some (vp_cell _ _)
      exact h2 1 (by omega)
    · show H1[H.size + 3]? = some (vp_cell _ _)
      exact h2 2 (by omega)
    · show H1[H.size + 4]? = some (vp_cell _ _)
      exact h2 3 (by omega)
  · refine va_D.app hD ⟨fun i j x y hx hy hxy => ?_, fun k x hx => ?_⟩ (fun i j x y hx hy hxy => ?_)
    · have hi := (List.getElem?_eq_some_iff.mp hx).1
      have hj := (List.getElem?_eq_some_iff.mp hy).1
      simp only [List.length_cons, List.length_nil] at hi hj
      have hi5 : i = 0 ∨ i = 1 ∨ i = 2 ∨ i = 3 ∨ i = 4 := by omega
      have hj5 : j = 0 ∨ j = 1 ∨ j = 2 ∨ j = 3 ∨ j = 4 := by omega
      rcases hi5 with rfl | rfl | rfl | rfl | rfl <;> rcases hj5 with rfl | rfl | rfl | rfl | rfl <;> cases hx <;> cases hy <;> (try rfl) <;> (exfalso; dsimp only at hxy; omega)
    · have hm := List.mem_of_getElem? hx
      simp only [List.mem_cons, List.not_mem_nil, or_false] at hm
      have := hS.1
      rcases hm with rfl | rfl | rfl | rfl | rfl <;> exact hA _ (by dsimp only; omega)
    · have hm := List.mem_of_getElem? hy
      have h7 := hlt x (List.mem_of_getElem? hx)
      simp only [List.mem_cons, List.not_mem_nil, or_false] at hm
      rcases hm with rfl | rfl | rfl | rfl | rfl <;> (dsimp only at hxy; omega)
  · rcases List.mem_append.mp hx with h5 | h5
    · exact hS.2.2 x h5
    · rw [mw_locs_base H.size 4 x h5]
      exact hA _ hS.1
end
/-! WORLDS -/
def ck_Lwo : List Nat := 1 :: (ck_Lch ++ [4] ++ [5] ++ [6] ++ [7] ++ [8] ++ [9] ++ [10] ++ [11])
set_option maxHeartbeats 1000000 in
set_option maxRecDepth 100000 in
theorem ct_Wo_init (l : Launch) (G : sc_G) (h0 sz : Nat) : Met l mq_Wo_init.1 (sc_ws mq_Wo_init) (ct_rm 3 40 1881) (va_Pc [.ref h0] (ck_pre G 3 [.null, .null, .null, .null, .null, .null, .null, .null, .null, .int 0, .int 0, .int 0] h0 sz)) (ck_Q G 1 ck_Lwo h0 (va_A [(h0, .inr (3, [.null, .null, .null, .null, .null, .null, .null, .null, .null, .int 0, .int 0, .int 0]))] sz)) 40 1881 (va_A [(h0, .inr (3, [.null, .null, .null, .null, .null, .null, .null, .null, .null, .int 0, .int 0, .int 0]))] sz) := by
  refine Met.ofW (cc := mq_Wo_init.2.1) (maxL := 1) (ret := none) (by decide) rfl ?_
  intro p e s m args below meth c s₁ B hml hv
  obtain ⟨rfl, hsz, hP, hK, hN⟩ := hv
  have hx := B.exec
  have hb := B.bytes
  have hr := B.returns
  have hg : ∀ w ∈ sc_gw, w.before ([Value.ref h0] : List Value).toArray s = true := fun w h => atoms_spec (ws := sc_ws mq_Wo_init) B.pre w (List.mem_cons_of_mem _ h)
  have hown : s.vm.findClass "SightChart$Worlds" = some m.cls := findClass_of_methodNamed B.named
  have hlocks := B.notSynchronized
  have hin : meth.name = "<init>" := (name_of_methodNamed B.named B.method).1
  subst hsz
  have hD : va_D (va_A [(h0, .inr (3, [.null, .null, .null, .null, .null, .null, .null, .null, .null, .int 0, .int 0, .int 0]))] s.heap.size) [(h0, .inr (3, [.null, .null, .null, .null, .null, .null, .null, .null, .null, .int 0, .int 0, .int 0]))] := ck_D_1 (va_A.in (k := 0) rfl)
  generalize hAe : va_A [(h0, .inr (3, [.null, .null, .null, .null, .null, .null, .null, .null, .null, .int 0, .int 0, .int 0]))] s.heap.size = A at hD ⊢
  have hA : ∀ q : Nat, s.heap.size ≤ q → A q := fun q h => by rw [← hAe]; exact Or.inr h
  have hS : va_S A s.heap s.heap [] := va_S.rf
  show W p l e (ct_rm 3 40 1881) s m _ below meth c s.heap [] 0 0 _ _
  have hl := lv_entry ([.ref h0]) (n := 1) (Nat.le_of_ble_eq_true rfl)
  rw [lg_entry_eq]
  generalize (lg_sl ([.ref h0]) ++ List.replicate (1 - (lg_sl ([.ref h0])).length) Slot.unset).toArray = ls at hl ⊢
  have hl : lv_has ls 1 [(0, .ref h0)] := hl
  have hP : va_P G.1 vwCl ([(h0, .inr (3, [.null, .null, .null, .null, .null, .null, .null, .null, .null, .int 0, .int 0, .int 0]))]) _ := hP
  have hD : va_D A ([(h0, .inr (3, [.null, .null, .null, .null, .null, .null, .null, .null, .null, .int 0, .int 0, .int 0]))]) := hD
  refine lv_aload_n hx hb d_Wo_init_0 rfl (lv_at hl 0 rfl) ?_
  refine W.objInit hx hb hown (hg (.methodLink "SightChart$Worlds" 3 Lib.objectInit) (sc_mem_ok (by decide +kernel))) (hg (.instanceMethod Lib.objectInit) (sc_mem_ok (by decide +kernel))) (hg _ ck_obj) rfl (by rw [hml]; exact hl.1) rfl d_Wo_init_1 (Nat.le_of_ble_eq_true rfl) (Nat.le_of_ble_eq_true rfl) ?_
  refine W.eq (g2 := F0 m 4 ls []) rfl ?_
  refine lv_aload_n hx hb d_Wo_init_4 rfl (lv_at hl 0 rfl) ?_
  refine va_new (ci := 0) (fs := [.null, .int 0, .int 0]) (C := RX0) (T := TX0) (N := 3) hx hb hg sc_in0 tyX0 tyX0_ok hown (hg (.classLink "SightChart$Worlds" 9 RX0) (sc_mem_ok (by decide +kernel))) (hg (.instantiable RX0 3) (sc_mem_ok (by decide +kernel))) (hg (.initialized RX0) (sc_mem_ok (by decide +kernel))) hK hP hD hS hA rfl (fun j hj => by rcases (show j = 0 ∨ j = 1 ∨ j = 2 by omega) with rfl | rfl | rfl <;> rfl) (by decide) (by decide) d_Wo_init_5 (fun qn H hP hD hS => ?_)
  refine W.widen (k := 1) (n := 3) (by omega) (by omega) ?_
  refine lv_dup hx hb d_Wo_init_8 rfl ?_
  have hFc := ck_free (ws := [(h0, .inr (3, [.null, .null, .null, .null, .null, .null, .null, .null, .null, .int 0, .int 0, .int 0]))]) hD hS hA
  refine va_callv (va_runI (As := []) (rest := [.ref qn, .ref h0]) ⟨hx, hb, hml, hown, hg⟩ (ct_Ch_init l G qn H.size) (cwI 0 hg (ck_good cm_Ch_init) rfl rfl rfl (hg (.initialized mq_Ch_init.1.cls) (sc_mem_ok (by decide +kernel))) (hg (.methodLink "SightChart$Worlds" 11 mq_Ch_init.1) (sc_mem_ok (by decide +kernel))) (hg (.instanceMethod mq_Ch_init.1) (sc_mem_ok (by decide +kernel))) rfl (by decide +kernel) ⟨by decide, by decide⟩) (ck_pr (ck_P_last (ws := [(h0, .inr (3, [.null, .null, .null, .null, .null, .null, .null, .null, .null, .int 0, .int 0, .int 0]))]) hP) hK hN) rfl rfl hl.1 rfl (lv_room (Nat.le_of_ble_eq_true rfl)) d_Wo_init_9 ⟨by decide, by decide⟩) hS (fun q _ h => hFc q h) hFc (fun u t H1 locs ht hvm hw hB hz1 hk1 hS => ?_)
  obtain ⟨hP1, hD1⟩ := hB
  rw [ht] at hP1
  obtain ⟨hP9, hD9⟩ := ck_join (ws := [(h0, .inr (3, [.null, .null, .null, .null, .null, .null, .null, .null, .null, .int 0, .int 0, .int 0]))]) hP hD hk1 hFc hP1 hD1
  clear hP hD hFc hk1 hP1 hD1
  subst hw
  have hP : va_P G.1 vwCl ((h0, .inr (3, [.null, .null, .null, .null, .null, .null, .null, .null, .null, .int 0, .int 0, .int 0])) :: (ck_w G u ck_Lch)) H1 := hP9
  have hD : va_D A ((h0, .inr (3, [.null, .null, .null, .null, .null, .null, .null, .null, .null, .int 0, .int 0, .int 0])) :: (ck_w G u ck_Lch)) := hD9
  clear hP9 hD9
  refine W.widen (k := 32) (n := 403) (by omega) (by omega) ?_
  refine va_putF (D := G.1) (ci := 3) (v := .ref (u 2)) (ty := .object "SightChart$Chart") (C := RX3) (T := TX3) (N := 12) hx hb hg sc_in3 tyX3 tyX3_ok nmX3 hown hK hP hD hS 0 rfl rfl 0 (by decide) (hg (.fieldLink "SightChart$Worlds" 12 "SightChart$Worlds" "chart" "LSightChart$Chart;") (sc_mem_ok (by decide +kernel))) (fun _ h9 => h9) rfl hin rfl (by decide +kernel) rfl rfl (Nat.le_of_ble_eq_true rfl) d_Wo_init_12 (fun H locs hP hD hS => ?_)
  have hP : va_P G.1 vwCl ((h0, .inr (3, [.ref (u 2), .null, .null, .null, .null, .null, .null, .null, .null, .int 0, .int 0, .int 0])) :: (ck_w G u ck_Lch)) H := hP
  have hD : va_D A ((h0, .inr (3, [.ref (u 2), .null, .null, .null, .null, .null, .null, .null, .null, .int 0, .int 0, .int 0])) :: (ck_w G u ck_Lch)) := hD
  refine lv_aload_n hx hb d_Wo_init_15 rfl (lv_at hl 0 rfl) ?_
  refine lv_bipush (v := 10) hx hb d_Wo_init_16 (by decide) ?_
  refine ck_newa (atype := .int) (ty := .int) (t0 := 0) (cA := G.2.1 0) (N' := 10) (a0 := (10, .inl (fun _ => 0))) hx hb (hg (.arrayClass (newarray.typeOf .int)) (sc_mem_ok (by decide +kernel))) rfl hK rfl hP hD hS hA (fun _ => rfl) (by decide +kernel) (by decide +kernel) (ck_by (by decide) (by decide)) (by decide) (by decide) d_Wo_init_18 (fun q4 H hP hD hS => ?_)
  have hP : va_P G.1 vwCl ((h0, .inr (3, [.ref (u 2), .null, .null, .null, .null, .null, .null, .null, .null, .int 0, .int 0, .int 0])) :: ((ck_w G u ck_Lch) ++ [(q4, .inl (G.2.1 0, 10, .inl (fun _ => 0)))])) H := hP
  have hD : va_D A ((h0, .inr (3, [.ref (u 2), .null, .null, .null, .null, .null, .null, .null, .null, .int 0, .int 0, .int 0])) :: ((ck_w G u ck_Lch) ++ [(q4, .inl (G.2.1 0, 10, .inl (fun _ => 0)))])) := hD
  refine W.widen (k := 33) (n := 413) (by omega) (by omega) ?_
  refine va_putF (D := G.1) (ci := 3) (v := .ref q4) (ty := .array .int) (C := RX3) (T := TX3) (N := 12) hx hb hg sc_in3 tyX3 tyX3_ok nmX3 hown hK hP hD hS 0 rfl rfl 1 (by decide) (hg (.fieldLink "SightChart$Worlds" 18 "SightChart$Worlds" "sights" "[I") (sc_mem_ok (by decide +kernel))) (fun _ h9 => h9) rfl hin rfl (by decide +kernel) rfl rfl (Nat.le_of_ble_eq_true rfl) d_Wo_init_20 (fun H locs hP hD hS => ?_)
  have hP : va_P G.1 vwCl ((h0, .inr (3, [.ref (u 2), .ref q4, .null, .null, .null, .null, .null, .null, .null, .int 0, .int 0, .int 0])) :: ((ck_w G u ck_Lch) ++ [(q4, .inl (G.2.1 0, 10, .inl (fun _ => 0)))])) H := hP
  have hD : va_D A ((h0, .inr (3, [.ref (u 2), .ref q4, .null, .null, .null, .null, .null, .null, .null, .int 0, .int 0, .int 0])) :: ((ck_w G u ck_Lch) ++ [(q4, .inl (G.2.1 0, 10, .inl (fun _ => 0)))])) := hD
  refine lv_aload_n hx hb d_Wo_init_23 rfl (lv_at hl 0 rfl) ?_
  refine lv_bipush (v := 10) hx hb d_Wo_init_24 (by decide) ?_
  refine ck_newa (atype := .int) (ty := .int) (t0 := 0) (cA := G.2.1 0) (N' := 10) (a0 := (10, .inl (fun _ => 0))) hx hb (hg (.arrayClass (newarray.typeOf .int)) (sc_mem_ok (by decide +kernel))) rfl hK rfl hP hD hS hA (fun _ => rfl) (by decide +kernel) (by decide +kernel) (ck_by (by decide) (by decide)) (by decide) (by decide) d_Wo_init_26 (fun q5 H hP hD hS => ?_)
  have hP : va_P G.1 vwCl ((h0, .inr (3, [.ref (u 2), .ref q4, .null, .null, .null, .null, .null, .null, .null, .int 0, .int 0, .int 0])) :: (((ck_w G u ck_Lch) ++ [(q4, .inl (G.2.1 0, 10, .inl (fun _ => 0)))]) ++ [(q5, .inl (G.2.1 0, 10, .inl (fun _ => 0)))])) H := hP
  have hD : va_D A ((h0, .inr (3, [.ref (u 2), .ref q4, .null, .null, .null, .null, .null, .null, .null, .int 0, .int 0, .int 0])) :: (((ck_w G u ck_Lch) ++ [(q4, .inl (G.2.1 0, 10, .inl (fun _ => 0)))]) ++ [(q5, .inl (G.2.1 0, 10, .inl (fun _ => 0)))])) := hD
  refine W.widen (k := 34) (n := 423) (by omega) (by omega) ?_
  refine va_putF (D := G.1) (ci := 3) (v := .ref q5) (ty := .array .int) (C := RX3) (T := TX3) (N := 12) hx hb hg sc_in3 tyX3 tyX3_ok nmX3 hown hK hP hD hS 0 rfl rfl 2 (by decide) (hg (.fieldLink "SightChart$Worlds" 22 "SightChart$Worlds" "known" "[I") (sc_mem_ok (by decide +kernel))) (fun _ h9 => h9) rfl hin rfl (by decide +kernel) rfl rfl (Nat.le_of_ble_eq_true rfl) d_Wo_init_28 (fun H locs hP hD hS => ?_)
  have hP : va_P G.1 vwCl ((h0, .inr (3, [.ref (u 2), .ref q4, .ref q5, .null, .null, .null, .null, .null, .null, .int 0, .int 0, .int 0])) :: (((ck_w G u ck_Lch) ++ [(q4, .inl (G.2.1 0, 10, .inl (fun _ => 0)))]) ++ [(q5, .inl (G.2.1 0, 10, .inl (fun _ => 0)))])) H := hP
  have hD : va_D A ((h0, .inr (3, [.ref (u 2), .ref q4, .ref q5, .null, .null, .null, .null, .null, .null, .int 0, .int 0, .int 0])) :: (((ck_w G u ck_Lch) ++ [(q4, .inl (G.2.1 0, 10, .inl (fun _ => 0)))]) ++ [(q5, .inl (G.2.1 0, 10, .inl (fun _ => 0)))])) := hD
  refine lv_aload_n hx hb d_Wo_init_31 rfl (lv_at hl 0 rfl) ?_
  refine lv_sipush (v := 243) hx hb d_Wo_init_32 (by decide) ?_
  refine ck_newa (atype := .int) (ty := .int) (t0 := 0) (cA := G.2.1 0) (N' := 243) (a0 := (243, .inl (fun _ => 0))) hx hb (hg (.arrayClass (newarray.typeOf .int)) (sc_mem_ok (by decide +kernel))) rfl hK rfl hP hD hS hA (fun _ => rfl) (by decide +kernel) (by decide +kernel) (ck_by (by decide) (by decide)) (by decide) (by decide) d_Wo_init_35 (fun q6 H hP hD hS => ?_)
  have hP : va_P G.1 vwCl ((h0, .inr (3, [.ref (u 2), .ref q4, .ref q5, .null, .null, .null, .null, .null, .null, .int 0, .int 0, .int 0])) :: ((((ck_w G u ck_Lch) ++ [(q4, .inl (G.2.1 0, 10, .inl (fun _ => 0)))]) ++ [(q5, .inl (G.2.1 0, 10, .inl (fun _ => 0)))]) ++ [(q6, .inl (G.2.1 0, 243, .inl (fun _ => 0)))])) H := hP
  have hD : va_D A ((h0, .inr (3, [.ref (u 2), .ref q4, .ref q5, .null, .null, .null, .null, .null, .null, .int 0, .int 0, .int 0])) :: ((((ck_w G u ck_Lch) ++ [(q4, .inl (G.2.1 0, 10, .inl (fun _ => 0)))]) ++ [(q5, .inl (G.2.1 0, 10, .inl (fun _ => 0)))]) ++ [(q6, .inl (G.2.1 0, 243, .inl (fun _ => 0)))])) := hD
  refine W.widen (k := 35) (n := 666) (by omega) (by omega) ?_
  refine va_putF (D := G.1) (ci := 3) (v := .ref q6) (ty := .array .int) (C := RX3) (T := TX3) (N := 12) hx hb hg sc_in3 tyX3 tyX3_ok nmX3 hown hK hP hD hS 0 rfl rfl 3 (by decide) (hg (.fieldLink "SightChart$Worlds" 25 "SightChart$Worlds" "weight" "[I") (sc_mem_ok (by decide +kernel))) (fun _ h9 => h9) rfl hin rfl (by decide +kernel) rfl rfl (Nat.le_of_ble_eq_true rfl) d_Wo_init_37 (fun H locs hP hD hS => ?_)
  have hP : va_P G.1 vwCl ((h0, .inr (3, [.ref (u 2), .ref q4, .ref q5, .ref q6, .null, .null, .null, .null, .null, .int 0, .int 0, .int 0])) :: ((((ck_w G u ck_Lch) ++ [(q4, .inl (G.2.1 0, 10, .inl (fun _ => 0)))]) ++ [(q5, .inl (G.2.1 0, 10, .inl (fun _ => 0)))]) ++ [(q6, .inl (G.2.1 0, 243, .inl (fun _ => 0)))])) H := hP
  have hD : va_D A ((h0, .inr (3, [.ref (u 2), .ref q4, .ref q5, .ref q6, .null, .null, .null, .null, .null, .int 0, .int 0, .int 0])) :: ((((ck_w G u ck_Lch) ++ [(q4, .inl (G.2.1 0, 10, .inl (fun _ => 0)))]) ++ [(q5, .inl (G.2.1 0, 10, .inl (fun _ => 0)))]) ++ [(q6, .inl (G.2.1 0, 243, .inl (fun _ => 0)))])) := hD
  refine lv_aload_n hx hb d_Wo_init_40 rfl (lv_at hl 0 rfl) ?_
  refine lv_sipush (v := 243) hx hb d_Wo_init_41 (by decide) ?_
  refine ck_newa (atype := .int) (ty := .int) (t0 := 0) (cA := G.2.1 0) (N' := 243) (a0 := (243, .inl (fun _ => 0))) hx hb (hg (.arrayClass (newarray.typeOf .int)) (sc_mem_ok (by decide +kernel))) rfl hK rfl hP hD hS hA (fun _ => rfl) (by decide +kernel) (by decide +kernel) (ck_by (by decide) (by decide)) (by decide) (by decide) d_Wo_init_44 (fun q7 H hP hD hS => ?_)
  have hP : va_P G.1 vwCl ((h0, .inr (3, [.ref (u 2), .ref q4, .ref q5, .ref q6, .null, .null, .null, .null, .null, .int 0, .int 0, .int 0])) :: (((((ck_w G u ck_Lch) ++ [(q4, .inl (G.2.1 0, 10, .inl (fun _ => 0)))]) ++ [(q5, .inl (G.2.1 0, 10, .inl (fun _ => 0)))]) ++ [(q6, .inl (G.2.1 0, 243, .inl (fun _ => 0)))]) ++ [(q7, .inl (G.2.1 0, 243, .inl (fun _ => 0)))])) H := hP
  have hD : va_D A ((h0, .inr (3, [.ref (u 2), .ref q4, .ref q5, .ref q6, .null, .null, .null, .null, .null, .int 0, .int 0, .int 0])) :: (((((ck_w G u ck_Lch) ++ [(q4, .inl (G.2.1 0, 10, .inl (fun _ => 0)))]) ++ [(q5, .inl (G.2.1 0, 10, .inl (fun _ => 0)))]) ++ [(q6, .inl (G.2.1 0, 243, .inl (fun _ => 0)))]) ++ [(q7, .inl (G.2.1 0, 243, .inl (fun _ => 0)))])) := hD
  refine W.widen (k := 36) (n := 909) (by omega) (by omega) ?_
  refine va_putF (D := G.1) (ci := 3) (v := .ref q7) (ty := .array .int) (C := RX3) (T := TX3) (N := 12) hx hb hg sc_in3 tyX3 tyX3_ok nmX3 hown hK hP hD hS 0 rfl rfl 4 (by decide) (hg (.fieldLink "SightChart$Worlds" 28 "SightChart$Worlds" "worth" "[I") (sc_mem_ok (by decide +kernel))) (fun _ h9 => h9) rfl hin rfl (by decide +kernel) rfl rfl (Nat.le_of_ble_eq_true rfl) d_Wo_init_46 (fun H locs hP hD hS => ?_)
  have hP : va_P G.1 vwCl ((h0, .inr (3, [.ref (u 2), .ref q4, .ref q5, .ref q6, .ref q7, .null, .null, .null, .null, .int 0, .int 0, .int 0])) :: (((((ck_w G u ck_Lch) ++ [(q4, .inl (G.2.1 0, 10, .inl (fun _ => 0)))]) ++ [(q5, .inl (G.2.1 0, 10, .inl (fun _ => 0)))]) ++ [(q6, .inl (G.2.1 0, 243, .inl (fun _ => 0)))]) ++ [(q7, .inl (G.2.1 0, 243, .inl (fun _ => 0)))])) H := hP
  have hD : va_D A ((h0, .inr (3, [.ref (u 2), .ref q4, .ref q5, .ref q6, .ref q7, .null, .null, .null, .null, .int 0, .int 0, .int 0])) :: (((((ck_w G u ck_Lch) ++ [(q4, .inl (G.2.1 0, 10, .inl (fun _ => 0)))]) ++ [(q5, .inl (G.2.1 0, 10, .inl (fun _ => 0)))]) ++ [(q6, .inl (G.2.1 0, 243, .inl (fun _ => 0)))]) ++ [(q7, .inl (G.2.1 0, 243, .inl (fun _ => 0)))])) := hD
  refine lv_aload_n hx hb d_Wo_init_49 rfl (lv_at hl 0 rfl) ?_
  refine lv_sipush (v := 243) hx hb d_Wo_init_50 (by decide) ?_
  refine ck_newa (atype := .int) (ty := .int) (t0 := 0) (cA := G.2.1 0) (N' := 243) (a0 := (243, .inl (fun _ => 0))) hx hb (hg (.arrayClass (newarray.typeOf .int)) (sc_mem_ok (by decide +kernel))) rfl hK rfl hP hD hS hA (fun _ => rfl) (by decide +kernel) (by decide +kernel) (ck_by (by decide) (by decide)) (by decide) (by decide) d_Wo_init_53 (fun q8 H hP hD hS => ?_)
  have hP : va_P G.1 vwCl ((h0, .inr (3, [.ref (u 2), .ref q4, .ref q5, .ref q6, .ref q7, .null, .null, .null, .null, .int 0, .int 0, .int 0])) :: ((((((ck_w G u ck_Lch) ++ [(q4, .inl (G.2.1 0, 10, .inl (fun _ => 0)))]) ++ [(q5, .inl (G.2.1 0, 10, .inl (fun _ => 0)))]) ++ [(q6, .inl (G.2.1 0, 243, .inl (fun _ => 0)))]) ++ [(q7, .inl (G.2.1 0, 243, .inl (fun _ => 0)))]) ++ [(q8, .inl (G.2.1 0, 243, .inl (fun _ => 0)))])) H := hP
  have hD : va_D A ((h0, .inr (3, [.ref (u 2), .ref q4, .ref q5, .ref q6, .ref q7, .null, .null, .null, .null, .int 0, .int 0, .int 0])) :: ((((((ck_w G u ck_Lch) ++ [(q4, .inl (G.2.1 0, 10, .inl (fun _ => 0)))]) ++ [(q5, .inl (G.2.1 0, 10, .inl (fun _ => 0)))]) ++ [(q6, .inl (G.2.1 0, 243, .inl (fun _ => 0)))]) ++ [(q7, .inl (G.2.1 0, 243, .inl (fun _ => 0)))]) ++ [(q8, .inl (G.2.1 0, 243, .inl (fun _ => 0)))])) := hD
  refine W.widen (k := 37) (n := 1152) (by omega) (by omega) ?_
  refine va_putF (D := G.1) (ci := 3) (v := .ref q8) (ty := .array .int) (C := RX3) (T := TX3) (N := 12) hx hb hg sc_in3 tyX3 tyX3_ok nmX3 hown hK hP hD hS 0 rfl rfl 5 (by decide) (hg (.fieldLink "SightChart$Worlds" 31 "SightChart$Worlds" "key" "[I") (sc_mem_ok (by decide +kernel))) (fun _ h9 => h9) rfl hin rfl (by decide +kernel) rfl rfl (Nat.le_of_ble_eq_true rfl) d_Wo_init_55 (fun H locs hP hD hS => ?_)
  have hP : va_P G.1 vwCl ((h0, .inr (3, [.ref (u 2), .ref q4, .ref q5, .ref q6, .ref q7, .ref q8, .null, .null, .null, .int 0, .int 0, .int 0])) :: ((((((ck_w G u ck_Lch) ++ [(q4, .inl (G.2.1 0, 10, .inl (fun _ => 0)))]) ++ [(q5, .inl (G.2.1 0, 10, .inl (fun _ => 0)))]) ++ [(q6, .inl (G.2.1 0, 243, .inl (fun _ => 0)))]) ++ [(q7, .inl (G.2.1 0, 243, .inl (fun _ => 0)))]) ++ [(q8, .inl (G.2.1 0, 243, .inl (fun _ => 0)))])) H := hP
  have hD : va_D A ((h0, .inr (3, [.ref (u 2), .ref q4, .ref q5, .ref q6, .ref q7, .ref q8, .null, .null, .null, .int 0, .int 0, .int 0])) :: ((((((ck_w G u ck_Lch) ++ [(q4, .inl (G.2.1 0, 10, .inl (fun _ => 0)))]) ++ [(q5, .inl (G.2.1 0, 10, .inl (fun _ => 0)))]) ++ [(q6, .inl (G.2.1 0, 243, .inl (fun _ => 0)))]) ++ [(q7, .inl (G.2.1 0, 243, .inl (fun _ => 0)))]) ++ [(q8, .inl (G.2.1 0, 243, .inl (fun _ => 0)))])) := hD
  refine lv_aload_n hx hb d_Wo_init_58 rfl (lv_at hl 0 rfl) ?_
  refine lv_sipush (v := 243) hx hb d_Wo_init_59 (by decide) ?_
  refine ck_newa (atype := .long) (ty := .long) (t0 := 1) (cA := G.2.1 1) (N' := 243) (a0 := (243, .inr (.inl (fun _ => 0)))) hx hb (hg (.arrayClass (newarray.typeOf .long)) (sc_mem_ok (by decide +kernel))) rfl hK rfl hP hD hS hA (fun _ => rfl) (by decide +kernel) (by decide +kernel) (ck_by (by decide) (by decide)) (by decide) (by decide) d_Wo_init_62 (fun q9 H hP hD hS => ?_)
  have hP : va_P G.1 vwCl ((h0, .inr (3, [.ref (u 2), .ref q4, .ref q5, .ref q6, .ref q7, .ref q8, .null, .null, .null, .int 0, .int 0, .int 0])) :: (((((((ck_w G u ck_Lch) ++ [(q4, .inl (G.2.1 0, 10, .inl (fun _ => 0)))]) ++ [(q5, .inl (G.2.1 0, 10, .inl (fun _ => 0)))]) ++ [(q6, .inl (G.2.1 0, 243, .inl (fun _ => 0)))]) ++ [(q7, .inl (G.2.1 0, 243, .inl (fun _ => 0)))]) ++ [(q8, .inl (G.2.1 0, 243, .inl (fun _ => 0)))]) ++ [(q9, .inl (G.2.1 1, 243, .inr (.inl (fun _ => 0))))])) H := hP
  have hD : va_D A ((h0, .inr (3, [.ref (u 2), .ref q4, .ref q5, .ref q6, .ref q7, .ref q8, .null, .null, .null, .int 0, .int 0, .int 0])) :: (((((((ck_w G u ck_Lch) ++ [(q4, .inl (G.2.1 0, 10, .inl (fun _ => 0)))]) ++ [(q5, .inl (G.2.1 0, 10, .inl (fun _ => 0)))]) ++ [(q6, .inl (G.2.1 0, 243, .inl (fun _ => 0)))]) ++ [(q7, .inl (G.2.1 0, 243, .inl (fun _ => 0)))]) ++ [(q8, .inl (G.2.1 0, 243, .inl (fun _ => 0)))]) ++ [(q9, .inl (G.2.1 1, 243, .inr (.inl (fun _ => 0))))])) := hD
  refine W.widen (k := 38) (n := 1395) (by omega) (by omega) ?_
  refine va_putF (D := G.1) (ci := 3) (v := .ref q9) (ty := .array .long) (C := RX3) (T := TX3) (N := 12) hx hb hg sc_in3 tyX3 tyX3_ok nmX3 hown hK hP hD hS 0 rfl rfl 6 (by decide) (hg (.fieldLink "SightChart$Worlds" 34 "SightChart$Worlds" "sum" "[J") (sc_mem_ok (by decide +kernel))) (fun _ h9 => h9) rfl hin rfl (by decide +kernel) rfl rfl (Nat.le_of_ble_eq_true rfl) d_Wo_init_64 (fun H locs hP hD hS => ?_)
  have hP : va_P G.1 vwCl ((h0, .inr (3, [.ref (u 2), .ref q4, .ref q5, .ref q6, .ref q7, .ref q8, .ref q9, .null, .null, .int 0, .int 0, .int 0])) :: (((((((ck_w G u ck_Lch) ++ [(q4, .inl (G.2.1 0, 10, .inl (fun _ => 0)))]) ++ [(q5, .inl (G.2.1 0, 10, .inl (fun _ => 0)))]) ++ [(q6, .inl (G.2.1 0, 243, .inl (fun _ => 0)))]) ++ [(q7, .inl (G.2.1 0, 243, .inl (fun _ => 0)))]) ++ [(q8, .inl (G.2.1 0, 243, .inl (fun _ => 0)))]) ++ [(q9, .inl (G.2.1 1, 243, .inr (.inl (fun _ => 0))))])) H := hP
  have hD : va_D A ((h0, .inr (3, [.ref (u 2), .ref q4, .ref q5, .ref q6, .ref q7, .ref q8, .ref q9, .null, .null, .int 0, .int 0, .int 0])) :: (((((((ck_w G u ck_Lch) ++ [(q4, .inl (G.2.1 0, 10, .inl (fun _ => 0)))]) ++ [(q5, .inl (G.2.1 0, 10, .inl (fun _ => 0)))]) ++ [(q6, .inl (G.2.1 0, 243, .inl (fun _ => 0)))]) ++ [(q7, .inl (G.2.1 0, 243, .inl (fun _ => 0)))]) ++ [(q8, .inl (G.2.1 0, 243, .inl (fun _ => 0)))]) ++ [(q9, .inl (G.2.1 1, 243, .inr (.inl (fun _ => 0))))])) := hD
  refine lv_aload_n hx hb d_Wo_init_67 rfl (lv_at hl 0 rfl) ?_
  refine lv_sipush (v := 243) hx hb d_Wo_init_68 (by decide) ?_
  refine ck_newa (atype := .int) (ty := .int) (t0 := 0) (cA := G.2.1 0) (N' := 243) (a0 := (243, .inl (fun _ => 0))) hx hb (hg (.arrayClass (newarray.typeOf .int)) (sc_mem_ok (by decide +kernel))) rfl hK rfl hP hD hS hA (fun _ => rfl) (by decide +kernel) (by decide +kernel) (ck_by (by decide) (by decide)) (by decide) (by decide) d_Wo_init_71 (fun q10 H hP hD hS => ?_)
  have hP : va_P G.1 vwCl ((h0, .inr (3, [.ref (u 2), .ref q4, .ref q5, .ref q6, .ref q7, .ref q8, .ref q9, .null, .null, .int 0, .int 0, .int 0])) :: ((((((((ck_w G u ck_Lch) ++ [(q4, .inl (G.2.1 0, 10, .inl (fun _ => 0)))]) ++ [(q5, .inl (G.2.1 0, 10, .inl (fun _ => 0)))]) ++ [(q6, .inl (G.2.1 0, 243, .inl (fun _ => 0)))]) ++ [(q7, .inl (G.2.1 0, 243, .inl (fun _ => 0)))]) ++ [(q8, .inl (G.2.1 0, 243, .inl (fun _ => 0)))]) ++ [(q9, .inl (G.2.1 1, 243, .inr (.inl (fun _ => 0))))]) ++ [(q10, .inl (G.2.1 0, 243, .inl (fun _ => 0)))])) H := hP
  have hD : va_D A ((h0, .inr (3, [.ref (u 2), .ref q4, .ref q5, .ref q6, .ref q7, .ref q8, .ref q9, .null, .null, .int 0, .int 0, .int 0])) :: ((((((((ck_w G u ck_Lch) ++ [(q4, .inl (G.2.1 0, 10, .inl (fun _ => 0)))]) ++ [(q5, .inl (G.2.1 0, 10, .inl (fun _ => 0)))]) ++ [(q6, .inl (G.2.1 0, 243, .inl (fun _ => 0)))]) ++ [(q7, .inl (G.2.1 0, 243, .inl (fun _ => 0)))]) ++ [(q8, .inl (G.2.1 0, 243, .inl (fun _ => 0)))]) ++ [(q9, .inl (G.2.1 1, 243, .inr (.inl (fun _ => 0))))]) ++ [(q10, .inl (G.2.1 0, 243, .inl (fun _ => 0)))])) := hD
  refine W.widen (k := 39) (n := 1638) (by omega) (by omega) ?_
  refine va_putF (D := G.1) (ci := 3) (v := .ref q10) (ty := .array .int) (C := RX3) (T := TX3) (N := 12) hx hb hg sc_in3 tyX3 tyX3_ok nmX3 hown hK hP hD hS 0 rfl rfl 7 (by decide) (hg (.fieldLink "SightChart$Worlds" 38 "SightChart$Worlds" "keptWeight" "[I") (sc_mem_ok (by decide +kernel))) (fun _ h9 => h9) rfl hin rfl (by decide +kernel) rfl rfl (Nat.le_of_ble_eq_true rfl) d_Wo_init_73 (fun H locs hP hD hS => ?_)
  have hP : va_P G.1 vwCl ((h0, .inr (3, [.ref (u 2), .ref q4, .ref q5, .ref q6, .ref q7, .ref q8, .ref q9, .ref q10, .null, .int 0, .int 0, .int 0])) :: ((((((((ck_w G u ck_Lch) ++ [(q4, .inl (G.2.1 0, 10, .inl (fun _ => 0)))]) ++ [(q5, .inl (G.2.1 0, 10, .inl (fun _ => 0)))]) ++ [(q6, .inl (G.2.1 0, 243, .inl (fun _ => 0)))]) ++ [(q7, .inl (G.2.1 0, 243, .inl (fun _ => 0)))]) ++ [(q8, .inl (G.2.1 0, 243, .inl (fun _ => 0)))]) ++ [(q9, .inl (G.2.1 1, 243, .inr (.inl (fun _ => 0))))]) ++ [(q10, .inl (G.2.1 0, 243, .inl (fun _ => 0)))])) H := hP
  have hD : va_D A ((h0, .inr (3, [.ref (u 2), .ref q4, .ref q5, .ref q6, .ref q7, .ref q8, .ref q9, .ref q10, .null, .int 0, .int 0, .int 0])) :: ((((((((ck_w G u ck_Lch) ++ [(q4, .inl (G.2.1 0, 10, .inl (fun _ => 0)))]) ++ [(q5, .inl (G.2.1 0, 10, .inl (fun _ => 0)))]) ++ [(q6, .inl (G.2.1 0, 243, .inl (fun _ => 0)))]) ++ [(q7, .inl (G.2.1 0, 243, .inl (fun _ => 0)))]) ++ [(q8, .inl (G.2.1 0, 243, .inl (fun _ => 0)))]) ++ [(q9, .inl (G.2.1 1, 243, .inr (.inl (fun _ => 0))))]) ++ [(q10, .inl (G.2.1 0, 243, .inl (fun _ => 0)))])) := hD
  refine lv_aload_n hx hb d_Wo_init_76 rfl (lv_at hl 0 rfl) ?_
  refine lv_sipush (v := 243) hx hb d_Wo_init_77 (by decide) ?_
  refine ck_newa (atype := .int) (ty := .int) (t0 := 0) (cA := G.2.1 0) (N' := 243) (a0 := (243, .inl (fun _ => 0))) hx hb (hg (.arrayClass (newarray.typeOf .int)) (sc_mem_ok (by decide +kernel))) rfl hK rfl hP hD hS hA (fun _ => rfl) (by decide +kernel) (by decide +kernel) (ck_by (by decide) (by decide)) (by decide) (by decide) d_Wo_init_80 (fun q11 H hP hD hS => ?_)
  have hP : va_P G.1 vwCl ((h0, .inr (3, [.ref (u 2), .ref q4, .ref q5, .ref q6, .ref q7, .ref q8, .ref q9, .ref q10, .null, .int 0, .int 0, .int 0])) :: (((((((((ck_w G u ck_Lch) ++ [(q4, .inl (G.2.1 0, 10, .inl (fun _ => 0)))]) ++ [(q5, .inl (G.2.1 0, 10, .inl (fun _ => 0)))]) ++ [(q6, .inl (G.2.1 0, 243, .inl (fun _ => 0)))]) ++ [(q7, .inl (G.2.1 0, 243, .inl (fun _ => 0)))]) ++ [(q8, .inl (G.2.1 0, 243, .inl (fun _ => 0)))]) ++ [(q9, .inl (G.2.1 1, 243, .inr (.inl (fun _ => 0))))]) ++ [(q10, .inl (G.2.1 0, 243, .inl (fun _ => 0)))]) ++ [(q11, .inl (G.2.1 0, 243, .inl (fun _ => 0)))])) H := hP
  have hD : va_D A ((h0, .inr (3, [.ref (u 2), .ref q4, .ref q5, .ref q6, .ref q7, .ref q8, .ref q9, .ref q10, .null, .int 0, .int 0, .int 0])) :: (((((((((ck_w G u ck_Lch) ++ [(q4, .inl (G.2.1 0, 10, .inl (fun _ => 0)))]) ++ [(q5, .inl (G.2.1 0, 10, .inl (fun _ => 0)))]) ++ [(q6, .inl (G.2.1 0, 243, .inl (fun _ => 0)))]) ++ [(q7, .inl (G.2.1 0, 243, .inl (fun _ => 0)))]) ++ [(q8, .inl (G.2.1 0, 243, .inl (fun _ => 0)))]) ++ [(q9, .inl (G.2.1 1, 243, .inr (.inl (fun _ => 0))))]) ++ [(q10, .inl (G.2.1 0, 243, .inl (fun _ => 0)))]) ++ [(q11, .inl (G.2.1 0, 243, .inl (fun _ => 0)))])) := hD
  refine W.widen (k := 40) (n := 1881) (by omega) (by omega) ?_
  refine va_putF (D := G.1) (ci := 3) (v := .ref q11) (ty := .array .int) (C := RX3) (T := TX3) (N := 12) hx hb hg sc_in3 tyX3 tyX3_ok nmX3 hown hK hP hD hS 0 rfl rfl 8 (by decide) (hg (.fieldLink "SightChart$Worlds" 41 "SightChart$Worlds" "moved" "[I") (sc_mem_ok (by decide +kernel))) (fun _ h9 => h9) rfl hin rfl (by decide +kernel) rfl rfl (Nat.le_of_ble_eq_true rfl) d_Wo_init_82 (fun H locs hP hD hS => ?_)
  have hP : va_P G.1 vwCl ((h0, .inr (3, [.ref (u 2), .ref q4, .ref q5, .ref q6, .ref q7, .ref q8, .ref q9, .ref q10, .ref q11, .int 0, .int 0, .int 0])) :: (((((((((ck_w G u ck_Lch) ++ [(q4, .inl (G.2.1 0, 10, .inl (fun _ => 0)))]) ++ [(q5, .inl (G.2.1 0, 10, .inl (fun _ => 0)))]) ++ [(q6, .inl (G.2.1 0, 243, .inl (fun _ => 0)))]) ++ [(q7, .inl (G.2.1 0, 243, .inl (fun _ => 0)))]) ++ [(q8, .inl (G.2.1 0, 243, .inl (fun _ => 0)))]) ++ [(q9, .inl (G.2.1 1, 243, .inr (.inl (fun _ => 0))))]) ++ [(q10, .inl (G.2.1 0, 243, .inl (fun _ => 0)))]) ++ [(q11, .inl (G.2.1 0, 243, .inl (fun _ => 0)))])) H := hP
  have hD : va_D A ((h0, .inr (3, [.ref (u 2), .ref q4, .ref q5, .ref q6, .ref q7, .ref q8, .ref q9, .ref q10, .ref q11, .int 0, .int 0, .int 0])) :: (((((((((ck_w G u ck_Lch) ++ [(q4, .inl (G.2.1 0, 10, .inl (fun _ => 0)))]) ++ [(q5, .inl (G.2.1 0, 10, .inl (fun _ => 0)))]) ++ [(q6, .inl (G.2.1 0, 243, .inl (fun _ => 0)))]) ++ [(q7, .inl (G.2.1 0, 243, .inl (fun _ => 0)))]) ++ [(q8, .inl (G.2.1 0, 243, .inl (fun _ => 0)))]) ++ [(q9, .inl (G.2.1 1, 243, .inr (.inl (fun _ => 0))))]) ++ [(q10, .inl (G.2.1 0, 243, .inl (fun _ => 0)))]) ++ [(q11, .inl (G.2.1 0, 243, .inl (fun _ => 0)))])) := hD
  have e : ck_w G (fun a => if a = 1 then h0 else if a = 4 then q4 else if a = 5 then q5 else if a = 6 then q6 else if a = 7 then q7 else if a = 8 then q8 else if a = 9 then q9 else if a = 10 then q10 else if a = 11 then q11 else u a) ck_Lwo = (h0, .inr (3, [.ref (u 2), .ref q4, .ref q5, .ref q6, .ref q7, .ref q8, .ref q9, .ref q10, .ref q11, .int 0, .int 0, .int 0])) :: (((((((((ck_w G u ck_Lch) ++ [(q4, .inl (G.2.1 0, 10, .inl (fun _ => 0)))]) ++ [(q5, .inl (G.2.1 0, 10, .inl (fun _ => 0)))]) ++ [(q6, .inl (G.2.1 0, 243, .inl (fun _ => 0)))]) ++ [(q7, .inl (G.2.1 0, 243, .inl (fun _ => 0)))]) ++ [(q8, .inl (G.2.1 0, 243, .inl (fun _ => 0)))]) ++ [(q9, .inl (G.2.1 1, 243, .inr (.inl (fun _ => 0))))]) ++ [(q10, .inl (G.2.1 0, 243, .inl (fun _ => 0)))]) ++ [(q11, .inl (G.2.1 0, 243, .inl (fun _ => 0)))]) := by
    show (_, _) :: ck_w G _ (ck_Lch ++ [4] ++ [5] ++ [6] ++ [7] ++ [8] ++ [9] ++ [10] ++ [11]) = _
    rw [ck_w_app, ck_w_app, ck_w_app, ck_w_app, ck_w_app, ck_w_app, ck_w_app, ck_w_app, ck_Lch_cg (u := (fun a => if a = 1 then h0 else if a = 4 then q4 else if a = 5 then q5 else if a = 6 then q6 else if a = 7 then q7 else if a = 8 then q8 else if a = 9 then q9 else if a = 10 then q10 else if a = 11 then q11 else u a)) (u2 := u) (fun a ha => by
      show (if a = 1 then h0 else if a = 4 then q4 else if a = 5 then q5 else if a = 6 then q6 else if a = 7 then q7 else if a = 8 then q8 else if a = 9 then q9 else if a = 10 then q10 else if a = 11 then q11 else u a) = u a
      rw [if_neg (by omega), if_neg (by omega), if_neg (by omega), if_neg (by omega), if_neg (by omega), if_neg (by omega), if_neg (by omega), if_neg (by omega), if_neg (by omega)])]
    rfl
  refine W.vret hx hb hr (fun t ht hW => ⟨⟨(fun a => if a = 1 then h0 else if a = 4 then q4 else if a = 5 then q5 else if a = 6 then q6 else if a = 7 then q7 else if a = 8 then q8 else if a = 9 then q9 else if a = 10 then q10 else if a = 11 then q11 else u a), rfl, rfl, by rw [ht, e]; exact hP, by rw [e]; exact hD⟩, hS.F ht⟩) hS.2.2 d_Wo_init_85
/-! SIGHTCHART -/
theorem ck_Lwo_cg {G : sc_G} {u u2 : Nat → Nat} (h : ∀ a, (1 ≤ a ∧ a ≤ 11) ∨ 40 ≤ a → u a = u2 a) : ck_w G u ck_Lwo = ck_w G u2 ck_Lwo := by
  have f : ∀ v : Nat → Nat, ck_w G v ck_Lwo = (v 1, sc_cel (ck_g G v) ck_0 1) :: (ck_w G v ck_Lch ++ ck_w G v [4] ++ ck_w G v [5] ++ ck_w G v [6] ++ ck_w G v [7] ++ ck_w G v [8] ++ ck_w G v [9] ++ ck_w G v [10] ++ ck_w G v [11]) := fun v => by
    rw [← ck_w_app, ← ck_w_app, ← ck_w_app, ← ck_w_app, ← ck_w_app, ← ck_w_app, ← ck_w_app, ← ck_w_app]
    rfl
  have g : ∀ v : Nat → Nat, ∀ a, ck_w G v [a] = [(v a, sc_cel (ck_g G v) ck_0 a)] := fun v a => rfl
  rw [f, f, ck_Lch_cg (fun a ha => h a (by omega)), g, g, g, g, g, g, g, g, g, g, g, g, g, g, g, g, ck_cel_1, ck_cel_1, ck_cel_4, ck_cel_4, ck_cel_5, ck_cel_5, ck_cel_6, ck_cel_6, ck_cel_7, ck_cel_7, ck_cel_8, ck_cel_8, ck_cel_9, ck_cel_9, ck_cel_10, ck_cel_10, ck_cel_11, ck_cel_11, h 1 (by omega), h 2 (by omega), h 4 (by omega), h 5 (by omega), h 6 (by omega), h 7 (by omega), h 8 (by omega), h 9 (by omega), h 10 (by omega), h 11 (by omega)]
def ck_Lsc : List Nat := 0 :: (ck_Lwo ++ [12, 13, 14] ++ [15, 36, 37, 38, 39] ++ [16] ++ [17])
set_option maxHeartbeats 1000000 in
set_option maxRecDepth 100000 in
theorem ct_Sc_init (l : Launch) (G : sc_G) (h0 sz : Nat) : Met l mq_Sc_init.1 (sc_ws mq_Sc_init) (ct_rm 4 51 2271) (va_Pc [.ref h0] (ck_pre G 4 [.null, .null, .null, .null, .null, .null, .int 0, .int 0, .long 0, .long 0] h0 sz)) (ck_Q G 0 ck_Lsc h0 (va_A [(h0, .inr (4, [.null, .null, .null, .null, .null, .null, .int 0, .int 0, .long 0, .long 0]))] sz)) 51 2271 (va_A [(h0, .inr (4, [.null, .null, .null, .null, .null, .null, .int 0, .int 0, .long 0, .long 0]))] sz) := by
  refine Met.ofW (cc := mq_Sc_init.2.1) (maxL := 1) (ret := none) (by decide) rfl ?_
  intro p e s m args below meth c s₁ B hml hv
  obtain ⟨rfl, hsz, hP, hK, hN⟩ := hv
  have hx := B.exec
  have hb := B.bytes
  have hr := B.returns
  have hg : ∀ w ∈ sc_gw, w.before ([Value.ref h0] : List Value).toArray s = true := fun w h => atoms_spec (ws := sc_ws mq_Sc_init) B.pre w (List.mem_cons_of_mem _ h)
  have hown : s.vm.findClass "SightChart" = some m.cls := findClass_of_methodNamed B.named
  have hlocks := B.notSynchronized
  have hin : meth.name = "<init>" := (name_of_methodNamed B.named B.method).1
  subst hsz
  have hD : va_D (va_A [(h0, .inr (4, [.null, .null, .null, .null, .null, .null, .int 0, .int 0, .long 0, .long 0]))] s.heap.size) [(h0, .inr (4, [.null, .null, .null, .null, .null, .null, .int 0, .int 0, .long 0, .long 0]))] := ck_D_1 (va_A.in (k := 0) rfl)
  generalize hAe : va_A [(h0, .inr (4, [.null, .null, .null, .null, .null, .null, .int 0, .int 0, .long 0, .long 0]))] s.heap.size = A at hD ⊢
  have hA : ∀ q : Nat, s.heap.size ≤ q → A q := fun q h => by rw [← hAe]; exact Or.inr h
  have hS : va_S A s.heap s.heap [] := va_S.rf
  show W p l e (ct_rm 4 51 2271) s m _ below meth c s.heap [] 0 0 _ _
  have hl := lv_entry ([.ref h0]) (n := 1) (Nat.le_of_ble_eq_true rfl)
  rw [lg_entry_eq]
  generalize (lg_sl ([.ref h0]) ++ List.replicate (1 - (lg_sl ([.ref h0])).length) Slot.unset).toArray = ls at hl ⊢
  have hl : lv_has ls 1 [(0, .ref h0)] := hl
  have hP : va_P G.1 vwCl ([(h0, .inr (4, [.null, .null, .null, .null, .null, .null, .int 0, .int 0, .long 0, .long 0]))]) _ := hP
  have hD : va_D A ([(h0, .inr (4, [.null, .null, .null, .null, .null, .null, .int 0, .int 0, .long 0, .long 0]))]) := hD
  refine lv_aload_n hx hb d_Sc_init_0 rfl (lv_at hl 0 rfl) ?_
  refine W.objInit hx hb hown (hg (.methodLink "SightChart" 1 Lib.objectInit) (sc_mem_ok (by decide +kernel))) (hg (.instanceMethod Lib.objectInit) (sc_mem_ok (by decide +kernel))) (hg _ ck_obj) rfl (by rw [hml]; exact hl.1) rfl d_Sc_init_1 (Nat.le_of_ble_eq_true rfl) (Nat.le_of_ble_eq_true rfl) ?_
  refine W.eq (g2 := F0 m 4 ls []) rfl ?_
  refine lv_aload_n hx hb d_Sc_init_4 rfl (lv_at hl 0 rfl) ?_
  refine va_new (ci := 3) (fs := [.null, .null, .null, .null, .null, .null, .null, .null, .null, .int 0, .int 0, .int 0]) (C := RX3) (T := TX3) (N := 12) hx hb hg sc_in3 tyX3 tyX3_ok hown (hg (.classLink "SightChart" 7 RX3) (sc_mem_ok (by decide +kernel))) (hg (.instantiable RX3 12) (sc_mem_ok (by decide +kernel))) (hg (.initialized RX3) (sc_mem_ok (by decide +kernel))) hK hP hD hS hA rfl (fun j hj => by rcases (show j = 0 ∨ j = 1 ∨ j = 2 ∨ j = 3 ∨ j = 4 ∨ j = 5 ∨ j = 6 ∨ j = 7 ∨ j = 8 ∨ j = 9 ∨ j = 10 ∨ j = 11 by omega) with rfl | rfl | rfl | rfl | rfl | rfl | rfl | rfl | rfl | rfl | rfl | rfl <;> rfl) (by decide) (by decide) d_Sc_init_5 (fun qn H hP hD hS => ?_)
  refine W.widen (k := 1) (n := 12) (by omega) (by omega) ?_
  refine lv_dup hx hb d_Sc_init_8 rfl ?_
  have hFc := ck_free (ws := [(h0, .inr (4, [.null, .null, .null, .null, .null, .null, .int 0, .int 0, .long 0, .long 0]))]) hD hS hA
  refine va_callv (va_runIN (As := []) (rest := [.ref qn, .ref h0]) ⟨hx, hb, hml, hown, hg⟩ (ct_Wo_init l G qn H.size) ⟨va_cnB 0 hg (ck_good cm_Wo_init) rfl rfl rfl hN.2.1 (hg (.initialized mq_Wo_init.1.cls) (sc_mem_ok (by decide +kernel))) (by decide +kernel) ⟨by decide, by decide⟩, rfl, (hg (.instanceMethod mq_Wo_init.1) (sc_mem_ok (by decide +kernel)))⟩ (ck_pr (ck_P_last (ws := [(h0, .inr (4, [.null, .null, .null, .null, .null, .null, .int 0, .int 0, .long 0, .long 0]))]) hP) hK hN) rfl rfl hl.1 rfl (lv_room (Nat.le_of_ble_eq_true rfl)) d_Sc_init_9 ⟨by decide, by decide⟩) hS (fun q _ h => hFc q h) hFc (fun uw t H1 locs ht hvm hw hB hz1 hk1 hS => ?_)
  obtain ⟨hP1, hD1⟩ := hB
  rw [ht] at hP1
  obtain ⟨hP9, hD9⟩ := ck_join (ws := [(h0, .inr (4, [.null, .null, .null, .null, .null, .null, .int 0, .int 0, .long 0, .long 0]))]) hP hD hk1 hFc hP1 hD1
  clear hP hD hFc hk1 hP1 hD1
  subst hw
  have hP : va_P G.1 vwCl ((h0, .inr (4, [.null, .null, .null, .null, .null, .null, .int 0, .int 0, .long 0, .long 0])) :: (ck_w G uw ck_Lwo)) H1 := hP9
  have hD : va_D A ((h0, .inr (4, [.null, .null, .null, .null, .null, .null, .int 0, .int 0, .long 0, .long 0])) :: (ck_w G uw ck_Lwo)) := hD9
  clear hP9 hD9
  refine W.widen (k := 41) (n := 1893) (by omega) (by omega) ?_
  refine va_putF (D := G.1) (ci := 4) (v := .ref (uw 1)) (ty := .object "SightChart$Worlds") (C := RX4) (T := TX4) (N := 10) hx hb hg sc_in4 tyX4 tyX4_ok nmX4 hown hK hP hD hS 0 rfl rfl 0 (by decide) (hg (.fieldLink "SightChart" 10 "SightChart" "worlds" "LSightChart$Worlds;") (sc_mem_ok (by decide +kernel))) (fun _ h9 => h9) rfl hin rfl (by decide +kernel) rfl rfl (Nat.le_of_ble_eq_true rfl) d_Sc_init_12 (fun H locs hP hD hS => ?_)
  have hP : va_P G.1 vwCl ((h0, .inr (4, [.ref (uw 1), .null, .null, .null, .null, .null, .int 0, .int 0, .long 0, .long 0])) :: (ck_w G uw ck_Lwo)) H := hP
  have hD : va_D A ((h0, .inr (4, [.ref (uw 1), .null, .null, .null, .null, .null, .int 0, .int 0, .long 0, .long 0])) :: (ck_w G uw ck_Lwo)) := hD
  refine lv_aload_n hx hb d_Sc_init_15 rfl (lv_at hl 0 rfl) ?_
  refine lv_aload_n hx hb d_Sc_init_16 rfl (lv_at hl 0 rfl) ?_
  refine va_get (D := G.1) (ci := 4) (v := .ref (uw 1)) (C := RX4) (T := TX4) (N := 10) hx hb hg sc_in4 hown hK hP 0 rfl rfl 0 (by decide) (hg (.fieldLink "SightChart" 10 "SightChart" "worlds" "LSightChart$Worlds;") (sc_mem_ok (by decide +kernel))) (fun _ h9 => h9) rfl d_Sc_init_17 ?_
  refine va_get (D := G.1) (ci := 3) (v := .ref (uw 2)) (C := RX3) (T := TX3) (N := 12) hx hb hg sc_in3 hown hK hP 1 (fs := [.ref (uw 2), .ref (uw 4), .ref (uw 5), .ref (uw 6), .ref (uw 7), .ref (uw 8), .ref (uw 9), .ref (uw 10), .ref (uw 11), .int 0, .int 0, .int 0]) rfl rfl 0 (by decide) (hg (.fieldLink "SightChart" 16 "SightChart$Worlds" "chart" "LSightChart$Chart;") (sc_mem_ok (by decide +kernel))) (fun _ h9 => h9) rfl d_Sc_init_20 ?_
  refine va_putF (D := G.1) (ci := 4) (v := .ref (uw 2)) (ty := .object "SightChart$Chart") (C := RX4) (T := TX4) (N := 10) hx hb hg sc_in4 tyX4 tyX4_ok nmX4 hown hK hP hD hS 0 rfl rfl 1 (by decide) (hg (.fieldLink "SightChart" 20 "SightChart" "chart" "LSightChart$Chart;") (sc_mem_ok (by decide +kernel))) (fun _ h9 => h9) rfl hin rfl (by decide +kernel) rfl rfl (Nat.le_of_ble_eq_true rfl) d_Sc_init_23 (fun H locs hP hD hS => ?_)
  have hP : va_P G.1 vwCl ((h0, .inr (4, [.ref (uw 1), .ref (uw 2), .null, .null, .null, .null, .int 0, .int 0, .long 0, .long 0])) :: (ck_w G uw ck_Lwo)) H := hP
  have hD : va_D A ((h0, .inr (4, [.ref (uw 1), .ref (uw 2), .null, .null, .null, .null, .int 0, .int 0, .long 0, .long 0])) :: (ck_w G uw ck_Lwo)) := hD
  refine lv_aload_n hx hb d_Sc_init_26 rfl (lv_at hl 0 rfl) ?_
  refine va_new (ci := 1) (fs := [.null, .null, .int 0, .int 0]) (C := RX1) (T := TX1) (N := 4) hx hb hg sc_in1 tyX1 tyX1_ok hown (hg (.classLink "SightChart" 21 RX1) (sc_mem_ok (by decide +kernel))) (hg (.instantiable RX1 4) (sc_mem_ok (by decide +kernel))) (hg (.initialized RX1) (sc_mem_ok (by decide +kernel))) hK hP hD hS hA rfl (fun j hj => by rcases (show j = 0 ∨ j = 1 ∨ j = 2 ∨ j = 3 by omega) with rfl | rfl | rfl | rfl <;> rfl) (by decide) (by decide) d_Sc_init_27 (fun qn H hP hD hS => ?_)
  refine W.widen (k := 42) (n := 1897) (by omega) (by omega) ?_
  refine lv_dup hx hb d_Sc_init_30 rfl ?_
  have hFc := ck_free (ws := (h0, .inr (4, [.ref (uw 1), .ref (uw 2), .null, .null, .null, .null, .int 0, .int 0, .long 0, .long 0])) :: (ck_w G uw ck_Lwo)) hD hS hA
  refine va_callv (va_runIN (As := []) (rest := [.ref qn, .ref h0]) ⟨hx, hb, hml, hown, hg⟩ (ct_Fo_init l G qn H.size) ⟨va_cnB 0 hg (ck_good cm_Fo_init) rfl rfl rfl hN.2.2.1 (hg (.initialized mq_Fo_init.1.cls) (sc_mem_ok (by decide +kernel))) (by decide +kernel) ⟨by decide, by decide⟩, rfl, (hg (.instanceMethod mq_Fo_init.1) (sc_mem_ok (by decide +kernel)))⟩ (ck_pr (ck_P_last (ws := (h0, .inr (4, [.ref (uw 1), .ref (uw 2), .null, .null, .null, .null, .int 0, .int 0, .long 0, .long 0])) :: (ck_w G uw ck_Lwo)) hP) hK hN) rfl rfl hl.1 rfl (lv_room (Nat.le_of_ble_eq_true rfl)) d_Sc_init_31 ⟨by decide, by decide⟩) hS (fun q _ h => hFc q h) hFc (fun uf t H1 locs ht hvm hw hB hz1 hk1 hS => ?_)
  obtain ⟨hP1, hD1⟩ := hB
  rw [ht] at hP1
  obtain ⟨hP9, hD9⟩ := ck_join (ws := (h0, .inr (4, [.ref (uw 1), .ref (uw 2), .null, .null, .null, .null, .int 0, .int 0, .long 0, .long 0])) :: (ck_w G uw ck_Lwo)) hP hD hk1 hFc hP1 hD1
  clear hP hD hFc hk1 hP1 hD1
  subst hw
  have hP : va_P G.1 vwCl ((h0, .inr (4, [.ref (uw 1), .ref (uw 2), .null, .null, .null, .null, .int 0, .int 0, .long 0, .long 0])) :: ((ck_w G uw ck_Lwo) ++ ck_w G uf [12, 13, 14])) H1 := hP9
  have hD : va_D A ((h0, .inr (4, [.ref (uw 1), .ref (uw 2), .null, .null, .null, .null, .int 0, .int 0, .long 0, .long 0])) :: ((ck_w G uw ck_Lwo) ++ ck_w G uf [12, 13, 14])) := hD9
  clear hP9 hD9
  refine W.widen (k := 44) (n := 2149) (by omega) (by omega) ?_
  refine va_putF (D := G.1) (ci := 4) (v := .ref (uf 12)) (ty := .object "SightChart$Forgetting") (C := RX4) (T := TX4) (N := 10) hx hb hg sc_in4 tyX4 tyX4_ok nmX4 hown hK hP hD hS 0 rfl rfl 2 (by decide) (hg (.fieldLink "SightChart" 24 "SightChart" "forgetting" "LSightChart$Forgetting;") (sc_mem_ok (by decide +kernel))) (fun _ h9 => h9) rfl hin rfl (by decide +kernel) rfl rfl (Nat.le_of_ble_eq_true rfl) d_Sc_init_34 (fun H locs hP hD hS => ?_)
  have hP : va_P G.1 vwCl ((h0, .inr (4, [.ref (uw 1), .ref (uw 2), .ref (uf 12), .null, .null, .null, .int 0, .int 0, .long 0, .long 0])) :: ((ck_w G uw ck_Lwo) ++ ck_w G uf [12, 13, 14])) H := hP
  have hD : va_D A ((h0, .inr (4, [.ref (uw 1), .ref (uw 2), .ref (uf 12), .null, .null, .null, .int 0, .int 0, .long 0, .long 0])) :: ((ck_w G uw ck_Lwo) ++ ck_w G uf [12, 13, 14])) := hD
  refine lv_aload_n hx hb d_Sc_init_37 rfl (lv_at hl 0 rfl) ?_
  refine lv_iconst (v := 4) hx hb d_Sc_init_38 (by decide) ?_
  refine lv_bipush (v := 27) hx hb d_Sc_init_39 (by decide) ?_
  obtain ⟨kA, hA2, hA3⟩ := hN.2.2.2.2
  refine ck_multi (fun i => uw (36 + i)) (t0 := 0) (t4 := 4) (c0 := G.2.1 0) (c4 := G.2.1 4) hx hb hown (hg (.classLink "SightChart" 28 "[[I") (sc_mem_ok (by decide +kernel))) hK rfl rfl hA2 hA3 hP hD hS hA (by decide) (by decide) d_Sc_init_41 (fun q15 H locs hP hD hS => ?_)
  have hP : va_P G.1 vwCl ((h0, .inr (4, [.ref (uw 1), .ref (uw 2), .ref (uf 12), .null, .null, .null, .int 0, .int 0, .long 0, .long 0])) :: (((ck_w G uw ck_Lwo) ++ ck_w G uf [12, 13, 14]) ++ [(q15, .inl (G.2.1 4, 4, .inr (.inr (.inr (.inr (fun i => some (if i < 4 then q15 + 1 + i else uw (36 + i)))))))), (q15 + 1, .inl (G.2.1 0, 27, .inl (fun _ => 0))), (q15 + 2, .inl (G.2.1 0, 27, .inl (fun _ => 0))), (q15 + 3, .inl (G.2.1 0, 27, .inl (fun _ => 0))), (q15 + 4, .inl (G.2.1 0, 27, .inl (fun _ => 0)))])) H := hP
  have hD : va_D A ((h0, .inr (4, [.ref (uw 1), .ref (uw 2), .ref (uf 12), .null, .null, .null, .int 0, .int 0, .long 0, .long 0])) :: (((ck_w G uw ck_Lwo) ++ ck_w G uf [12, 13, 14]) ++ [(q15, .inl (G.2.1 4, 4, .inr (.inr (.inr (.inr (fun i => some (if i < 4 then q15 + 1 + i else uw (36 + i)))))))), (q15 + 1, .inl (G.2.1 0, 27, .inl (fun _ => 0))), (q15 + 2, .inl (G.2.1 0, 27, .inl (fun _ => 0))), (q15 + 3, .inl (G.2.1 0, 27, .inl (fun _ => 0))), (q15 + 4, .inl (G.2.1 0, 27, .inl (fun _ => 0)))])) := hD
  refine W.widen (k := 49) (n := 2261) (by omega) (by omega) ?_
  refine va_putF (D := G.1) (ci := 4) (v := .ref q15) (ty := .array (.array .int)) (C := RX4) (T := TX4) (N := 10) hx hb hg sc_in4 tyX4 tyX4_ok nmX4 hown hK hP hD hS 0 rfl rfl 3 (by decide) (hg (.fieldLink "SightChart" 30 "SightChart" "rows" "[[I") (sc_mem_ok (by decide +kernel))) (fun _ h9 => h9) rfl hin rfl (by decide +kernel) rfl rfl (Nat.le_of_ble_eq_true rfl) d_Sc_init_45 (fun H locs hP hD hS => ?_)
  have hP : va_P G.1 vwCl ((h0, .inr (4, [.ref (uw 1), .ref (uw 2), .ref (uf 12), .ref q15, .null, .null, .int 0, .int 0, .long 0, .long 0])) :: (((ck_w G uw ck_Lwo) ++ ck_w G uf [12, 13, 14]) ++ [(q15, .inl (G.2.1 4, 4, .inr (.inr (.inr (.inr (fun i => some (if i < 4 then q15 + 1 + i else uw (36 + i)))))))), (q15 + 1, .inl (G.2.1 0, 27, .inl (fun _ => 0))), (q15 + 2, .inl (G.2.1 0, 27, .inl (fun _ => 0))), (q15 + 3, .inl (G.2.1 0, 27, .inl (fun _ => 0))), (q15 + 4, .inl (G.2.1 0, 27, .inl (fun _ => 0)))])) H := hP
  have hD : va_D A ((h0, .inr (4, [.ref (uw 1), .ref (uw 2), .ref (uf 12), .ref q15, .null, .null, .int 0, .int 0, .long 0, .long 0])) :: (((ck_w G uw ck_Lwo) ++ ck_w G uf [12, 13, 14]) ++ [(q15, .inl (G.2.1 4, 4, .inr (.inr (.inr (.inr (fun i => some (if i < 4 then q15 + 1 + i else uw (36 + i)))))))), (q15 + 1, .inl (G.2.1 0, 27, .inl (fun _ => 0))), (q15 + 2, .inl (G.2.1 0, 27, .inl (fun _ => 0))), (q15 + 3, .inl (G.2.1 0, 27, .inl (fun _ => 0))), (q15 + 4, .inl (G.2.1 0, 27, .inl (fun _ => 0)))])) := hD
  refine lv_aload_n hx hb d_Sc_init_48 rfl (lv_at hl 0 rfl) ?_
  refine lv_iconst (v := 4) hx hb d_Sc_init_49 (by decide) ?_
  refine ck_newa (atype := .int) (ty := .int) (t0 := 0) (cA := G.2.1 0) (N' := 4) (a0 := (4, .inl (fun _ => 0))) hx hb (hg (.arrayClass (newarray.typeOf .int)) (sc_mem_ok (by decide +kernel))) rfl hK rfl hP hD hS hA (fun _ => rfl) (by decide +kernel) (by decide +kernel) (ck_by (by decide) (by decide)) (by decide) (by decide) d_Sc_init_50 (fun q16 H hP hD hS => ?_)
  have hP : va_P G.1 vwCl ((h0, .inr (4, [.ref (uw 1), .ref (uw 2), .ref (uf 12), .ref q15, .null, .null, .int 0, .int 0, .long 0, .long 0])) :: ((((ck_w G uw ck_Lwo) ++ ck_w G uf [12, 13, 14]) ++ [(q15, .inl (G.2.1 4, 4, .inr (.inr (.inr (.inr (fun i => some (if i < 4 then q15 + 1 + i else uw (36 + i)))))))), (q15 + 1, .inl (G.2.1 0, 27, .inl (fun _ => 0))), (q15 + 2, .inl (G.2.1 0, 27, .inl (fun _ => 0))), (q15 + 3, .inl (G.2.1 0, 27, .inl (fun _ => 0))), (q15 + 4, .inl (G.2.1 0, 27, .inl (fun _ => 0)))]) ++ [(q16, .inl (G.2.1 0, 4, .inl (fun _ => 0)))])) H := hP
  have hD : va_D A ((h0, .inr (4, [.ref (uw 1), .ref (uw 2), .ref (uf 12), .ref q15, .null, .null, .int 0, .int 0, .long 0, .long 0])) :: ((((ck_w G uw ck_Lwo) ++ ck_w G uf [12, 13, 14]) ++ [(q15, .inl (G.2.1 4, 4, .inr (.inr (.inr (.inr (fun i => some (if i < 4 then q15 + 1 + i else uw (36 + i)))))))), (q15 + 1, .inl (G.2.1 0, 27, .inl (fun _ => 0))), (q15 + 2, .inl (G.2.1 0, 27, .inl (fun _ => 0))), (q15 + 3, .inl (G.2.1 0, 27, .inl (fun _ => 0))), (q15 + 4, .inl (G.2.1 0, 27, .inl (fun _ => 0)))]) ++ [(q16, .inl (G.2.1 0, 4, .inl (fun _ => 0)))])) := hD
  refine W.widen (k := 50) (n := 2265) (by omega) (by omega) ?_
  refine va_putF (D := G.1) (ci := 4) (v := .ref q16) (ty := .array .int) (C := RX4) (T := TX4) (N := 10) hx hb hg sc_in4 tyX4 tyX4_ok nmX4 hown hK hP hD hS 0 rfl rfl 4 (by decide) (hg (.fieldLink "SightChart" 33 "SightChart" "sizes" "[I") (sc_mem_ok (by decide +kernel))) (fun _ h9 => h9) rfl hin rfl (by decide +kernel) rfl rfl (Nat.le_of_ble_eq_true rfl) d_Sc_init_52 (fun H locs hP hD hS => ?_)
  have hP : va_P G.1 vwCl ((h0, .inr (4, [.ref (uw 1), .ref (uw 2), .ref (uf 12), .ref q15, .ref q16, .null, .int 0, .int 0, .long 0, .long 0])) :: ((((ck_w G uw ck_Lwo) ++ ck_w G uf [12, 13, 14]) ++ [(q15, .inl (G.2.1 4, 4, .inr (.inr (.inr (.inr (fun i => some (if i < 4 then q15 + 1 + i else uw (36 + i)))))))), (q15 + 1, .inl (G.2.1 0, 27, .inl (fun _ => 0))), (q15 + 2, .inl (G.2.1 0, 27, .inl (fun _ => 0))), (q15 + 3, .inl (G.2.1 0, 27, .inl (fun _ => 0))), (q15 + 4, .inl (G.2.1 0, 27, .inl (fun _ => 0)))]) ++ [(q16, .inl (G.2.1 0, 4, .inl (fun _ => 0)))])) H := hP
  have hD : va_D A ((h0, .inr (4, [.ref (uw 1), .ref (uw 2), .ref (uf 12), .ref q15, .ref q16, .null, .int 0, .int 0, .long 0, .long 0])) :: ((((ck_w G uw ck_Lwo) ++ ck_w G uf [12, 13, 14]) ++ [(q15, .inl (G.2.1 4, 4, .inr (.inr (.inr (.inr (fun i => some (if i < 4 then q15 + 1 + i else uw (36 + i)))))))), (q15 + 1, .inl (G.2.1 0, 27, .inl (fun _ => 0))), (q15 + 2, .inl (G.2.1 0, 27, .inl (fun _ => 0))), (q15 + 3, .inl (G.2.1 0, 27, .inl (fun _ => 0))), (q15 + 4, .inl (G.2.1 0, 27, .inl (fun _ => 0)))]) ++ [(q16, .inl (G.2.1 0, 4, .inl (fun _ => 0)))])) := hD
  refine lv_aload_n hx hb d_Sc_init_55 rfl (lv_at hl 0 rfl) ?_
  refine va_get (D := G.1) (ci := 4) (v := .ref q16) (C := RX4) (T := TX4) (N := 10) hx hb hg sc_in4 hown hK hP 0 rfl rfl 4 (by decide) (hg (.fieldLink "SightChart" 33 "SightChart" "sizes" "[I") (sc_mem_ok (by decide +kernel))) (fun _ h9 => h9) rfl d_Sc_init_56 ?_
  refine lv_iconst (v := -1) hx hb d_Sc_init_59 (by decide) ?_
  have hFc := ck_free (ws := ((h0, .inr (4, [.ref (uw 1), .ref (uw 2), .ref (uf 12), .ref q15, .ref q16, .null, .int 0, .int 0, .long 0, .long 0])) :: (((ck_w G uw ck_Lwo) ++ ck_w G uf [12, 13, 14]) ++ [(q15, .inl (G.2.1 4, 4, .inr (.inr (.inr (.inr (fun i => some (if i < 4 then q15 + 1 + i else uw (36 + i)))))))), (q15 + 1, .inl (G.2.1 0, 27, .inl (fun _ => 0))), (q15 + 2, .inl (G.2.1 0, 27, .inl (fun _ => 0))), (q15 + 3, .inl (G.2.1 0, 27, .inl (fun _ => 0))), (q15 + 4, .inl (G.2.1 0, 27, .inl (fun _ => 0)))]) : va_W)) hD hS hA
  have hPl : va_P G.1 vwCl [(q16, .inl (G.2.1 0, 4, .inl (fun _ => 0)))] H := ck_P_of (fun q hq => ck_P_mem hP (List.mem_cons_of_mem _ (List.mem_append_right _ hq)))
  refine va_callv (va_runS (As := [.ref q16, .int (-1)]) (rest := []) ⟨hx, hb, hml, hown, hg⟩ (ct_Ar_fillI l G q16 H.size) ⟨callB_of 2 hg (ck_good cm_Ar_fillI) rfl rfl rfl (hg (.initialized mq_Ar_fillI.1.cls) (sc_mem_ok (by decide +kernel))) (hg (.methodLink "SightChart" 37 mq_Ar_fillI.1) (sc_mem_ok (by decide +kernel))) (by decide +kernel) ⟨by decide, by decide⟩, (hg (.static mq_Ar_fillI.1) (sc_mem_ok (by decide +kernel)))⟩ ⟨fun a U g mk h => ⟨h.1, h.2.1, h.2.2.1, va_K.moved (u := U) (U := U.calling g mk a) (Vm.Alike.refl U.vm) h.2.2.2⟩, fun U hU hW => ⟨rfl, by rw [hU], by rw [hU]; exact hPl, va_K.moved hW.alike hK⟩⟩ rfl rfl hl.1 rfl (lv_room (Nat.le_of_ble_eq_true rfl)) d_Sc_init_60 ⟨by decide, by decide⟩) hS (fun q _ h => hFc q h) hFc (fun _ t H1 locs ht hvm hw hB hz1 hk1 hS => ?_)
  obtain ⟨hP1, hD1⟩ := hB
  rw [ht] at hP1
  obtain ⟨hP9, hD9⟩ := ck_join (ws := ((h0, .inr (4, [.ref (uw 1), .ref (uw 2), .ref (uf 12), .ref q15, .ref q16, .null, .int 0, .int 0, .long 0, .long 0])) :: (((ck_w G uw ck_Lwo) ++ ck_w G uf [12, 13, 14]) ++ [(q15, .inl (G.2.1 4, 4, .inr (.inr (.inr (.inr (fun i => some (if i < 4 then q15 + 1 + i else uw (36 + i)))))))), (q15 + 1, .inl (G.2.1 0, 27, .inl (fun _ => 0))), (q15 + 2, .inl (G.2.1 0, 27, .inl (fun _ => 0))), (q15 + 3, .inl (G.2.1 0, 27, .inl (fun _ => 0))), (q15 + 4, .inl (G.2.1 0, 27, .inl (fun _ => 0)))]) : va_W)) hP hD hk1 hFc hP1 hD1
  clear hP hD hFc hk1 hP1 hD1
  have hP : va_P G.1 vwCl ((h0, .inr (4, [.ref (uw 1), .ref (uw 2), .ref (uf 12), .ref q15, .ref q16, .null, .int 0, .int 0, .long 0, .long 0])) :: ((((ck_w G uw ck_Lwo) ++ ck_w G uf [12, 13, 14]) ++ [(q15, .inl (G.2.1 4, 4, .inr (.inr (.inr (.inr (fun i => some (if i < 4 then q15 + 1 + i else uw (36 + i)))))))), (q15 + 1, .inl (G.2.1 0, 27, .inl (fun _ => 0))), (q15 + 2, .inl (G.2.1 0, 27, .inl (fun _ => 0))), (q15 + 3, .inl (G.2.1 0, 27, .inl (fun _ => 0))), (q15 + 4, .inl (G.2.1 0, 27, .inl (fun _ => 0)))]) ++ [(q16, .inl (G.2.1 0, 4, .inl (fun i => if i < 4 then -1 else 0)))])) H1 := hP9
  have hD : va_D A ((h0, .inr (4, [.ref (uw 1), .ref (uw 2), .ref (uf 12), .ref q15, .ref q16, .null, .int 0, .int 0, .long 0, .long 0])) :: ((((ck_w G uw ck_Lwo) ++ ck_w G uf [12, 13, 14]) ++ [(q15, .inl (G.2.1 4, 4, .inr (.inr (.inr (.inr (fun i => some (if i < 4 then q15 + 1 + i else uw (36 + i)))))))), (q15 + 1, .inl (G.2.1 0, 27, .inl (fun _ => 0))), (q15 + 2, .inl (G.2.1 0, 27, .inl (fun _ => 0))), (q15 + 3, .inl (G.2.1 0, 27, .inl (fun _ => 0))), (q15 + 4, .inl (G.2.1 0, 27, .inl (fun _ => 0)))]) ++ [(q16, .inl (G.2.1 0, 4, .inl (fun i => if i < 4 then -1 else 0)))])) := hD9
  clear hP9 hD9
  refine W.widen (k := 50) (n := 2265) (by omega) (by omega) ?_
  refine lv_aload_n hx hb d_Sc_init_63 rfl (lv_at hl 0 rfl) ?_
  refine lv_bipush (v := 6) hx hb d_Sc_init_64 (by decide) ?_
  refine ck_newa (atype := .int) (ty := .int) (t0 := 0) (cA := G.2.1 0) (N' := 6) (a0 := (6, .inl (fun _ => 0))) hx hb (hg (.arrayClass (newarray.typeOf .int)) (sc_mem_ok (by decide +kernel))) rfl hK rfl hP hD hS hA (fun _ => rfl) (by decide +kernel) (by decide +kernel) (ck_by (by decide) (by decide)) (by decide) (by decide) d_Sc_init_66 (fun q17 H hP hD hS => ?_)
  have hP : va_P G.1 vwCl ((h0, .inr (4, [.ref (uw 1), .ref (uw 2), .ref (uf 12), .ref q15, .ref q16, .null, .int 0, .int 0, .long 0, .long 0])) :: (((((ck_w G uw ck_Lwo) ++ ck_w G uf [12, 13, 14]) ++ [(q15, .inl (G.2.1 4, 4, .inr (.inr (.inr (.inr (fun i => some (if i < 4 then q15 + 1 + i else uw (36 + i)))))))), (q15 + 1, .inl (G.2.1 0, 27, .inl (fun _ => 0))), (q15 + 2, .inl (G.2.1 0, 27, .inl (fun _ => 0))), (q15 + 3, .inl (G.2.1 0, 27, .inl (fun _ => 0))), (q15 + 4, .inl (G.2.1 0, 27, .inl (fun _ => 0)))]) ++ [(q16, .inl (G.2.1 0, 4, .inl (fun i => if i < 4 then -1 else 0)))]) ++ [(q17, .inl (G.2.1 0, 6, .inl (fun _ => 0)))])) H := hP
  have hD : va_D A ((h0, .inr (4, [.ref (uw 1), .ref (uw 2), .ref (uf 12), .ref q15, .ref q16, .null, .int 0, .int 0, .long 0, .long 0])) :: (((((ck_w G uw ck_Lwo) ++ ck_w G uf [12, 13, 14]) ++ [(q15, .inl (G.2.1 4, 4, .inr (.inr (.inr (.inr (fun i => some (if i < 4 then q15 + 1 + i else uw (36 + i)))))))), (q15 + 1, .inl (G.2.1 0, 27, .inl (fun _ => 0))), (q15 + 2, .inl (G.2.1 0, 27, .inl (fun _ => 0))), (q15 + 3, .inl (G.2.1 0, 27, .inl (fun _ => 0))), (q15 + 4, .inl (G.2.1 0, 27, .inl (fun _ => 0)))]) ++ [(q16, .inl (G.2.1 0, 4, .inl (fun i => if i < 4 then -1 else 0)))]) ++ [(q17, .inl (G.2.1 0, 6, .inl (fun _ => 0)))])) := hD
  refine W.widen (k := 51) (n := 2271) (by omega) (by omega) ?_
  refine va_putF (D := G.1) (ci := 4) (v := .ref q17) (ty := .array .int) (C := RX4) (T := TX4) (N := 10) hx hb hg sc_in4 tyX4 tyX4_ok nmX4 hown hK hP hD hS 0 rfl rfl 5 (by decide) (hg (.fieldLink "SightChart" 43 "SightChart" "foundTimes" "[I") (sc_mem_ok (by decide +kernel))) (fun _ h9 => h9) rfl hin rfl (by decide +kernel) rfl rfl (Nat.le_of_ble_eq_true rfl) d_Sc_init_68 (fun H locs hP hD hS => ?_)
  have hP : va_P G.1 vwCl ((h0, .inr (4, [.ref (uw 1), .ref (uw 2), .ref (uf 12), .ref q15, .ref q16, .ref q17, .int 0, .int 0, .long 0, .long 0])) :: (((((ck_w G uw ck_Lwo) ++ ck_w G uf [12, 13, 14]) ++ [(q15, .inl (G.2.1 4, 4, .inr (.inr (.inr (.inr (fun i => some (if i < 4 then q15 + 1 + i else uw (36 + i)))))))), (q15 + 1, .inl (G.2.1 0, 27, .inl (fun _ => 0))), (q15 + 2, .inl (G.2.1 0, 27, .inl (fun _ => 0))), (q15 + 3, .inl (G.2.1 0, 27, .inl (fun _ => 0))), (q15 + 4, .inl (G.2.1 0, 27, .inl (fun _ => 0)))]) ++ [(q16, .inl (G.2.1 0, 4, .inl (fun i => if i < 4 then -1 else 0)))]) ++ [(q17, .inl (G.2.1 0, 6, .inl (fun _ => 0)))])) H := hP
  have hD : va_D A ((h0, .inr (4, [.ref (uw 1), .ref (uw 2), .ref (uf 12), .ref q15, .ref q16, .ref q17, .int 0, .int 0, .long 0, .long 0])) :: (((((ck_w G uw ck_Lwo) ++ ck_w G uf [12, 13, 14]) ++ [(q15, .inl (G.2.1 4, 4, .inr (.inr (.inr (.inr (fun i => some (if i < 4 then q15 + 1 + i else uw (36 + i)))))))), (q15 + 1, .inl (G.2.1 0, 27, .inl (fun _ => 0))), (q15 + 2, .inl (G.2.1 0, 27, .inl (fun _ => 0))), (q15 + 3, .inl (G.2.1 0, 27, .inl (fun _ => 0))), (q15 + 4, .inl (G.2.1 0, 27, .inl (fun _ => 0)))]) ++ [(q16, .inl (G.2.1 0, 4, .inl (fun i => if i < 4 then -1 else 0)))]) ++ [(q17, .inl (G.2.1 0, 6, .inl (fun _ => 0)))])) := hD
  refine lv_aload_n hx hb d_Sc_init_71 rfl (lv_at hl 0 rfl) ?_
  refine lv_lconst (v := 1) hx hb d_Sc_init_72 (by decide) ?_
  refine va_put (D := G.1) (ci := 4) (v := .long 1) (ty := .long) (C := RX4) (T := TX4) (N := 10) hx hb hg sc_in4 tyX4 tyX4_ok nmX4 hown hK hP hD hS 0 rfl rfl 9 (by decide) (hg (.fieldLink "SightChart" 46 "SightChart" "lowerTold" "J") (sc_mem_ok (by decide +kernel))) (fun _ h9 => h9) rfl (by decide +kernel) rfl rfl (Nat.le_of_ble_eq_true rfl) d_Sc_init_73 (fun H locs hP hD hS => ?_)
  have hP : va_P G.1 vwCl ((h0, .inr (4, [.ref (uw 1), .ref (uw 2), .ref (uf 12), .ref q15, .ref q16, .ref q17, .int 0, .int 0, .long 0, .long 1])) :: (((((ck_w G uw ck_Lwo) ++ ck_w G uf [12, 13, 14]) ++ [(q15, .inl (G.2.1 4, 4, .inr (.inr (.inr (.inr (fun i => some (if i < 4 then q15 + 1 + i else uw (36 + i)))))))), (q15 + 1, .inl (G.2.1 0, 27, .inl (fun _ => 0))), (q15 + 2, .inl (G.2.1 0, 27, .inl (fun _ => 0))), (q15 + 3, .inl (G.2.1 0, 27, .inl (fun _ => 0))), (q15 + 4, .inl (G.2.1 0, 27, .inl (fun _ => 0)))]) ++ [(q16, .inl (G.2.1 0, 4, .inl (fun i => if i < 4 then -1 else 0)))]) ++ [(q17, .inl (G.2.1 0, 6, .inl (fun _ => 0)))])) H := hP
  have hD : va_D A ((h0, .inr (4, [.ref (uw 1), .ref (uw 2), .ref (uf 12), .ref q15, .ref q16, .ref q17, .int 0, .int 0, .long 0, .long 1])) :: (((((ck_w G uw ck_Lwo) ++ ck_w G uf [12, 13, 14]) ++ [(q15, .inl (G.2.1 4, 4, .inr (.inr (.inr (.inr (fun i => some (if i < 4 then q15 + 1 + i else uw (36 + i)))))))), (q15 + 1, .inl (G.2.1 0, 27, .inl (fun _ => 0))), (q15 + 2, .inl (G.2.1 0, 27, .inl (fun _ => 0))), (q15 + 3, .inl (G.2.1 0, 27, .inl (fun _ => 0))), (q15 + 4, .inl (G.2.1 0, 27, .inl (fun _ => 0)))]) ++ [(q16, .inl (G.2.1 0, 4, .inl (fun i => if i < 4 then -1 else 0)))]) ++ [(q17, .inl (G.2.1 0, 6, .inl (fun _ => 0)))])) := hD
  have e : ck_w G (fun a => if a = 0 then h0 else if a = 12 ∨ a = 13 ∨ a = 14 then uf a else if a = 15 then q15 else if 36 ≤ a ∧ a < 40 then q15 + 1 + (a - 36) else if a = 16 then q16 else if a = 17 then q17 else uw a) ck_Lsc = (h0, .inr (4, [.ref (uw 1), .ref (uw 2), .ref (uf 12), .ref q15, .ref q16, .ref q17, .int 0, .int 0, .long 0, .long 1])) :: (((((ck_w G uw ck_Lwo) ++ ck_w G uf [12, 13, 14]) ++ [(q15, .inl (G.2.1 4, 4, .inr (.inr (.inr (.inr (fun i => some (if i < 4 then q15 + 1 + i else uw (36 + i)))))))), (q15 + 1, .inl (G.2.1 0, 27, .inl (fun _ => 0))), (q15 + 2, .inl (G.2.1 0, 27, .inl (fun _ => 0))), (q15 + 3, .inl (G.2.1 0, 27, .inl (fun _ => 0))), (q15 + 4, .inl (G.2.1 0, 27, .inl (fun _ => 0)))]) ++ [(q16, .inl (G.2.1 0, 4, .inl (fun i => if i < 4 then -1 else 0)))]) ++ [(q17, .inl (G.2.1 0, 6, .inl (fun _ => 0)))]) := by
    show (_, _) :: ck_w G _ (ck_Lwo ++ [12, 13, 14] ++ [15, 36, 37, 38, 39] ++ [16] ++ [17]) = _
    have f1 : (fun i => some ((fun a => if a = 0 then h0 else if a = 12 ∨ a = 13 ∨ a = 14 then uf a else if a = 15 then q15 else if 36 ≤ a ∧ a < 40 then q15 + 1 + (a - 36) else if a = 16 then q16 else if a = 17 then q17 else uw a) (36 + i))) = fun i => some (if i < 4 then q15 + 1 + i else uw (36 + i)) := funext fun i => by
      show some (if 36 + i = 0 then h0 else if 36 + i = 12 ∨ 36 + i = 13 ∨ 36 + i = 14 then uf (36 + i) else if 36 + i = 15 then q15 else if 36 ≤ 36 + i ∧ 36 + i < 40 then q15 + 1 + (36 + i - 36) else if 36 + i = 16 then q16 else if 36 + i = 17 then q17 else uw (36 + i)) = _
      rw [if_neg (by omega), if_neg (by omega), if_neg (by omega)]
      by_cases h4 : i < 4
      · rw [if_pos (by omega), if_pos h4, show 36 + i - 36 = i by omega]
      · rw [if_neg (by omega), if_neg (by omega), if_neg (by omega), if_neg h4]
    have f2 : ck_w G (fun a => if a = 0 then h0 else if a = 12 ∨ a = 13 ∨ a = 14 then uf a else if a = 15 then q15 else if 36 ≤ a ∧ a < 40 then q15 + 1 + (a - 36) else if a = 16 then q16 else if a = 17 then q17 else uw a) [15, 36, 37, 38, 39] = [(q15, .inl (G.2.1 4, 4, .inr (.inr (.inr (.inr (fun i => some (if i < 4 then q15 + 1 + i else uw (36 + i)))))))), (q15 + 1, .inl (G.2.1 0, 27, .inl (fun _ => 0))), (q15 + 2, .inl (G.2.1 0, 27, .inl (fun _ => 0))), (q15 + 3, .inl (G.2.1 0, 27, .inl (fun _ => 0))), (q15 + 4, .inl (G.2.1 0, 27, .inl (fun _ => 0)))] := by
      unfold ck_w
      rw [List.map_cons, List.map_cons, List.map_cons, List.map_cons, List.map_cons, List.map_nil, ck_cel_15, ck_cel_36, ck_cel_37, ck_cel_38, ck_cel_39, f1]
      rfl
    rw [ck_w_app, ck_w_app, ck_w_app, ck_w_app, f2, ck_Lwo_cg (u := (fun a => if a = 0 then h0 else if a = 12 ∨ a = 13 ∨ a = 14 then uf a else if a = 15 then q15 else if 36 ≤ a ∧ a < 40 then q15 + 1 + (a - 36) else if a = 16 then q16 else if a = 17 then q17 else uw a)) (u2 := uw) (fun a ha => by
      show (if a = 0 then h0 else if a = 12 ∨ a = 13 ∨ a = 14 then uf a else if a = 15 then q15 else if 36 ≤ a ∧ a < 40 then q15 + 1 + (a - 36) else if a = 16 then q16 else if a = 17 then q17 else uw a) = uw a
      rw [if_neg (by omega), if_neg (by omega), if_neg (by omega), if_neg (by omega), if_neg (by omega), if_neg (by omega)])]
    have f3 : ck_w G (fun a => if a = 0 then h0 else if a = 12 ∨ a = 13 ∨ a = 14 then uf a else if a = 15 then q15 else if 36 ≤ a ∧ a < 40 then q15 + 1 + (a - 36) else if a = 16 then q16 else if a = 17 then q17 else uw a) [16] = [(q16, .inl (G.2.1 0, 4, .inl (fun i => if i < 4 then -1 else 0)))] := by
      unfold ck_w
      rw [List.map_cons, List.map_nil, ck_cel_16]
      rfl
    rw [f3]
    rfl
  refine W.vret hx hb hr (fun t ht hW => ⟨⟨(fun a => if a = 0 then h0 else if a = 12 ∨ a = 13 ∨ a = 14 then uf a else if a = 15 then q15 else if 36 ≤ a ∧ a < 40 then q15 + 1 + (a - 36) else if a = 16 then q16 else if a = 17 then q17 else uw a), rfl, rfl, by rw [ht, e]; exact hP, by rw [e]; exact hD⟩, hS.F ht⟩) hS.2.2 d_Sc_init_76
