section SCS
variable {l : Launch} {G : sc_G} {d : Nat} {y : sc_Q} {Post : sc_V → sc_M → Prop} {pc : Nat} {L st : List sc_V} {μ : sc_M}
theorem sc_r_ldcw {i : Nat} {v : Int} (hd : decode y.2.1 pc = .ok (.ldc_w i, 3)) (hw : Jvm.Cond.constant y.1.cls i (Int32.ofInt v) ∈ sc_gw) (k : sc_Wp l G d y (pc + 3) L (.inl v :: st) μ Post) : sc_Wp l G d y pc L st μ Post := by
  intro p e s m args below meth c H locs ls C hP hS hL
  have h := k p e s m args below meth c H locs ls C hP hS hL
  exact lv_ldcw C.1 C.2.1 C.2.2.2.2.1 (C.2.2.2.2.2.2.1 _ hw) hd h
theorem sc_r_switch {x dflt lo hi : Int} {offs : Array Int} {len : Nat} (hd : decode y.2.1 pc = .ok (.tableswitch dflt lo hi offs, len)) (hx : sc_in x) (h1 : hi - lo + 1 = (offs.size : Int)) (h2 : 0 ≤ (pc : Int) + dflt) (h3 : ∀ o ∈ offs.toList, 0 ≤ (pc : Int) + o)
    (h : sc_sw x pc (fun t => sc_Wp l G d y t L st μ Post) dflt lo offs.toList) : sc_Wp l G d y pc L (.inl x :: st) μ Post := by
  have key : ∀ (os : List Int) (lo : Int), (∀ o ∈ os, 0 ≤ (pc : Int) + o) → sc_sw x pc (fun t => sc_Wp l G d y t L st μ Post) dflt lo os →
      (∀ (j : Nat) (o : Int), os[j]? = some o → x = lo + j → ∃ t : Nat, (pc : Int) + o = t ∧ sc_Wp l G d y t L st μ Post) ∧ ((x < lo ∨ lo + os.length ≤ x) → ∃ t : Nat, (pc : Int) + dflt = t ∧ sc_Wp l G d y t L st μ Post) := by
    intro os
    induction os with
    | nil =>
      intro lo _ h
      exact ⟨fun j o hj => (by cases hj), fun _ => ⟨_, (Int.toNat_of_nonneg h2).symm, h⟩⟩
    | cons o os ih =>
      intro lo hp h
      obtain ⟨a, b⟩ := h
      refine ⟨fun j o1 hj hx1 => ?_, fun hx1 => ?_⟩
      · cases j with
        | zero =>
          cases hj
          exact ⟨_, (Int.toNat_of_nonneg (hp _ List.mem_cons_self)).symm, a (by simpa using hx1)⟩
        | succ j =>
          exact (ih (lo + 1) (fun o ho => hp o (List.mem_cons_of_mem _ ho)) (b (by omega))).1 j o1 hj (by omega)
      · exact (ih (lo + 1) (fun o ho => hp o (List.mem_cons_of_mem _ ho)) (b (by simp at hx1; omega))).2 (by simp at hx1; omega)
  obtain ⟨k1, k2⟩ := key offs.toList lo h3 h
  intro p e s m args below meth c H locs ls C hP hS hL
  have ht := sc_ti hx
  by_cases hr : x < lo ∨ hi < x
  · obtain ⟨t, e1, k⟩ := k2 (by rcases hr with h | h; exact Or.inl h; exact Or.inr (by simp; omega))
    exact lv_tableOut C.1 C.2.1 hd (by rw [ht]; exact hr) e1 (k p e s m args below meth c H locs ls C hP hS hL)
  · have hlt : (x - lo).toNat < offs.size := by omega
    obtain ⟨t, e1, k⟩ := k1 (x - lo).toNat offs[(x - lo).toNat] (by simp [hlt]) (by omega)
    exact lv_tableIn C.1 C.2.1 hd (by rw [ht]; omega) (by rw [ht]; omega) (by rw [ht]; simp [hlt]) e1 (k p e s m args below meth c H locs ls C hP hS hL)
theorem sc_ckF_ok {idx c k : Nat} {pt : Bool} (h : sc_ckF y idx c k pt = true) : ∃ q, vwCl[c]? = some q ∧ k < q.2.2 ∧ (q.2.1 k).1 = q.1 ∧ Cond.fieldLink y.1.cls idx q.1 (q.2.1 k).2.1 (q.2.1 k).2.2.1 ∈ sc_gw ∧
    (pt = true → (q.2.1 k).2.2.2 = false ∧ ((sc_ft c k = 0 ∧ parseFieldDescriptor (q.2.1 k).2.2.1 = some .int) ∨ (sc_ft c k = 1 ∧ parseFieldDescriptor (q.2.1 k).2.2.1 = some .long))) := by
  unfold sc_ckF at h
  cases hq : vwCl[c]? with
  | none => rw [hq] at h; cases h
  | some q =>
    rw [hq] at h
    simp only [Bool.and_eq_true, Bool.or_eq_true, decide_eq_true_eq, Bool.not_eq_true'] at h
    refine ⟨q, rfl, h.1, h.2.1, sc_mem_ok h.2.2.1, fun e => ?_⟩
    rcases h.2.2.2 with h1 | h1
    · rw [e] at h1; cases h1
    · exact h1
theorem sc_ckN_ok {q : sc_Q} {n : Nat} (h : sc_ckN q n = true) : (q.1.cls ≠ "java/lang/invoke/MethodHandle" ∧ q.1.cls ≠ "java/lang/invoke/VarHandle" ∧ (parseMethodDescriptor q.1.desc).map (fun d => d.parameters.length) = some n) ∧ q.2.2.1 ≤ 17 ∧ Cond.initialized q.1.cls ∈ sc_gw := by
  unfold sc_ckN at h
  simp only [Bool.and_eq_true, decide_eq_true_eq] at h
  exact ⟨⟨h.1, h.2.1, h.2.2.1⟩, h.2.2.2.1, sc_mem_ok h.2.2.2.2⟩
set_option maxHeartbeats 4000000 in
theorem sc_stp_ok {ins : Instr} {len : Nat} {ax : sc_X} {nx : List sc_V → List sc_V → sc_M → Prop} {jp : Nat → List sc_V → List sc_V → sc_M → Prop} (hd : decode y.2.1 pc = .ok (ins, len)) (hc : sc_ckA y pc len ax ins = true)
    (hnx : ∀ L st μ, nx L st μ → sc_Wp l G d y (pc + len) L st μ Post) (hjp : ∀ t L st μ, jp t L st μ → sc_Wp l G d y t L st μ Post) (h : sc_stp l G d y Post pc ax L st μ nx jp ins) : sc_Wp l G d y pc L st μ Post := by
  cases ins
  case iconst n =>
    simp only [sc_ckA, Bool.and_eq_true, decide_eq_true_eq, beq_iff_eq] at hc
    simp only [sc_stp] at h
    subst hc
    exact sc_r_iconst hd (hnx _ _ _ h)
  case bipush n =>
    simp only [sc_ckA, Bool.and_eq_true, decide_eq_true_eq, beq_iff_eq] at hc
    simp only [sc_stp] at h
    obtain ⟨rfl, h1, h2⟩ := hc
    exact sc_r_bipush hd h1 h2 (hnx _ _ _ h)
  case sipush n =>
    simp only [sc_ckA, Bool.and_eq_true, decide_eq_true_eq, beq_iff_eq] at hc
    simp only [sc_stp] at h
    obtain ⟨rfl, h1, h2⟩ := hc
    exact sc_r_sipush hd h1 h2 (hnx _ _ _ h)
  case lconst n =>
    simp only [sc_ckA, Bool.and_eq_true, decide_eq_true_eq, beq_iff_eq] at hc
    simp only [sc_stp] at h
    obtain ⟨rfl, h1⟩ := hc
    exact sc_r_lconst hd h1 (hnx _ _ _ h)
  case ldc2_w n =>
    simp only [sc_ckA, Bool.and_eq_true, decide_eq_true_eq, beq_iff_eq] at hc
    simp only [sc_stp] at h
    obtain ⟨rfl, h1⟩ := hc
    exact sc_r_ldc2 hd (sc_mem_ok h1) (hnx _ _ _ h)
  case ldc_w n =>
    simp only [sc_ckA, Bool.and_eq_true, decide_eq_true_eq, beq_iff_eq] at hc
    simp only [sc_stp] at h
    obtain ⟨rfl, h1⟩ := hc
    exact sc_r_ldcw hd (sc_mem_ok h1) (hnx _ _ _ h)
  case iload_n k =>
    simp only [sc_ckA, Bool.and_eq_true, decide_eq_true_eq, beq_iff_eq] at hc
    simp only [sc_stp] at h
    obtain ⟨rfl, h1⟩ := hc
    obtain ⟨x, e, h⟩ := sc_vI_inv h
    exact sc_r_iload_n hd h1 (sc_nth_at _ _ _ e (fun q => by cases q)) (hnx _ _ _ h)
  case iload k =>
    simp only [sc_ckA, Bool.and_eq_true, decide_eq_true_eq, beq_iff_eq] at hc
    simp only [sc_stp] at h
    obtain ⟨rfl, rfl⟩ := hc
    obtain ⟨x, e, h⟩ := sc_vI_inv h
    exact sc_r_iload hd (sc_nth_at _ _ _ e (fun q => by cases q)) (hnx _ _ _ h)
  case istore_n k =>
    simp only [sc_ckA, Bool.and_eq_true, decide_eq_true_eq, beq_iff_eq] at hc
    simp only [sc_stp] at h
    obtain ⟨rfl, h1, h2⟩ := hc
    obtain ⟨x, st1, rfl, h⟩ := sc_1i_inv h
    exact sc_r_istore_n hd h1 h2 (hnx _ _ _ h)
  case istore k =>
    simp only [sc_ckA, Bool.and_eq_true, decide_eq_true_eq, beq_iff_eq] at hc
    simp only [sc_stp] at h
    obtain ⟨rfl, rfl, h2⟩ := hc
    obtain ⟨x, st1, rfl, h⟩ := sc_1i_inv h
    exact sc_r_istore hd h2 (hnx _ _ _ h)
  case lload_n k =>
    simp only [sc_ckA, Bool.and_eq_true, decide_eq_true_eq, beq_iff_eq] at hc
    simp only [sc_stp] at h
    obtain ⟨rfl, h1⟩ := hc
    obtain ⟨x, e, h⟩ := sc_vJ_inv h
    exact sc_r_lload_n hd h1 (sc_nth_at _ _ _ e (fun q => by cases q)) (hnx _ _ _ h)
  case lload k =>
    simp only [sc_ckA, Bool.and_eq_true, decide_eq_true_eq, beq_iff_eq] at hc
    simp only [sc_stp] at h
    obtain ⟨rfl, rfl⟩ := hc
    obtain ⟨x, e, h⟩ := sc_vJ_inv h
    exact sc_r_lload hd (sc_nth_at _ _ _ e (fun q => by cases q)) (hnx _ _ _ h)
  case lstore_n k =>
    simp only [sc_ckA, Bool.and_eq_true, decide_eq_true_eq, beq_iff_eq] at hc
    simp only [sc_stp] at h
    obtain ⟨rfl, h1, h2⟩ := hc
    obtain ⟨x, st1, rfl, h⟩ := sc_1j_inv h
    exact sc_r_lstore_n hd h1 h2 (hnx _ _ _ h)
  case lstore k =>
    simp only [sc_ckA, Bool.and_eq_true, decide_eq_true_eq, beq_iff_eq] at hc
    simp only [sc_stp] at h
    obtain ⟨rfl, rfl, h2⟩ := hc
    obtain ⟨x, st1, rfl, h⟩ := sc_1j_inv h
    exact sc_r_lstore hd h2 (hnx _ _ _ h)
  case aload_n k =>
    simp only [sc_ckA, Bool.and_eq_true, decide_eq_true_eq, beq_iff_eq] at hc
    simp only [sc_stp] at h
    obtain ⟨rfl, h1⟩ := hc
    obtain ⟨x, e, h⟩ := sc_vR_inv h
    exact sc_r_aload_n hd h1 (sc_nth_at _ _ _ e (fun q => by cases q)) (hnx _ _ _ h)
  case aload k =>
    simp only [sc_ckA, Bool.and_eq_true, decide_eq_true_eq, beq_iff_eq] at hc
    simp only [sc_stp] at h
    obtain ⟨rfl, rfl⟩ := hc
    obtain ⟨x, e, h⟩ := sc_vR_inv h
    exact sc_r_aload hd (sc_nth_at _ _ _ e (fun q => by cases q)) (hnx _ _ _ h)
  case astore_n k =>
    simp only [sc_ckA, Bool.and_eq_true, decide_eq_true_eq, beq_iff_eq] at hc
    simp only [sc_stp] at h
    obtain ⟨rfl, h1, h2⟩ := hc
    obtain ⟨x, st1, rfl, h⟩ := sc_1r_inv h
    exact sc_r_astore_n hd h1 h2 (hnx _ _ _ h)
  case astore k =>
    simp only [sc_ckA, Bool.and_eq_true, decide_eq_true_eq, beq_iff_eq] at hc
    simp only [sc_stp] at h
    obtain ⟨rfl, rfl, h2⟩ := hc
    obtain ⟨x, st1, rfl, h⟩ := sc_1r_inv h
    exact sc_r_astore hd h2 (hnx _ _ _ h)
  case iinc k n =>
    simp only [sc_ckA, Bool.and_eq_true, decide_eq_true_eq, beq_iff_eq] at hc
    simp only [sc_stp] at h
    obtain ⟨rfl, rfl, h2⟩ := hc
    obtain ⟨x, e, h⟩ := sc_vI_inv h
    exact sc_r_iinc hd (sc_nth_at _ _ _ e (fun q => by cases q)) h2 (hnx _ _ _ h)
  case iadd =>
    simp only [sc_ckA, Bool.and_eq_true, decide_eq_true_eq, beq_iff_eq] at hc
    simp only [sc_stp] at h
    subst hc
    obtain ⟨x, z, st1, rfl, h⟩ := sc_2i_inv h
    exact sc_r_iadd hd (hnx _ _ _ h)
  case isub =>
    simp only [sc_ckA, Bool.and_eq_true, decide_eq_true_eq, beq_iff_eq] at hc
    simp only [sc_stp] at h
    subst hc
    obtain ⟨x, z, st1, rfl, h⟩ := sc_2i_inv h
    exact sc_r_isub hd (hnx _ _ _ h)
  case imul =>
    simp only [sc_ckA, Bool.and_eq_true, decide_eq_true_eq, beq_iff_eq] at hc
    simp only [sc_stp] at h
    subst hc
    obtain ⟨x, z, st1, rfl, h⟩ := sc_2i_inv h
    exact sc_r_imul hd (hnx _ _ _ h)
  case iand =>
    simp only [sc_ckA, Bool.and_eq_true, decide_eq_true_eq, beq_iff_eq] at hc
    simp only [sc_stp] at h
    subst hc
    obtain ⟨x, z, st1, rfl, h⟩ := sc_2i_inv h
    exact sc_r_iand hd (hnx _ _ _ h)
  case ior =>
    simp only [sc_ckA, Bool.and_eq_true, decide_eq_true_eq, beq_iff_eq] at hc
    simp only [sc_stp] at h
    subst hc
    obtain ⟨x, z, st1, rfl, h⟩ := sc_2i_inv h
    exact sc_r_ior hd (hnx _ _ _ h)
  case ixor =>
    simp only [sc_ckA, Bool.and_eq_true, decide_eq_true_eq, beq_iff_eq] at hc
    simp only [sc_stp] at h
    subst hc
    obtain ⟨x, z, st1, rfl, h⟩ := sc_2i_inv h
    exact sc_r_ixor hd (hnx _ _ _ h)
  case ishl =>
    simp only [sc_ckA, Bool.and_eq_true, decide_eq_true_eq, beq_iff_eq] at hc
    simp only [sc_stp] at h
    subst hc
    obtain ⟨x, z, st1, rfl, h⟩ := sc_2i_inv h
    exact sc_r_ishl hd (hnx _ _ _ h)
  case ishr =>
    simp only [sc_ckA, Bool.and_eq_true, decide_eq_true_eq, beq_iff_eq] at hc
    simp only [sc_stp] at h
    subst hc
    obtain ⟨x, z, st1, rfl, h⟩ := sc_2i_inv h
    exact sc_r_ishr hd (hnx _ _ _ h)
  case iushr =>
    simp only [sc_ckA, Bool.and_eq_true, decide_eq_true_eq, beq_iff_eq] at hc
    simp only [sc_stp] at h
    subst hc
    obtain ⟨x, z, st1, rfl, h⟩ := sc_2i_inv h
    exact sc_r_iushr hd (hnx _ _ _ h)
  case ladd =>
    simp only [sc_ckA, Bool.and_eq_true, decide_eq_true_eq, beq_iff_eq] at hc
    simp only [sc_stp] at h
    subst hc
    obtain ⟨x, z, st1, rfl, h⟩ := sc_2j_inv h
    exact sc_r_ladd hd (hnx _ _ _ h)
  case lsub =>
    simp only [sc_ckA, Bool.and_eq_true, decide_eq_true_eq, beq_iff_eq] at hc
    simp only [sc_stp] at h
    subst hc
    obtain ⟨x, z, st1, rfl, h⟩ := sc_2j_inv h
    exact sc_r_lsub hd (hnx _ _ _ h)
  case lmul =>
    simp only [sc_ckA, Bool.and_eq_true, decide_eq_true_eq, beq_iff_eq] at hc
    simp only [sc_stp] at h
    subst hc
    obtain ⟨x, z, st1, rfl, h⟩ := sc_2j_inv h
    exact sc_r_lmul hd (hnx _ _ _ h)
  case idiv =>
    simp only [sc_ckA, Bool.and_eq_true, decide_eq_true_eq, beq_iff_eq] at hc
    simp only [sc_stp] at h
    subst hc
    obtain ⟨x, z, st1, rfl, h1, h2, h3, h⟩ := sc_2i_inv h
    exact sc_r_idiv hd h1 h2 h3 (hnx _ _ _ h)
  case irem =>
    simp only [sc_ckA, Bool.and_eq_true, decide_eq_true_eq, beq_iff_eq] at hc
    simp only [sc_stp] at h
    subst hc
    obtain ⟨x, z, st1, rfl, h1, h2, h3, h⟩ := sc_2i_inv h
    exact sc_r_irem hd h1 h2 h3 (hnx _ _ _ h)
  case ldiv =>
    simp only [sc_ckA, Bool.and_eq_true, decide_eq_true_eq, beq_iff_eq] at hc
    simp only [sc_stp] at h
    subst hc
    obtain ⟨x, z, st1, rfl, h1, h2, h3, h⟩ := sc_2j_inv h
    exact sc_r_ldiv hd h1 h2 h3 (hnx _ _ _ h)
  case lrem =>
    simp only [sc_ckA, Bool.and_eq_true, decide_eq_true_eq, beq_iff_eq] at hc
    simp only [sc_stp] at h
    subst hc
    obtain ⟨x, z, st1, rfl, h1, h2, h3, h⟩ := sc_2j_inv h
    exact sc_r_lrem hd h1 h2 h3 (hnx _ _ _ h)
  case lneg =>
    simp only [sc_ckA, Bool.and_eq_true, decide_eq_true_eq, beq_iff_eq] at hc
    simp only [sc_stp] at h
    subst hc
    obtain ⟨x, st1, rfl, h⟩ := sc_1j_inv h
    exact sc_r_lneg hd (hnx _ _ _ h)
  case lcmp =>
    simp only [sc_ckA, Bool.and_eq_true, decide_eq_true_eq, beq_iff_eq] at hc
    simp only [sc_stp] at h
    subst hc
    obtain ⟨x, z, st1, rfl, h1, h2, h⟩ := sc_2j_inv h
    exact sc_r_lcmp hd h1 h2 (hnx _ _ _ h)
  case i2l =>
    simp only [sc_ckA, Bool.and_eq_true, decide_eq_true_eq, beq_iff_eq] at hc
    simp only [sc_stp] at h
    subst hc
    obtain ⟨x, st1, rfl, h1, h⟩ := sc_1i_inv h
    exact sc_r_i2l hd h1 (hnx _ _ _ h)
  case dup =>
    simp only [sc_ckA, Bool.and_eq_true, decide_eq_true_eq, beq_iff_eq] at hc
    simp only [sc_stp] at h
    subst hc
    obtain ⟨x, st1, rfl, h1, h⟩ := sc_1v_inv h
    exact sc_r_dup hd h1 (hnx _ _ _ h)
  case dup2 =>
    simp only [sc_ckA, Bool.and_eq_true, decide_eq_true_eq, beq_iff_eq] at hc
    simp only [sc_stp] at h
    subst hc
    obtain ⟨v, w, st1, rfl, h1, h2, h⟩ := sc_2v_inv h
    exact sc_r_dup2 hd h1 h2 (hnx _ _ _ h)
  case if_icmp c off =>
    simp only [sc_ckA, Bool.and_eq_true, decide_eq_true_eq, beq_iff_eq] at hc
    simp only [sc_stp] at h
    obtain ⟨rfl, ht⟩ := hc
    obtain ⟨x, z, st1, rfl, h1, h2, h⟩ := sc_2i_inv h
    cases c
    · exact sc_r_icmp_eq hd ht h1 h2 (fun q => hjp _ _ _ _ (h.1 q)) (fun q => hnx _ _ _ (h.2 q))
    · exact sc_r_icmp_ne hd ht h1 h2 (fun q => hjp _ _ _ _ (h.1 q)) (fun q => hnx _ _ _ (h.2 q))
    · exact sc_r_icmp_lt hd ht h1 h2 (fun q => hjp _ _ _ _ (h.1 q)) (fun q => hnx _ _ _ (h.2 q))
    · exact sc_r_icmp_ge hd ht h1 h2 (fun q => hjp _ _ _ _ (h.1 q)) (fun q => hnx _ _ _ (h.2 q))
    · exact sc_r_icmp_gt hd ht h1 h2 (fun q => hjp _ _ _ _ (h.1 q)) (fun q => hnx _ _ _ (h.2 q))
    · exact sc_r_icmp_le hd ht h1 h2 (fun q => hjp _ _ _ _ (h.1 q)) (fun q => hnx _ _ _ (h.2 q))
  case ifCond c off =>
    simp only [sc_ckA, Bool.and_eq_true, decide_eq_true_eq, beq_iff_eq] at hc
    simp only [sc_stp] at h
    obtain ⟨rfl, ht⟩ := hc
    obtain ⟨x, st1, rfl, h1, h⟩ := sc_1i_inv h
    cases c
    · exact sc_r_if_eq hd ht h1 (fun q => hjp _ _ _ _ (h.1 q)) (fun q => hnx _ _ _ (h.2 q))
    · exact sc_r_if_ne hd ht h1 (fun q => hjp _ _ _ _ (h.1 q)) (fun q => hnx _ _ _ (h.2 q))
    · exact sc_r_if_lt hd ht h1 (fun q => hjp _ _ _ _ (h.1 q)) (fun q => hnx _ _ _ (h.2 q))
    · exact sc_r_if_ge hd ht h1 (fun q => hjp _ _ _ _ (h.1 q)) (fun q => hnx _ _ _ (h.2 q))
    · exact sc_r_if_gt hd ht h1 (fun q => hjp _ _ _ _ (h.1 q)) (fun q => hnx _ _ _ (h.2 q))
    · exact sc_r_if_le hd ht h1 (fun q => hjp _ _ _ _ (h.1 q)) (fun q => hnx _ _ _ (h.2 q))
  case goto off =>
    simp only [sc_ckA, Bool.and_eq_true, decide_eq_true_eq, beq_iff_eq] at hc
    simp only [sc_stp] at h
    obtain ⟨rfl, ht⟩ := hc
    exact sc_r_goto hd ht (hjp _ _ _ _ h)
  case tableswitch dflt lo hi offs =>
    simp only [sc_ckA, Bool.and_eq_true, decide_eq_true_eq, beq_iff_eq] at hc
    simp only [sc_stp] at h
    obtain ⟨h1, h2, h3⟩ := hc
    obtain ⟨x, st1, rfl, hx, h⟩ := sc_1i_inv h
    refine sc_r_switch hd hx h1 h2 (fun o ho => by simpa using List.all_eq_true.mp h3 o ho) ?_
    have mono : ∀ (os : List Int) (lo : Int), sc_sw x pc (fun t => jp t L st1 μ) dflt lo os → sc_sw x pc (fun t => sc_Wp l G d y t L st1 μ Post) dflt lo os := by
      intro os
      induction os with
      | nil => intro lo h; exact hjp _ _ _ _ h
      | cons o os ih => intro lo h; exact ⟨fun q => hjp _ _ _ _ (h.1 q), fun q => ih _ (h.2 q)⟩
    exact mono _ _ h
  case getfield i =>
    simp only [sc_ckA, Bool.and_eq_true, decide_eq_true_eq, beq_iff_eq] at hc
    simp only [sc_stp] at h
    obtain ⟨rfl, hf⟩ := hc
    obtain ⟨a, st1, rfl, h1, h⟩ := sc_1r_inv h
    obtain ⟨q, q1, q2, q3, q4, -⟩ := sc_ckF_ok hf
    exact sc_r_getf hd q1 q2 q3 q4 h1 (hnx _ _ _ h)
  case putfield i =>
    simp only [sc_ckA, Bool.and_eq_true, decide_eq_true_eq, beq_iff_eq] at hc
    simp only [sc_stp] at h
    obtain ⟨rfl, hf⟩ := hc
    obtain ⟨q, q1, q2, q3, q4, q5⟩ := sc_ckF_ok hf
    obtain ⟨q6, q7⟩ := q5 rfl
    rcases q7 with ⟨q7, q8⟩ | ⟨q7, q8⟩
    · rw [q7] at h
      obtain ⟨x, a, st1, rfl, h1, h⟩ := sc_xr_inv h
      exact sc_r_putI hd q1 q2 q3 q4 q6 q8 q7 h1 (hnx _ _ _ h)
    · rw [q7] at h
      obtain ⟨x, a, st1, rfl, h1, h⟩ := sc_jr_inv h
      exact sc_r_putJ hd q1 q2 q3 q4 q6 q8 q7 h1 (hnx _ _ _ h)
  case iaload =>
    simp only [sc_ckA, Bool.and_eq_true, decide_eq_true_eq, beq_iff_eq] at hc
    simp only [sc_stp] at h
    subst hc
    obtain ⟨i, a, st1, rfl, h1, h2, h3, h⟩ := sc_ir_inv h
    exact sc_r_iald hd h1 h2 h3 (hnx _ _ _ h)
  case laload =>
    simp only [sc_ckA, Bool.and_eq_true, decide_eq_true_eq, beq_iff_eq] at hc
    simp only [sc_stp] at h
    subst hc
    obtain ⟨i, a, st1, rfl, h1, h2, h3, h⟩ := sc_ir_inv h
    exact sc_r_lald hd h1 h2 h3 (hnx _ _ _ h)
  case baload =>
    simp only [sc_ckA, Bool.and_eq_true, decide_eq_true_eq, beq_iff_eq] at hc
    simp only [sc_stp] at h
    subst hc
    obtain ⟨i, a, st1, rfl, h1, h2, h3, h⟩ := sc_ir_inv h
    exact sc_r_zald hd h1 h2 h3 (hnx _ _ _ h)
  case aaload =>
    simp only [sc_ckA, Bool.and_eq_true, decide_eq_true_eq, beq_iff_eq] at hc
    simp only [sc_stp] at h
    subst hc
    obtain ⟨i, a, st1, rfl, h1, h2, h3, h⟩ := sc_ir_inv h
    exact sc_r_aald hd h1 h2 h3 (hnx _ _ _ h)
  case iastore =>
    simp only [sc_ckA, Bool.and_eq_true, decide_eq_true_eq, beq_iff_eq] at hc
    simp only [sc_stp] at h
    subst hc
    obtain ⟨x, i, a, st1, rfl, h1, h2, h3, h⟩ := sc_iir_inv h
    exact sc_r_iast hd h1 h2 h3 (hnx _ _ _ h)
  case lastore =>
    simp only [sc_ckA, Bool.and_eq_true, decide_eq_true_eq, beq_iff_eq] at hc
    simp only [sc_stp] at h
    subst hc
    obtain ⟨x, i, a, st1, rfl, h1, h2, h3, h⟩ := sc_jir_inv h
    exact sc_r_last hd h1 h2 h3 (hnx _ _ _ h)
  case bastore =>
    simp only [sc_ckA, Bool.and_eq_true, decide_eq_true_eq, beq_iff_eq] at hc
    simp only [sc_stp] at h
    subst hc
    obtain ⟨x, i, a, st1, rfl, h1, h2, h3, h4, h⟩ := sc_iir_inv h
    exact sc_r_zast hd h1 h2 h3 h4 (hnx _ _ _ h)
  case arraylength =>
    simp only [sc_ckA, Bool.and_eq_true, decide_eq_true_eq, beq_iff_eq] at hc
    simp only [sc_stp] at h
    subst hc
    obtain ⟨a, st1, rfl, h1, h⟩ := sc_1r_inv h
    exact sc_r_alen hd h1 (hnx _ _ _ h)
  case ireturn =>
    simp only [sc_ckA, Bool.and_eq_true, decide_eq_true_eq, beq_iff_eq] at hc
    simp only [sc_stp] at h
    subst hc
    obtain ⟨x, st1, rfl, rfl, hp⟩ := sc_1i_inv h
    unfold sc_retI at hp
    split at hp
    · exact sc_r_iret hd ‹_› hp
    · exact sc_r_zret hd ‹_› hp.1 hp.2
    · exact hp.elim
  case lreturn =>
    simp only [sc_ckA, Bool.and_eq_true, decide_eq_true_eq, beq_iff_eq] at hc
    simp only [sc_stp] at h
    obtain ⟨rfl, h1⟩ := hc
    obtain ⟨x, st1, rfl, rfl, hp⟩ := sc_1j_inv h
    exact sc_r_lret hd h1 hp
  case return_ =>
    simp only [sc_ckA, Bool.and_eq_true, decide_eq_true_eq, beq_iff_eq] at hc
    simp only [sc_stp] at h
    obtain ⟨rfl, h1⟩ := hc
    obtain ⟨rfl, h⟩ := h
    exact sc_r_vret hd h1 h
  case invokevirtual i =>
    simp only [sc_ckA, Bool.and_eq_true, decide_eq_true_eq, beq_iff_eq] at hc
    simp only [sc_stp] at h
    obtain ⟨rfl, hf⟩ := hc
    obtain ⟨c, n, q, rfl, h⟩ := sc_xc_inv h
    simp only [sc_ckV, Bool.and_eq_true] at hf
    obtain ⟨f1, f2, f3, f4, f5⟩ := hf
    obtain ⟨g1, g2, g3⟩ := sc_ckN_ok f5
    cases d with
    | zero => exact h.elim
    | succ d =>
      obtain ⟨as, r, rfl, e2, h8⟩ := sc_args_inv _ _ _ _ h
      obtain ⟨b, st1, rfl, h1, h2, P1, hsp, h9⟩ := sc_1r_inv h8
      rw [List.append_nil] at hsp
      cases hq : vwCl[c]? with
      | none => rw [hq] at f1; cases f1
      | some r9 =>
        rw [hq] at f1
        simp only [decide_eq_true_eq] at f1
        subst e2
        exact sc_r_callV hd (sc_mem_ok f2) (sc_mem_ok f3) (sc_mem_ok f4) g3 g1 g2 hq f1 h1 h2 hsp (fun r μ1 hp => hnx _ _ _ (h9 r μ1 hp))
  case invokestatic i =>
    simp only [sc_ckA, Bool.and_eq_true, decide_eq_true_eq, beq_iff_eq] at hc
    simp only [sc_stp] at h
    obtain ⟨rfl, hf⟩ := hc
    obtain ⟨c, n, q, e9, h6⟩ := sc_xc_inv h
    clear h
    subst e9
    have h := h6
    cases d with
    | zero => exact h.elim
    | succ d =>
      by_cases hc1 : c = 100
      · subst hc1
        simp only [sc_ckS, if_true, Bool.and_eq_true] at hf
        simp only [sc_callS, if_true] at h
        obtain ⟨f2, f3, f5⟩ := hf
        obtain ⟨g1, g2, g3⟩ := sc_ckN_ok f5
        obtain ⟨as, r, rfl, e2, h2, P1, hsp, h9⟩ := sc_args_inv _ _ _ _ h
        rw [List.append_nil] at hsp
        subst e2
        exact sc_r_callS hd (sc_mem_ok f2) (sc_mem_ok f3) g3 g1 g2 h2 hsp (fun r μ1 hp => hnx _ _ _ (h9 r μ1 hp))
      · simp only [sc_ckS, sc_callS, if_neg hc1, Bool.and_eq_true] at hf h
        obtain ⟨f1, f2, f3, f4⟩ := hf
        obtain ⟨n1, dp, b, sp, a, st1, rfl, h1, h2, h3, h4, h5, h6, h7, h8, h9⟩ := sc_cpy_inv h
        exact sc_r_copy hd (sc_mem_ok f1) (sc_mem_ok f2) (sc_mem_ok f3) (sc_mem_ok f4) h1 h2 h3 h4 h5 h6 h7 h8 (hnx _ _ _ h9)
  all_goals exact h.elim
end SCS
/-! from one cut to the next -/
def sc_lk : sc_T → Nat → Option (Instr × Nat × sc_X × Bool)
  | [], _ => none
  | e :: t, pc => if e.1 = pc then some e.2 else sc_lk t pc
section SCW
variable (l : Launch) (G : sc_G) (d : Nat) (y : sc_Q) (t : sc_T) (Post : sc_V → sc_M → Prop)
def sc_go (f : Nat → List sc_V → List sc_V → sc_M → Prop) (pc : Nat) (L st : List sc_V) (μ : sc_M) : Option (Instr × Nat × sc_X × Bool) → Prop
  | none => False
  | some (_, _, _, true) => sc_Wp l G d y pc L st μ Post
  | some (_, _, _, false) => f pc L st μ
def sc_do (f : Nat → List sc_V → List sc_V → sc_M → Prop) (pc : Nat) (L st : List sc_V) (μ : sc_M) : Option (Instr × Nat × sc_X × Bool) → Prop
  | none => False
  | some (ins, len, ax, _) => sc_stp l G d y Post pc ax L st μ (fun L st μ => sc_go l G d y Post f (pc + len) L st μ (sc_lk t (pc + len))) (fun tg L st μ => sc_go l G d y Post f tg L st μ (sc_lk t tg)) ins
def sc_wp : Nat → Nat → List sc_V → List sc_V → sc_M → Prop
  | 0, _, _, _, _ => False
  | n + 1, pc, L, st, μ => sc_do l G d y t Post (sc_wp n) pc L st μ (sc_lk t pc)
end SCW
theorem sc_lk_mem : ∀ (t : sc_T) (pc : Nat) (x : Instr × Nat × sc_X × Bool), sc_lk t pc = some x → (pc, x) ∈ t
  | [], pc, x, h => by cases h
  | e :: t, pc, x, h => by
    unfold sc_lk at h
    split at h
    · rename_i h1
      cases h
      rw [← h1]
      exact List.mem_cons_self
    · exact List.mem_cons_of_mem _ (sc_lk_mem t pc x h)
theorem sc_wp_ok {l : Launch} {G : sc_G} {d : Nat} {y : sc_Q} {t : sc_T} {Post : sc_V → sc_M → Prop} (hok : sc_ok y t = true) : ∀ (n pc : Nat) (L st : List sc_V) (μ : sc_M), sc_wp l G d y t Post n pc L st μ → sc_Wp l G d y pc L st μ Post := by
  simp only [sc_ok, Bool.and_eq_true] at hok
  obtain ⟨hall, -⟩ := hok
  intro n
  induction n with
  | zero => intro pc L st μ h; exact h.elim
  | succ n ih =>
    intro pc L st μ h
    have go : ∀ (pc : Nat) (L st : List sc_V) (μ : sc_M), sc_go l G d y Post (sc_wp l G d y t Post n) pc L st μ (sc_lk t pc) → sc_Wp l G d y pc L st μ Post := by
      intro pc L st μ h
      cases hk : sc_lk t pc with
      | none => rw [hk] at h; exact h.elim
      | some x =>
        rw [hk] at h
        obtain ⟨ins, len, ax, cf⟩ := x
        cases cf with
        | true => exact h
        | false => exact ih pc L st μ h
    unfold sc_wp at h
    cases hk : sc_lk t pc with
    | none => rw [hk] at h; exact h.elim
    | some x =>
      rw [hk] at h
      obtain ⟨ins, len, ax, cf⟩ := x
      have hck := List.all_eq_true.mp hall _ (sc_lk_mem t pc _ hk)
      simp only [sc_ck, Bool.and_eq_true, decide_eq_true_eq] at hck
      exact sc_stp_ok hck.1 hck.2 (fun L st μ h => go _ L st μ h) (fun tg L st μ h => go _ L st μ h) h
/-- what a method's stretch asks: from pc, in n steps at most, to the next cuts -/
theorem sc_run {l : Launch} {G : sc_G} {d : Nat} {y : sc_Q} {t : sc_T} {Post : sc_V → sc_M → Prop} (hok : sc_ok y t = true) (n pc : Nat) {L st : List sc_V} {μ : sc_M} (h : sc_wp l G d y t Post n pc L st μ) : sc_Wp l G d y pc L st μ Post := sc_wp_ok hok n pc L st μ h
theorem sc_enter {l : Launch} {G : sc_G} {d : Nat} {y : sc_Q} {as : List sc_V} {μ : sc_M} {Post : sc_V → sc_M → Prop} (hm : Cond.code y.1 y.2.1 y.2.2.1 y.2.2.2 ∈ sc_gw) (hy : plainFor y.1 = true) (L : List sc_V) (hL : sc_pad (sc_ent as) y.2.2.1 = L) (hn : ((sc_ent as).length.ble y.2.2.1) = true)
    (h : sc_Wp l G d y 0 L [] μ Post) : sc_Sp l G d y as μ Post := sc_Sp_of hm hy (Nat.le_of_ble_eq_true hn) (by rw [hL]; exact h)
def sc_k1 (w : sc_V) : sc_V := match w with
  | .inr (.inl _) => .inr (.inr (.inr ()))
  | v => v
theorem sc_sto_0 (w v : sc_V) (L : List sc_V) : sc_sto (w :: L) 0 v = v :: L := rfl
theorem sc_sto_1 (w u v : sc_V) (L : List sc_V) : sc_sto (w :: u :: L) 1 v = sc_k1 w :: v :: L := rfl
theorem sc_sto_s (w v : sc_V) (L : List sc_V) (n : Nat) : sc_sto (w :: L) (n + 2) v = w :: sc_sto L (n + 1) v := rfl
theorem sc_stoJ_0 (w u v : sc_V) (L : List sc_V) : sc_stoJ (w :: u :: L) 0 v = v :: .inr (.inr (.inr ())) :: L := rfl
theorem sc_stoJ_1 (w u z v : sc_V) (L : List sc_V) : sc_stoJ (w :: u :: z :: L) 1 v = sc_k1 w :: v :: .inr (.inr (.inr ())) :: L := rfl
theorem sc_stoJ_s (w v : sc_V) (L : List sc_V) (n : Nat) : sc_stoJ (w :: L) (n + 2) v = w :: sc_stoJ L (n + 1) v := rfl
theorem sc_k1_i (x : Int) : sc_k1 (.inl x) = .inl x := rfl
theorem sc_k1_j (x : Int) : sc_k1 (.inr (.inl x)) = .inr (.inr (.inr ())) := rfl
theorem sc_k1_r (x : Nat) : sc_k1 (.inr (.inr (.inl x))) = .inr (.inr (.inl x)) := rfl
theorem sc_k1_u : sc_k1 (.inr (.inr (.inr ()))) = .inr (.inr (.inr ())) := rfl
