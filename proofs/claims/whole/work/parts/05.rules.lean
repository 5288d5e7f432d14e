/-! A ROW AN INSTRUCTION, in whole numbers -/
def sc_kill : List sc_V → Nat → List sc_V
  | [], _ => []
  | w :: L, 0 => w :: L
  | w :: L, 1 => (match w with | .inr (.inl _) => .inr (.inr (.inr ())) | v => v) :: L
  | w :: L, n + 2 => w :: sc_kill L (n + 1)
def sc_sto (L : List sc_V) (i : Nat) (v : sc_V) : List sc_V := (sc_kill L i).set i v
def sc_stoJ (L : List sc_V) (i : Nat) (v : sc_V) : List sc_V := ((sc_kill L i).set i v).set (i + 1) (.inr (.inr (.inr ())))
def sc_isJ : sc_V → Bool
  | .inr (.inl _) => true
  | _ => false
theorem sc_kill_len (L : List sc_V) : ∀ i, (sc_kill L i).length = L.length := by
  induction L with
  | nil => intro i; cases i <;> rfl
  | cons w L ih =>
    intro i
    rcases i with _ | _ | i
    · rfl
    · simp [sc_kill]
    · simp [sc_kill, ih]
theorem sc_kill_at (L : List sc_V) : ∀ (i j : Nat) (w : sc_V), (sc_kill L i)[j]? = some w → w ≠ .inr (.inr (.inr ())) → L[j]? = some w ∧ ¬ (j + 1 = i ∧ sc_isJ w = true) := by
  induction L with
  | nil => intro i j w h; cases i <;> simp [sc_kill] at h
  | cons u L ih =>
    intro i j w h hw
    rcases i with _ | _ | i
    · exact ⟨h, fun q => by omega⟩
    · cases j with
      | zero =>
        rcases u with u | u | u | u
        all_goals simp [sc_kill] at h
        all_goals subst h
        all_goals first | exact absurd rfl hw | exact ⟨rfl, fun q => by simp [sc_isJ] at q⟩
      | succ j => exact ⟨h, fun q => by omega⟩
    · cases j with
      | zero => exact ⟨h, fun q => by omega⟩
      | succ j =>
        obtain ⟨h1, h2⟩ := ih (i + 1) j w h hw
        exact ⟨h1, fun q => h2 ⟨by omega, q.2⟩⟩
theorem sc_cat (G : sc_G) (w : sc_V) : (sc_rv G w).category = if sc_isJ w then 2 else 1 := by
  rcases w with w | w | w | w <;> rfl
def sc_prs (G : sc_G) (L : List sc_V) : List (Nat × Value) := (List.range L.length).filterMap (fun i => match L[i]? with | some v => if v = .inr (.inr (.inr ())) then none else some (i, sc_rv G v) | none => none)
theorem sc_prs_mem {G : sc_G} {L : List sc_V} {i : Nat} {v : sc_V} (h : L[i]? = some v) (hv : v ≠ .inr (.inr (.inr ()))) : (i, sc_rv G v) ∈ sc_prs G L :=
  List.mem_filterMap.mpr ⟨i, List.mem_range.mpr (List.getElem?_eq_some_iff.mp h).1, by simp [h, hv]⟩
theorem sc_prs_has {G : sc_G} {ls : Array Slot} {L : List sc_V} {n : Nat} (h : sc_lr G ls L n) : lv_has ls n (sc_prs G L) := by
  refine ⟨h.1, h.2.1, fun q hq => ?_⟩
  obtain ⟨i, -, hi⟩ := List.mem_filterMap.mp hq
  cases e : L[i]? with
  | none => rw [e] at hi; cases hi
  | some v =>
    rw [e] at hi
    dsimp only at hi
    by_cases hv : v = .inr (.inr (.inr ()))
    · rw [if_pos hv] at hi; cases hi
    · rw [if_neg hv] at hi
      cases hi
      exact h.2.2.2 i v e hv
theorem sc_lr_sto {G : sc_G} {ls ls' : Array Slot} {L : List sc_V} {n i : Nat} {v : sc_V} (h : sc_lr G ls L n) (h' : lv_has ls' n ((i, sc_rv G v) :: (sc_prs G L).filter (fun q => !(q.1 == i) && !(q.1 + 1 == i && q.2.category == 2)))) : sc_lr G ls' (sc_sto L i v) n := by
  refine ⟨h'.1, h'.2.1, by rw [sc_sto, List.length_set, sc_kill_len]; exact h.2.2.1, fun j w hj hw => ?_⟩
  unfold sc_sto at hj
  rw [List.getElem?_set] at hj
  by_cases e : i = j
  · subst e
    rw [if_pos rfl] at hj
    split at hj
    · cases hj; exact h'.2.2 _ List.mem_cons_self
    · cases hj
  · rw [if_neg e] at hj
    obtain ⟨h1, h2⟩ := sc_kill_at L i j w hj hw
    refine h'.2.2 (j, sc_rv G w) (List.mem_cons_of_mem _ (List.mem_filter.mpr ⟨sc_prs_mem h1 hw, ?_⟩))
    rw [sc_cat]
    have e2 : ¬ j = i := fun q => e q.symm
    cases hw2 : sc_isJ w
    · simp [e2]
    · have h3 : ¬ j + 1 = i := fun q => h2 ⟨q, hw2⟩
      simp [e2, h3]
theorem sc_lr_stoJ {G : sc_G} {ls ls' : Array Slot} {L : List sc_V} {n i : Nat} {v : sc_V} (h : sc_lr G ls L n) (h' : lv_has ls' n ((i, sc_rv G v) :: (sc_prs G L).filter (fun q => !(q.1 == i) && (!(q.1 == i + 1) && !(q.1 + 1 == i && q.2.category == 2))))) : sc_lr G ls' (sc_stoJ L i v) n := by
  refine ⟨h'.1, h'.2.1, by rw [sc_stoJ, List.length_set, List.length_set, sc_kill_len]; exact h.2.2.1, fun j w hj hw => ?_⟩
  unfold sc_stoJ at hj
  rw [List.getElem?_set] at hj
  by_cases e1 : i + 1 = j
  · rw [if_pos e1] at hj
    split at hj
    · cases hj; exact absurd rfl hw
    · cases hj
  rw [if_neg e1, List.getElem?_set] at hj
  by_cases e : i = j
  · subst e
    rw [if_pos rfl] at hj
    split at hj
    · cases hj; exact h'.2.2 _ List.mem_cons_self
    · cases hj
  · rw [if_neg e] at hj
    obtain ⟨h1, h2⟩ := sc_kill_at L i j w hj hw
    refine h'.2.2 (j, sc_rv G w) (List.mem_cons_of_mem _ (List.mem_filter.mpr ⟨sc_prs_mem h1 hw, ?_⟩))
    rw [sc_cat]
    have e2 : ¬ j = i := fun q => e q.symm
    have e3 : ¬ j = i + 1 := fun q => e1 q.symm
    cases hw2 : sc_isJ w
    · simp [e2, e3]
    · have h3 : ¬ j + 1 = i := fun q => h2 ⟨q, hw2⟩
      simp [e2, e3, h3]
section SCR
variable {l : Launch} {G : sc_G} {d : Nat} {y : sc_Q} {pc : Nat} {L st : List sc_V} {μ : sc_M} {Post : sc_V → sc_M → Prop}
theorem sc_r_iadd {x z : Int} (hd : decode y.2.1 pc = .ok (.iadd, 1)) (k : sc_Wp l G d y (pc + 1) L (.inl (x + z) :: st) μ Post) : sc_Wp l G d y pc L (.inl z :: .inl x :: st) μ Post := by
  intro p e s m args below meth c H locs ls C hP hS hL
  have h := k p e s m args below meth c H locs ls C hP hS hL
  simp only [List.map_cons, sc_rv, Int32.ofInt_add] at h ⊢
  exact lv_iadd C.1 C.2.1 hd h
theorem sc_r_isub {x z : Int} (hd : decode y.2.1 pc = .ok (.isub, 1)) (k : sc_Wp l G d y (pc + 1) L (.inl (x - z) :: st) μ Post) : sc_Wp l G d y pc L (.inl z :: .inl x :: st) μ Post := by
  intro p e s m args below meth c H locs ls C hP hS hL
  have h := k p e s m args below meth c H locs ls C hP hS hL
  simp only [List.map_cons, sc_rv, Int32.ofInt_sub] at h ⊢
  exact lv_isub C.1 C.2.1 hd h
theorem sc_r_imul {x z : Int} (hd : decode y.2.1 pc = .ok (.imul, 1)) (k : sc_Wp l G d y (pc + 1) L (.inl (x * z) :: st) μ Post) : sc_Wp l G d y pc L (.inl z :: .inl x :: st) μ Post := by
  intro p e s m args below meth c H locs ls C hP hS hL
  have h := k p e s m args below meth c H locs ls C hP hS hL
  simp only [List.map_cons, sc_rv, Int32.ofInt_mul] at h ⊢
  exact lv_imul C.1 C.2.1 hd h
theorem sc_r_ladd {x z : Int} (hd : decode y.2.1 pc = .ok (.ladd, 1)) (k : sc_Wp l G d y (pc + 1) L (.inr (.inl (x + z)) :: st) μ Post) : sc_Wp l G d y pc L (.inr (.inl z) :: .inr (.inl x) :: st) μ Post := by
  intro p e s m args below meth c H locs ls C hP hS hL
  have h := k p e s m args below meth c H locs ls C hP hS hL
  simp only [List.map_cons, sc_rv, Int64.ofInt_add] at h ⊢
  exact lv_ladd C.1 C.2.1 hd h
theorem sc_r_lsub {x z : Int} (hd : decode y.2.1 pc = .ok (.lsub, 1)) (k : sc_Wp l G d y (pc + 1) L (.inr (.inl (x - z)) :: st) μ Post) : sc_Wp l G d y pc L (.inr (.inl z) :: .inr (.inl x) :: st) μ Post := by
  intro p e s m args below meth c H locs ls C hP hS hL
  have h := k p e s m args below meth c H locs ls C hP hS hL
  simp only [List.map_cons, sc_rv, Int64.ofInt_sub] at h ⊢
  exact lv_lsub C.1 C.2.1 hd h
theorem sc_r_lmul {x z : Int} (hd : decode y.2.1 pc = .ok (.lmul, 1)) (k : sc_Wp l G d y (pc + 1) L (.inr (.inl (x * z)) :: st) μ Post) : sc_Wp l G d y pc L (.inr (.inl z) :: .inr (.inl x) :: st) μ Post := by
  intro p e s m args below meth c H locs ls C hP hS hL
  have h := k p e s m args below meth c H locs ls C hP hS hL
  simp only [List.map_cons, sc_rv, Int64.ofInt_mul] at h ⊢
  exact lv_lmul C.1 C.2.1 hd h
theorem sc_r_iand {x z : Int} (hd : decode y.2.1 pc = .ok (.iand, 1)) (k : sc_Wp l G d y (pc + 1) L (.inl (sc_band x z) :: st) μ Post) : sc_Wp l G d y pc L (.inl z :: .inl x :: st) μ Post := by
  intro p e s m args below meth c H locs ls C hP hS hL
  have h := k p e s m args below meth c H locs ls C hP hS hL
  simp only [List.map_cons, sc_rv, sc_band_eq, Int32.ofInt_toInt] at h ⊢
  exact lv_iand C.1 C.2.1 hd h
theorem sc_r_ior {x z : Int} (hd : decode y.2.1 pc = .ok (.ior, 1)) (k : sc_Wp l G d y (pc + 1) L (.inl (sc_bor x z) :: st) μ Post) : sc_Wp l G d y pc L (.inl z :: .inl x :: st) μ Post := by
  intro p e s m args below meth c H locs ls C hP hS hL
  have h := k p e s m args below meth c H locs ls C hP hS hL
  simp only [List.map_cons, sc_rv, sc_bor_eq, Int32.ofInt_toInt] at h ⊢
  exact lv_ior C.1 C.2.1 hd h
theorem sc_r_ixor {x z : Int} (hd : decode y.2.1 pc = .ok (.ixor, 1)) (k : sc_Wp l G d y (pc + 1) L (.inl (sc_bxor x z) :: st) μ Post) : sc_Wp l G d y pc L (.inl z :: .inl x :: st) μ Post := by
  intro p e s m args below meth c H locs ls C hP hS hL
  have h := k p e s m args below meth c H locs ls C hP hS hL
  simp only [List.map_cons, sc_rv, sc_bxor_eq, Int32.ofInt_toInt] at h ⊢
  exact lv_ixor C.1 C.2.1 hd h
theorem sc_r_ishl {x z : Int} (hd : decode y.2.1 pc = .ok (.ishl, 1)) (k : sc_Wp l G d y (pc + 1) L (.inl (sc_bshl x z) :: st) μ Post) : sc_Wp l G d y pc L (.inl z :: .inl x :: st) μ Post := by
  intro p e s m args below meth c H locs ls C hP hS hL
  have h := k p e s m args below meth c H locs ls C hP hS hL
  simp only [List.map_cons, sc_rv, sc_bshl_eq, Int32.ofInt_toInt] at h ⊢
  exact lv_ishl C.1 C.2.1 hd h
theorem sc_r_ishr {x z : Int} (hd : decode y.2.1 pc = .ok (.ishr, 1)) (k : sc_Wp l G d y (pc + 1) L (.inl (sc_bshr x z) :: st) μ Post) : sc_Wp l G d y pc L (.inl z :: .inl x :: st) μ Post := by
  intro p e s m args below meth c H locs ls C hP hS hL
  have h := k p e s m args below meth c H locs ls C hP hS hL
  simp only [List.map_cons, sc_rv, sc_bshr_eq, Int32.ofInt_toInt] at h ⊢
  exact lv_ishr C.1 C.2.1 hd h
theorem sc_r_iushr {x z : Int} (hd : decode y.2.1 pc = .ok (.iushr, 1)) (k : sc_Wp l G d y (pc + 1) L (.inl (sc_bush x z) :: st) μ Post) : sc_Wp l G d y pc L (.inl z :: .inl x :: st) μ Post := by
  intro p e s m args below meth c H locs ls C hP hS hL
  have h := k p e s m args below meth c H locs ls C hP hS hL
  simp only [List.map_cons, sc_rv, sc_bush_eq, Int32.ofInt_toInt] at h ⊢
  exact lv_iushr C.1 C.2.1 hd rfl h
theorem sc_r_idiv {x z : Int} (hd : decode y.2.1 pc = .ok (.idiv, 1)) (hx : sc_in x) (hz : sc_in z) (h0 : 0 < z) (k : sc_Wp l G d y (pc + 1) L (.inl (x.tdiv z) :: st) μ Post) : sc_Wp l G d y pc L (.inl z :: .inl x :: st) μ Post := by
  intro p e s m args below meth c H locs ls C hP hS hL
  have h := k p e s m args below meth c H locs ls C hP hS hL
  simp only [List.map_cons, sc_rv, ← sc_idiv hx hz h0] at h ⊢
  exact lv_idiv C.1 C.2.1 hd (fun q => by rw [sc_eq0 hz] at q; omega) h
theorem sc_r_irem {x z : Int} (hd : decode y.2.1 pc = .ok (.irem, 1)) (hx : sc_in x) (hz : sc_in z) (h0 : 0 < z) (k : sc_Wp l G d y (pc + 1) L (.inl (x.tmod z) :: st) μ Post) : sc_Wp l G d y pc L (.inl z :: .inl x :: st) μ Post := by
  intro p e s m args below meth c H locs ls C hP hS hL
  have h := k p e s m args below meth c H locs ls C hP hS hL
  simp only [List.map_cons, sc_rv, ← sc_imod hx hz h0] at h ⊢
  exact lv_irem C.1 C.2.1 hd (fun q => by rw [sc_eq0 hz] at q; omega) h
theorem sc_r_ldiv {x z : Int} (hd : decode y.2.1 pc = .ok (.ldiv, 1)) (hx : sc_in6 x) (hz : sc_in6 z) (h0 : 0 < z) (k : sc_Wp l G d y (pc + 1) L (.inr (.inl (x.tdiv z)) :: st) μ Post) : sc_Wp l G d y pc L (.inr (.inl z) :: .inr (.inl x) :: st) μ Post := by
  intro p e s m args below meth c H locs ls C hP hS hL
  have h := k p e s m args below meth c H locs ls C hP hS hL
  simp only [List.map_cons, sc_rv, ← sc_ldiv hx hz h0] at h ⊢
  exact lv_ldiv C.1 C.2.1 hd (fun q => by rw [show (0 : Int64) = Int64.ofInt 0 from rfl, sc_leq hz ⟨by decide, by decide⟩] at q; omega) h
theorem sc_r_lrem {x z : Int} (hd : decode y.2.1 pc = .ok (.lrem, 1)) (hx : sc_in6 x) (hz : sc_in6 z) (h0 : 0 < z) (k : sc_Wp l G d y (pc + 1) L (.inr (.inl (x.tmod z)) :: st) μ Post) : sc_Wp l G d y pc L (.inr (.inl z) :: .inr (.inl x) :: st) μ Post := by
  intro p e s m args below meth c H locs ls C hP hS hL
  have h := k p e s m args below meth c H locs ls C hP hS hL
  simp only [List.map_cons, sc_rv, ← sc_lmod hx hz h0] at h ⊢
  exact lv_lrem C.1 C.2.1 hd (fun q => by rw [show (0 : Int64) = Int64.ofInt 0 from rfl, sc_leq hz ⟨by decide, by decide⟩] at q; omega) h
theorem sc_r_lcmp {x z : Int} (hd : decode y.2.1 pc = .ok (.lcmp, 1)) (hx : sc_in6 x) (hz : sc_in6 z) (k : sc_Wp l G d y (pc + 1) L (.inl (sc_cmp x z) :: st) μ Post) : sc_Wp l G d y pc L (.inr (.inl z) :: .inr (.inl x) :: st) μ Post := by
  intro p e s m args below meth c H locs ls C hP hS hL
  have h := k p e s m args below meth c H locs ls C hP hS hL
  simp only [List.map_cons, sc_rv, ← sc_lcmp hx hz] at h ⊢
  exact W.lcmp C.1 C.2.1 hd h
theorem sc_r_lneg {x : Int} (hd : decode y.2.1 pc = .ok (.lneg, 1)) (k : sc_Wp l G d y (pc + 1) L (.inr (.inl (-x)) :: st) μ Post) : sc_Wp l G d y pc L (.inr (.inl x) :: st) μ Post := by
  intro p e s m args below meth c H locs ls C hP hS hL
  have h := k p e s m args below meth c H locs ls C hP hS hL
  simp only [List.map_cons, sc_rv, Int64.ofInt_neg] at h ⊢
  exact lv_lneg C.1 C.2.1 hd h
theorem sc_r_i2l {x : Int} (hd : decode y.2.1 pc = .ok (.i2l, 1)) (hx : sc_in x) (k : sc_Wp l G d y (pc + 1) L (.inr (.inl x) :: st) μ Post) : sc_Wp l G d y pc L (.inl x :: st) μ Post := by
  intro p e s m args below meth c H locs ls C hP hS hL
  have h := k p e s m args below meth c H locs ls C hP hS hL
  simp only [List.map_cons, sc_rv] at h ⊢
  exact lv_i2l C.1 C.2.1 hd (sc_i2l hx) h
theorem sc_r_iconst {n : Int} (hd : decode y.2.1 pc = .ok (.iconst n, 1)) (k : sc_Wp l G d y (pc + 1) L (.inl n :: st) μ Post) : sc_Wp l G d y pc L st μ Post := by
  intro p e s m args below meth c H locs ls C hP hS hL
  have h := k p e s m args below meth c H locs ls C hP hS hL
  exact lv_iconst C.1 C.2.1 hd rfl h
theorem sc_r_bipush {n : Int} (hd : decode y.2.1 pc = .ok (.bipush n, 2)) (h1 : -128 ≤ n) (h2 : n ≤ 127) (k : sc_Wp l G d y (pc + 2) L (.inl n :: st) μ Post) : sc_Wp l G d y pc L st μ Post := by
  intro p e s m args below meth c H locs ls C hP hS hL
  have h := k p e s m args below meth c H locs ls C hP hS hL
  exact lv_bipush C.1 C.2.1 hd (sc_bad n h1 h2) h
theorem sc_r_sipush {n : Int} (hd : decode y.2.1 pc = .ok (.sipush n, 3)) (h1 : -32768 ≤ n) (h2 : n ≤ 32767) (k : sc_Wp l G d y (pc + 3) L (.inl n :: st) μ Post) : sc_Wp l G d y pc L st μ Post := by
  intro p e s m args below meth c H locs ls C hP hS hL
  have h := k p e s m args below meth c H locs ls C hP hS hL
  exact lv_sipush C.1 C.2.1 hd (sc_shd n h1 h2) h
theorem sc_r_lconst {n : Fin 2} {v : Int} (hd : decode y.2.1 pc = .ok (.lconst n, 1)) (hv : (n.val : Int) = v) (k : sc_Wp l G d y (pc + 1) L (.inr (.inl v) :: st) μ Post) : sc_Wp l G d y pc L st μ Post := by
  intro p e s m args below meth c H locs ls C hP hS hL
  have h := k p e s m args below meth c H locs ls C hP hS hL
  subst hv
  refine lv_lconst C.1 C.2.1 hd ?_ h
  rcases n with ⟨n, hn⟩
  rcases n with _ | _ | n
  · rfl
  · rfl
  · omega
theorem sc_r_ldc2 {i : Nat} {v : Int} (hd : decode y.2.1 pc = .ok (.ldc2_w i, 3)) (hw : Jvm.Cond.constantLong y.1.cls i (Int64.ofInt v) ∈ sc_gw) (k : sc_Wp l G d y (pc + 3) L (.inr (.inl v) :: st) μ Post) : sc_Wp l G d y pc L st μ Post := by
  intro p e s m args below meth c H locs ls C hP hS hL
  have h := k p e s m args below meth c H locs ls C hP hS hL
  exact lv_ldc2 C.1 C.2.1 C.2.2.2.2.1 (C.2.2.2.2.2.2.1 _ hw) hd h
theorem sc_r_iload_n {k9 : Fin 4} {i : Nat} {x : Int} (hd : decode y.2.1 pc = .ok (.iload_n k9, 1)) (hi : k9.val = i) (hl : L[i]? = some (.inl x)) (k : sc_Wp l G d y (pc + 1) L (.inl x :: st) μ Post) : sc_Wp l G d y pc L st μ Post := by
  intro p e s m args below meth c H locs ls C hP hS hL
  have h := k p e s m args below meth c H locs ls C hP hS hL
  exact lv_iload_n C.1 C.2.1 hd hi (hL.2.2.2 i _ hl (fun q => by cases q)) h
theorem sc_r_istore_n {k9 : Fin 4} {i : Nat} {x : Int} (hd : decode y.2.1 pc = .ok (.istore_n k9, 1)) (hi : k9.val = i) (hn : i < y.2.2.1) (k : sc_Wp l G d y (pc + 1) (sc_sto L i (.inl x)) st μ Post) : sc_Wp l G d y pc L (.inl x :: st) μ Post := by
  intro p e s m args below meth c H locs ls C hP hS hL
  simp only [List.map_cons, sc_rv]
  refine lv_istore_n C.1 C.2.1 hd hi (sc_prs_has hL) hn rfl (fun ls9 h9 => ?_)
  exact k p e s m args below meth c H locs ls9 C hP hS (sc_lr_sto hL h9)
theorem sc_r_iload {i : Nat} {x : Int} (hd : decode y.2.1 pc = .ok (.iload i, 2)) (hl : L[i]? = some (.inl x)) (k : sc_Wp l G d y (pc + 2) L (.inl x :: st) μ Post) : sc_Wp l G d y pc L st μ Post := by
  intro p e s m args below meth c H locs ls C hP hS hL
  have h := k p e s m args below meth c H locs ls C hP hS hL
  exact lv_iload C.1 C.2.1 hd (hL.2.2.2 i _ hl (fun q => by cases q)) h
theorem sc_r_istore {i : Nat} {x : Int} (hd : decode y.2.1 pc = .ok (.istore i, 2)) (hn : i < y.2.2.1) (k : sc_Wp l G d y (pc + 2) (sc_sto L i (.inl x)) st μ Post) : sc_Wp l G d y pc L (.inl x :: st) μ Post := by
  intro p e s m args below meth c H locs ls C hP hS hL
  simp only [List.map_cons, sc_rv]
  refine lv_istore C.1 C.2.1 hd (sc_prs_has hL) hn rfl (fun ls9 h9 => ?_)
  exact k p e s m args below meth c H locs ls9 C hP hS (sc_lr_sto hL h9)
theorem sc_r_aload_n {k9 : Fin 4} {i : Nat} {x : Nat} (hd : decode y.2.1 pc = .ok (.aload_n k9, 1)) (hi : k9.val = i) (hl : L[i]? = some (.inr (.inr (.inl x)))) (k : sc_Wp l G d y (pc + 1) L (.inr (.inr (.inl x)) :: st) μ Post) : sc_Wp l G d y pc L st μ Post := by
  intro p e s m args below meth c H locs ls C hP hS hL
  have h := k p e s m args below meth c H locs ls C hP hS hL
  exact lv_aload_n C.1 C.2.1 hd hi (hL.2.2.2 i _ hl (fun q => by cases q)) h
theorem sc_r_astore_n {k9 : Fin 4} {i : Nat} {x : Nat} (hd : decode y.2.1 pc = .ok (.astore_n k9, 1)) (hi : k9.val = i) (hn : i < y.2.2.1) (k : sc_Wp l G d y (pc + 1) (sc_sto L i (.inr (.inr (.inl x)))) st μ Post) : sc_Wp l G d y pc L (.inr (.inr (.inl x)) :: st) μ Post := by
  intro p e s m args below meth c H locs ls C hP hS hL
  simp only [List.map_cons, sc_rv]
  refine lv_astore_n C.1 C.2.1 hd hi (sc_prs_has hL) hn rfl (fun ls9 h9 => ?_)
  exact k p e s m args below meth c H locs ls9 C hP hS (sc_lr_sto hL h9)
theorem sc_r_aload {i : Nat} {x : Nat} (hd : decode y.2.1 pc = .ok (.aload i, 2)) (hl : L[i]? = some (.inr (.inr (.inl x)))) (k : sc_Wp l G d y (pc + 2) L (.inr (.inr (.inl x)) :: st) μ Post) : sc_Wp l G d y pc L st μ Post := by
  intro p e s m args below meth c H locs ls C hP hS hL
  have h := k p e s m args below meth c H locs ls C hP hS hL
  exact lv_aload C.1 C.2.1 hd (hL.2.2.2 i _ hl (fun q => by cases q)) h
theorem sc_r_astore {i : Nat} {x : Nat} (hd : decode y.2.1 pc = .ok (.astore i, 2)) (hn : i < y.2.2.1) (k : sc_Wp l G d y (pc + 2) (sc_sto L i (.inr (.inr (.inl x)))) st μ Post) : sc_Wp l G d y pc L (.inr (.inr (.inl x)) :: st) μ Post := by
  intro p e s m args below meth c H locs ls C hP hS hL
  simp only [List.map_cons, sc_rv]
  refine lv_astore C.1 C.2.1 hd (sc_prs_has hL) hn rfl (fun ls9 h9 => ?_)
  exact k p e s m args below meth c H locs ls9 C hP hS (sc_lr_sto hL h9)
theorem sc_r_lload_n {k9 : Fin 4} {i : Nat} {x : Int} (hd : decode y.2.1 pc = .ok (.lload_n k9, 1)) (hi : k9.val = i) (hl : L[i]? = some (.inr (.inl x))) (k : sc_Wp l G d y (pc + 1) L (.inr (.inl x) :: st) μ Post) : sc_Wp l G d y pc L st μ Post := by
  intro p e s m args below meth c H locs ls C hP hS hL
  have h := k p e s m args below meth c H locs ls C hP hS hL
  exact lv_lload_n C.1 C.2.1 hd hi (hL.2.2.2 i _ hl (fun q => by cases q)) h
theorem sc_r_lstore_n {k9 : Fin 4} {i : Nat} {x : Int} (hd : decode y.2.1 pc = .ok (.lstore_n k9, 1)) (hi : k9.val = i) (hn : i + 1 < y.2.2.1) (k : sc_Wp l G d y (pc + 1) (sc_stoJ L i (.inr (.inl x))) st μ Post) : sc_Wp l G d y pc L (.inr (.inl x) :: st) μ Post := by
  intro p e s m args below meth c H locs ls C hP hS hL
  simp only [List.map_cons, sc_rv]
  refine lv_lstore_n C.1 C.2.1 hd hi (sc_prs_has hL) hn rfl (fun ls9 h9 => ?_)
  exact k p e s m args below meth c H locs ls9 C hP hS (sc_lr_stoJ hL h9)
theorem sc_r_lload {i : Nat} {x : Int} (hd : decode y.2.1 pc = .ok (.lload i, 2)) (hl : L[i]? = some (.inr (.inl x))) (k : sc_Wp l G d y (pc + 2) L (.inr (.inl x) :: st) μ Post) : sc_Wp l G d y pc L st μ Post := by
  intro p e s m args below meth c H locs ls C hP hS hL
  have h := k p e s m args below meth c H locs ls C hP hS hL
  exact lv_lload C.1 C.2.1 hd (hL.2.2.2 i _ hl (fun q => by cases q)) h
theorem sc_r_lstore {i : Nat} {x : Int} (hd : decode y.2.1 pc = .ok (.lstore i, 2)) (hn : i + 1 < y.2.2.1) (k : sc_Wp l G d y (pc + 2) (sc_stoJ L i (.inr (.inl x))) st μ Post) : sc_Wp l G d y pc L (.inr (.inl x) :: st) μ Post := by
  intro p e s m args below meth c H locs ls C hP hS hL
  simp only [List.map_cons, sc_rv]
  refine lv_lstore C.1 C.2.1 hd (sc_prs_has hL) hn rfl (fun ls9 h9 => ?_)
  exact k p e s m args below meth c H locs ls9 C hP hS (sc_lr_stoJ hL h9)
theorem sc_r_iinc {i : Nat} {n x : Int} (hd : decode y.2.1 pc = .ok (.iinc i n, 3)) (hl : L[i]? = some (.inl x)) (hn : i < y.2.2.1) (k : sc_Wp l G d y (pc + 3) (sc_sto L i (.inl (x + n))) st μ Post) : sc_Wp l G d y pc L st μ Post := by
  intro p e s m args below meth c H locs ls C hP hS hL
  obtain ⟨k9, hk9⟩ := List.getElem?_of_mem (sc_prs_mem (G := G) hl (fun q => by cases q))
  refine lv_iinc C.1 C.2.1 hd (sc_prs_has hL) hk9 (Int32.ofInt_add x n).symm hn rfl (fun ls9 h9 => ?_)
  exact k p e s m args below meth c H locs ls9 C hP hS (sc_lr_sto (v := .inl (x + n)) hL h9)
theorem sc_r_dup {v : sc_V} (hd : decode y.2.1 pc = .ok (.dup, 1)) (hv : sc_isJ v = false) (k : sc_Wp l G d y (pc + 1) L (v :: v :: st) μ Post) : sc_Wp l G d y pc L (v :: st) μ Post := by
  intro p e s m args below meth c H locs ls C hP hS hL
  have h := k p e s m args below meth c H locs ls C hP hS hL
  exact lv_dup C.1 C.2.1 hd (by rw [sc_cat, hv]; rfl) h
theorem sc_r_dup2 {v w : sc_V} (hd : decode y.2.1 pc = .ok (.dup2, 1)) (hv : sc_isJ v = false) (hw : sc_isJ w = false) (k : sc_Wp l G d y (pc + 1) L (v :: w :: v :: w :: st) μ Post) : sc_Wp l G d y pc L (v :: w :: st) μ Post := by
  intro p e s m args below meth c H locs ls C hP hS hL
  have h := k p e s m args below meth c H locs ls C hP hS hL
  exact lv_dup2_11 C.1 C.2.1 hd (by rw [sc_cat, hv]; rfl) (by rw [sc_cat, hw]; rfl) h
theorem sc_r_icmp_eq {x z off : Int} {tgt : Nat} (hd : decode y.2.1 pc = .ok (.if_icmp .eq off, 3)) (ht : (pc : Int) + off = (tgt : Int)) (hx : sc_in x) (hz : sc_in z) (kt : x = z → sc_Wp l G d y tgt L st μ Post) (kf : ¬ x = z → sc_Wp l G d y (pc + 3) L st μ Post) : sc_Wp l G d y pc L (.inl z :: .inl x :: st) μ Post := by
  intro p e s m args below meth c H locs ls C hP hS hL
  exact lv_icmp_eq C.1 C.2.1 hd ht (fun q => kt (by rw [sc_ieq hx hz] at q; exact q) p e s m args below meth c H locs ls C hP hS hL) (fun q => kf (by rw [sc_ieq hx hz] at q; exact q) p e s m args below meth c H locs ls C hP hS hL)
theorem sc_r_if_eq {x off : Int} {tgt : Nat} (hd : decode y.2.1 pc = .ok (.ifCond .eq off, 3)) (ht : (pc : Int) + off = (tgt : Int)) (hx : sc_in x) (kt : x = 0 → sc_Wp l G d y tgt L st μ Post) (kf : ¬ x = 0 → sc_Wp l G d y (pc + 3) L st μ Post) : sc_Wp l G d y pc L (.inl x :: st) μ Post := by
  intro p e s m args below meth c H locs ls C hP hS hL
  exact lv_if_eq C.1 C.2.1 hd ht (fun q => kt (by rw [sc_z32, sc_ieq hx sc_zero] at q; exact q) p e s m args below meth c H locs ls C hP hS hL) (fun q => kf (by rw [sc_z32, sc_ieq hx sc_zero] at q; exact q) p e s m args below meth c H locs ls C hP hS hL)
theorem sc_r_icmp_ne {x z off : Int} {tgt : Nat} (hd : decode y.2.1 pc = .ok (.if_icmp .ne off, 3)) (ht : (pc : Int) + off = (tgt : Int)) (hx : sc_in x) (hz : sc_in z) (kt : ¬ x = z → sc_Wp l G d y tgt L st μ Post) (kf : x = z → sc_Wp l G d y (pc + 3) L st μ Post) : sc_Wp l G d y pc L (.inl z :: .inl x :: st) μ Post := by
  intro p e s m args below meth c H locs ls C hP hS hL
  exact lv_icmp_ne C.1 C.2.1 hd ht (fun q => kt (by rw [sc_ieq hx hz] at q; exact q) p e s m args below meth c H locs ls C hP hS hL) (fun q => kf (by rw [sc_ieq hx hz] at q; exact q) p e s m args below meth c H locs ls C hP hS hL)
theorem sc_r_if_ne {x off : Int} {tgt : Nat} (hd : decode y.2.1 pc = .ok (.ifCond .ne off, 3)) (ht : (pc : Int) + off = (tgt : Int)) (hx : sc_in x) (kt : ¬ x = 0 → sc_Wp l G d y tgt L st μ Post) (kf : x = 0 → sc_Wp l G d y (pc + 3) L st μ Post) : sc_Wp l G d y pc L (.inl x :: st) μ Post := by
  intro p e s m args below meth c H locs ls C hP hS hL
  exact lv_if_ne C.1 C.2.1 hd ht (fun q => kt (by rw [sc_z32, sc_ieq hx sc_zero] at q; exact q) p e s m args below meth c H locs ls C hP hS hL) (fun q => kf (by rw [sc_z32, sc_ieq hx sc_zero] at q; exact q) p e s m args below meth c H locs ls C hP hS hL)
theorem sc_r_icmp_lt {x z off : Int} {tgt : Nat} (hd : decode y.2.1 pc = .ok (.if_icmp .lt off, 3)) (ht : (pc : Int) + off = (tgt : Int)) (hx : sc_in x) (hz : sc_in z) (kt : x < z → sc_Wp l G d y tgt L st μ Post) (kf : ¬ x < z → sc_Wp l G d y (pc + 3) L st μ Post) : sc_Wp l G d y pc L (.inl z :: .inl x :: st) μ Post := by
  intro p e s m args below meth c H locs ls C hP hS hL
  exact lv_icmp_lt C.1 C.2.1 hd ht (fun q => kt (by rw [sc_ilt hx hz] at q; exact q) p e s m args below meth c H locs ls C hP hS hL) (fun q => kf (by rw [sc_ilt hx hz] at q; exact q) p e s m args below meth c H locs ls C hP hS hL)
theorem sc_r_if_lt {x off : Int} {tgt : Nat} (hd : decode y.2.1 pc = .ok (.ifCond .lt off, 3)) (ht : (pc : Int) + off = (tgt : Int)) (hx : sc_in x) (kt : x < 0 → sc_Wp l G d y tgt L st μ Post) (kf : ¬ x < 0 → sc_Wp l G d y (pc + 3) L st μ Post) : sc_Wp l G d y pc L (.inl x :: st) μ Post := by
  intro p e s m args below meth c H locs ls C hP hS hL
  exact lv_if_lt C.1 C.2.1 hd ht (fun q => kt (by rw [sc_z32, sc_ilt hx sc_zero] at q; exact q) p e s m args below meth c H locs ls C hP hS hL) (fun q => kf (by rw [sc_z32, sc_ilt hx sc_zero] at q; exact q) p e s m args below meth c H locs ls C hP hS hL)
theorem sc_r_icmp_ge {x z off : Int} {tgt : Nat} (hd : decode y.2.1 pc = .ok (.if_icmp .ge off, 3)) (ht : (pc : Int) + off = (tgt : Int)) (hx : sc_in x) (hz : sc_in z) (kt : z ≤ x → sc_Wp l G d y tgt L st μ Post) (kf : ¬ z ≤ x → sc_Wp l G d y (pc + 3) L st μ Post) : sc_Wp l G d y pc L (.inl z :: .inl x :: st) μ Post := by
  intro p e s m args below meth c H locs ls C hP hS hL
  exact lv_icmp_ge C.1 C.2.1 hd ht (fun q => kt (by rw [sc_ile hz hx] at q; exact q) p e s m args below meth c H locs ls C hP hS hL) (fun q => kf (by rw [sc_ile hz hx] at q; exact q) p e s m args below meth c H locs ls C hP hS hL)
theorem sc_r_if_ge {x off : Int} {tgt : Nat} (hd : decode y.2.1 pc = .ok (.ifCond .ge off, 3)) (ht : (pc : Int) + off = (tgt : Int)) (hx : sc_in x) (kt : 0 ≤ x → sc_Wp l G d y tgt L st μ Post) (kf : ¬ 0 ≤ x → sc_Wp l G d y (pc + 3) L st μ Post) : sc_Wp l G d y pc L (.inl x :: st) μ Post := by
  intro p e s m args below meth c H locs ls C hP hS hL
  exact lv_if_ge C.1 C.2.1 hd ht (fun q => kt (by rw [sc_z32, sc_ile sc_zero hx] at q; exact q) p e s m args below meth c H locs ls C hP hS hL) (fun q => kf (by rw [sc_z32, sc_ile sc_zero hx] at q; exact q) p e s m args below meth c H locs ls C hP hS hL)
theorem sc_r_icmp_gt {x z off : Int} {tgt : Nat} (hd : decode y.2.1 pc = .ok (.if_icmp .gt off, 3)) (ht : (pc : Int) + off = (tgt : Int)) (hx : sc_in x) (hz : sc_in z) (kt : z < x → sc_Wp l G d y tgt L st μ Post) (kf : ¬ z < x → sc_Wp l G d y (pc + 3) L st μ Post) : sc_Wp l G d y pc L (.inl z :: .inl x :: st) μ Post := by
  intro p e s m args below meth c H locs ls C hP hS hL
  exact lv_icmp_gt C.1 C.2.1 hd ht (fun q => kt (by rw [sc_ilt hz hx] at q; exact q) p e s m args below meth c H locs ls C hP hS hL) (fun q => kf (by rw [sc_ilt hz hx] at q; exact q) p e s m args below meth c H locs ls C hP hS hL)
theorem sc_r_if_gt {x off : Int} {tgt : Nat} (hd : decode y.2.1 pc = .ok (.ifCond .gt off, 3)) (ht : (pc : Int) + off = (tgt : Int)) (hx : sc_in x) (kt : 0 < x → sc_Wp l G d y tgt L st μ Post) (kf : ¬ 0 < x → sc_Wp l G d y (pc + 3) L st μ Post) : sc_Wp l G d y pc L (.inl x :: st) μ Post := by
  intro p e s m args below meth c H locs ls C hP hS hL
  exact lv_if_gt C.1 C.2.1 hd ht (fun q => kt (by rw [sc_z32, sc_ilt sc_zero hx] at q; exact q) p e s m args below meth c H locs ls C hP hS hL) (fun q => kf (by rw [sc_z32, sc_ilt sc_zero hx] at q; exact q) p e s m args below meth c H locs ls C hP hS hL)
theorem sc_r_icmp_le {x z off : Int} {tgt : Nat} (hd : decode y.2.1 pc = .ok (.if_icmp .le off, 3)) (ht : (pc : Int) + off = (tgt : Int)) (hx : sc_in x) (hz : sc_in z) (kt : x ≤ z → sc_Wp l G d y tgt L st μ Post) (kf : ¬ x ≤ z → sc_Wp l G d y (pc + 3) L st μ Post) : sc_Wp l G d y pc L (.inl z :: .inl x :: st) μ Post := by
  intro p e s m args below meth c H locs ls C hP hS hL
  exact lv_icmp_le C.1 C.2.1 hd ht (fun q => kt (by rw [sc_ile hx hz] at q; exact q) p e s m args below meth c H locs ls C hP hS hL) (fun q => kf (by rw [sc_ile hx hz] at q; exact q) p e s m args below meth c H locs ls C hP hS hL)
theorem sc_r_if_le {x off : Int} {tgt : Nat} (hd : decode y.2.1 pc = .ok (.ifCond .le off, 3)) (ht : (pc : Int) + off = (tgt : Int)) (hx : sc_in x) (kt : x ≤ 0 → sc_Wp l G d y tgt L st μ Post) (kf : ¬ x ≤ 0 → sc_Wp l G d y (pc + 3) L st μ Post) : sc_Wp l G d y pc L (.inl x :: st) μ Post := by
  intro p e s m args below meth c H locs ls C hP hS hL
  exact lv_if_le C.1 C.2.1 hd ht (fun q => kt (by rw [sc_z32, sc_ile hx sc_zero] at q; exact q) p e s m args below meth c H locs ls C hP hS hL) (fun q => kf (by rw [sc_z32, sc_ile hx sc_zero] at q; exact q) p e s m args below meth c H locs ls C hP hS hL)
theorem sc_r_goto {off : Int} {tgt : Nat} (hd : decode y.2.1 pc = .ok (.goto off, 3)) (ht : (pc : Int) + off = (tgt : Int)) (k : sc_Wp l G d y tgt L st μ Post) : sc_Wp l G d y pc L st μ Post := by
  intro p e s m args below meth c H locs ls C hP hS hL
  have h := k p e s m args below meth c H locs ls C hP hS hL
  exact lv_goto C.1 C.2.1 hd ht h
theorem sc_r_iret {x : Int} (hd : decode y.2.1 pc = .ok (.ireturn, 1)) (hy : y.2.2.2 = some .int) (k : Post (.inl x) μ) : sc_Wp l G d y pc L [.inl x] μ Post := by
  intro p e s m args below meth c H locs ls C hP hS hL
  exact W.iret C.1 C.2.1 (by rw [C.2.2.1, hy]) (fun t ht hW => ⟨⟨.inl x, μ, rfl, k, by rw [ht]; exact hP⟩, hS.F ht⟩) hS.2.2 hd C.2.2.2.2.2.1
theorem sc_r_zret {x : Int} (hd : decode y.2.1 pc = .ok (.ireturn, 1)) (hy : y.2.2.2 = some .boolean) (hx : x = 0 ∨ x = 1) (k : Post (.inl x) μ) : sc_Wp l G d y pc L [.inl x] μ Post := by
  intro p e s m args below meth c H locs ls C hP hS hL
  exact W.zret (ty := .boolean) C.1 C.2.1 (by rw [C.2.2.1, hy]) (by rcases hx with rfl | rfl <;> rfl) (fun t ht hW => ⟨⟨.inl x, μ, rfl, k, by rw [ht]; exact hP⟩, hS.F ht⟩) hS.2.2 hd C.2.2.2.2.2.1
theorem sc_r_lret {x : Int} (hd : decode y.2.1 pc = .ok (.lreturn, 1)) (hy : y.2.2.2 = some .long) (k : Post (.inr (.inl x)) μ) : sc_Wp l G d y pc L [.inr (.inl x)] μ Post := by
  intro p e s m args below meth c H locs ls C hP hS hL
  exact W.lret C.1 C.2.1 (by rw [C.2.2.1, hy]) (fun t ht hW => ⟨⟨.inr (.inl x), μ, rfl, k, by rw [ht]; exact hP⟩, hS.F ht⟩) hS.2.2 hd C.2.2.2.2.2.1
theorem sc_r_vret (hd : decode y.2.1 pc = .ok (.return_, 1)) (hy : y.2.2.2 = none) (k : Post (.inr (.inr (.inr ()))) μ) : sc_Wp l G d y pc L [] μ Post := by
  intro p e s m args below meth c H locs ls C hP hS hL
  exact W.vret C.1 C.2.1 (by rw [C.2.2.1, hy]) (fun t ht hW => ⟨⟨.inr (.inr (.inr ())), μ, rfl, k, by rw [ht]; exact hP⟩, hS.F ht⟩) hS.2.2 hd C.2.2.2.2.2.1
end SCR
