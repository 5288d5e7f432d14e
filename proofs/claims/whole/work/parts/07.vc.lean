/-! WHAT IS TO BE SHOWN of a stretch of a method, worked out of its table -/
abbrev sc_X : Type := (Nat × Nat) ⊕ ((Nat × Nat × sc_Q) ⊕ Int)
abbrev sc_E : Type := Nat × Instr × Nat × sc_X × Bool
abbrev sc_T : Type := List sc_E
def sc_nth : List sc_V → Nat → sc_V
  | [], _ => .inr (.inr (.inr ()))
  | v :: _, 0 => v
  | _ :: L, n + 1 => sc_nth L n
theorem sc_nth_at : ∀ (L : List sc_V) (i : Nat) (v : sc_V), sc_nth L i = v → v ≠ .inr (.inr (.inr ())) → L[i]? = some v
  | [], _, v, h, hv => absurd h.symm hv
  | w :: L, 0, v, h, hv => by rw [← h]; rfl
  | w :: L, n + 1, v, h, hv => sc_nth_at L n v h hv
def sc_1i (st : List sc_V) (k : Int → List sc_V → Prop) : Prop := match st with
  | .inl x :: st => k x st
  | _ => False
theorem sc_1i_inv {st : List sc_V} {k : Int → List sc_V → Prop} (h : sc_1i st k) : ∃ (x : Int) (st1 : List sc_V), st = .inl x :: st1 ∧ k x st1 := by
  unfold sc_1i at h
  split at h
  · exact ⟨_, _, rfl, h⟩
  · exact h.elim
def sc_2i (st : List sc_V) (k : Int → Int → List sc_V → Prop) : Prop := match st with
  | .inl z :: .inl x :: st => k x z st
  | _ => False
theorem sc_2i_inv {st : List sc_V} {k : Int → Int → List sc_V → Prop} (h : sc_2i st k) : ∃ (x : Int) (z : Int) (st1 : List sc_V), st = .inl z :: .inl x :: st1 ∧ k x z st1 := by
  unfold sc_2i at h
  split at h
  · exact ⟨_, _, _, rfl, h⟩
  · exact h.elim
def sc_1j (st : List sc_V) (k : Int → List sc_V → Prop) : Prop := match st with
  | .inr (.inl x) :: st => k x st
  | _ => False
theorem sc_1j_inv {st : List sc_V} {k : Int → List sc_V → Prop} (h : sc_1j st k) : ∃ (x : Int) (st1 : List sc_V), st = .inr (.inl x) :: st1 ∧ k x st1 := by
  unfold sc_1j at h
  split at h
  · exact ⟨_, _, rfl, h⟩
  · exact h.elim
def sc_2j (st : List sc_V) (k : Int → Int → List sc_V → Prop) : Prop := match st with
  | .inr (.inl z) :: .inr (.inl x) :: st => k x z st
  | _ => False
theorem sc_2j_inv {st : List sc_V} {k : Int → Int → List sc_V → Prop} (h : sc_2j st k) : ∃ (x : Int) (z : Int) (st1 : List sc_V), st = .inr (.inl z) :: .inr (.inl x) :: st1 ∧ k x z st1 := by
  unfold sc_2j at h
  split at h
  · exact ⟨_, _, _, rfl, h⟩
  · exact h.elim
def sc_1r (st : List sc_V) (k : Nat → List sc_V → Prop) : Prop := match st with
  | .inr (.inr (.inl a)) :: st => k a st
  | _ => False
theorem sc_1r_inv {st : List sc_V} {k : Nat → List sc_V → Prop} (h : sc_1r st k) : ∃ (a : Nat) (st1 : List sc_V), st = .inr (.inr (.inl a)) :: st1 ∧ k a st1 := by
  unfold sc_1r at h
  split at h
  · exact ⟨_, _, rfl, h⟩
  · exact h.elim
def sc_ir (st : List sc_V) (k : Int → Nat → List sc_V → Prop) : Prop := match st with
  | .inl i :: .inr (.inr (.inl a)) :: st => k i a st
  | _ => False
theorem sc_ir_inv {st : List sc_V} {k : Int → Nat → List sc_V → Prop} (h : sc_ir st k) : ∃ (i : Int) (a : Nat) (st1 : List sc_V), st = .inl i :: .inr (.inr (.inl a)) :: st1 ∧ k i a st1 := by
  unfold sc_ir at h
  split at h
  · exact ⟨_, _, _, rfl, h⟩
  · exact h.elim
def sc_iir (st : List sc_V) (k : Int → Int → Nat → List sc_V → Prop) : Prop := match st with
  | .inl x :: .inl i :: .inr (.inr (.inl a)) :: st => k x i a st
  | _ => False
theorem sc_iir_inv {st : List sc_V} {k : Int → Int → Nat → List sc_V → Prop} (h : sc_iir st k) : ∃ (x : Int) (i : Int) (a : Nat) (st1 : List sc_V), st = .inl x :: .inl i :: .inr (.inr (.inl a)) :: st1 ∧ k x i a st1 := by
  unfold sc_iir at h
  split at h
  · exact ⟨_, _, _, _, rfl, h⟩
  · exact h.elim
def sc_jir (st : List sc_V) (k : Int → Int → Nat → List sc_V → Prop) : Prop := match st with
  | .inr (.inl x) :: .inl i :: .inr (.inr (.inl a)) :: st => k x i a st
  | _ => False
theorem sc_jir_inv {st : List sc_V} {k : Int → Int → Nat → List sc_V → Prop} (h : sc_jir st k) : ∃ (x : Int) (i : Int) (a : Nat) (st1 : List sc_V), st = .inr (.inl x) :: .inl i :: .inr (.inr (.inl a)) :: st1 ∧ k x i a st1 := by
  unfold sc_jir at h
  split at h
  · exact ⟨_, _, _, _, rfl, h⟩
  · exact h.elim
def sc_xr (st : List sc_V) (k : Int → Nat → List sc_V → Prop) : Prop := match st with
  | .inl x :: .inr (.inr (.inl a)) :: st => k x a st
  | _ => False
theorem sc_xr_inv {st : List sc_V} {k : Int → Nat → List sc_V → Prop} (h : sc_xr st k) : ∃ (x : Int) (a : Nat) (st1 : List sc_V), st = .inl x :: .inr (.inr (.inl a)) :: st1 ∧ k x a st1 := by
  unfold sc_xr at h
  split at h
  · exact ⟨_, _, _, rfl, h⟩
  · exact h.elim
def sc_jr (st : List sc_V) (k : Int → Nat → List sc_V → Prop) : Prop := match st with
  | .inr (.inl x) :: .inr (.inr (.inl a)) :: st => k x a st
  | _ => False
theorem sc_jr_inv {st : List sc_V} {k : Int → Nat → List sc_V → Prop} (h : sc_jr st k) : ∃ (x : Int) (a : Nat) (st1 : List sc_V), st = .inr (.inl x) :: .inr (.inr (.inl a)) :: st1 ∧ k x a st1 := by
  unfold sc_jr at h
  split at h
  · exact ⟨_, _, _, rfl, h⟩
  · exact h.elim
def sc_1v (st : List sc_V) (k : sc_V → List sc_V → Prop) : Prop := match st with
  | v :: st => k v st
  | _ => False
theorem sc_1v_inv {st : List sc_V} {k : sc_V → List sc_V → Prop} (h : sc_1v st k) : ∃ (v : sc_V) (st1 : List sc_V), st = v :: st1 ∧ k v st1 := by
  unfold sc_1v at h
  split at h
  · exact ⟨_, _, rfl, h⟩
  · exact h.elim
def sc_2v (st : List sc_V) (k : sc_V → sc_V → List sc_V → Prop) : Prop := match st with
  | v :: w :: st => k v w st
  | _ => False
theorem sc_2v_inv {st : List sc_V} {k : sc_V → sc_V → List sc_V → Prop} (h : sc_2v st k) : ∃ (v : sc_V) (w : sc_V) (st1 : List sc_V), st = v :: w :: st1 ∧ k v w st1 := by
  unfold sc_2v at h
  split at h
  · exact ⟨_, _, _, rfl, h⟩
  · exact h.elim
def sc_cpy (st : List sc_V) (k : Int → Int → Nat → Int → Nat → List sc_V → Prop) : Prop := match st with
  | .inl n :: .inl dp :: .inr (.inr (.inl b)) :: .inl sp :: .inr (.inr (.inl a)) :: st => k n dp b sp a st
  | _ => False
theorem sc_cpy_inv {st : List sc_V} {k : Int → Int → Nat → Int → Nat → List sc_V → Prop} (h : sc_cpy st k) : ∃ (n : Int) (dp : Int) (b : Nat) (sp : Int) (a : Nat) (st1 : List sc_V), st = .inl n :: .inl dp :: .inr (.inr (.inl b)) :: .inl sp :: .inr (.inr (.inl a)) :: st1 ∧ k n dp b sp a st1 := by
  unfold sc_cpy at h
  split at h
  · exact ⟨_, _, _, _, _, _, rfl, h⟩
  · exact h.elim
def sc_vI (v : sc_V) (k : Int → Prop) : Prop := match v with
  | .inl x => k x
  | _ => False
def sc_vJ (v : sc_V) (k : Int → Prop) : Prop := match v with
  | .inr (.inl x) => k x
  | _ => False
def sc_vR (v : sc_V) (k : Nat → Prop) : Prop := match v with
  | .inr (.inr (.inl a)) => k a
  | _ => False
theorem sc_vI_inv {v : sc_V} {k : Int → Prop} (h : sc_vI v k) : ∃ x, v = .inl x ∧ k x := by
  unfold sc_vI at h
  split at h
  · exact ⟨_, rfl, h⟩
  · exact h.elim
theorem sc_vJ_inv {v : sc_V} {k : Int → Prop} (h : sc_vJ v k) : ∃ x, v = .inr (.inl x) ∧ k x := by
  unfold sc_vJ at h
  split at h
  · exact ⟨_, rfl, h⟩
  · exact h.elim
theorem sc_vR_inv {v : sc_V} {k : Nat → Prop} (h : sc_vR v k) : ∃ x, v = .inr (.inr (.inl x)) ∧ k x := by
  unfold sc_vR at h
  split at h
  · exact ⟨_, rfl, h⟩
  · exact h.elim
def sc_args : Nat → List sc_V → List sc_V → (List sc_V → List sc_V → Prop) → Prop
  | 0, acc, st, k => k acc st
  | _ + 1, _, [], _ => False
  | n + 1, acc, v :: st, k => sc_args n (v :: acc) st k
theorem sc_args_inv : ∀ (n : Nat) (acc st : List sc_V) (k : List sc_V → List sc_V → Prop), sc_args n acc st k → ∃ as st1, st = as.reverse ++ st1 ∧ as.length = n ∧ k (as ++ acc) st1
  | 0, acc, st, k, h => ⟨[], st, rfl, rfl, h⟩
  | n + 1, acc, [], k, h => h.elim
  | n + 1, acc, v :: st, k, h => by
    obtain ⟨as, st1, h1, h2, h3⟩ := sc_args_inv n (v :: acc) st k h
    exact ⟨as ++ [v], st1, by simp [h1], by simp [h2], by simpa using h3⟩
def sc_x1 : sc_X → Nat
  | .inl (i, _) => i
  | _ => 0
def sc_x2 : sc_X → Nat
  | .inl (_, i) => i
  | _ => 0
def sc_xv : sc_X → Int
  | .inr (.inr v) => v
  | _ => 0
def sc_xc (ax : sc_X) (k : Nat → Nat → sc_Q → Prop) : Prop := match ax with
  | .inr (.inl (c, n, q)) => k c n q
  | _ => False
theorem sc_xc_inv {ax : sc_X} {k : Nat → Nat → sc_Q → Prop} (h : sc_xc ax k) : ∃ c n q, ax = .inr (.inl (c, n, q)) ∧ k c n q := by
  unfold sc_xc at h
  split at h
  · exact ⟨_, _, _, rfl, h⟩
  · exact h.elim
def sc_sw (x : Int) (pc : Nat) (jp : Nat → Prop) (dflt : Int) : Int → List Int → Prop
  | _, [] => jp (pc + dflt).toNat
  | lo, o :: os => (x = lo → jp (pc + o).toNat) ∧ (¬ x = lo → sc_sw x pc jp dflt (lo + 1) os)
def sc_call (l : Launch) (G : sc_G) (μ : sc_M) (st : List sc_V) (nx : List sc_V → sc_M → Prop) : Nat → Nat → Nat → sc_Q → Prop
  | 0, _, _, _ => False
  | d + 1, c, n, q => sc_args n [] st (fun as r => sc_1r r (fun b st1 => (sc_kd b).1 = c + 5 ∧ sc_cats st1 ≤ 8 ∧ ∃ P1, sc_Sp l G d q (.inr (.inr (.inl b)) :: as) μ P1 ∧ ∀ r μ1, P1 r μ1 → nx (sc_psh r st1) μ1))
def sc_callS (l : Launch) (G : sc_G) (μ : sc_M) (st : List sc_V) (nx : List sc_V → sc_M → Prop) : Nat → Nat → Nat → sc_Q → Prop
  | 0, _, _, _ => False
  | d + 1, c, n, q => if c = 100 then sc_args n [] st (fun as st1 => sc_cats st1 ≤ 8 ∧ ∃ P1, sc_Sp l G d q as μ P1 ∧ ∀ r μ1, P1 r μ1 → nx (sc_psh r st1) μ1)
    else sc_cpy st (fun n dp b sp a st1 => (sc_kd a).1 = 0 ∧ (sc_kd b).1 = 0 ∧ 0 ≤ sp ∧ 0 ≤ dp ∧ 0 ≤ n ∧ sp + n ≤ (sc_kd a).2 ∧ dp + n ≤ (sc_kd b).2 ∧ sc_cats st1 ≤ 8 ∧ nx st1 (sc_cp μ a b sp.toNat dp.toNat n.toNat))
def sc_retI (Post : sc_V → sc_M → Prop) (μ : sc_M) (ty : Option FieldType) (x : Int) : Prop := match ty with
  | some .int => Post (.inl x) μ
  | some .boolean => (x = 0 ∨ x = 1) ∧ Post (.inl x) μ
  | _ => False
section SCV
variable (l : Launch) (G : sc_G) (d : Nat) (y : sc_Q) (Post : sc_V → sc_M → Prop) (pc : Nat) (ax : sc_X) (L st : List sc_V) (μ : sc_M) (nx : List sc_V → List sc_V → sc_M → Prop) (jp : Nat → List sc_V → List sc_V → sc_M → Prop)
def sc_stp : Instr → Prop
  | .iconst n => nx L (.inl n :: st) μ
  | .bipush n => nx L (.inl n :: st) μ
  | .sipush n => nx L (.inl n :: st) μ
  | .lconst _ => nx L (.inr (.inl (sc_xv ax)) :: st) μ
  | .ldc2_w _ => nx L (.inr (.inl (sc_xv ax)) :: st) μ
  | .ldc_w _ => nx L (.inl (sc_xv ax) :: st) μ
  | .iload_n _ => sc_vI (sc_nth L (sc_x1 ax)) (fun x => nx L (.inl x :: st) μ)
  | .iload _ => sc_vI (sc_nth L (sc_x1 ax)) (fun x => nx L (.inl x :: st) μ)
  | .lload_n _ => sc_vJ (sc_nth L (sc_x1 ax)) (fun x => nx L (.inr (.inl x) :: st) μ)
  | .lload _ => sc_vJ (sc_nth L (sc_x1 ax)) (fun x => nx L (.inr (.inl x) :: st) μ)
  | .aload_n _ => sc_vR (sc_nth L (sc_x1 ax)) (fun a => nx L (.inr (.inr (.inl a)) :: st) μ)
  | .aload _ => sc_vR (sc_nth L (sc_x1 ax)) (fun a => nx L (.inr (.inr (.inl a)) :: st) μ)
  | .istore_n _ => sc_1i st (fun x st1 => nx (sc_sto L (sc_x1 ax) (.inl x)) st1 μ)
  | .istore _ => sc_1i st (fun x st1 => nx (sc_sto L (sc_x1 ax) (.inl x)) st1 μ)
  | .lstore_n _ => sc_1j st (fun x st1 => nx (sc_stoJ L (sc_x1 ax) (.inr (.inl x))) st1 μ)
  | .lstore _ => sc_1j st (fun x st1 => nx (sc_stoJ L (sc_x1 ax) (.inr (.inl x))) st1 μ)
  | .astore_n _ => sc_1r st (fun x st1 => nx (sc_sto L (sc_x1 ax) (.inr (.inr (.inl x)))) st1 μ)
  | .astore _ => sc_1r st (fun x st1 => nx (sc_sto L (sc_x1 ax) (.inr (.inr (.inl x)))) st1 μ)
  | .iinc _ n => sc_vI (sc_nth L (sc_x1 ax)) (fun x => nx (sc_sto L (sc_x1 ax) (.inl (x + n))) st μ)
  | .iadd => sc_2i st (fun x z st1 => nx L (.inl (x + z) :: st1) μ)
  | .isub => sc_2i st (fun x z st1 => nx L (.inl (x - z) :: st1) μ)
  | .imul => sc_2i st (fun x z st1 => nx L (.inl (x * z) :: st1) μ)
  | .idiv => sc_2i st (fun x z st1 => sc_in x ∧ sc_in z ∧ 0 < z ∧ nx L (.inl (x.tdiv z) :: st1) μ)
  | .irem => sc_2i st (fun x z st1 => sc_in x ∧ sc_in z ∧ 0 < z ∧ nx L (.inl (x.tmod z) :: st1) μ)
  | .iand => sc_2i st (fun x z st1 => nx L (.inl (sc_band x z) :: st1) μ)
  | .ior => sc_2i st (fun x z st1 => nx L (.inl (sc_bor x z) :: st1) μ)
  | .ixor => sc_2i st (fun x z st1 => nx L (.inl (sc_bxor x z) :: st1) μ)
  | .ishl => sc_2i st (fun x z st1 => nx L (.inl (sc_bshl x z) :: st1) μ)
  | .ishr => sc_2i st (fun x z st1 => nx L (.inl (sc_bshr x z) :: st1) μ)
  | .iushr => sc_2i st (fun x z st1 => nx L (.inl (sc_bush x z) :: st1) μ)
  | .ladd => sc_2j st (fun x z st1 => nx L (.inr (.inl (x + z)) :: st1) μ)
  | .lsub => sc_2j st (fun x z st1 => nx L (.inr (.inl (x - z)) :: st1) μ)
  | .lmul => sc_2j st (fun x z st1 => nx L (.inr (.inl (x * z)) :: st1) μ)
  | .ldiv => sc_2j st (fun x z st1 => sc_in6 x ∧ sc_in6 z ∧ 0 < z ∧ nx L (.inr (.inl (x.tdiv z)) :: st1) μ)
  | .lrem => sc_2j st (fun x z st1 => sc_in6 x ∧ sc_in6 z ∧ 0 < z ∧ nx L (.inr (.inl (x.tmod z)) :: st1) μ)
  | .lneg => sc_1j st (fun x st1 => nx L (.inr (.inl (-x)) :: st1) μ)
  | .lcmp => sc_2j st (fun x z st1 => sc_in6 x ∧ sc_in6 z ∧ nx L (.inl (sc_cmp x z) :: st1) μ)
  | .i2l => sc_1i st (fun x st1 => sc_in x ∧ nx L (.inr (.inl x) :: st1) μ)
  | .dup => sc_1v st (fun v st1 => sc_isJ v = false ∧ nx L (v :: v :: st1) μ)
  | .dup2 => sc_2v st (fun v w st1 => sc_isJ v = false ∧ sc_isJ w = false ∧ nx L (v :: w :: v :: w :: st1) μ)
  | .if_icmp c _ => sc_2i st (fun x z st1 => sc_in x ∧ sc_in z ∧ match c with
      | .eq => (x = z → jp (sc_x1 ax) L st1 μ) ∧ (¬ x = z → nx L st1 μ)
      | .ne => (¬ x = z → jp (sc_x1 ax) L st1 μ) ∧ (x = z → nx L st1 μ)
      | .lt => (x < z → jp (sc_x1 ax) L st1 μ) ∧ (¬ x < z → nx L st1 μ)
      | .ge => (z ≤ x → jp (sc_x1 ax) L st1 μ) ∧ (¬ z ≤ x → nx L st1 μ)
      | .gt => (z < x → jp (sc_x1 ax) L st1 μ) ∧ (¬ z < x → nx L st1 μ)
      | .le => (x ≤ z → jp (sc_x1 ax) L st1 μ) ∧ (¬ x ≤ z → nx L st1 μ))
  | .ifCond c _ => sc_1i st (fun x st1 => sc_in x ∧ match c with
      | .eq => (x = 0 → jp (sc_x1 ax) L st1 μ) ∧ (¬ x = 0 → nx L st1 μ)
      | .ne => (¬ x = 0 → jp (sc_x1 ax) L st1 μ) ∧ (x = 0 → nx L st1 μ)
      | .lt => (x < 0 → jp (sc_x1 ax) L st1 μ) ∧ (¬ x < 0 → nx L st1 μ)
      | .ge => (0 ≤ x → jp (sc_x1 ax) L st1 μ) ∧ (¬ 0 ≤ x → nx L st1 μ)
      | .gt => (0 < x → jp (sc_x1 ax) L st1 μ) ∧ (¬ 0 < x → nx L st1 μ)
      | .le => (x ≤ 0 → jp (sc_x1 ax) L st1 μ) ∧ (¬ x ≤ 0 → nx L st1 μ))
  | .goto _ => jp (sc_x1 ax) L st μ
  | .tableswitch dflt lo _ offs => sc_1i st (fun x st1 => sc_in x ∧ sc_sw x pc (fun t => jp t L st1 μ) dflt lo offs.toList)
  | .getfield _ => sc_1r st (fun a st1 => (sc_kd a).1 = sc_x1 ax + 5 ∧ nx L (sc_fv μ (sc_x1 ax) a (sc_x2 ax) :: st1) μ)
  | .putfield _ => match sc_ft (sc_x1 ax) (sc_x2 ax) with
      | 0 => sc_xr st (fun x a st1 => (sc_kd a).1 = sc_x1 ax + 5 ∧ nx L st1 (sc_up μ a (sc_x2 ax) x))
      | 1 => sc_jr st (fun x a st1 => (sc_kd a).1 = sc_x1 ax + 5 ∧ nx L st1 (sc_up μ a (sc_x2 ax) x))
      | _ => False
  | .iaload => sc_ir st (fun i a st1 => (sc_kd a).1 = 0 ∧ 0 ≤ i ∧ i < (sc_kd a).2 ∧ nx L (.inl (μ a i.toNat) :: st1) μ)
  | .laload => sc_ir st (fun i a st1 => (sc_kd a).1 = 1 ∧ 0 ≤ i ∧ i < (sc_kd a).2 ∧ nx L (.inr (.inl (μ a i.toNat)) :: st1) μ)
  | .baload => sc_ir st (fun i a st1 => (sc_kd a).1 = 2 ∧ 0 ≤ i ∧ i < (sc_kd a).2 ∧ nx L (.inl (μ a i.toNat) :: st1) μ)
  | .aaload => sc_ir st (fun i a st1 => ((sc_kd a).1 = 3 ∨ (sc_kd a).1 = 4) ∧ 0 ≤ i ∧ i < (sc_kd a).2 ∧ nx L (.inr (.inr (.inl (sc_ra a i.toNat))) :: st1) μ)
  | .iastore => sc_iir st (fun x i a st1 => (sc_kd a).1 = 0 ∧ 0 ≤ i ∧ i < (sc_kd a).2 ∧ nx L st1 (sc_up μ a i.toNat x))
  | .lastore => sc_jir st (fun x i a st1 => (sc_kd a).1 = 1 ∧ 0 ≤ i ∧ i < (sc_kd a).2 ∧ nx L st1 (sc_up μ a i.toNat x))
  | .bastore => sc_iir st (fun x i a st1 => (sc_kd a).1 = 2 ∧ 0 ≤ i ∧ i < (sc_kd a).2 ∧ (x = 0 ∨ x = 1) ∧ nx L st1 (sc_up μ a i.toNat x))
  | .arraylength => sc_1r st (fun a st1 => ((sc_kd a).1 = 0 ∨ (sc_kd a).1 = 1) ∧ nx L (.inl ((sc_kd a).2 : Int) :: st1) μ)
  | .ireturn => sc_1i st (fun x st1 => st1 = [] ∧ sc_retI Post μ y.2.2.2 x)
  | .lreturn => sc_1j st (fun x st1 => st1 = [] ∧ Post (.inr (.inl x)) μ)
  | .return_ => st = [] ∧ Post (.inr (.inr (.inr ()))) μ
  | .invokevirtual _ => sc_xc ax (fun c n q => sc_call l G μ st (nx L) d c n q)
  | .invokestatic _ => sc_xc ax (fun c n q => sc_callS l G μ st (nx L) d c n q)
  | _ => False
end SCV
/-! the table's own check -/
def sc_mem (w : Cond) : Bool := decide (w ∈ lw_tbl) && goodWord w
theorem sc_mem_ok {w : Cond} (h : sc_mem w = true) : w ∈ sc_gw := by
  unfold sc_mem at h
  simp only [Bool.and_eq_true, decide_eq_true_eq] at h
  exact sc_gw_of h.1 h.2
def sc_ckF (y : sc_Q) (idx c k : Nat) (put : Bool) : Bool := match vwCl[c]? with
  | some q => decide (k < q.2.2) && (decide ((q.2.1 k).1 = q.1) && (sc_mem (.fieldLink y.1.cls idx q.1 (q.2.1 k).2.1 (q.2.1 k).2.2.1) && (!put || (!(q.2.1 k).2.2.2 && ((decide (sc_ft c k = 0) && decide (parseFieldDescriptor (q.2.1 k).2.2.1 = some .int)) || (decide (sc_ft c k = 1) && decide (parseFieldDescriptor (q.2.1 k).2.2.1 = some .long)))))))
  | none => false
def sc_ckN (q : sc_Q) (n : Nat) : Bool := decide (q.1.cls ≠ "java/lang/invoke/MethodHandle") && (decide (q.1.cls ≠ "java/lang/invoke/VarHandle") && (decide ((parseMethodDescriptor q.1.desc).map (fun d => d.parameters.length) = some n) && (decide (q.2.2.1 ≤ 17) && sc_mem (.initialized q.1.cls))))
def sc_ckV (y : sc_Q) (idx c n : Nat) (q : sc_Q) : Bool := (match vwCl[c]? with | some r => decide (r.1 = q.1.cls) | none => false) && (sc_mem (.methodLink y.1.cls idx q.1) && (sc_mem (.instanceMethod q.1) && (sc_mem (.selects q.1.cls q.1 q.1) && sc_ckN q n)))
def sc_ckS (y : sc_Q) (idx c n : Nat) (q : sc_Q) : Bool := if c = 100 then sc_mem (.methodLink y.1.cls idx q.1) && (sc_mem (.static q.1) && sc_ckN q n)
  else sc_mem (.methodLink y.1.cls idx arraycopyName) && (sc_mem (.native arraycopyName) && (sc_mem (.static arraycopyName) && sc_mem (.initialized "java/lang/System")))
def sc_ckA (y : sc_Q) (pc : Nat) (len : Nat) (ax : sc_X) : Instr → Bool
  | .iconst _ => len == 1
  | .bipush n => len == 2 && (decide (-128 ≤ n) && decide (n ≤ 127))
  | .sipush n => len == 3 && (decide (-32768 ≤ n) && decide (n ≤ 32767))
  | .lconst n => len == 1 && decide ((n.val : Int) = sc_xv ax)
  | .ldc2_w i => len == 3 && sc_mem (.constantLong y.1.cls i (Int64.ofInt (sc_xv ax)))
  | .ldc_w i => len == 3 && sc_mem (.constant y.1.cls i (Int32.ofInt (sc_xv ax)))
  | .iload_n k => len == 1 && k.val == sc_x1 ax
  | .iload k => len == 2 && k == sc_x1 ax
  | .lload_n k => len == 1 && k.val == sc_x1 ax
  | .lload k => len == 2 && k == sc_x1 ax
  | .aload_n k => len == 1 && k.val == sc_x1 ax
  | .aload k => len == 2 && k == sc_x1 ax
  | .istore_n k => len == 1 && (k.val == sc_x1 ax && decide (sc_x1 ax < y.2.2.1))
  | .istore k => len == 2 && (k == sc_x1 ax && decide (sc_x1 ax < y.2.2.1))
  | .lstore_n k => len == 1 && (k.val == sc_x1 ax && decide (sc_x1 ax + 1 < y.2.2.1))
  | .lstore k => len == 2 && (k == sc_x1 ax && decide (sc_x1 ax + 1 < y.2.2.1))
  | .astore_n k => len == 1 && (k.val == sc_x1 ax && decide (sc_x1 ax < y.2.2.1))
  | .astore k => len == 2 && (k == sc_x1 ax && decide (sc_x1 ax < y.2.2.1))
  | .iinc k _ => len == 3 && (k == sc_x1 ax && decide (sc_x1 ax < y.2.2.1))
  | .if_icmp _ off => len == 3 && decide ((pc : Int) + off = (sc_x1 ax : Int))
  | .ifCond _ off => len == 3 && decide ((pc : Int) + off = (sc_x1 ax : Int))
  | .goto off => len == 3 && decide ((pc : Int) + off = (sc_x1 ax : Int))
  | .tableswitch dflt lo hi offs => decide (hi - lo + 1 = (offs.size : Int)) && (decide (0 ≤ (pc : Int) + dflt) && offs.toList.all (fun o => decide (0 ≤ (pc : Int) + o)))
  | .getfield i => len == 3 && sc_ckF y i (sc_x1 ax) (sc_x2 ax) false
  | .putfield i => len == 3 && sc_ckF y i (sc_x1 ax) (sc_x2 ax) true
  | .invokevirtual i => len == 3 && (match ax with | .inr (.inl (c, n, q)) => sc_ckV y i c n q | _ => false)
  | .invokestatic i => len == 3 && (match ax with | .inr (.inl (c, n, q)) => sc_ckS y i c n q | _ => false)
  | .lreturn => len == 1 && decide (y.2.2.2 = some .long)
  | .return_ => len == 1 && decide (y.2.2.2 = none)
  | _ => len == 1
def sc_ck (y : sc_Q) (e : sc_E) : Bool := decide (decode y.2.1 e.1 = .ok (e.2.1, e.2.2.1)) && sc_ckA y e.1 e.2.2.1 e.2.2.2.1 e.2.1
def sc_seq : sc_T → Bool
  | [] => true
  | [_] => true
  | e :: f :: t => (e.1 + e.2.2.1 == f.1) && sc_seq (f :: t)
def sc_ok (y : sc_Q) (t : sc_T) : Bool := t.all (sc_ck y) && sc_seq t

