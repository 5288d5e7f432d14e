/-! THE CELLS: 70 of them, made by the two constructors and never again; what they are stands fast, what ints and longs they hold is 'mem' -/
abbrev sc_V : Type := Int ⊕ (Int ⊕ (Nat ⊕ Unit))
abbrev sc_M : Type := Nat → Nat → Int
abbrev sc_G : Type := va_G × ((Nat → ClassId) × (Nat → Nat))
/-- what a cell is: 0 int[], 1 long[], 2 boolean[], 3 Node[], 4 int[][], 5 + c an object of class c; and how long it is -/
def sc_kdl : List (Nat × Nat) := [(9, 10), (8, 12), (5, 3), (3, 10), (0, 10), (0, 10), (0, 243), (0, 243), (0, 243), (1, 243), (0, 243), (0, 243), (6, 4), (0, 9), (0, 243), (4, 4), (0, 4), (0, 6),
  (10, 23), (0, 6), (0, 10), (0, 10), (0, 10), (0, 30), (0, 10), (0, 10), (0, 270), (0, 10), (0, 2430), (1, 729), (2, 243), (0, 10), (0, 10), (0, 4), (0, 108), (0, 27),
  (0, 27), (0, 27), (0, 27), (0, 27),
  (7, 9), (0, 3), (0, 27), (7, 9), (0, 3), (0, 27), (7, 9), (0, 3), (0, 27), (7, 9), (0, 3), (0, 27), (7, 9), (0, 3), (0, 27),
  (7, 9), (0, 3), (0, 27), (7, 9), (0, 3), (0, 27), (7, 9), (0, 3), (0, 27), (7, 9), (0, 3), (0, 27), (7, 9), (0, 3), (0, 27)]
def sc_kd (a : Nat) : Nat × Nat := sc_kdl.getD a (99, 0)
/-- the kind of a field: 0 int, 1 long, 2 a cell -/
def sc_ftl : List (List Nat) := [[2, 0, 0], [2, 2, 0, 0], [0, 0, 0, 0, 0, 0, 0, 2, 2], [2, 2, 2, 2, 2, 2, 2, 2, 2, 0, 0, 0], [2, 2, 2, 2, 2, 2, 0, 0, 1, 1], [0, 2, 0, 1, 1, 0, 2, 2, 2, 2, 2, 2, 2, 0, 2, 2, 2, 2, 2, 2, 2, 2, 2]]
def sc_ft (c k : Nat) : Nat := (sc_ftl.getD c []).getD k 9
/-- which cell a field names -/
def sc_rtl : List (List Nat) := [[1, 2, 12, 15, 16, 17], [2, 4, 5, 6, 7, 8, 9, 10, 11], [3], [], [], [], [], [], [], [], [], [], [13, 14], [], [], [], [], [], [0, 19, 0, 0, 0, 0, 20, 21, 22, 23, 24, 25, 26, 0, 27, 28, 29, 30, 31, 32, 33, 34, 35]]
def sc_rt (a k : Nat) : Nat := if a < 40 then (sc_rtl.getD a []).getD k 0 else a + k - 6
/-- which cell a place of Node[] or int[][] names -/
def sc_ra (a i : Nat) : Nat := if a = 3 then 40 + 3 * i else 36 + i
def sc_rv (G : sc_G) : sc_V → Value
  | .inl x => .int (Int32.ofInt x)
  | .inr (.inl x) => .long (Int64.ofInt x)
  | .inr (.inr (.inl a)) => .ref (G.2.2 a)
  | .inr (.inr (.inr _)) => .null
def sc_rr (G : sc_G) : sc_V → Option Value
  | .inr (.inr (.inr _)) => none
  | v => some (sc_rv G v)
def sc_fv (μ : sc_M) (c a k : Nat) : sc_V := match sc_ft c k with
  | 0 => .inl (μ a k)
  | 1 => .inr (.inl (μ a k))
  | _ => .inr (.inr (.inl (sc_rt a k)))
def sc_cel (G : sc_G) (μ : sc_M) (a : Nat) : va_E := match (sc_kd a).1 with
  | 0 => .inl (G.2.1 0, (sc_kd a).2, .inl (fun i => Int32.ofInt (μ a i)))
  | 1 => .inl (G.2.1 1, (sc_kd a).2, .inr (.inl (fun i => Int64.ofInt (μ a i))))
  | 2 => .inl (G.2.1 2, (sc_kd a).2, .inl (fun i => Int32.ofInt (μ a i)))
  | 3 => .inl (G.2.1 3, (sc_kd a).2, .inr (.inr (.inr (.inr (fun i => some (G.2.2 (sc_ra a i)))))))
  | 4 => .inl (G.2.1 4, (sc_kd a).2, .inr (.inr (.inr (.inr (fun i => some (G.2.2 (sc_ra a i)))))))
  | n + 5 => .inr (n, (List.range (sc_kd a).2).map (fun k => sc_rv G (sc_fv μ n a k)))
def sc_w (G : sc_G) (μ : sc_M) : va_W := (List.range 70).map (fun a => (G.2.2 a, sc_cel G μ a))
def sc_A (G : sc_G) : Nat → Prop := fun q => ∃ a, a < 70 ∧ G.2.2 a = q
def sc_tys (G : sc_G) : List (ClassId × FieldType) := [(G.2.1 0, .int), (G.2.1 1, .long), (G.2.1 2, .boolean), (G.2.1 3, .object "SightChart$Node"), (G.2.1 4, .array .int)]
def sc_K (G : sc_G) (s : State) : Prop := (∀ a b, a < 70 → b < 70 → G.2.2 a = G.2.2 b → a = b) ∧ va_K G.1 vwCl (sc_tys G) s
theorem sc_K.moved {G : sc_G} {u U : State} (hvm : u.vm.Alike U.vm) (h : sc_K G u) : sc_K G U := ⟨h.1, va_K.moved hvm h.2⟩
theorem sc_w_at (G : sc_G) (μ : sc_M) {a : Nat} (h : a < 70) : (sc_w G μ)[a]? = some (G.2.2 a, sc_cel G μ a) := by
  simp [sc_w, h]
theorem sc_w_inv {G : sc_G} {μ : sc_M} {k : Nat} {q : Nat × va_E} (h : (sc_w G μ)[k]? = some q) : k < 70 ∧ q = (G.2.2 k, sc_cel G μ k) := by
  by_cases hk : k < 70
  · rw [sc_w_at G μ hk] at h
    exact ⟨hk, (Option.some.inj h).symm⟩
  · rw [List.getElem?_eq_none (by simp [sc_w]; omega)] at h
    cases h
theorem sc_w_D {G : sc_G} {μ : sc_M} (hi : ∀ a b, a < 70 → b < 70 → G.2.2 a = G.2.2 b → a = b) : va_D (sc_A G) (sc_w G μ) := by
  refine ⟨fun i j p q hp hq hpq => ?_, fun k q hq => ?_⟩
  · obtain ⟨h1, rfl⟩ := sc_w_inv hp
    obtain ⟨h2, rfl⟩ := sc_w_inv hq
    exact hi i j h1 h2 hpq
  · obtain ⟨h1, rfl⟩ := sc_w_inv hq
    exact ⟨k, h1, rfl⟩
theorem sc_kd_lt {a : Nat} (h : (sc_kd a).1 ≠ 99) : a < 70 := by
  rcases Nat.lt_or_ge a 70 with h1 | h1
  · exact h1
  · exact absurd (by simp [sc_kd, List.getD, List.getElem?_eq_none (show sc_kdl.length ≤ a from h1)]) h
def sc_up (μ : sc_M) (a k : Nat) (v : Int) : sc_M := fun b j => if b = a ∧ j = k then v else μ b j
theorem sc_cel_up_ne (G : sc_G) (μ : sc_M) {a b : Nat} (k : Nat) (v : Int) (h : b ≠ a) : sc_cel G (sc_up μ a k v) b = sc_cel G μ b := by
  have e : ∀ i, sc_up μ a k v b i = μ b i := fun i => by simp [sc_up, h]
  unfold sc_cel sc_fv
  simp only [e]
theorem sc_w_set (G : sc_G) {μ μ' : sc_M} {a : Nat} {x : va_E} (hne : ∀ b, b ≠ a → sc_cel G μ' b = sc_cel G μ b) (hx : sc_cel G μ' a = x) : (sc_w G μ).set a (G.2.2 a, x) = sc_w G μ' := by
  apply List.ext_getElem?
  intro i
  rw [List.getElem?_set]
  by_cases h : a = i
  · subst h
    rw [if_pos rfl]
    by_cases h2 : a < 70
    · rw [sc_w_at G μ' h2, hx, if_pos (by simpa [sc_w] using h2)]
    · rw [if_neg (by simpa [sc_w] using h2), List.getElem?_eq_none (by simp [sc_w]; omega)]
  · rw [if_neg h]
    by_cases h2 : i < 70
    · rw [sc_w_at G μ h2, sc_w_at G μ' h2, hne i (fun e => h e.symm)]
    · rw [List.getElem?_eq_none (by simp [sc_w]; omega), List.getElem?_eq_none (by simp [sc_w]; omega)]
/-! A METHOD'S CONTRACT, and where a method stands -/
def sc_Qc (G : sc_G) (Post : sc_V → sc_M → Prop) : Array Value → State → Outcome → State → Prop := fun _ st oc t => (∃ (r : sc_V) (μ : sc_M), oc = .returned (sc_rr G r) ∧ Post r μ ∧ va_P G.1 vwCl (sc_w G μ) t.heap) ∧ va_F (sc_A G) st t
def sc_rm (d : Nat) : Room := { frames := d, cells := 0, slots := 0, locals := 36 * d }
def sc_ws (y : sc_Q) : List Cond := .code y.1 y.2.1 y.2.2.1 y.2.2.2 :: sc_gw
def sc_Sp (l : Launch) (G : sc_G) (d : Nat) (y : sc_Q) (as : List sc_V) (μ : sc_M) (Post : sc_V → sc_M → Prop) : Prop :=
  Cond.code y.1 y.2.1 y.2.2.1 y.2.2.2 ∈ sc_gw ∧ Met l y.1 (sc_ws y) (sc_rm d) (va_Pc (as.map (sc_rv G)) (fun U => va_P G.1 vwCl (sc_w G μ) U.heap ∧ sc_K G U)) (sc_Qc G Post) 0 0 (sc_A G)
def sc_Cx (G : sc_G) (y : sc_Q) (p : Program) (s : State) (m : MethodId) (args : Array Value) (meth : Method) (c : Code) : Prop :=
  p.tables.exec = Jvm.exec ∧ c.code = y.2.1 ∧ meth.sig.returnType = y.2.2.2 ∧ c.maxLocals = y.2.2.1 ∧ s.vm.findClass y.1.cls = some m.cls ∧ meth.locks = false ∧ (∀ w ∈ sc_gw, w.before args s = true) ∧ sc_K G s
def sc_lr (G : sc_G) (ls : Array Slot) (L : List sc_V) (n : Nat) : Prop := ls.size = n ∧ lv_wf ls ∧ L.length = n ∧ ∀ (i : Nat) (v : sc_V), L[i]? = some v → v ≠ .inr (.inr (.inr ())) → ls[i]? = some (.val (sc_rv G v))
def sc_Wp (l : Launch) (G : sc_G) (d : Nat) (y : sc_Q) (pc : Nat) (L st : List sc_V) (μ : sc_M) (Post : sc_V → sc_M → Prop) : Prop :=
  ∀ (p : Program) (e : Env) (s : State) (m : MethodId) (args : Array Value) (below : List Frame) (meth : Method) (c : Code) (H : Heap) (locs : List Loc) (ls : Array Slot), sc_Cx G y p s m args meth c → va_P G.1 vwCl (sc_w G μ) H → va_S (sc_A G) s.heap H locs → sc_lr G ls L y.2.2.1 →
    W p l e (sc_rm d) s m args below meth c H locs 0 0 (MQ below (sc_Qc G Post) args s 0 0 (sc_A G)) (F0 m pc ls (st.map (sc_rv G)))
/-- the locals as a method begins -/
def sc_ent : List sc_V → List sc_V
  | [] => []
  | .inr (.inl x) :: as => .inr (.inl x) :: .inr (.inr (.inr ())) :: sc_ent as
  | v :: as => v :: sc_ent as
def sc_pad (L : List sc_V) (n : Nat) : List sc_V := L ++ List.replicate (n - L.length) (.inr (.inr (.inr ())))
theorem sc_ent_len (G : sc_G) (as : List sc_V) : (sc_ent as).length = (lg_sl (as.map (sc_rv G))).length := by
  induction as with
  | nil => rfl
  | cons v as ih =>
    rcases v with x | x | x | x
    all_goals simp [sc_ent, lg_sl, sc_rv, Value.category] at ih ⊢
    all_goals omega
theorem sc_ent_at (G : sc_G) (as : List sc_V) : ∀ (k i : Nat) (v : sc_V), (sc_ent as)[i]? = some v → v ≠ .inr (.inr (.inr ())) → (k + i, sc_rv G v) ∈ lv_args k (as.map (sc_rv G)) := by
  induction as with
  | nil => intro k i v h; simp [sc_ent] at h
  | cons w as ih =>
    intro k i v h hv
    rcases w with x | x | x | x
    · cases i with
      | zero => simp [sc_ent] at h; subst h; simp [lv_args]
      | succ i =>
        simp [sc_ent] at h
        have := ih (k + 1) i v h hv
        rw [show k + 1 + i = k + (i + 1) by omega] at this
        exact List.mem_cons_of_mem _ this
    · cases i with
      | zero => simp [sc_ent] at h; subst h; simp [lv_args]
      | succ i =>
        cases i with
        | zero => simp [sc_ent] at h; exact absurd h.symm hv
        | succ i =>
          simp [sc_ent] at h
          have := ih (k + 2) i v h hv
          rw [show k + 2 + i = k + (i + 1 + 1) by omega] at this
          exact List.mem_cons_of_mem _ this
    · cases i with
      | zero => simp [sc_ent] at h; subst h; simp [lv_args]
      | succ i =>
        simp [sc_ent] at h
        have := ih (k + 1) i v h hv
        rw [show k + 1 + i = k + (i + 1) by omega] at this
        exact List.mem_cons_of_mem _ this
    · cases i with
      | zero => simp [sc_ent] at h; exact absurd h.symm hv
      | succ i =>
        simp [sc_ent] at h
        have := ih (k + 1) i v h hv
        rw [show k + 1 + i = k + (i + 1) by omega] at this
        exact List.mem_cons_of_mem _ this
/-- as Met.ofW, of a method of a class of which others are run by the machine itself -/
theorem sc_ofW {l : Launch} {y : MethodName} {ws ws' : List Cond} {rm : Room} {Pc : Array Value → State → Prop} {Qc : Array Value → State → Outcome → State → Prop} {mc ms : Nat} {free : Addr → Prop} {cc : ByteArray} {maxL : Nat} {ret : Option FieldType}
    (hy : plainFor y = true) (hw : ws = Cond.code y cc maxL ret :: ws')
    (body : ∀ p e s m args below meth c s₁, BodyLoose p l y (headSpec ws rm) cc maxL ret e s m args below meth c s₁ → c.maxLocals = maxL → Pc args s →
      W p l e (headSpec ws rm).room s m args below meth c s.heap [] 0 0 (MQ below Qc args s mc ms free) (entryFrame m args maxL)) : Met l y ws rm Pc Qc mc ms free := by
  refine MetFree.of_bodySF (code := cc) (maxLocals := maxL) (ret := ret) hy ?_ ?_
  · intro args s m h hn
    obtain ⟨meth, c, h1, h2, h3, h4, h5, h6, -, -⟩ := Cond.code_spec hn (atoms_spec (ws := ws) h _ (by rw [hw]; exact List.mem_cons_self))
    exact ⟨meth, c, h1, h2, h3, h4, h5, h6⟩
  · intro p e s m args below meth c s₁ B hml hP _
    have hh0 : s₁.heap = s.heap := by rw [B.state]; rfl
    obtain ⟨t, a1, o, b1, b2, b3⟩ := body p e s m args below meth c s₁ B hml hP s₁ hh0 (Stand.of_body B)
    exact ⟨t, o, a1, b1, b2, ⟨b3.1, b3.2⟩⟩
/-- from a method's first instruction to its contract -/
theorem sc_Sp_of {l : Launch} {G : sc_G} {d : Nat} {y : sc_Q} {as : List sc_V} {μ : sc_M} {Post : sc_V → sc_M → Prop} (hm : Cond.code y.1 y.2.1 y.2.2.1 y.2.2.2 ∈ sc_gw) (hy : plainFor y.1 = true) (hn : (sc_ent as).length ≤ y.2.2.1)
    (h : sc_Wp l G d y 0 (sc_pad (sc_ent as) y.2.2.1) [] μ Post) : sc_Sp l G d y as μ Post := by
  refine ⟨hm, sc_ofW (cc := y.2.1) (maxL := y.2.2.1) (ret := y.2.2.2) hy rfl ?_⟩
  intro p e s m args below meth c s₁ B hml hv
  obtain ⟨rfl, hP, hK⟩ := hv
  have hts := atoms_spec (ws := sc_ws y) B.pre
  have hl := lv_entry (as.map (sc_rv G)) (n := y.2.2.1) (by rw [← sc_ent_len]; exact hn)
  rw [lg_entry_eq]
  generalize (lg_sl (as.map (sc_rv G)) ++ List.replicate (y.2.2.1 - (lg_sl (as.map (sc_rv G))).length) Slot.unset).toArray = ls at hl ⊢
  refine h p e s m _ below meth c s.heap [] ls ⟨B.exec, B.bytes, B.returns, hml, findClass_of_methodNamed B.named, B.notSynchronized, fun w hw => hts w (List.mem_cons_of_mem _ hw), hK⟩ hP va_S.rf ⟨hl.1, hl.2.1, ?_, fun i v hi hv => ?_⟩
  · simp [sc_pad]; omega
  · have h9 : (sc_ent as)[i]? = some v := by
      unfold sc_pad at hi
      by_cases h1 : i < (sc_ent as).length
      · rw [List.getElem?_append_left h1] at hi; exact hi
      · rw [List.getElem?_append_right (by omega), List.getElem?_replicate] at hi
        split at hi
        · exact absurd (Option.some.inj hi).symm hv
        · cases hi
    have := sc_ent_at G as 0 i v h9 hv
    rw [Nat.zero_add] at this
    exact hl.2.2 _ this
