/-! FOUR ROWS OF 27 INTS AT ONCE: the instruction multianewarray, as SightChart() has it -/
def mw_in (comp : ClassId) : Cell := { cls := comp, slots := Array.replicate 27 (.int 0), vm := .none }
def mw_out (c : ClassId) (h i : Nat) : Cell := arrV c 4 (fun j => if j < i then .ref (h + 1 + j) else .null)
def mw_st (s : State) (c comp : ClassId) : Nat → State
  | 0 => s.pushCell (mw_out c s.heap.size 0)
  | i + 1 => ((mw_st s c comp i).pushCell (mw_in comp)).setCell s.heap.size (mw_out c s.heap.size (i + 1))
theorem mw_out_set (c : ClassId) (h i : Nat) : (mw_out c h i).setSlot i (.ref (h + 1 + i)) = mw_out c h (i + 1) := by
  unfold mw_out
  rw [arrV_store]
  congr 1
  funext j
  unfold updV
  by_cases hj : j = i
  · subst hj; rw [if_pos rfl, if_pos (by omega)]
  · rw [if_neg hj]
    show ite _ _ _ = _
    by_cases h2 : j < i
    · rw [if_pos h2, if_pos (by omega)]
    · rw [if_neg h2, if_neg (by omega)]
theorem mw_out_0 (c : ClassId) (h : Nat) : ({ cls := c, slots := Array.replicate 4 .null, vm := .none } : Cell) = mw_out c h 0 := by
  rw [arrV_new]
  unfold mw_out
  congr 1
theorem mw_out_f (c : ClassId) (h i : Nat) : (mw_out c h i).cls = c ∧ (mw_out c h i).vm = .none ∧ (mw_out c h i).slots.size = 4 := ⟨rfl, rfl, arrV_size _ _ _⟩
theorem mw_facts (s : State) (c comp : ClassId) : ∀ i, (mw_st s c comp i).heap.size = s.heap.size + 1 + i ∧ (mw_st s c comp i).heap[s.heap.size]? = some (mw_out c s.heap.size i) ∧ (mw_st s c comp i).vm = s.vm ∧ (mw_st s c comp i).slotsUsed = s.slotsUsed + 4 + i * 27
  | 0 => by
    have h3 := (mw_out_f c s.heap.size 0).2.2
    exact ⟨by simp [mw_st], by simp [mw_st], rfl, by simp [mw_st, h3]⟩
  | i + 1 => by
    obtain ⟨a, b, d, u⟩ := mw_facts s c comp i
    have hlt : s.heap.size < (mw_st s c comp i).heap.size := by omega
    have hb' : ((mw_st s c comp i).pushCell (mw_in comp)).heap[s.heap.size]? = some (mw_out c s.heap.size i) := by rw [State.heap_pushCell_of_lt (h := hlt)]; exact b
    refine ⟨?_, State.heap_setCell_self hb', by simp [mw_st, d], ?_⟩
    · simp [mw_st, State.setCell, a]; omega
    · simp [mw_st, u, mw_in, Nat.succ_mul]; omega
theorem mw_setTop (s : State) (f : JFrame) (c comp : ClassId) : ∀ i, mw_st (s.setTop f) c comp i = (mw_st s c comp i).setTop f
  | 0 => rfl
  | i + 1 => by simp only [mw_st, mw_setTop s f c comp i, State.heap_setTop, State.pushCell_setTop, State.setCell_setTop]
theorem mw_old (s : State) (c comp : ClassId) {a : Addr} (ha : a < s.heap.size) : ∀ i, (mw_st s c comp i).heap[a]? = s.heap[a]?
  | 0 => State.heap_pushCell_of_lt _ _ ha
  | i + 1 => by
    have f1 := (mw_facts s c comp i).1
    have hlt : a < (mw_st s c comp i).heap.size := Nat.lt_of_lt_of_le ha (by rw [f1]; omega)
    show (((mw_st s c comp i).pushCell (mw_in comp)).setCell s.heap.size _).heap[a]? = _
    rw [State.heap_setCell_other (Nat.ne_of_gt ha), State.heap_pushCell_of_lt (h := hlt)]
    exact mw_old s c comp ha i
theorem mw_inner (s : State) (c comp : ClassId) : ∀ i j, j < i → (mw_st s c comp i).heap[s.heap.size + 1 + j]? = some (mw_in comp)
  | 0, _, h => absurd h (Nat.not_lt_zero _)
  | i + 1, j, h => by
    have f1 := (mw_facts s c comp i).1
    show (((mw_st s c comp i).pushCell (mw_in comp)).setCell s.heap.size _).heap[s.heap.size + 1 + j]? = _
    rw [State.heap_setCell_other (show s.heap.size ≠ s.heap.size + 1 + j by omega)]
    rcases Nat.lt_or_ge j i with hj | hj
    · have hlt : s.heap.size + 1 + j < (mw_st s c comp i).heap.size := by rw [f1]; omega
      rw [State.heap_pushCell_of_lt (h := hlt)]
      exact mw_inner s c comp i j hj
    · have e : j = i := by omega
      subst e
      rw [← f1]
      exact State.heap_pushCell_size _ _
section
variable {E : CtlPost} {e : Env} {d : Bool} {acts : List Action} {s : State}
/-- one row, and its place among the four -/
theorem mw_turn {c comp cI : ClassId} {k kc : Class} (hk : s.vm.classes[c]? = some k) (hkind : k.kind = .array comp (.array .int)) (hkc : s.vm.classes[comp]? = some kc) (hkindc : kc.kind = .array cI .int) (hl : 27 ≤ e.platform.arrayLengthLimit) (hh : 108 ≤ e.platform.maxHeapBytes) (hc : s.heap.size + 5 ≤ e.platform.maxCells) (hs : s.slotsUsed + 112 ≤ e.platform.maxSlots) (i : Nat) (hi : i < 4) {R : Pre} (hq : ∀ d' acts', R d' acts' (mw_st s c comp (i + 1))) :
    wp (multianewarray.make comp [27]) (fun a => wp (writeLoc s.heap.size i (.ref a)) (fun _ => R) E e) E e d acts (mw_st s c comp i) := by
  obtain ⟨f1, f2, f3, f4⟩ := mw_facts s c comp i
  obtain ⟨o1, o2, o3⟩ := mw_out_f c s.heap.size i
  have hlt : s.heap.size < (mw_st s c comp i).heap.size := by omega
  rw [multianewarray.make]
  simp only [wp_bind', W.ite, show ¬ (27 : Int32) < 0 by decide, if_false, wp_pure', W.theClass, f3, hkc, hkindc, Option.some.injEq, exists_eq_left', show (27 : Int32).toNatClampNeg = 27 by decide]
  refine W.newArray_of (by rw [f3]; exact hkc) hkindc (by omega) (by show ¬ 27 * 4 > _; omega) (by omega) (by omega) rfl (fun acts2 => ?_)
  rw [W.writeLoc]
  refine ⟨mw_out c s.heap.size i, (by rw [State.heap_pushCell_of_lt (h := hlt)]; exact f2), (by rw [o2]; simp), (by rw [o3]; exact hi), ?_, ?_⟩
  · rw [o1, o2]
    simp [State.fitsSlot, State.slotType?, f3, hk, hkind, fits]
  · have e9 := hq
    rw [mw_st, ← mw_out_set] at e9
    rw [f1]
    exact e9 _ _
theorem mw_make {c comp cI : ClassId} {k kc : Class} (hk : s.vm.classes[c]? = some k) (hkind : k.kind = .array comp (.array .int)) (hkc : s.vm.classes[comp]? = some kc) (hkindc : kc.kind = .array cI .int)
    (hl : 27 ≤ e.platform.arrayLengthLimit) (hh : 108 ≤ e.platform.maxHeapBytes) (hc : s.heap.size + 5 ≤ e.platform.maxCells) (hs : s.slotsUsed + 112 ≤ e.platform.maxSlots)
    {Q : Addr → Pre} (hq : ∀ d' acts', Q s.heap.size d' acts' (mw_st s c comp 4)) : wp (multianewarray.make c [4, 27]) Q E e d acts s := by
  rw [multianewarray.make]
  simp only [wp_bind', W.ite, show ¬ (4 : Int32) < 0 by decide, if_false, wp_pure', W.theClass, hk, hkind, Option.some.injEq, exists_eq_left', show (4 : Int32).toNatClampNeg = 4 by decide]
  refine W.newArray_of hk hkind (by omega) (by show ¬ 4 * 4 > _; omega) (by omega) (by omega) rfl (fun acts2 => ?_)
  simp only [show ((4 : Int32) == 0) = false by decide, Bool.false_eq_true, if_false, wp_bind', wp_pure']
  rw [Std.Legacy.Range.forIn_eq_forIn_range', mw_out_0 c s.heap.size]
  show wp (forIn [0, 1, 2, 3] PUnit.unit _) _ E e d acts2 (mw_st s c comp 0)
  simp only [List.forIn_cons, List.forIn_nil, wp_bind', wp_pure']
  have turn := fun i hi (R : Pre) (d : Bool) (acts : List Action) => mw_turn (E := E) (d := d) (acts := acts) hk hkind hkc hkindc hl hh hc hs i hi (R := R)
  refine turn 0 (by omega) _ _ _ (fun d1 a1 => ?_)
  simp only [wp_bind', wp_pure']
  refine turn 1 (by omega) _ _ _ (fun d2 a2 => ?_)
  simp only [wp_bind', wp_pure']
  refine turn 2 (by omega) _ _ _ (fun d3 a3 => ?_)
  simp only [wp_bind', wp_pure']
  refine turn 3 (by omega) _ _ _ (fun d4 a4 => ?_)
  simp only [wp_bind', wp_pure']
  exact hq _ _
end
section
variable {p : Program} {l : Launch} {e : Env} {R : Room} {s : State} {m : MethodId} {args : Array Value} {below : List Frame} {meth : Method} {c : Code} {H : Heap} {locs : List Loc} {cells slots : Nat} {Q : State → Prop} {cc : ByteArray} {pc : Nat} {ls : Array Slot} {rest : List Value}
def mw_locs (h : Nat) : Nat → List Loc
  | 0 => []
  | i + 1 => mw_locs h i ++ [⟨h, i⟩]
theorem mw_stand {T : State} (X : Stand p l e R s m args below meth c T locs cells slots) (cA comp : ClassId) : ∀ i, Stand p l e R s m args below meth c (mw_st T cA comp i) (locs ++ mw_locs T.heap.size i) (cells + 1 + i) (slots + 4 + i * 27)
  | 0 => by
    have h := X.pushed (mw_out cA T.heap.size 0)
    rw [(mw_out_f cA T.heap.size 0).2.2] at h
    simpa [mw_st, mw_locs] using h
  | i + 1 => by
    have Xi := mw_stand X cA comp i
    obtain ⟨f1, f2, f3, f4⟩ := mw_facts T cA comp i
    have hlt0 : T.heap.size < (mw_st T cA comp i).heap.size := by rw [f1]; omega
    have hcell : ((mw_st T cA comp i).pushCell (mw_in comp)).heap[T.heap.size]? = some (mw_out cA T.heap.size i) := by rw [State.heap_pushCell_of_lt (h := hlt0)]; exact f2
    have h := (Xi.pushed (mw_in comp)).stored hcell i (.ref (T.heap.size + 1 + i))
    rw [show (mw_in comp).slots.size = 27 by simp [mw_in], mw_out_set, List.append_assoc] at h
    rw [show slots + 4 + (i + 1) * 27 = slots + 4 + i * 27 + 27 by omega]
    exact h
theorem mw_multi (hexec : p.tables.exec = Jvm.exec) (hb : c.code = cc) {own : String} {index : Nat} (hown : s.vm.findClass own = some m.cls) (hclink : (Cond.classLink own index "[[I").before args s = true) {cA comp cI : ClassId} {kA kC : Class} (hA1 : s.vm.findClass "[[I" = some cA) (hA2 : s.vm.classes[cA]? = some kA) (hA3 : kA.kind = .array comp (.array .int)) (hC2 : s.vm.classes[comp]? = some kC) (hC3 : kC.kind = .array cI .int)
    (hcells : cells + 5 ≤ R.cells) (hslots : slots + 112 ≤ R.slots) (hdg : decode cc pc = .ok (.multianewarray index 2, 4))
    (kk : ∀ H' : Heap, H'[H.size]? = some (arrV cA 4 (fun j => .ref (H.size + 1 + j))) → (∀ i, i < 4 → H'[H.size + 1 + i]? = some (arrV comp 27 (fun _ => .int 0))) → H'.size = H.size + 5 → (∀ q, q < H.size → H'[q]? = H[q]?) →
      W p l e R s m args below meth c H' (locs ++ mw_locs H.size 4) (cells + 5) (slots + 112) Q (F0 m (pc + 4) ls (.ref H.size :: rest))) : W p l e R s m args below meth c H locs cells slots Q (F0 m pc ls (.int 27 :: .int 4 :: rest)) := by
  intro T hT X
  subst hb
  have hpl : e.platform.magicAccessors = ({} : Platform).magicAccessors := by rw [X.admits.platform]
  obtain ⟨c0, hfc0, hcl⟩ := Cond.classLink_spec hown hclink e.platform hpl
  cases hA1.symm.trans hfc0
  obtain ⟨hg₁, hwarm₁, hready₁⟩ := State.classEntry (e := e) X.warmed hcl
  generalize T.vm.noted m.cls index (.cls cA) = vm₁ at hg₁ hwarm₁ hready₁
  have hal : s.vm.Alike vm₁ := hwarm₁.alike
  obtain ⟨kA₁, hkA₁, heA⟩ := hal.2.2 _ _ hA2
  obtain ⟨kC₁, hkC₁, heC⟩ := hal.2.2 _ _ hC2
  have hkindA₁ : kA₁.kind = .array comp (.array .int) := by rw [heA]; exact hA3
  have hkindC₁ : kC₁.kind = .array cI .int := by rw [heC]; exact hC3
  have X₁ := X.noted hwarm₁
  have XF := mw_stand X₁ cA comp 4
  obtain ⟨hr1, hr2⟩ := X.roomAbove hcells hslots
  obtain ⟨f1, f2, f3, f4⟩ := mw_facts (T.setVm vm₁) cA comp 4
  have e0 : (T.setVm vm₁).heap = H := hT
  have hsz : (T.setVm vm₁).heap.size = H.size := by rw [e0]
  have hTs : T.heap.size = H.size := by rw [hT]
  rw [hsz] at f1 f2
  obtain ⟨t, a1, b1⟩ := kk (mw_st (T.setVm vm₁) cA comp 4).heap (by
      rw [f2]
      unfold mw_out
      congr 1) (fun i hi => by
      have := mw_inner (T.setVm vm₁) cA comp 4 i hi
      rw [hsz] at this
      rw [this]
      unfold mw_in
      rw [arrV_new]) f1 (fun q hq => by
      rw [mw_old (T.setVm vm₁) cA comp (by rw [hsz]; exact hq), e0]) (mw_st (T.setVm vm₁) cA comp 4) rfl (by
      have := XF
      rw [hsz] at this
      exact this)
  refine ⟨t, ?_, b1⟩
  have hl1 : 27 ≤ e.platform.arrayLengthLimit := by rw [Launch.admits_arrayLengthLimit X.admits]; omega
  have hh1 : 108 ≤ e.platform.maxHeapBytes := by rw [Launch.admits_maxHeapBytes X.admits]; omega
  jvm_step X.here [hexec, hdg]
  simp only [multianewarray.sem, wp_bind', W.resolveClassAt_links (State.method?_setTop (F0 m pc ls (.int 27 :: .int 4 :: rest)) X.here.top) hg₁]
  rw [W.popN, if_neg (by decide)]
  refine ⟨F0 m pc ls (.int 27 :: .int 4 :: rest), State.topJava?_setTop' (s := T.setVm vm₁) _ X.here.top, [.int 4, .int 27], rest, rfl, rfl, ?_⟩
  simp only [List.mapM_cons, List.mapM_nil, wp_bind', wp_pure']
  refine mw_make (k := kA₁) (kc := kC₁) (comp := comp) (cI := cI) hkA₁ hkindA₁ hkC₁ hkindC₁ hl1 hh1 (by show T.heap.size + 5 ≤ _; omega) (by show T.slotsUsed + 112 ≤ _; omega) (fun d' acts' => ?_)
  have eS : ((T.setTop (F0 m pc ls (.int 27 :: .int 4 :: rest))).setVm vm₁).setTop { F0 m pc ls (.int 27 :: .int 4 :: rest) with stack := rest } = (T.setVm vm₁).setTop { F0 m pc ls (.int 27 :: .int 4 :: rest) with stack := rest } := by
    show ((T.setVm vm₁).setTop _).setTop _ = _
    rw [State.setTop_setTop]
  rw [eS, mw_setTop]
  simp only [wp_bind', W.mark, W.pushRef, State.topJava?_setTop' _ XF.here.top, Option.some.injEq, exists_eq_left', State.setTop_setTop, State.heap_setTop]
  intro acts
  simp [jvm, XF.here.top]
  rw [hTs]
  exact a1
end
