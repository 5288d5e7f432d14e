/-! FOUR ROWS OF 27 INTS AT ONCE: the instruction multianewarray, as SightChart() has it -/
def mw_in (comp : ClassId) : Cell := { cls := comp, slots := Array.replicate 27 (.int 0), vm := .none }
def mw_out (c : ClassId) (h i : Nat) : Cell := arrV c 4 (fun j => if j < i then .ref (h + 1 + j) else .null)
def mw_st (s : State) (c comp : ClassId) : Nat → State
  | 0 => s.pushCell (mw_out c s.heap.size 0)
  | i + 1 => ((mw_st s c comp i).pushCell (mw_in comp)).setCell s.heap.size (mw_out c s.heap.size (i + 1))
theorem mw_out_set (c : ClassId) (h i : Nat) : (mw_out c h i).setSlot i (.ref (h + 1 + i)) = mw_out c h (i + 1) := by
  unfold mw_out
  rw [arrV_store]
  congr 1
  funext j
  unfold updV
  by_cases hj : j = i
  · subst hj; rw [if_pos rfl, if_pos (by omega)]
  · rw [if_neg hj]
    show ite _ _ _ = _
    by_cases h2 : j < i
    · rw [if_pos h2, if_pos (by omega)]
    · rw [if_neg h2, if_neg (by omega)]
theorem mw_out_0 (c : ClassId) (h : Nat) : ({ cls := c, slots := Array.replicate 4 .null, vm := .none } : Cell) = mw_out c h 0 := by
  rw [arrV_new]
  unfold mw_out
  congr 1
theorem mw_out_f (c : ClassId) (h i : Nat) : (mw_out c h i).cls = c ∧ (mw_out c h i).vm = .none ∧ (mw_out c h i).slots.size = 4 := ⟨rfl, rfl, arrV_size _ _ _⟩
theorem mw_facts (s : State) (c comp : ClassId) : ∀ i, (mw_st s c comp i).heap.size = s.heap.size + 1 + i ∧ (mw_st s c comp i).heap[s.heap.size]? = some (mw_out c s.heap.size i) ∧ (mw_st s c comp i).vm = s.vm ∧ (mw_st s c comp i).slotsUsed = s.slotsUsed + 4 + i * 27
  | 0 => by
    have h3 := (mw_out_f c s.heap.size 0).2.2
    exact ⟨by simp [mw_st], by simp [mw_st], rfl, by simp [mw_st, h3]⟩
  | i + 1 => by
    obtain ⟨a, b, d, u⟩ := mw_facts s c comp i
    have hlt : s.heap.size < (mw_st s c comp i).heap.size := by omega
    have hb' : ((mw_st s c comp i).pushCell (mw_in comp)).heap[s.heap.size]? = some (mw_out c s.heap.size i) := by rw [State.heap_pushCell_of_lt (h := hlt)]; exact b
    refine ⟨?_, State.heap_setCell_self hb', by simp [mw_st, d], ?_⟩
    · simp [mw_st, State.setCell, a]; omega
    · simp [mw_st, u, mw_in, Nat.succ_mul]; omega
theorem mw_setTop (s : State) (f : JFrame) (c comp : ClassId) : ∀ i, mw_st (s.setTop f) c comp i = (mw_st s c comp i).setTop f
  | 0 => rfl
  | i + 1 => by simp only [mw_st, mw_setTop s f c comp i, State.heap_setTop, State.pushCell_setTop, State.setCell_setTop]
theorem mw_old (s : State) (c comp : ClassId) {a : Addr} (ha : a < s.heap.size) : ∀ i, (mw_st s c comp i).heap[a]? = s.heap[a]?
  | 0 => State.heap_pushCell_of_lt _ _ ha
  | i + 1 => by
    have f1 := (mw_facts s c comp i).1
    have hlt : a < (mw_st s c comp i).heap.size := Nat.lt_of_lt_of_le ha (by rw [f1]; omega)
    show (((mw_st s c comp i).pushCell (mw_in comp)).setCell s.heap.size _).heap[a]? = _
    rw [State.heap_setCell_other (Nat.ne_of_gt ha), State.heap_pushCell_of_lt (h := hlt)]
    exact mw_old s c comp ha i
theorem mw_inner (s : State) (c comp : ClassId) : ∀ i j, j < i → (mw_st s c comp i).heap[s.heap.size + 1 + j]? = some (mw_in comp)
  | 0, _, h => absurd h (Nat.not_lt_zero _)
  | i + 1, j, h => by
    have f1 := (mw_facts s c comp i).1
    show (((mw_st s c comp i).pushCell (mw_in comp)).setCell s.heap.size _).heap[s.heap.size + 1 + j]? = _
    rw [State.heap_setCell_other (show s.heap.size ≠ s.heap.size + 1 + j by omega)]
    rcases Nat.lt_or_ge j i with hj | hj
    · have hlt : s.heap.size + 1 + j < (mw_st s c comp i).heap.size := by rw [f1]; omega
      rw [State.heap_pushCell_of_lt (h := hlt)]
      exact mw_inner s c comp i j hj
    · have e : j = i := by omega
      subst e
      rw [← f1]
      exact State.heap_pushCell_size _ _
section
variable {E : CtlPost} {e : Env} {d : Bool} {acts : List Action} {s : State}
theorem mw_newArray {c comp : ClassId} {k : Class} {type : FieldType} {len : Nat} {init : Value} (hk : s.vm.classes[c]? = some k) (hkind : k.kind = .array comp type) (hlimit : ¬ len > e.platform.arrayLengthLimit) (hheap : ¬ len * componentBytes type > e.platform.maxHeapBytes) (hfit : fits type init = true) (hdef : init.isDefault = true) {Q : Addr → Pre} (h1 : s.heap.size < e.platform.maxCells) (h2 : s.slotsUsed + len ≤ e.platform.maxSlots)
    (hq : Q s.heap.size d acts (s.pushCell { cls := c, slots := Array.replicate len init, vm := .none })) : wp (Jvm.newArray c len init) Q E e d acts s := by
  have hfits : ∀ i v, (Array.replicate len init)[i]? = some v → s.fitsSlot c .none i v = true := by
    intro i v hv
    simp only [Array.getElem?_replicate] at hv
    split at hv
    · cases hv; simp [State.fitsSlot, State.slotType?, hk, hkind, hfit]
    · cases hv
  have hda : allocActs (Array.replicate len init) s.heap.size acts = acts := by
    have hall : ((Array.replicate len init).all (·.isDefault)) = true := by
      rw [Array.all_replicate]; split <;> simp [hdef]
    unfold allocActs; rw [if_pos hall]
  simp only [Jvm.newArray, Jvm.arrayFits, wp_bind', W.ask, W.ite, hlimit, if_false, wp_pure', W.theClass, hk, hkind, hheap, W.alloc, W.stop, Option.some.injEq, exists_eq_left', Array.size_replicate, hda]
  rw [if_neg (by omega)]
  exact ⟨h1, h2, hfits, hq⟩
theorem mw_make {c comp cI : ClassId} {k kc : Class} (hk : s.vm.classes[c]? = some k) (hkind : k.kind = .array comp (.array .int)) (hkc : s.vm.classes[comp]? = some kc) (hkindc : kc.kind = .array cI .int)
    (hl : ¬ 27 > e.platform.arrayLengthLimit) (hh : ¬ 108 > e.platform.maxHeapBytes) (hc : s.heap.size + 5 ≤ e.platform.maxCells) (hs : s.slotsUsed + 112 ≤ e.platform.maxSlots)
    {Q : Addr → Pre} (hq : ∀ d' acts', Q s.heap.size d' acts' (mw_st s c comp 4)) : wp (multianewarray.make c [4, 27]) Q E e d acts s := by
  rw [multianewarray.make]
  simp only [wp_bind', W.ite, show ¬ (4 : Int32) < 0 by decide, if_false, wp_pure', W.theClass, hk, hkind, Option.some.injEq, exists_eq_left', show (4 : Int32).toNatClampNeg = 4 by decide]
  refine mw_newArray hk hkind (by omega) (by show ¬ 4 * 4 > _; omega) rfl rfl (by omega) (by omega) ?_
  rw [mw_out_0 c s.heap.size]
  simp only [show ((4 : Int32) == 0) = false by decide, Bool.false_eq_true, if_false, wp_bind', wp_pure']
  rw [Std.Legacy.Range.forIn_eq_forIn_range']
  show wp (forIn (List.range' 0 4 1) PUnit.unit _) _ E e d acts _
  refine wp_forIn_inv (fun rest s' => ∃ i, i ≤ 4 ∧ rest = List.range' i (4 - i) ∧ s' = mw_st s c comp i) _ _ ⟨0, by omega, rfl, rfl⟩ ?_ ?_
  · rintro x rest s' d' acts' Q' ⟨i, hi, hl2, rfl⟩ hnext
    have hlt : i < 4 := by
      rcases Nat.lt_or_ge i 4 with h | h
      · exact h
      · rw [show 4 - i = 0 from by omega] at hl2; simp at hl2
    obtain ⟨rfl, hrest⟩ : x = i ∧ rest = List.range' (i + 1) (4 - (i + 1)) := by
      rw [show 4 - i = (4 - (i + 1)) + 1 from by omega, List.range'_succ] at hl2
      exact ⟨(List.cons.inj hl2).1, (List.cons.inj hl2).2⟩
    obtain ⟨f1, f2, f3, f4⟩ := mw_facts s c comp x
    obtain ⟨o1, o2, o3⟩ := mw_out_f c s.heap.size x
    simp only [wp_bind']
    rw [multianewarray.make]
    simp only [wp_bind', W.ite, show ¬ (27 : Int32) < 0 by decide, if_false, wp_pure', W.theClass, f3, hkc, hkindc, Option.some.injEq, exists_eq_left', show (27 : Int32).toNatClampNeg = 27 by decide]
    refine mw_newArray (by rw [f3]; exact hkc) hkindc (by omega) (by show ¬ 27 * 4 > _; omega) rfl rfl (by rw [f1]; omega) (by rw [f4]; omega) ?_
    have hlt0 : s.heap.size < (mw_st s c comp x).heap.size := by rw [f1]; omega
    simp only [wp_bind', W.writeLoc, wp_pure']
    refine ⟨mw_out c s.heap.size x, by rw [State.heap_pushCell_of_lt (h := hlt0)]; exact f2, by rw [o2]; simp, by rw [o3]; exact hlt, ?_, hnext _ _ _ ⟨x + 1, hlt, hrest, ?_⟩⟩
    · rw [o1, o2]
      simp [State.fitsSlot, State.slotType?, f3, hk, hkind, fits]
    · rw [f1, mw_out_set]; rfl
  · rintro s' d' acts' ⟨i, hi, hl2, rfl⟩
    have hiN : i = 4 := by
      rcases Nat.lt_or_ge i 4 with h | h
      · rw [show 4 - i = (4 - (i + 1)) + 1 from by omega, List.range'_succ] at hl2; cases hl2
      · omega
    subst hiN
    simp only [wp_pure']
    exact hq _ _
end
section
variable {p : Program} {l : Launch} {e : Env} {R : Room} {s : State} {m : MethodId} {args : Array Value} {below : List Frame} {meth : Method} {c : Code} {H : Heap} {locs : List Loc} {cells slots : Nat} {Q : State → Prop} {cc : ByteArray} {pc : Nat} {ls : Array Slot} {rest : List Value}
def mw_locs (h : Nat) : Nat → List Loc
  | 0 => []
  | i + 1 => mw_locs h i ++ [⟨h, i⟩]
theorem mw_stand {T : State} (X : Stand p l e R s m args below meth c T locs cells slots) (cA comp : ClassId) : ∀ i, Stand p l e R s m args below meth c (mw_st T cA comp i) (locs ++ mw_locs T.heap.size i) (cells + 1 + i) (slots + 4 + i * 27)
  | 0 => by
    have h := X.pushed (mw_out cA T.heap.size 0)
    rw [(mw_out_f cA T.heap.size 0).2.2] at h
    simpa [mw_st, mw_locs] using h
  | i + 1 => by
    have Xi := mw_stand X cA comp i
    obtain ⟨f1, f2, f3, f4⟩ := mw_facts T cA comp i
    have hlt0 : T.heap.size < (mw_st T cA comp i).heap.size := by rw [f1]; omega
    have hcell : ((mw_st T cA comp i).pushCell (mw_in comp)).heap[T.heap.size]? = some (mw_out cA T.heap.size i) := by rw [State.heap_pushCell_of_lt (h := hlt0)]; exact f2
    have h := (Xi.pushed (mw_in comp)).stored hcell i (.ref (T.heap.size + 1 + i))
    rw [show (mw_in comp).slots.size = 27 by simp [mw_in], mw_out_set, List.append_assoc] at h
    rw [show slots + 4 + (i + 1) * 27 = slots + 4 + i * 27 + 27 by omega]
    exact h
theorem mw_multi (hexec : p.tables.exec = Jvm.exec) (hb : c.code = cc) {own : String} {index : Nat} (hown : s.vm.findClass own = some m.cls) (hclink : (Cond.classLink own index "[[I").before args s = true) {cA comp cI : ClassId} {kA kC : Class} (hA1 : s.vm.findClass "[[I" = some cA) (hA2 : s.vm.classes[cA]? = some kA) (hA3 : kA.kind = .array comp (.array .int)) (hC2 : s.vm.classes[comp]? = some kC) (hC3 : kC.kind = .array cI .int)
    (hcells : cells + 5 ≤ R.cells) (hslots : slots + 112 ≤ R.slots) (hdg : decode cc pc = .ok (.multianewarray index 2, 4))
    (kk : ∀ H' : Heap, H'[H.size]? = some (arrV cA 4 (fun j => .ref (H.size + 1 + j))) → (∀ i, i < 4 → H'[H.size + 1 + i]? = some (arrV comp 27 (fun _ => .int 0))) → H'.size = H.size + 5 → (∀ q, q < H.size → H'[q]? = H[q]?) →
      W p l e R s m args below meth c H' (locs ++ mw_locs H.size 4) (cells + 5) (slots + 112) Q (F0 m (pc + 4) ls (.ref H.size :: rest))) : W p l e R s m args below meth c H locs cells slots Q (F0 m pc ls (.int 27 :: .int 4 :: rest)) := by
  intro T hT X
  subst hb
  have hpl : e.platform.magicAccessors = ({} : Platform).magicAccessors := by rw [X.admits.platform]
  obtain ⟨c0, hfc0, hcl⟩ := Cond.classLink_spec hown hclink e.platform hpl
  cases hA1.symm.trans hfc0
  obtain ⟨hg₁, hwarm₁, hready₁⟩ := State.classEntry (e := e) X.warmed hcl
  generalize T.vm.noted m.cls index (.cls cA) = vm₁ at hg₁ hwarm₁ hready₁
  have hal : s.vm.Alike vm₁ := hwarm₁.alike
  obtain ⟨kA₁, hkA₁, heA⟩ := hal.2.2 _ _ hA2
  obtain ⟨kC₁, hkC₁, heC⟩ := hal.2.2 _ _ hC2
  have hkindA₁ : kA₁.kind = .array comp (.array .int) := by rw [heA]; exact hA3
  have hkindC₁ : kC₁.kind = .array cI .int := by rw [heC]; exact hC3
  have X₁ := X.noted hwarm₁
  have XF := mw_stand X₁ cA comp 4
  obtain ⟨hr1, hr2⟩ := X.roomAbove hcells hslots
  obtain ⟨f1, f2, f3, f4⟩ := mw_facts (T.setVm vm₁) cA comp 4
  have e0 : (T.setVm vm₁).heap = H := hT
  have hsz : (T.setVm vm₁).heap.size = H.size := by rw [e0]
  have hTs : T.heap.size = H.size := by rw [hT]
  rw [hsz] at f1 f2
  obtain ⟨t, a1, b1⟩ := kk (mw_st (T.setVm vm₁) cA comp 4).heap (by
      rw [f2]
      unfold mw_out
      congr 1) (fun i hi => by
      have := mw_inner (T.setVm vm₁) cA comp 4 i hi
      rw [hsz] at this
      rw [this]
      unfold mw_in
      rw [arrV_new]) f1 (fun q hq => by
      rw [mw_old (T.setVm vm₁) cA comp (by rw [hsz]; exact hq), e0]) (mw_st (T.setVm vm₁) cA comp 4) rfl (by
      have := XF
      rw [hsz] at this
      exact this)
  refine ⟨t, ?_, b1⟩
  have hl1 : ¬ 27 > e.platform.arrayLengthLimit := by rw [Launch.admits_arrayLengthLimit X.admits]; omega
  have hh1 : ¬ 108 > e.platform.maxHeapBytes := by rw [Launch.admits_maxHeapBytes X.admits]; omega
  jvm_step X.here [hexec, hdg]
  simp only [multianewarray.sem, wp_bind', W.resolveClassAt_links (State.method?_setTop (F0 m pc ls (.int 27 :: .int 4 :: rest)) X.here.top) hg₁]
  rw [W.popN, if_neg (by decide)]
  refine ⟨F0 m pc ls (.int 27 :: .int 4 :: rest), State.topJava?_setTop' (s := T.setVm vm₁) _ X.here.top, [.int 4, .int 27], rest, rfl, rfl, ?_⟩
  simp only [List.mapM_cons, List.mapM_nil, wp_bind', wp_pure']
  refine mw_make (k := kA₁) (kc := kC₁) (comp := comp) (cI := cI) hkA₁ hkindA₁ hkC₁ hkindC₁ hl1 hh1 (by show T.heap.size + 5 ≤ _; omega) (by show T.slotsUsed + 112 ≤ _; omega) (fun d' acts' => ?_)
  have eS : ((T.setTop (F0 m pc ls (.int 27 :: .int 4 :: rest))).setVm vm₁).setTop { F0 m pc ls (.int 27 :: .int 4 :: rest) with stack := rest } = (T.setVm vm₁).setTop { F0 m pc ls (.int 27 :: .int 4 :: rest) with stack := rest } := by
    show ((T.setVm vm₁).setTop _).setTop _ = _
    rw [State.setTop_setTop]
  rw [eS, mw_setTop]
  simp only [wp_bind', W.mark, W.pushRef, State.topJava?_setTop' _ XF.here.top, Option.some.injEq, exists_eq_left', State.setTop_setTop, State.heap_setTop]
  intro acts
  simp [jvm, XF.here.top]
  rw [hTs]
  exact a1
end
