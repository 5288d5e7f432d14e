/-- as Met.ofW, of a method of a class of which others are run by the machine itself -/
theorem sc_ofW {l : Launch} {y : MethodName} {ws ws' : List Cond} {rm : Room} {Pc : Array Value → State → Prop} {Qc : Array Value → State → Outcome → State → Prop} {mc ms : Nat} {free : Addr → Prop} {cc : ByteArray} {maxL : Nat} {ret : Option FieldType}
    (hy : plainFor y = true) (hw : ws = Cond.code y cc maxL ret :: ws')
    (body : ∀ p e s m args below meth c s₁, BodyLoose p l y (headSpec ws rm) cc maxL ret e s m args below meth c s₁ → c.maxLocals = maxL → Pc args s →
      W p l e (headSpec ws rm).room s m args below meth c s.heap [] 0 0 (MQ below Qc args s mc ms free) (entryFrame m args maxL)) : Met l y ws rm Pc Qc mc ms free := by
  refine MetFree.of_bodySF (code := cc) (maxLocals := maxL) (ret := ret) hy ?_ ?_
  · intro args s m h hn
    obtain ⟨meth, c, h1, h2, h3, h4, h5, h6, -, -⟩ := Cond.code_spec hn (atoms_spec (ws := ws) h _ (by rw [hw]; exact List.mem_cons_self))
    exact ⟨meth, c, h1, h2, h3, h4, h5, h6⟩
  · intro p e s m args below meth c s₁ B hml hP _
    have hh0 : s₁.heap = s.heap := by rw [B.state]; rfl
    obtain ⟨t, a1, o, b1, b2, b3⟩ := body p e s m args below meth c s₁ B hml hP s₁ hh0 (Stand.of_body B)
    exact ⟨t, o, a1, b1, b2, ⟨b3.1, b3.2⟩⟩
theorem sc_enterF {l : Launch} {G : sc_G} {d : Nat} {y : sc_Q} {as : List sc_V} {μ : sc_M} {Post : sc_V → sc_M → Prop} (hm : Cond.code y.1 y.2.1 y.2.2.1 y.2.2.2 ∈ sc_gw) (hy : plainFor y.1 = true) (L : List sc_V) (hL : sc_pad (sc_ent as) y.2.2.1 = L) (hn : ((sc_ent as).length.ble y.2.2.1) = true)
    (h : sc_Wp l G d y 0 L [] μ Post) : sc_Sp l G d y as μ Post := by
  have hn := Nat.le_of_ble_eq_true hn
  rw [← hL] at h
  refine ⟨hm, sc_ofW (cc := y.2.1) (maxL := y.2.2.1) (ret := y.2.2.2) hy rfl ?_⟩
  intro p e s m args below meth c s₁ B hml hv
  obtain ⟨rfl, hP, hK⟩ := hv
  have hts := atoms_spec (ws := sc_ws y) B.pre
  have hl := lv_entry (as.map (sc_rv G)) (n := y.2.2.1) (by rw [← sc_ent_len]; exact hn)
  rw [lg_entry_eq]
  generalize (lg_sl (as.map (sc_rv G)) ++ List.replicate (y.2.2.1 - (lg_sl (as.map (sc_rv G))).length) Slot.unset).toArray = ls at hl ⊢
  refine h p e s m _ below meth c s.heap [] ls ⟨B.exec, B.bytes, B.returns, hml, findClass_of_methodNamed B.named, B.notSynchronized, fun w hw => hts w (List.mem_cons_of_mem _ hw), hK⟩ hP va_S.rf ⟨hl.1, hl.2.1, ?_, fun i v hi hv => ?_⟩
  · simp [sc_pad]; omega
  · have h9 : (sc_ent as)[i]? = some v := by
      unfold sc_pad at hi
      by_cases h1 : i < (sc_ent as).length
      · rw [List.getElem?_append_left h1] at hi; exact hi
      · rw [List.getElem?_append_right (by omega), List.getElem?_replicate] at hi
        split at hi
        · exact absurd (Option.some.inj hi).symm hv
        · cases hi
    have := sc_ent_at G as 0 i v h9 hv
    rw [Nat.zero_add] at this
    exact hl.2.2 _ this
