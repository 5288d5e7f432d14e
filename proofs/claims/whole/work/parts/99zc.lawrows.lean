-- ===== end of PART A; then your names; then what follows =====
/-! THE CLAIM OUT OF ONE WALK OF THE LAW'S BODY. Your part is whole_start (and what it stands on); all else here is the same for every law, but numbers. -/
def R_law : String := "SightChartLaw"
def lw_P (b : Addr) (xs : List Int32) (args : Array Value) (s : State) : Prop := args = #[.ref b] ∧ s.IntsAt b xs ∧ xs.length ≤ 3072 ∧ (Jvm.Cond.and given_1 narrow_1).before args s = true
def lw_Q (_ : Array Value) (s : State) (o : Outcome) (t : State) : Prop := o = .returned (some (.int 1)) ∧ Framed s o t [] 600000 7302250
def lw_Z (below : List Frame) (a : Array Value) (s : State) : State → Prop := fun t => ∃ o, t.status = .running ∧ Ended t below o ∧ lw_Q a s o t
/-- the law's own end, with 1 on the stack, nothing written that was there before, its room as the claim has it -/
theorem lw_ret {p : Program} {l : Launch} {e : Env} {s : State} {m : MethodId} {below : List Frame} {meth : Method} {c : Code} {b : Nat} (hx : p.tables.exec = Jvm.exec) (hb : c.code = code) (hr : meth.sig.returnType = ret) (hlocks : meth.locks = false) {pc : Nat} {H : Heap} {ls : Array Slot} (hdg : decode code pc = .ok (.ireturn, 1)) : W p l e room_1 s m #[Value.ref b] below meth c H [] 600000 7302250 (lw_Z below #[Value.ref b] s) (F0 m pc ls [.int 1]) := by
  intro T hT X
  obtain ⟨fs, hret, hrun, hended, hW, hframe⟩ := X.leave (v := some (.int 1)) (hlocks := hlocks) (fun h => by rw [hr] at h; cases h)
  have hmeth' : T.vm.method? m = some meth := X.method'
  refine ⟨T.setFrames fs, ?_, .returned (some (.int 1)), hrun, hended, rfl, ⟨_, rfl⟩, hW, hframe⟩
  jvm_step X.here [X.here.top, hx, hb, hdg, hmeth', hr, ret, narrow_b1]
  (try refine ⟨rfl, ?_⟩); (try refine ⟨rfl, ?_⟩)
  first | (intro acts; rw [hret _ acts rfl rfl rfl]) | rw [hret _ _ rfl rfl rfl]
  exact Steps.refl _
/-- what holds at the law's entry: the machine, the code, the tables' words (any of lw_tbl by 'hts w (by decide +kernel)'), the script of L ints xs at the cell b, what the Statement gives of the start (any of its parts by flat_of_before) -/
def lw_At (p : Program) (s : State) (m : MethodId) (meth : Method) (c : Code) (b L : Nat) (xs : Nat → Int32) : Prop :=
  p.tables.exec = Jvm.exec ∧ c.code = code ∧ meth.sig.returnType = ret ∧ c.maxLocals = 4 ∧ s.vm.findClass R_law = some m.cls ∧ (∀ w ∈ lw_tbl, w.before #[Value.ref b] s = true) ∧ va_X b L xs s s.heap ∧ b < s.heap.size ∧ meth.locks = false ∧ (Jvm.Cond.and given_1 narrow_1).before #[Value.ref b] s = true

def lw_W (p : Program) (l : Launch) (e : Env) (s : State) (m : MethodId) (below : List Frame) (meth : Method) (c : Code) (b : Nat) (G : sc_G) (i : Nat) (μ : sc_M) (pc : Nat) (st : List Value) : Prop := ∀ (H : Heap) (locs : List Loc) (ls : Array Slot), va_P G.1 vwCl (sc_w G μ) H → va_S (fun q : Nat => s.heap.size ≤ q) s.heap H locs → lv_has ls 4 [(3, .int (Int32.ofInt (i : Int))), (2, .ref (G.2.2 18)), (1, .ref (G.2.2 0)), (0, .ref b)] → W p l e room_1 s m #[Value.ref b] below meth c H locs 70 6231 (lw_Z below #[Value.ref b] s) (F0 m pc ls st)
def lw_G (G : sc_G) (s : State) : Prop := sc_K G s ∧ ∀ a, a < 70 → s.heap.size ≤ G.2.2 a
theorem lw_hg {p : Program} {s : State} {m : MethodId} {meth : Method} {c : Code} {b L : Nat} {xs : Nat → Int32} (C : lw_At p s m meth c b L xs) : ∀ w ∈ sc_gw, w.before #[Value.ref b] s = true := fun w h => C.2.2.2.2.2.1 w (List.mem_filter.mp h).1
section
variable {p : Program} {l : Launch} {e : Env} {s : State} {m : MethodId} {below : List Frame} {meth : Method} {c : Code} {b L : Nat} {xs : Nat → Int32} {G : sc_G} {i : Nat} {μ : sc_M} {pc : Nat} {st : List Value}
theorem lw_aload1 (C : lw_At p s m meth c b L xs) (hd : decode code pc = .ok (.aload_n 1, 1)) (k : lw_W p l e s m below meth c b G i μ (pc + 1) (.ref (G.2.2 0) :: st)) : lw_W p l e s m below meth c b G i μ pc st := fun H locs ls hP hS hl => lv_aload_n C.1 C.2.1 hd rfl (lv_at hl 2 rfl) (k H locs ls hP hS hl)
theorem lw_aload2 (C : lw_At p s m meth c b L xs) (hd : decode code pc = .ok (.aload_n 2, 1)) (k : lw_W p l e s m below meth c b G i μ (pc + 1) (.ref (G.2.2 18) :: st)) : lw_W p l e s m below meth c b G i μ pc st := fun H locs ls hP hS hl => lv_aload_n C.1 C.2.1 hd rfl (lv_at hl 1 rfl) (k H locs ls hP hS hl)
theorem lw_vin {j L : Nat} (hj : j < L) (hL : L ≤ 3072) : sc_in (j : Int) ∧ vp_in (Int32.ofInt (j : Int)) L := by
  have hi : sc_in (j : Int) := ⟨by omega, by omega⟩
  refine ⟨hi, fun h => ?_⟩
  rcases h with h | h
  · rw [sc_neg0 hi] at h; omega
  · rw [sc_clamp hi] at h; omega
theorem lw_arg (C : lw_At p s m meth c b L xs) (hL : L ≤ 3072) (j : Nat) (hj : i + j < L) (h0 : decode code pc = .ok (.aload_n 0, 1)) (h1 : decode code (pc + 1) = .ok (.iload_n 3, 1)) (h2 : decode code (pc + 2) = .ok (.iconst (j : Int), 1)) (h3 : decode code (pc + 3) = .ok (.iadd, 1)) (h4 : decode code (pc + 4) = .ok (.iaload, 1)) (k : lw_W p l e s m below meth c b G i μ (pc + 5) (.int (Int32.ofInt (xs (i + j)).toInt) :: st)) : lw_W p l e s m below meth c b G i μ pc st := by
  intro H locs ls hP hS hl
  obtain ⟨hx, hb, -, -, -, -, hX, hbl, -, -⟩ := C
  have k := k H locs ls hP hS hl
  obtain ⟨f1, f2⟩ := lw_vin hj hL
  refine lv_aload_n hx hb h0 rfl (lv_at hl 3 rfl) ?_
  refine lv_iload_n hx hb h1 rfl (lv_at hl 0 rfl) ?_
  refine lv_iconst (v := Int32.ofInt (j : Int)) hx hb h2 rfl ?_
  refine lv_iadd hx hb h3 ?_
  rw [← Int32.ofInt_add, show (i : Int) + (j : Int) = ((i + j : Nat) : Int) from rfl]
  refine va_sld (A := fun q : Nat => s.heap.size ≤ q) hx hb hX hbl (by show ¬ s.heap.size ≤ b; omega) hS f2 h4 ?_
  rw [sc_clamp f1, Int.toNat_natCast]
  rw [Int32.ofInt_toInt] at k
  exact k
theorem lw_bool (C : lw_At p s m meth c b L xs) {X : Int} (hX : sc_in X) (h0 : decode code pc = .ok (.ifCond .eq 7, 3)) (h3 : decode code (pc + 3) = .ok (.iconst 1, 1)) (h4 : decode code (pc + 4) = .ok (.goto 4, 3)) (h7 : decode code (pc + 7) = .ok (.iconst 0, 1)) (k : lw_W p l e s m below meth c b G i μ (pc + 8) (.int (Int32.ofInt (if X = 0 then 0 else 1)) :: st)) : lw_W p l e s m below meth c b G i μ pc (.int (Int32.ofInt X) :: st) := by
  intro H locs ls hP hS hl
  have k := k H locs ls hP hS hl
  obtain ⟨hx, hb, -⟩ := C
  refine lv_if_eq (tgt := pc + 7) hx hb h0 (by omega) (fun q => ?_) (fun q => ?_)
  · rw [sc_z32, sc_ieq hX sc_zero] at q
    rw [if_pos q] at k
    exact lv_iconst hx hb h7 rfl k
  · rw [sc_z32, sc_ieq hX sc_zero] at q
    rw [if_neg q] at k
    exact lv_iconst hx hb h3 rfl (lv_goto (tgt := pc + 8) hx hb h4 (by omega) k)
theorem lw_cmpI (C : lw_At p s m meth c b L xs) {v : Int32} {off : Int} (hd : decode code pc = .ok (.if_icmp .eq off, 3)) (ht : (pc : Int) + off = ((1208 : Nat) : Int)) (k : lw_W p l e s m below meth c b G i μ 1208 []) : lw_W p l e s m below meth c b G i μ pc [.int v, .int v] := fun H locs ls hP hS hl => lv_icmp_eq (tgt := 1208) C.1 C.2.1 hd ht (fun _ => k H locs ls hP hS hl) (fun q => absurd rfl q)
theorem lw_cmp0 (v : Int64) : lg_cmp v v = 0 := by
  have h1 : ¬ v < v := by
    rw [Int64.lt_iff_toInt_lt]
    omega
  simp [lg_cmp]
theorem lw_cmpJ (C : lw_At p s m meth c b L xs) {v : Int64} {off : Int} (hd : decode code pc = .ok (.lcmp, 1)) (hd2 : decode code (pc + 1) = .ok (.ifCond .eq off, 3)) (ht : ((pc + 1 : Nat) : Int) + off = ((1208 : Nat) : Int)) (k : lw_W p l e s m below meth c b G i μ 1208 []) : lw_W p l e s m below meth c b G i μ pc [.long v, .long v] := fun H locs ls hP hS hl => W.lcmp C.1 C.2.1 hd (by
    rw [lw_cmp0]
    exact lv_if_eq (tgt := 1208) C.1 C.2.1 hd2 ht (fun _ => k H locs ls hP hS hl) (fun q => absurd rfl q))
theorem lw_rr (G : sc_G) (r : sc_V) : ((((sc_rr G r).toList ++ []).map fun v : Value => v.category).sum) ≤ 8 := by
  rcases r with r | r | r | r <;> simp [sc_rr, sc_rv, Value.category]
theorem lw_call (C : lw_At p s m meth c b L xs) (hG : lw_G G s) {q : sc_Q} (as : List sc_V) {b9 cN idx : Nat} {r : vw_C} {P1 : sc_V → sc_M → Prop} {st0 : List Value} (hd : decode code pc = .ok (.invokevirtual idx, 3)) (hl : Cond.methodLink "SightChartLaw" idx q.1 ∈ sc_gw) (hi : Cond.instanceMethod q.1 ∈ sc_gw) (hsel : Cond.selects q.1.cls q.1 q.1 ∈ sc_gw) (hini : Cond.initialized q.1.cls ∈ sc_gw)
    (hn : q.1.cls ≠ "java/lang/invoke/MethodHandle" ∧ q.1.cls ≠ "java/lang/invoke/VarHandle" ∧ (parseMethodDescriptor q.1.desc).map (fun d => d.parameters.length) = some as.length) (hmax : q.2.2.1 ≤ 17) (hq : vwCl[cN]? = some r) (hcls : r.1 = q.1.cls) (hb9 : (sc_kd b9).1 = cN + 5) (hst : st0 = (as.map (sc_rv G)).reverse ++ .ref (G.2.2 b9) :: st) (hcat : (st.map fun v => v.category).sum ≤ 8)
    (hsp : sc_Sp l G 8 q (.inr (.inr (.inl b9)) :: as) μ P1) (kk : ∀ r μ1, P1 r μ1 → lw_W p l e s m below meth c b G i μ1 (pc + 3) ((sc_rr G r).toList ++ st)) : lw_W p l e s m below meth c b G i μ pc st0 := by
  intro H locs ls hP hS hll
  subst hst
  have hg := lw_hg C
  obtain ⟨hx, hb, -, hml, hown, -⟩ := C
  obtain ⟨hm, hM⟩ := hsp
  obtain ⟨hK, hGA⟩ := hG
  have hb7 := sc_obj_lt (sc_cl_ok hq).1 hb9
  have he := sc_w_at G μ hb7
  rw [sc_cel_obj G μ hb9] at he
  have hrc := va_recv hK.2 hP hq he
  rw [hcls] at hrc
  obtain ⟨f1, f2⟩ := sc_pre (μ := μ) hK hP ((.inr (.inr (.inl b9)) :: as).map (sc_rv G))
  have hrun := va_runV (l := l) (R := room_1) (p := p) (e := e) (below := below) (meth := meth) (locs := locs) (cells := 70) (slots := 6231) (rest := st) (g := F0 m pc ls ((as.map (sc_rv G)).reverse ++ .ref (G.2.2 b9) :: st)) (Ts := sc_gw) (own := "SightChartLaw") (C := q.1.cls) (b := G.2.2 b9) (As := as.map (sc_rv G)) (n := as.length) ⟨hx, hb, hml, hown, hg⟩ hM ⟨callB_of as.length hg (ck_good hm) rfl rfl rfl (hg _ hini) (hg _ hl) hn ⟨by show 8 + 1 ≤ 10; omega, by show 8 + (q.2.2.1 + 11) + 288 ≤ 366; omega⟩, hg _ hi, hg _ hsel⟩ ⟨f1, hrc, f2⟩ rfl (by simp) hll.1 rfl (lv_room hcat) hd ⟨by show 70 + 0 ≤ 600000; omega, by show 6231 + 0 ≤ 7302250; omega⟩
  intro T hT X
  obtain ⟨v, st₀, t, T', L9, h0, X', hL9, e1, e2, ⟨⟨r1, μ1, hv, hp, hw⟩, hz, hk⟩, stp⟩ := hrun T hT X
  rw [h0] at hz hk
  have hv1 : v = sc_rr G r1 := by cases hv; rfl
  subst hv1
  have hA9 : ∀ q, sc_A G q → s.heap.size ≤ q := fun q ⟨a, ha, haq⟩ => haq ▸ hGA a ha
  have hS1 : va_S (fun q : Nat => s.heap.size ≤ q) s.heap T'.heap (locs ++ L9) := ⟨Nat.le_trans hS.1 (by rw [e1]; exact hz), fun q h1 h2 => by rw [e1, hk q (Nat.lt_of_lt_of_le h1 hS.1) (fun h9 => h2 (hA9 q h9))]; exact hS.2.1 q h1 h2, fun q hq => by
      rcases List.mem_append.mp hq with h | h
      · exact hS.2.2 q h
      · exact hA9 _ (hL9 q h)⟩
  obtain ⟨t2, a1, b1⟩ := kk r1 μ1 hp T'.heap (locs ++ L9) ls (by rw [e1]; exact hw) hS1 hll T' rfl X'
  exact ⟨t2, stp t2 a1, b1⟩
end
/-- all in order as the two begin -/
theorem ck_iv : iv_ok ck_0 0 := by
  have z : ∀ a k, a ≠ 0 → a ≠ 2 → a ≠ 16 → a ≠ 18 → a ≠ 33 → ck_0 a k = 0 := fun a k h0 h2 h16 h18 h33 => by
    unfold ck_0
    rw [if_neg h0, if_neg h2, if_neg h16, if_neg h18, if_neg h33]
  have zN : ∀ n k, ck_0 (40 + 3 * n) k = 0 := fun n k => z _ k (by omega) (by omega) (by omega) (by omega) (by omega)
  have w0 : mo_w ck_0 0 := ⟨by omega, rfl, fun n hn => absurd hn (Nat.not_lt_zero _), by show (1 : Int) ≤ 243; omega, ⟨⟨by decide, by decide⟩, fun k hk => absurd hk (Nat.not_lt_zero _)⟩⟩
  refine ⟨⟨w0, ⟨fun n hn => absurd hn (Nat.not_lt_zero _), fun n hn => absurd hn (Nat.not_lt_zero _), fun n hn => absurd hn (Nat.not_lt_zero _), fun n hn => absurd hn (Nat.not_lt_zero _)⟩, rfl, ⟨⟨by omega, rfl, fun n hn => ?_⟩, rfl, fun n hn => absurd hn (Nat.not_lt_zero _)⟩, fun n hn => absurd hn (Nat.not_lt_zero _), fun n _ _ => ⟨zN n 4, zN n 5⟩⟩, ⟨rfl, rfl, rfl, rfl, fun k _ => ?_⟩, ⟨fun i => ?_, fun i => ?_, fun r hr => ?_, fun r hr i hi => ?_⟩, ⟨fun i => ?_, fun i _ => z 30 i (by omega) (by omega) (by omega) (by omega) (by omega), fun i _ => z 29 i (by omega) (by omega) (by omega) (by omega) (by omega)⟩⟩
  · unfold sc_nd
    rw [zN, zN, zN, zN, zN, zN, zN]
    exact ⟨sc_zero, sc_zero, sc_zero, sc_zero, sc_zero, ⟨by omega, by omega⟩, sc_zero, fun k hk => absurd hk (Nat.not_lt_zero _)⟩
  · rw [z 17 k (by omega) (by omega) (by omega) (by omega) (by omega), z 19 k (by omega) (by omega) (by omega) (by omega) (by omega)]
  · show -9 ≤ (if i < 4 then (-9 : Int) else 0) ∧ (if i < 4 then (-9 : Int) else 0) ≤ 27
    split <;> omega
  · rw [z 34 i (by omega) (by omega) (by omega) (by omega) (by omega)]
    exact sc_zero
  · show (if r < 4 then (-1 : Int) else 0) = if (if r < 4 then (-9 : Int) else 0) < 0 then -1 else (if r < 4 then (-9 : Int) else 0)
    rw [if_pos hr, if_pos hr, if_pos (by omega)]
  · rw [z (36 + r) i (by omega) (by omega) (by omega) (by omega) (by omega), z 34 _ (by omega) (by omega) (by omega) (by omega) (by omega)]
  · rw [z 28 i (by omega) (by omega) (by omega) (by omega) (by omega)]
    exact sc_zero
