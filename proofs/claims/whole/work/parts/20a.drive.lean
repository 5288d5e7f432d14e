/-! a stretch without branches at a time -/
def sc_Wq (l : Launch) (G : sc_G) (d : Nat) (y : sc_Q) (pc : Nat) (L st : List sc_V) (μ : sc_M) (Post : sc_V → sc_M → Prop) : Prop := sc_Wp l G d y pc L st μ Post
def sc_brn : Instr → Bool
  | .if_icmp _ _ => true
  | .ifCond _ _ => true
  | .tableswitch _ _ _ _ => true
  | .invokevirtual _ => true
  | .invokestatic _ => true
  | _ => false
section SCZ
variable (l : Launch) (G : sc_G) (d : Nat) (y : sc_Q) (t : sc_T) (Post : sc_V → sc_M → Prop)
def sc_gz (f : Nat → List sc_V → List sc_V → sc_M → Prop) (pc : Nat) (L st : List sc_V) (μ : sc_M) : Bool → Option (Instr × Nat × sc_X × Bool) → Prop
  | _, none => False
  | _, some (_, _, _, true) => sc_Wp l G d y pc L st μ Post
  | true, some (_, _, _, false) => sc_Wq l G d y pc L st μ Post
  | false, some (_, _, _, false) => f pc L st μ
def sc_dz (f : Nat → List sc_V → List sc_V → sc_M → Prop) (pc : Nat) (L st : List sc_V) (μ : sc_M) : Option (Instr × Nat × sc_X × Bool) → Prop
  | none => False
  | some (ins, len, ax, _) => sc_stp l G d y Post pc ax L st μ (fun L st μ => sc_gz l G d y Post f (pc + len) L st μ (sc_brn ins) (sc_lk t (pc + len))) (fun tg L st μ => sc_gz l G d y Post f tg L st μ (sc_brn ins) (sc_lk t tg)) ins
def sc_wz : Nat → Nat → List sc_V → List sc_V → sc_M → Prop
  | 0, _, _, _, _ => False
  | n + 1, pc, L, st, μ => sc_dz l G d y t Post (sc_wz n) pc L st μ (sc_lk t pc)
end SCZ
theorem sc_wz_ok {l : Launch} {G : sc_G} {d : Nat} {y : sc_Q} {t : sc_T} {Post : sc_V → sc_M → Prop} (hok : sc_ok y t = true) : ∀ (n pc : Nat) (L st : List sc_V) (μ : sc_M), sc_wz l G d y t Post n pc L st μ → sc_Wp l G d y pc L st μ Post := by
  simp only [sc_ok, Bool.and_eq_true] at hok
  obtain ⟨hall, -⟩ := hok
  intro n
  induction n with
  | zero => intro pc L st μ h; exact h.elim
  | succ n ih =>
    intro pc L st μ h
    have go : ∀ (b : Bool) (pc : Nat) (L st : List sc_V) (μ : sc_M), sc_gz l G d y Post (sc_wz l G d y t Post n) pc L st μ b (sc_lk t pc) → sc_Wp l G d y pc L st μ Post := by
      intro b pc L st μ h
      cases hk : sc_lk t pc with
      | none => rw [hk] at h; cases b <;> exact h.elim
      | some x =>
        rw [hk] at h
        obtain ⟨ins, len, ax, cf⟩ := x
        cases cf with
        | true => cases b <;> exact h
        | false =>
          cases b with
          | true => exact h
          | false => exact ih pc L st μ h
    unfold sc_wz at h
    cases hk : sc_lk t pc with
    | none => rw [hk] at h; exact h.elim
    | some x =>
      rw [hk] at h
      obtain ⟨ins, len, ax, cf⟩ := x
      have hck := List.all_eq_true.mp hall _ (sc_lk_mem t pc _ hk)
      simp only [sc_ck, Bool.and_eq_true, decide_eq_true_eq] at hck
      exact sc_stp_ok hck.1 hck.2 (fun L st μ h => go _ _ L st μ h) (fun tg L st μ h => go _ _ L st μ h) h
theorem sc_ru {l : Launch} {G : sc_G} {d : Nat} {y : sc_Q} {t : sc_T} {Post : sc_V → sc_M → Prop} (hok : sc_ok y t = true) (n : Nat) {pc : Nat} {L st : List sc_V} {μ : sc_M} (h : sc_wz l G d y t Post n pc L st μ) : sc_Wq l G d y pc L st μ Post := sc_wz_ok hok n pc L st μ h
theorem sc_rp {l : Launch} {G : sc_G} {d : Nat} {y : sc_Q} {pc : Nat} {L st : List sc_V} {μ : sc_M} {Post : sc_V → sc_M → Prop} (h : sc_Wq l G d y pc L st μ Post) : sc_Wp l G d y pc L st μ Post := h
theorem sc_psh_i (x : Int) (st : List sc_V) : sc_psh (.inl x) st = .inl x :: st := rfl
theorem sc_psh_j (x : Int) (st : List sc_V) : sc_psh (.inr (.inl x)) st = .inr (.inl x) :: st := rfl
theorem sc_psh_r (x : Nat) (st : List sc_V) : sc_psh (.inr (.inr (.inl x))) st = .inr (.inr (.inl x)) :: st := rfl
theorem sc_psh_u (st : List sc_V) : sc_psh (.inr (.inr (.inr ()))) st = st := rfl
/-- one instruction -/
theorem sc_st1 {l : Launch} {G : sc_G} {d : Nat} {y : sc_Q} {t : sc_T} {Post : sc_V → sc_M → Prop} (hok : sc_ok y t = true) {pc : Nat} {L st : List sc_V} {μ : sc_M} (h : sc_dz l G d y t Post (fun pc L st μ => sc_Wq l G d y pc L st μ Post) pc L st μ (sc_lk t pc)) : sc_Wq l G d y pc L st μ Post := by
  simp only [sc_ok, Bool.and_eq_true] at hok
  obtain ⟨hall, -⟩ := hok
  have go : ∀ (b : Bool) (pc : Nat) (L st : List sc_V) (μ : sc_M), sc_gz l G d y Post (fun pc L st μ => sc_Wq l G d y pc L st μ Post) pc L st μ b (sc_lk t pc) → sc_Wp l G d y pc L st μ Post := by
    intro b pc L st μ h
    cases hk : sc_lk t pc with
    | none => rw [hk] at h; cases b <;> exact h.elim
    | some x =>
      rw [hk] at h
      obtain ⟨ins, len, ax, cf⟩ := x
      cases cf with
      | true => cases b <;> exact h
      | false => cases b <;> exact h
  cases hk : sc_lk t pc with
  | none => rw [hk] at h; exact h.elim
  | some x =>
    rw [hk] at h
    obtain ⟨ins, len, ax, cf⟩ := x
    have hck := List.all_eq_true.mp hall _ (sc_lk_mem t pc _ hk)
    simp only [sc_ck, Bool.and_eq_true, decide_eq_true_eq] at hck
    exact sc_stp_ok hck.1 hck.2 (fun L st μ h => go _ _ L st μ h) (fun tg L st μ h => go _ _ L st μ h) h
