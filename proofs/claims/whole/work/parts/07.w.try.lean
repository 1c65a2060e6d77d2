/-! ===== methods that may throw, as functions of the memory ===== -/
def q_try {α β : Type} (p : (α ⊕ Nat) × am_M) (f : α → am_M → Option ((β ⊕ Nat) × am_M)) : Option ((β ⊕ Nat) × am_M) := match p.1 with
  | .inr k => some (.inr k, p.2)
  | .inl v => f v p.2
def am_rU : Unit ⊕ Nat → am_R := fun r => match r with
  | .inl _ => .inl none
  | .inr k => .inr k
def am_rI : Int32 ⊕ Nat → am_R := fun r => match r with
  | .inl v => .inl (some (.int v))
  | .inr k => .inr k
theorem aw_cSx {u : am_U} {R : Room} {ce sl pc : Nat} {ls : List (Nat × Value)} {st : List Value} {M M1 : am_M} {post : am_R → am_M → Prop} {y : MethodName} {u' : am_U} {R' : Room} {As rest : List Value} {idx n k : Nat} (hd : decode u.2.2.1 pc = .ok (.invokestatic idx, 3)) (hw : am_kS u.1 idx y u' n) (hrm : am_rm R R' u' ce sl) (hA : As.length = n) (hst : As.reverse ++ rest = st) (hro : (rest.map fun v => v.category).sum ≤ 8) (hM : AMet y u' R' As M (fun r M' => r = .inr k ∧ M' = M1))
    (hh : u.2.2.2.2.2 = []) (hp : post (.inr k) M1) : AW u R ce sl pc ls st M post := by
  refine aw_callS hd hw hrm hM hA hst hro (fun k' M' h => ?_) (fun w M' h => by cases h.1)
  obtain ⟨h1, rfl⟩ := h
  cases h1
  exact ⟨hh, hp⟩
