/-! ===== the memory of the system apart from where its cells lie; the judgement AW of a frame over it ===== -/
/-- a memory: how many cells; of each its kind and size ((0, class) or (array type + 1, length)); its whole numbers, its longs, its references (to numbers of cells); how many throwables were made beside -/
abbrev am_M : Type := Nat × (Nat → Nat × Nat) × (Nat → Nat → Int32) × (Nat → Nat → Int64) × (Nat → Nat → Option Nat) × Nat
abbrev am_n (M : am_M) : Nat := M.1
abbrev am_s (M : am_M) : Nat → Nat × Nat := M.2.1
abbrev am_i (M : am_M) : Nat → Nat → Int32 := M.2.2.1
abbrev am_l (M : am_M) : Nat → Nat → Int64 := M.2.2.2.1
abbrev am_r (M : am_M) : Nat → Nat → Option Nat := M.2.2.2.2.1
abbrev am_x (M : am_M) : Nat := M.2.2.2.2.2
/-- where things are: numbers of the classes, places of fields, numbers of array classes, the first cell's address, addresses of what was there before -/
abbrev am_G : Type := (Nat → ClassId) × (Nat → Nat → Nat) × (Nat → ClassId) × Nat × (Nat → Nat)
abbrev am_b (G : am_G) : Nat := G.2.2.2.1
def am_CB : Nat := 1000000
def am_a (G : am_G) (i : Nat) : Nat := if i < am_CB then am_b G + i else G.2.2.2.2 (i - am_CB)
def am_v (G : am_G) (v : Value) : Value := match v with
  | .ref i => .ref (am_a G i)
  | v => v
theorem am_v_cat (G : am_G) (v : Value) : (am_v G v).category = v.category := by cases v <;> rfl
def am_fv (G : am_G) (M : am_M) (i : Nat) (ty : FieldType) (k : Nat) : Value := match ty with
  | .long => .long (am_l M i k)
  | .object _ => va_rf ((am_r M i k).map (am_a G))
  | .array _ => va_rf ((am_r M i k).map (am_a G))
  | _ => .int (am_i M i k)
/-- the array types -/
def am_aty : Nat → FieldType := fun j => match j with
  | 0 => .int
  | 1 => .long
  | 2 => .boolean
  | 3 => .object "CrewOffice$Clock"
  | 4 => .object "CrewOffice$Leg"
  | 5 => .object "CrewOffice$Member"
  | 6 => .object "CrewOffice$Work"
  | _ => .array .int
def am_tys (G : am_G) : List (ClassId × FieldType) := (List.range 8).map (fun j => (G.2.2.1 j, am_aty j))
theorem am_tys_get (G : am_G) {j : Nat} (h : j < 8) : (am_tys G)[j]? = some (G.2.2.1 j, am_aty j) := by simp [am_tys, h]
def am_K (G : am_G) (U : State) : Prop := va_K (G.1, G.2.1) am_cl (am_tys G) U
def am_at (G : am_G) (M : am_M) (i : Nat) (H : Heap) : Prop := match (am_s M i).1 with
  | 0 => (am_s M i).2 < 11 ∧ t_OB (am_a G i) (G.1 (am_s M i).2) (am_N (am_s M i).2) (G.2.1 (am_s M i).2) H (fun k => am_fv G M i (am_ty (am_s M i).2 k) k)
  | j + 1 => j < 8 ∧ H[am_a G i]? = some (arrV (G.2.2.1 j) (am_s M i).2 (fun k => am_fv G M i (am_aty j) k))
def am_P (G : am_G) (M : am_M) (H : Heap) : Prop := H.size = am_b G + am_n M + am_x M ∧ am_n M ≤ am_CB ∧ ∀ i, i < am_n M → am_at G M i H
/-- which cells the system may write -/
abbrev am_A (G : am_G) : Nat → Prop := fun q => am_b G ≤ q
theorem am_a_lt {G : am_G} {i : Nat} (h : i < am_CB) : am_a G i = am_b G + i := if_pos h
/-- what is there before: three arrays of the class, named by its static fields -/
def am_kn : Nat → String := fun j => match j with
  | 0 => "LEAST_VALUES"
  | 1 => "MOST_VALUES"
  | _ => "FIRST_VALUES"
def am_kv : Nat → Nat → Int32 := fun j k => match j with
  | 0 => ([0, 0, 0, 120, 0, 1, 1, 60, 0, 0, 0] : List Int32).getD k 0
  | 1 => ([120, 120, 180, 900, 900, 8, 8, 20160, 10000, 1, 20000] : List Int32).getD k 0
  | _ => ([60, 30, 30, 300, 600, 4, 3, 4320, 200, 1, 6000] : List Int32).getD k 0
def am_X : Nat → String := fun k => match k with
  | 0 => "java/lang/IllegalArgumentException"
  | 1 => "java/util/NoSuchElementException"
  | _ => "java/lang/IllegalStateException"
/-- the throwables' texts, entries of the class's pool -/
def am_tx : Nat → Nat × String := fun k => match k with
  | 0 => (234, "an argument is out of its bounds")
  | 1 => (241, "there is none such")
  | _ => (246, "not in this state")
/-- a static reference that nobody writes -/
def am_sf (A : Nat → Prop) (C n d : String) (U : State) : Prop := (Cond.laysStatic C n d).before #[] U = true ∧ (Cond.isRef (.static C n d)).before #[] U = true ∧ ∀ (c : ClassId) (k : Class) (i : Nat) (f : Field) (a : Nat), U.fieldFound? C n d = some (c, k, i, f) → k.statics = some a → ¬ A a
/-- what else is there before: Throwable's two statics, the throwables' texts, the array classes of the system's own classes -/
def am_Y (G : am_G) (U : State) : Prop :=
  am_sf (am_A G) "java/lang/Throwable" "UNASSIGNED_STACK" "[Ljava/lang/StackTraceElement;" U ∧ am_sf (am_A G) "java/lang/Throwable" "SUPPRESSED_SENTINEL" "Ljava/util/List;" U ∧
  (∀ k, k < 3 → ∃ a, vk_R "CrewOffice" (am_tx k).1 (am_tx k).2 a U) ∧ (∀ C ∈ ["CrewOffice$Clock", "CrewOffice$Leg", "CrewOffice$Member", "CrewOffice$Work"], va_AO C U) ∧ (∀ a b, a < 3 → b < 3 → a ≠ b → va_Nc (am_X a) (am_X b) U) ∧ (Cond.arrayOver (.array .int)).before #[] U = true
def am_Z (G : am_G) (U : State) (H : Heap) : Prop := am_Y G U ∧ ∀ j, j < 3 → va_Z "CrewOffice" (am_kn j) "[I" (.ref (G.2.2.2.2 j)) (am_A G) U H ∧ va_T .int (G.2.2.2.2 j) 11 (fun k => .int (am_kv j k)) (am_A G) U H
/-- a method's own: class, name, code, locals, what it returns, its handlers -/
abbrev am_U : Type := String × String × ByteArray × Nat × Option FieldType × List (Nat × Nat × Nat × Nat)
def am_F (u : am_U) (p : Program) (s : State) (m : MethodId) (args : Array Value) (meth : Method) (c : Code) : Prop :=
  p.tables.exec = Jvm.exec ∧ c.code = u.2.2.1 ∧ c.maxLocals = u.2.2.2.1 ∧ s.vm.findClass u.1 = some m.cls ∧ (∀ w ∈ am_ws, w.before args s = true) ∧ meth.sig.returnType = u.2.2.2.2.1 ∧ meth.locks = false ∧ meth.name = u.2.1 ∧
  c.exceptionTable.toList.map (fun x => (x.startPc, x.endPc, x.handlerPc, x.catchType)) = u.2.2.2.2.2
/-- how a method ends: an answer, or a throwable of a kind -/
abbrev am_R : Type := Option Value ⊕ Nat
def am_o (G : am_G) (r : am_R) (o : Outcome) (t : State) : Prop := match r with
  | .inl v => o = .returned (v.map (am_v G))
  | .inr k => ∃ (a : Addr) (cell : Cell), o = .threw a ∧ t.heap[a]? = some cell ∧ cell.vm.isStatics = false ∧ t.vm.findClass (am_X k) = some cell.cls
def am_E (first t : State) (L : List Loc) (k n : Nat) : Prop := first.WarmedH t.vm ∧ first.sameButNew ({ t with vm := first.vm } : State) L k n
def am_Q (G : am_G) (post : am_R → am_M → Prop) (mc ms : Nat) (st : State) (o : Outcome) (t : State) : Prop :=
  (∃ (r : am_R) (M : am_M), post r M ∧ am_o G r o t ∧ am_P G M t.heap) ∧ va_F (am_A G) st t ∧ ∃ L, am_E st t L mc ms ∧ ∀ q ∈ L, am_b G ≤ q.base
def am_MQ (G : am_G) (below : List Frame) (post : am_R → am_M → Prop) (mc ms : Nat) (s : State) : State → Prop := fun t => ∃ o, t.status = .running ∧ Ended t below o ∧ am_Q G post mc ms s o t
/-- the launch writes no stack traces -/
def am_L (l : Launch) : Prop := ∀ e : Env, l.admits e → e.platform.stackTraces = false
def am_lv (G : am_G) (ls : List (Nat × Value)) : List (Nat × Value) := ls.map (fun q => (q.1, am_v G q.2))
/-- THE JUDGEMENT: wherever the memory M lies, the method's frame at pc, with these locals and this stack, comes to an end of which 'post' holds -/
def AW (u : am_U) (R : Room) (ce sl pc : Nat) (ls : List (Nat × Value)) (st : List Value) (M : am_M) (post : am_R → am_M → Prop) : Prop :=
  ∀ (G : am_G) (p : Program) (l : Launch) (e : Env) (s : State) (m : MethodId) (args : Array Value) (below : List Frame) (meth : Method) (c : Code) (H : Heap) (locs : List Loc) (la : Array Slot),
    am_F u p s m args meth c → am_L l → am_K G s → am_Z G s s.heap → am_P G M H → va_S (am_A G) s.heap H locs → am_b G ≤ s.heap.size → lv_has la u.2.2.2.1 (am_lv G ls) →
    W p l e R s m args below meth c H locs ce sl (am_MQ G below post R.cells R.slots s) (F0 m pc la (st.map (am_v G)))
def am_get (ls : List (Nat × Value)) (i : Nat) : Option Value := match ls with
  | [] => none
  | q :: r => if q.1 = i then some q.2 else am_get r i
def am_set (i : Nat) (v : Value) (ls : List (Nat × Value)) : List (Nat × Value) := (i, v) :: ls.filter (fun q => !(q.1 == i) && !(q.1 + 1 == i && q.2.category == 2))
def am_set2 (i : Nat) (v : Value) (ls : List (Nat × Value)) : List (Nat × Value) := (i, v) :: ls.filter (fun q => !(q.1 == i) && (!(q.1 == i + 1) && !(q.1 + 1 == i && q.2.category == 2)))
theorem am_get_mem : ∀ {ls : List (Nat × Value)} {i : Nat} {v : Value}, am_get ls i = some v → (i, v) ∈ ls
  | [], i, v, h => by cases h
  | q :: r, i, v, h => by
    unfold am_get at h
    by_cases e : q.1 = i
    · rw [if_pos e] at h
      cases h
      subst e
      exact List.mem_cons_self
    · rw [if_neg e] at h
      exact List.mem_cons_of_mem _ (am_get_mem h)
theorem am_at_get {G : am_G} {la : Array Slot} {nL : Nat} {ls : List (Nat × Value)} {i : Nat} {v : Value} (h : lv_has la nL (am_lv G ls)) (hg : am_get ls i = some v) : la[i]? = some (.val (am_v G v)) :=
  h.2.2 (i, am_v G v) (List.mem_map.mpr ⟨(i, v), am_get_mem hg, rfl⟩)
theorem am_lv_set (G : am_G) (i : Nat) (v : Value) (ls : List (Nat × Value)) : (i, am_v G v) :: (am_lv G ls).filter (fun q => !(q.1 == i) && !(q.1 + 1 == i && q.2.category == 2)) = am_lv G (am_set i v ls) := by
  unfold am_lv am_set
  rw [List.map_cons, List.filter_map]
  congr 2
  apply List.filter_congr
  intro q _
  simp only [Function.comp, am_v_cat]
theorem am_lv_set2 (G : am_G) (i : Nat) (v : Value) (ls : List (Nat × Value)) : (i, am_v G v) :: (am_lv G ls).filter (fun q => !(q.1 == i) && (!(q.1 == i + 1) && !(q.1 + 1 == i && q.2.category == 2))) = am_lv G (am_set2 i v ls) := by
  unfold am_lv am_set2
  rw [List.map_cons, List.filter_map]
  congr 2
  apply List.filter_congr
  intro q _
  simp only [Function.comp, am_v_cat]
theorem am_W_mono {p : Program} {l : Launch} {e : Env} {R : Room} {s : State} {m : MethodId} {args : Array Value} {below : List Frame} {meth : Method} {c : Code} {H : Heap} {locs : List Loc} {ce sl : Nat} {Q Q' : State → Prop} {g : JFrame} (h : ∀ t, Q t → Q' t) (k : W p l e R s m args below meth c H locs ce sl Q g) : W p l e R s m args below meth c H locs ce sl Q' g := by
  intro T hT X
  obtain ⟨t, a, b⟩ := k T hT X
  exact ⟨t, a, h t b⟩
section AWR
variable {u : am_U} {R : Room} {ce sl pc : Nat} {ls : List (Nat × Value)} {st : List Value} {M : am_M} {post : am_R → am_M → Prop}
theorem aw_iconst {n : Int} {v : Int32} (hd : decode u.2.2.1 pc = .ok (.iconst n, 1)) (hv : Int32.ofInt n = v) (k : AW u R ce sl (pc + 1) ls (.int v :: st) M post) : AW u R ce sl pc ls (st) M post := by
  intro G p l e s m args below meth c H locs la hF hL hK hZ hP hS hb hl
  exact lv_iconst hF.1 hF.2.1 hd hv (k G p l e s m args below meth c H locs la hF hL hK hZ hP hS hb hl)
theorem aw_bipush {n : Int} {v : Int32} (hd : decode u.2.2.1 pc = .ok (.bipush n, 2)) (hv : (Int8.ofInt n).toInt32 = v) (k : AW u R ce sl (pc + 2) ls (.int v :: st) M post) : AW u R ce sl pc ls (st) M post := by
  intro G p l e s m args below meth c H locs la hF hL hK hZ hP hS hb hl
  exact lv_bipush hF.1 hF.2.1 hd hv (k G p l e s m args below meth c H locs la hF hL hK hZ hP hS hb hl)
theorem aw_sipush {n : Int} {v : Int32} (hd : decode u.2.2.1 pc = .ok (.sipush n, 3)) (hv : (Int16.ofInt n).toInt32 = v) (k : AW u R ce sl (pc + 3) ls (.int v :: st) M post) : AW u R ce sl pc ls (st) M post := by
  intro G p l e s m args below meth c H locs la hF hL hK hZ hP hS hb hl
  exact lv_sipush hF.1 hF.2.1 hd hv (k G p l e s m args below meth c H locs la hF hL hK hZ hP hS hb hl)
theorem aw_lconst {n : Fin 2} {v : Int64} (hd : decode u.2.2.1 pc = .ok (.lconst n, 1)) (hv : Int64.ofNat (n : Nat) = v) (k : AW u R ce sl (pc + 1) ls (.long v :: st) M post) : AW u R ce sl pc ls (st) M post := by
  intro G p l e s m args below meth c H locs la hF hL hK hZ hP hS hb hl
  exact lv_lconst hF.1 hF.2.1 hd hv (k G p l e s m args below meth c H locs la hF hL hK hZ hP hS hb hl)
theorem aw_iadd {x y : Int32} (hd : decode u.2.2.1 pc = .ok (.iadd, 1)) (k : AW u R ce sl (pc + 1) ls (.int (x + y) :: st) M post) : AW u R ce sl pc ls (.int y :: .int x :: st) M post := by
  intro G p l e s m args below meth c H locs la hF hL hK hZ hP hS hb hl
  exact lv_iadd hF.1 hF.2.1 hd (k G p l e s m args below meth c H locs la hF hL hK hZ hP hS hb hl)
theorem aw_isub {x y : Int32} (hd : decode u.2.2.1 pc = .ok (.isub, 1)) (k : AW u R ce sl (pc + 1) ls (.int (x - y) :: st) M post) : AW u R ce sl pc ls (.int y :: .int x :: st) M post := by
  intro G p l e s m args below meth c H locs la hF hL hK hZ hP hS hb hl
  exact lv_isub hF.1 hF.2.1 hd (k G p l e s m args below meth c H locs la hF hL hK hZ hP hS hb hl)
theorem aw_imul {x y : Int32} (hd : decode u.2.2.1 pc = .ok (.imul, 1)) (k : AW u R ce sl (pc + 1) ls (.int (x * y) :: st) M post) : AW u R ce sl pc ls (.int y :: .int x :: st) M post := by
  intro G p l e s m args below meth c H locs la hF hL hK hZ hP hS hb hl
  exact lv_imul hF.1 hF.2.1 hd (k G p l e s m args below meth c H locs la hF hL hK hZ hP hS hb hl)
theorem aw_iand {x y : Int32} (hd : decode u.2.2.1 pc = .ok (.iand, 1)) (k : AW u R ce sl (pc + 1) ls (.int (x &&& y) :: st) M post) : AW u R ce sl pc ls (.int y :: .int x :: st) M post := by
  intro G p l e s m args below meth c H locs la hF hL hK hZ hP hS hb hl
  exact lv_iand hF.1 hF.2.1 hd (k G p l e s m args below meth c H locs la hF hL hK hZ hP hS hb hl)
theorem aw_ior {x y : Int32} (hd : decode u.2.2.1 pc = .ok (.ior, 1)) (k : AW u R ce sl (pc + 1) ls (.int (x ||| y) :: st) M post) : AW u R ce sl pc ls (.int y :: .int x :: st) M post := by
  intro G p l e s m args below meth c H locs la hF hL hK hZ hP hS hb hl
  exact lv_ior hF.1 hF.2.1 hd (k G p l e s m args below meth c H locs la hF hL hK hZ hP hS hb hl)
theorem aw_ixor {x y : Int32} (hd : decode u.2.2.1 pc = .ok (.ixor, 1)) (k : AW u R ce sl (pc + 1) ls (.int (x ^^^ y) :: st) M post) : AW u R ce sl pc ls (.int y :: .int x :: st) M post := by
  intro G p l e s m args below meth c H locs la hF hL hK hZ hP hS hb hl
  exact lv_ixor hF.1 hF.2.1 hd (k G p l e s m args below meth c H locs la hF hL hK hZ hP hS hb hl)
theorem aw_ishl {x y : Int32} (hd : decode u.2.2.1 pc = .ok (.ishl, 1)) (k : AW u R ce sl (pc + 1) ls (.int (x <<< (y &&& 31)) :: st) M post) : AW u R ce sl pc ls (.int y :: .int x :: st) M post := by
  intro G p l e s m args below meth c H locs la hF hL hK hZ hP hS hb hl
  exact lv_ishl hF.1 hF.2.1 hd (k G p l e s m args below meth c H locs la hF hL hK hZ hP hS hb hl)
theorem aw_ishr {x y : Int32} (hd : decode u.2.2.1 pc = .ok (.ishr, 1)) (k : AW u R ce sl (pc + 1) ls (.int (x >>> (y &&& 31)) :: st) M post) : AW u R ce sl pc ls (.int y :: .int x :: st) M post := by
  intro G p l e s m args below meth c H locs la hF hL hK hZ hP hS hb hl
  exact lv_ishr hF.1 hF.2.1 hd (k G p l e s m args below meth c H locs la hF hL hK hZ hP hS hb hl)
theorem aw_idiv {x y : Int32} (hd : decode u.2.2.1 pc = .ok (.idiv, 1)) (hne : ¬ y = 0) (k : AW u R ce sl (pc + 1) ls (.int (x / y) :: st) M post) : AW u R ce sl pc ls (.int y :: .int x :: st) M post := by
  intro G p l e s m args below meth c H locs la hF hL hK hZ hP hS hb hl
  exact lv_idiv hF.1 hF.2.1 hd hne (k G p l e s m args below meth c H locs la hF hL hK hZ hP hS hb hl)
theorem aw_irem {x y : Int32} (hd : decode u.2.2.1 pc = .ok (.irem, 1)) (hne : ¬ y = 0) (k : AW u R ce sl (pc + 1) ls (.int (x - x / y * y) :: st) M post) : AW u R ce sl pc ls (.int y :: .int x :: st) M post := by
  intro G p l e s m args below meth c H locs la hF hL hK hZ hP hS hb hl
  exact lv_irem hF.1 hF.2.1 hd hne (k G p l e s m args below meth c H locs la hF hL hK hZ hP hS hb hl)
theorem aw_iushr {x y : Int32} (hd : decode u.2.2.1 pc = .ok (.iushr, 1)) (k : AW u R ce sl (pc + 1) ls (.int ((x.toUInt32 >>> (y.toUInt32 &&& Int32.toUInt32 31)).toInt32) :: st) M post) : AW u R ce sl pc ls (.int y :: .int x :: st) M post := by
  intro G p l e s m args below meth c H locs la hF hL hK hZ hP hS hb hl
  exact lv_iushr hF.1 hF.2.1 hd rfl (k G p l e s m args below meth c H locs la hF hL hK hZ hP hS hb hl)
theorem aw_ineg {x : Int32} (hd : decode u.2.2.1 pc = .ok (.ineg, 1)) (k : AW u R ce sl (pc + 1) ls (.int (-x) :: st) M post) : AW u R ce sl pc ls (.int x :: st) M post := by
  intro G p l e s m args below meth c H locs la hF hL hK hZ hP hS hb hl
  exact lv_ineg hF.1 hF.2.1 hd (k G p l e s m args below meth c H locs la hF hL hK hZ hP hS hb hl)
theorem aw_lneg {x : Int64} (hd : decode u.2.2.1 pc = .ok (.lneg, 1)) (k : AW u R ce sl (pc + 1) ls (.long (-x) :: st) M post) : AW u R ce sl pc ls (.long x :: st) M post := by
  intro G p l e s m args below meth c H locs la hF hL hK hZ hP hS hb hl
  exact lv_lneg hF.1 hF.2.1 hd (k G p l e s m args below meth c H locs la hF hL hK hZ hP hS hb hl)
theorem aw_ladd {x y : Int64} (hd : decode u.2.2.1 pc = .ok (.ladd, 1)) (k : AW u R ce sl (pc + 1) ls (.long (x + y) :: st) M post) : AW u R ce sl pc ls (.long y :: .long x :: st) M post := by
  intro G p l e s m args below meth c H locs la hF hL hK hZ hP hS hb hl
  exact lv_ladd hF.1 hF.2.1 hd (k G p l e s m args below meth c H locs la hF hL hK hZ hP hS hb hl)
theorem aw_lsub {x y : Int64} (hd : decode u.2.2.1 pc = .ok (.lsub, 1)) (k : AW u R ce sl (pc + 1) ls (.long (x - y) :: st) M post) : AW u R ce sl pc ls (.long y :: .long x :: st) M post := by
  intro G p l e s m args below meth c H locs la hF hL hK hZ hP hS hb hl
  exact lv_lsub hF.1 hF.2.1 hd (k G p l e s m args below meth c H locs la hF hL hK hZ hP hS hb hl)
theorem aw_lmul {x y : Int64} (hd : decode u.2.2.1 pc = .ok (.lmul, 1)) (k : AW u R ce sl (pc + 1) ls (.long (x * y) :: st) M post) : AW u R ce sl pc ls (.long y :: .long x :: st) M post := by
  intro G p l e s m args below meth c H locs la hF hL hK hZ hP hS hb hl
  exact lv_lmul hF.1 hF.2.1 hd (k G p l e s m args below meth c H locs la hF hL hK hZ hP hS hb hl)
theorem aw_land {x y : Int64} (hd : decode u.2.2.1 pc = .ok (.land, 1)) (k : AW u R ce sl (pc + 1) ls (.long (x &&& y) :: st) M post) : AW u R ce sl pc ls (.long y :: .long x :: st) M post := by
  intro G p l e s m args below meth c H locs la hF hL hK hZ hP hS hb hl
  exact lv_land hF.1 hF.2.1 hd (k G p l e s m args below meth c H locs la hF hL hK hZ hP hS hb hl)
theorem aw_lor {x y : Int64} (hd : decode u.2.2.1 pc = .ok (.lor, 1)) (k : AW u R ce sl (pc + 1) ls (.long (x ||| y) :: st) M post) : AW u R ce sl pc ls (.long y :: .long x :: st) M post := by
  intro G p l e s m args below meth c H locs la hF hL hK hZ hP hS hb hl
  exact lv_lor hF.1 hF.2.1 hd (k G p l e s m args below meth c H locs la hF hL hK hZ hP hS hb hl)
theorem aw_lxor {x y : Int64} (hd : decode u.2.2.1 pc = .ok (.lxor, 1)) (k : AW u R ce sl (pc + 1) ls (.long (x ^^^ y) :: st) M post) : AW u R ce sl pc ls (.long y :: .long x :: st) M post := by
  intro G p l e s m args below meth c H locs la hF hL hK hZ hP hS hb hl
  exact lv_lxor hF.1 hF.2.1 hd (k G p l e s m args below meth c H locs la hF hL hK hZ hP hS hb hl)
theorem aw_lshl {x : Int64} {y : Int32} (hd : decode u.2.2.1 pc = .ok (.lshl, 1)) (k : AW u R ce sl (pc + 1) ls (.long (x <<< (y.toInt64 &&& 63)) :: st) M post) : AW u R ce sl pc ls (.int y :: .long x :: st) M post := by
  intro G p l e s m args below meth c H locs la hF hL hK hZ hP hS hb hl
  exact lv_lshl hF.1 hF.2.1 hd rfl (k G p l e s m args below meth c H locs la hF hL hK hZ hP hS hb hl)
theorem aw_lshr {x : Int64} {y : Int32} (hd : decode u.2.2.1 pc = .ok (.lshr, 1)) (k : AW u R ce sl (pc + 1) ls (.long (x >>> (y.toInt64 &&& 63)) :: st) M post) : AW u R ce sl pc ls (.int y :: .long x :: st) M post := by
  intro G p l e s m args below meth c H locs la hF hL hK hZ hP hS hb hl
  exact lv_lshr hF.1 hF.2.1 hd rfl (k G p l e s m args below meth c H locs la hF hL hK hZ hP hS hb hl)
theorem aw_i2l {x : Int32} (hd : decode u.2.2.1 pc = .ok (.i2l, 1)) (k : AW u R ce sl (pc + 1) ls (.long x.toInt64 :: st) M post) : AW u R ce sl pc ls (.int x :: st) M post := by
  intro G p l e s m args below meth c H locs la hF hL hK hZ hP hS hb hl
  exact lv_i2l hF.1 hF.2.1 hd rfl (k G p l e s m args below meth c H locs la hF hL hK hZ hP hS hb hl)
theorem aw_l2i {x : Int64} (hd : decode u.2.2.1 pc = .ok (.l2i, 1)) (k : AW u R ce sl (pc + 1) ls (.int x.toInt32 :: st) M post) : AW u R ce sl pc ls (.long x :: st) M post := by
  intro G p l e s m args below meth c H locs la hF hL hK hZ hP hS hb hl
  exact lv_l2i hF.1 hF.2.1 hd rfl (k G p l e s m args below meth c H locs la hF hL hK hZ hP hS hb hl)
theorem aw_dup {va : Value} (hd : decode u.2.2.1 pc = .ok (.dup, 1)) (hv : va.category = 1) (k : AW u R ce sl (pc + 1) ls (va :: va :: st) M post) : AW u R ce sl pc ls (va :: st) M post := by
  intro G p l e s m args below meth c H locs la hF hL hK hZ hP hS hb hl
  exact lv_dup hF.1 hF.2.1 hd ((am_v_cat G va).trans hv) (k G p l e s m args below meth c H locs la hF hL hK hZ hP hS hb hl)
theorem aw_pop {va : Value} (hd : decode u.2.2.1 pc = .ok (.pop, 1)) (hv : va.category = 1) (k : AW u R ce sl (pc + 1) ls (st) M post) : AW u R ce sl pc ls (va :: st) M post := by
  intro G p l e s m args below meth c H locs la hF hL hK hZ hP hS hb hl
  exact lv_pop hF.1 hF.2.1 hd ((am_v_cat G va).trans hv) (k G p l e s m args below meth c H locs la hF hL hK hZ hP hS hb hl)
theorem aw_dup_x1 {va vb : Value} (hd : decode u.2.2.1 pc = .ok (.dup_x1, 1)) (hv : va.category = 1) (hw : vb.category = 1) (k : AW u R ce sl (pc + 1) ls (va :: vb :: va :: st) M post) : AW u R ce sl pc ls (va :: vb :: st) M post := by
  intro G p l e s m args below meth c H locs la hF hL hK hZ hP hS hb hl
  exact lv_dup_x1 hF.1 hF.2.1 hd ((am_v_cat G va).trans hv) ((am_v_cat G vb).trans hw) (k G p l e s m args below meth c H locs la hF hL hK hZ hP hS hb hl)
theorem aw_dup_x2 {va vb vd : Value} (hd : decode u.2.2.1 pc = .ok (.dup_x2, 1)) (hv : va.category = 1) (hw : vb.category = 1) (hz : vd.category = 1) (k : AW u R ce sl (pc + 1) ls (va :: vb :: vd :: va :: st) M post) : AW u R ce sl pc ls (va :: vb :: vd :: st) M post := by
  intro G p l e s m args below meth c H locs la hF hL hK hZ hP hS hb hl
  exact lv_dup_x2 hF.1 hF.2.1 hd ((am_v_cat G va).trans hv) ((am_v_cat G vb).trans hw) ((am_v_cat G vd).trans hz) (k G p l e s m args below meth c H locs la hF hL hK hZ hP hS hb hl)
theorem aw_dup2 {va vb : Value} (hd : decode u.2.2.1 pc = .ok (.dup2, 1)) (hv : va.category = 1) (hw : vb.category = 1) (k : AW u R ce sl (pc + 1) ls (va :: vb :: va :: vb :: st) M post) : AW u R ce sl pc ls (va :: vb :: st) M post := by
  intro G p l e s m args below meth c H locs la hF hL hK hZ hP hS hb hl
  exact lv_dup2_11 hF.1 hF.2.1 hd ((am_v_cat G va).trans hv) ((am_v_cat G vb).trans hw) (k G p l e s m args below meth c H locs la hF hL hK hZ hP hS hb hl)
theorem aw_iload_n {n : Fin 4} {i : Nat} {x : Int32} (hd : decode u.2.2.1 pc = .ok (.iload_n n, 1)) (hi : (n : Nat) = i) (hg : am_get ls i = some (.int x)) (k : AW u R ce sl (pc + 1) ls (.int x :: st) M post) : AW u R ce sl pc ls st M post := by
  intro G p l e s m args below meth c H locs la hF hL hK hZ hP hS hb hl
  exact lv_iload_n hF.1 hF.2.1 hd hi (am_at_get hl hg) (k G p l e s m args below meth c H locs la hF hL hK hZ hP hS hb hl)
theorem aw_iload {i : Nat} {x : Int32} (hd : decode u.2.2.1 pc = .ok (.iload i, 2)) (hg : am_get ls i = some (.int x)) (k : AW u R ce sl (pc + 2) ls (.int x :: st) M post) : AW u R ce sl pc ls st M post := by
  intro G p l e s m args below meth c H locs la hF hL hK hZ hP hS hb hl
  exact lv_iload hF.1 hF.2.1 hd (am_at_get hl hg) (k G p l e s m args below meth c H locs la hF hL hK hZ hP hS hb hl)
theorem aw_lload_n {n : Fin 4} {i : Nat} {x : Int64} (hd : decode u.2.2.1 pc = .ok (.lload_n n, 1)) (hi : (n : Nat) = i) (hg : am_get ls i = some (.long x)) (k : AW u R ce sl (pc + 1) ls (.long x :: st) M post) : AW u R ce sl pc ls st M post := by
  intro G p l e s m args below meth c H locs la hF hL hK hZ hP hS hb hl
  exact lv_lload_n hF.1 hF.2.1 hd hi (am_at_get hl hg) (k G p l e s m args below meth c H locs la hF hL hK hZ hP hS hb hl)
theorem aw_lload {i : Nat} {x : Int64} (hd : decode u.2.2.1 pc = .ok (.lload i, 2)) (hg : am_get ls i = some (.long x)) (k : AW u R ce sl (pc + 2) ls (.long x :: st) M post) : AW u R ce sl pc ls st M post := by
  intro G p l e s m args below meth c H locs la hF hL hK hZ hP hS hb hl
  exact lv_lload hF.1 hF.2.1 hd (am_at_get hl hg) (k G p l e s m args below meth c H locs la hF hL hK hZ hP hS hb hl)
theorem aw_aload_n {n : Fin 4} {i : Nat} {x : Nat} (hd : decode u.2.2.1 pc = .ok (.aload_n n, 1)) (hi : (n : Nat) = i) (hg : am_get ls i = some (.ref x)) (k : AW u R ce sl (pc + 1) ls (.ref x :: st) M post) : AW u R ce sl pc ls st M post := by
  intro G p l e s m args below meth c H locs la hF hL hK hZ hP hS hb hl
  exact lv_aload_n hF.1 hF.2.1 hd hi (am_at_get hl hg) (k G p l e s m args below meth c H locs la hF hL hK hZ hP hS hb hl)
theorem aw_aload {i : Nat} {x : Nat} (hd : decode u.2.2.1 pc = .ok (.aload i, 2)) (hg : am_get ls i = some (.ref x)) (k : AW u R ce sl (pc + 2) ls (.ref x :: st) M post) : AW u R ce sl pc ls st M post := by
  intro G p l e s m args below meth c H locs la hF hL hK hZ hP hS hb hl
  exact lv_aload hF.1 hF.2.1 hd (am_at_get hl hg) (k G p l e s m args below meth c H locs la hF hL hK hZ hP hS hb hl)
theorem aw_istore_n {n : Fin 4} {i : Nat} {x : Int32} {ls' : List (Nat × Value)} (hd : decode u.2.2.1 pc = .ok (.istore_n n, 1)) (hi : (n : Nat) = i) (hn : i < u.2.2.2.1) (hs : am_set i (.int x) ls = ls') (k : AW u R ce sl (pc + 1) ls' st M post) : AW u R ce sl pc ls (.int x :: st) M post := by
  subst hs
  intro G p l e s m args below meth c H locs la hF hL hK hZ hP hS hb hl
  exact lv_istore_n hF.1 hF.2.1 hd hi hl hn (am_lv_set G i (.int x) ls) (fun la hl => k G p l e s m args below meth c H locs la hF hL hK hZ hP hS hb hl)
theorem aw_istore {i : Nat} {x : Int32} {ls' : List (Nat × Value)} (hd : decode u.2.2.1 pc = .ok (.istore i, 2)) (hn : i < u.2.2.2.1) (hs : am_set i (.int x) ls = ls') (k : AW u R ce sl (pc + 2) ls' st M post) : AW u R ce sl pc ls (.int x :: st) M post := by
  subst hs
  intro G p l e s m args below meth c H locs la hF hL hK hZ hP hS hb hl
  exact lv_istore hF.1 hF.2.1 hd hl hn (am_lv_set G i (.int x) ls) (fun la hl => k G p l e s m args below meth c H locs la hF hL hK hZ hP hS hb hl)
theorem aw_lstore_n {n : Fin 4} {i : Nat} {x : Int64} {ls' : List (Nat × Value)} (hd : decode u.2.2.1 pc = .ok (.lstore_n n, 1)) (hi : (n : Nat) = i) (hn : i + 1 < u.2.2.2.1) (hs : am_set2 i (.long x) ls = ls') (k : AW u R ce sl (pc + 1) ls' st M post) : AW u R ce sl pc ls (.long x :: st) M post := by
  subst hs
  intro G p l e s m args below meth c H locs la hF hL hK hZ hP hS hb hl
  exact lv_lstore_n hF.1 hF.2.1 hd hi hl hn (am_lv_set2 G i (.long x) ls) (fun la hl => k G p l e s m args below meth c H locs la hF hL hK hZ hP hS hb hl)
theorem aw_lstore {i : Nat} {x : Int64} {ls' : List (Nat × Value)} (hd : decode u.2.2.1 pc = .ok (.lstore i, 2)) (hn : i + 1 < u.2.2.2.1) (hs : am_set2 i (.long x) ls = ls') (k : AW u R ce sl (pc + 2) ls' st M post) : AW u R ce sl pc ls (.long x :: st) M post := by
  subst hs
  intro G p l e s m args below meth c H locs la hF hL hK hZ hP hS hb hl
  exact lv_lstore hF.1 hF.2.1 hd hl hn (am_lv_set2 G i (.long x) ls) (fun la hl => k G p l e s m args below meth c H locs la hF hL hK hZ hP hS hb hl)
theorem aw_astore_n {n : Fin 4} {i : Nat} {x : Nat} {ls' : List (Nat × Value)} (hd : decode u.2.2.1 pc = .ok (.astore_n n, 1)) (hi : (n : Nat) = i) (hn : i < u.2.2.2.1) (hs : am_set i (.ref x) ls = ls') (k : AW u R ce sl (pc + 1) ls' st M post) : AW u R ce sl pc ls (.ref x :: st) M post := by
  subst hs
  intro G p l e s m args below meth c H locs la hF hL hK hZ hP hS hb hl
  exact lv_astore_n hF.1 hF.2.1 hd hi hl hn (am_lv_set G i (.ref x) ls) (fun la hl => k G p l e s m args below meth c H locs la hF hL hK hZ hP hS hb hl)
theorem aw_astore {i : Nat} {x : Nat} {ls' : List (Nat × Value)} (hd : decode u.2.2.1 pc = .ok (.astore i, 2)) (hn : i < u.2.2.2.1) (hs : am_set i (.ref x) ls = ls') (k : AW u R ce sl (pc + 2) ls' st M post) : AW u R ce sl pc ls (.ref x :: st) M post := by
  subst hs
  intro G p l e s m args below meth c H locs la hF hL hK hZ hP hS hb hl
  exact lv_astore hF.1 hF.2.1 hd hl hn (am_lv_set G i (.ref x) ls) (fun la hl => k G p l e s m args below meth c H locs la hF hL hK hZ hP hS hb hl)
theorem am_lv_mem {G : am_G} {ls : List (Nat × Value)} {i : Nat} {v : Value} (hg : am_get ls i = some v) : ∃ k : Nat, (am_lv G ls)[k]? = some (i, am_v G v) := by
  obtain ⟨k, hk⟩ := List.getElem?_of_mem (am_get_mem hg)
  exact ⟨k, by unfold am_lv; rw [List.getElem?_map, hk]; rfl⟩
theorem aw_iinc {i : Nat} {n : Int} {x v : Int32} {ls' : List (Nat × Value)} (hd : decode u.2.2.1 pc = .ok (.iinc i n, 3)) (hg : am_get ls i = some (.int x)) (hv : x + Int32.ofInt n = v) (hn : i < u.2.2.2.1) (hs : am_set i (.int v) ls = ls') (k : AW u R ce sl (pc + 3) ls' st M post) : AW u R ce sl pc ls st M post := by
  subst hs
  intro G p l e s m args below meth c H locs la hF hL hK hZ hP hS hb hl
  obtain ⟨j, hj⟩ := am_lv_mem (G := G) hg
  exact lv_iinc (k := j) (x := x) hF.1 hF.2.1 hd hl hj hv hn (am_lv_set G i (.int v) ls) (fun la hl => k G p l e s m args below meth c H locs la hF hL hK hZ hP hS hb hl)
theorem aw_if_eq {x : Int32} {off : Int} {tgt : Nat} (hd : decode u.2.2.1 pc = .ok (.ifCond .eq off, 3)) (ht : (pc : Int) + off = (tgt : Int)) (kt : x = 0 → AW u R ce sl tgt ls st M post) (kf : ¬ x = 0 → AW u R ce sl (pc + 3) ls st M post) : AW u R ce sl pc ls (.int x :: st) M post := by
  intro G p l e s m args below meth c H locs la hF hL hK hZ hP hS hb hl
  exact lv_if_eq hF.1 hF.2.1 hd ht (fun h => kt h G p l e s m args below meth c H locs la hF hL hK hZ hP hS hb hl) (fun h => kf h G p l e s m args below meth c H locs la hF hL hK hZ hP hS hb hl)
theorem aw_icmp_eq {x y : Int32} {off : Int} {tgt : Nat} (hd : decode u.2.2.1 pc = .ok (.if_icmp .eq off, 3)) (ht : (pc : Int) + off = (tgt : Int)) (kt : x = y → AW u R ce sl tgt ls st M post) (kf : ¬ x = y → AW u R ce sl (pc + 3) ls st M post) : AW u R ce sl pc ls (.int y :: .int x :: st) M post := by
  intro G p l e s m args below meth c H locs la hF hL hK hZ hP hS hb hl
  exact lv_icmp_eq hF.1 hF.2.1 hd ht (fun h => kt h G p l e s m args below meth c H locs la hF hL hK hZ hP hS hb hl) (fun h => kf h G p l e s m args below meth c H locs la hF hL hK hZ hP hS hb hl)
theorem aw_if_ne {x : Int32} {off : Int} {tgt : Nat} (hd : decode u.2.2.1 pc = .ok (.ifCond .ne off, 3)) (ht : (pc : Int) + off = (tgt : Int)) (kt : ¬ x = 0 → AW u R ce sl tgt ls st M post) (kf : x = 0 → AW u R ce sl (pc + 3) ls st M post) : AW u R ce sl pc ls (.int x :: st) M post := by
  intro G p l e s m args below meth c H locs la hF hL hK hZ hP hS hb hl
  exact lv_if_ne hF.1 hF.2.1 hd ht (fun h => kt h G p l e s m args below meth c H locs la hF hL hK hZ hP hS hb hl) (fun h => kf h G p l e s m args below meth c H locs la hF hL hK hZ hP hS hb hl)
theorem aw_icmp_ne {x y : Int32} {off : Int} {tgt : Nat} (hd : decode u.2.2.1 pc = .ok (.if_icmp .ne off, 3)) (ht : (pc : Int) + off = (tgt : Int)) (kt : ¬ x = y → AW u R ce sl tgt ls st M post) (kf : x = y → AW u R ce sl (pc + 3) ls st M post) : AW u R ce sl pc ls (.int y :: .int x :: st) M post := by
  intro G p l e s m args below meth c H locs la hF hL hK hZ hP hS hb hl
  exact lv_icmp_ne hF.1 hF.2.1 hd ht (fun h => kt h G p l e s m args below meth c H locs la hF hL hK hZ hP hS hb hl) (fun h => kf h G p l e s m args below meth c H locs la hF hL hK hZ hP hS hb hl)
theorem aw_if_lt {x : Int32} {off : Int} {tgt : Nat} (hd : decode u.2.2.1 pc = .ok (.ifCond .lt off, 3)) (ht : (pc : Int) + off = (tgt : Int)) (kt : x < 0 → AW u R ce sl tgt ls st M post) (kf : ¬ x < 0 → AW u R ce sl (pc + 3) ls st M post) : AW u R ce sl pc ls (.int x :: st) M post := by
  intro G p l e s m args below meth c H locs la hF hL hK hZ hP hS hb hl
  exact lv_if_lt hF.1 hF.2.1 hd ht (fun h => kt h G p l e s m args below meth c H locs la hF hL hK hZ hP hS hb hl) (fun h => kf h G p l e s m args below meth c H locs la hF hL hK hZ hP hS hb hl)
theorem aw_icmp_lt {x y : Int32} {off : Int} {tgt : Nat} (hd : decode u.2.2.1 pc = .ok (.if_icmp .lt off, 3)) (ht : (pc : Int) + off = (tgt : Int)) (kt : x < y → AW u R ce sl tgt ls st M post) (kf : ¬ x < y → AW u R ce sl (pc + 3) ls st M post) : AW u R ce sl pc ls (.int y :: .int x :: st) M post := by
  intro G p l e s m args below meth c H locs la hF hL hK hZ hP hS hb hl
  exact lv_icmp_lt hF.1 hF.2.1 hd ht (fun h => kt h G p l e s m args below meth c H locs la hF hL hK hZ hP hS hb hl) (fun h => kf h G p l e s m args below meth c H locs la hF hL hK hZ hP hS hb hl)
theorem aw_if_ge {x : Int32} {off : Int} {tgt : Nat} (hd : decode u.2.2.1 pc = .ok (.ifCond .ge off, 3)) (ht : (pc : Int) + off = (tgt : Int)) (kt : 0 ≤ x → AW u R ce sl tgt ls st M post) (kf : ¬ 0 ≤ x → AW u R ce sl (pc + 3) ls st M post) : AW u R ce sl pc ls (.int x :: st) M post := by
  intro G p l e s m args below meth c H locs la hF hL hK hZ hP hS hb hl
  exact lv_if_ge hF.1 hF.2.1 hd ht (fun h => kt h G p l e s m args below meth c H locs la hF hL hK hZ hP hS hb hl) (fun h => kf h G p l e s m args below meth c H locs la hF hL hK hZ hP hS hb hl)
theorem aw_icmp_ge {x y : Int32} {off : Int} {tgt : Nat} (hd : decode u.2.2.1 pc = .ok (.if_icmp .ge off, 3)) (ht : (pc : Int) + off = (tgt : Int)) (kt : y ≤ x → AW u R ce sl tgt ls st M post) (kf : ¬ y ≤ x → AW u R ce sl (pc + 3) ls st M post) : AW u R ce sl pc ls (.int y :: .int x :: st) M post := by
  intro G p l e s m args below meth c H locs la hF hL hK hZ hP hS hb hl
  exact lv_icmp_ge hF.1 hF.2.1 hd ht (fun h => kt h G p l e s m args below meth c H locs la hF hL hK hZ hP hS hb hl) (fun h => kf h G p l e s m args below meth c H locs la hF hL hK hZ hP hS hb hl)
theorem aw_if_gt {x : Int32} {off : Int} {tgt : Nat} (hd : decode u.2.2.1 pc = .ok (.ifCond .gt off, 3)) (ht : (pc : Int) + off = (tgt : Int)) (kt : 0 < x → AW u R ce sl tgt ls st M post) (kf : ¬ 0 < x → AW u R ce sl (pc + 3) ls st M post) : AW u R ce sl pc ls (.int x :: st) M post := by
  intro G p l e s m args below meth c H locs la hF hL hK hZ hP hS hb hl
  exact lv_if_gt hF.1 hF.2.1 hd ht (fun h => kt h G p l e s m args below meth c H locs la hF hL hK hZ hP hS hb hl) (fun h => kf h G p l e s m args below meth c H locs la hF hL hK hZ hP hS hb hl)
theorem aw_icmp_gt {x y : Int32} {off : Int} {tgt : Nat} (hd : decode u.2.2.1 pc = .ok (.if_icmp .gt off, 3)) (ht : (pc : Int) + off = (tgt : Int)) (kt : y < x → AW u R ce sl tgt ls st M post) (kf : ¬ y < x → AW u R ce sl (pc + 3) ls st M post) : AW u R ce sl pc ls (.int y :: .int x :: st) M post := by
  intro G p l e s m args below meth c H locs la hF hL hK hZ hP hS hb hl
  exact lv_icmp_gt hF.1 hF.2.1 hd ht (fun h => kt h G p l e s m args below meth c H locs la hF hL hK hZ hP hS hb hl) (fun h => kf h G p l e s m args below meth c H locs la hF hL hK hZ hP hS hb hl)
theorem aw_if_le {x : Int32} {off : Int} {tgt : Nat} (hd : decode u.2.2.1 pc = .ok (.ifCond .le off, 3)) (ht : (pc : Int) + off = (tgt : Int)) (kt : x ≤ 0 → AW u R ce sl tgt ls st M post) (kf : ¬ x ≤ 0 → AW u R ce sl (pc + 3) ls st M post) : AW u R ce sl pc ls (.int x :: st) M post := by
  intro G p l e s m args below meth c H locs la hF hL hK hZ hP hS hb hl
  exact lv_if_le hF.1 hF.2.1 hd ht (fun h => kt h G p l e s m args below meth c H locs la hF hL hK hZ hP hS hb hl) (fun h => kf h G p l e s m args below meth c H locs la hF hL hK hZ hP hS hb hl)
theorem aw_icmp_le {x y : Int32} {off : Int} {tgt : Nat} (hd : decode u.2.2.1 pc = .ok (.if_icmp .le off, 3)) (ht : (pc : Int) + off = (tgt : Int)) (kt : x ≤ y → AW u R ce sl tgt ls st M post) (kf : ¬ x ≤ y → AW u R ce sl (pc + 3) ls st M post) : AW u R ce sl pc ls (.int y :: .int x :: st) M post := by
  intro G p l e s m args below meth c H locs la hF hL hK hZ hP hS hb hl
  exact lv_icmp_le hF.1 hF.2.1 hd ht (fun h => kt h G p l e s m args below meth c H locs la hF hL hK hZ hP hS hb hl) (fun h => kf h G p l e s m args below meth c H locs la hF hL hK hZ hP hS hb hl)
theorem aw_goto {off : Int} {tgt : Nat} (hd : decode u.2.2.1 pc = .ok (.goto off, 3)) (ht : (pc : Int) + off = (tgt : Int)) (k : AW u R ce sl tgt ls st M post) : AW u R ce sl pc ls st M post := by
  intro G p l e s m args below meth c H locs la hF hL hK hZ hP hS hb hl
  exact lv_goto hF.1 hF.2.1 hd ht (k G p l e s m args below meth c H locs la hF hL hK hZ hP hS hb hl)
theorem aw_lookup {dflt : Int} {ps : Array (Int × Int)} {len : Nat} {x : Int32} {off : Int} {tgt : Nat} (hd : decode u.2.2.1 pc = .ok (.lookupswitch dflt ps, len)) (hp : (ps.toList.zip (ps.toList.drop 1)).all (fun (a, next) => a.1 < next.1) = true) (ho : Op.lookupswitch.offset ps.toList dflt x.toInt = off) (ht : (pc : Int) + off = (tgt : Int)) (k : AW u R ce sl tgt ls st M post) : AW u R ce sl pc ls (.int x :: st) M post := by
  intro G p l e s m args below meth c H locs la hF hL hK hZ hP hS hb hl
  exact lv_lookup hF.1 hF.2.1 hd hp ho ht (k G p l e s m args below meth c H locs la hF hL hK hZ hP hS hb hl)
theorem aw_tableOut {dflt lo hi : Int} {offs : Array Int} {len : Nat} {x : Int32} {tgt : Nat} (hd : decode u.2.2.1 pc = .ok (.tableswitch dflt lo hi offs, len)) (h : x.toInt < lo ∨ hi < x.toInt) (ht : (pc : Int) + dflt = (tgt : Int)) (k : AW u R ce sl tgt ls st M post) : AW u R ce sl pc ls (.int x :: st) M post := by
  intro G p l e s m args below meth c H locs la hF hL hK hZ hP hS hb hl
  exact lv_tableOut hF.1 hF.2.1 hd h ht (k G p l e s m args below meth c H locs la hF hL hK hZ hP hS hb hl)
theorem aw_tableIn {dflt lo hi : Int} {offs : Array Int} {len : Nat} {x : Int32} {off : Int} {tgt : Nat} (hd : decode u.2.2.1 pc = .ok (.tableswitch dflt lo hi offs, len)) (h1 : ¬ x.toInt < lo) (h2 : ¬ hi < x.toInt) (ho : offs[(x.toInt - lo).toNat]? = some off) (ht : (pc : Int) + off = (tgt : Int)) (k : AW u R ce sl tgt ls st M post) : AW u R ce sl pc ls (.int x :: st) M post := by
  intro G p l e s m args below meth c H locs la hF hL hK hZ hP hS hb hl
  exact lv_tableIn hF.1 hF.2.1 hd h1 h2 ho ht (k G p l e s m args below meth c H locs la hF hL hK hZ hP hS hb hl)
theorem aw_ldc {idx : Nat} {v : Int32} (hd : decode u.2.2.1 pc = .ok (.ldc idx, 2)) (hw : Cond.constant u.1 idx v ∈ lw_tbl) (k : AW u R ce sl (pc + 2) ls (.int v :: st) M post) : AW u R ce sl pc ls st M post := by
  intro G p l e s m args below meth c H locs la hF hL hK hZ hP hS hb hl
  exact lv_ldc hF.1 hF.2.1 hF.2.2.2.1 (hF.2.2.2.2.1 _ (am_mem hw rfl)) hd (k G p l e s m args below meth c H locs la hF hL hK hZ hP hS hb hl)
theorem aw_ldc2 {idx : Nat} {v : Int64} (hd : decode u.2.2.1 pc = .ok (.ldc2_w idx, 3)) (hw : Cond.constantLong u.1 idx v ∈ lw_tbl) (k : AW u R ce sl (pc + 3) ls (.long v :: st) M post) : AW u R ce sl pc ls st M post := by
  intro G p l e s m args below meth c H locs la hF hL hK hZ hP hS hb hl
  exact lv_ldc2 hF.1 hF.2.1 hF.2.2.2.1 (hF.2.2.2.2.1 _ (am_mem hw rfl)) hd (k G p l e s m args below meth c H locs la hF hL hK hZ hP hS hb hl)
theorem aw_more {ce' sl' : Nat} (h1 : ce ≤ ce') (h2 : sl ≤ sl') (k : AW u R ce' sl' pc ls st M post) : AW u R ce sl pc ls st M post := by
  intro G p l e s m args below meth c H locs la hF hL hK hZ hP hS hb hl
  exact W.widen h1 h2 (k G p l e s m args below meth c H locs la hF hL hK hZ hP hS hb hl)
theorem am_MQ_of {G : am_G} {below : List Frame} {args : Array Value} {s t : State} {mc ms : Nat} {r : Option Value} {H : Heap} {locs : List Loc} (hP : am_P G M H) (hS : va_S (am_A G) s.heap H locs) (hp : post (.inl r) M)
    (h : MQ below (fun _ _ o t => o = .returned (r.map (am_v G)) ∧ t.heap = H) args s mc ms (am_A G) t) : am_MQ G below post mc ms s t := by
  obtain ⟨o, h1, h2, ⟨h3, h4⟩, L, ⟨-, h5, h6⟩, h7⟩ := h
  exact ⟨o, h1, h2, ⟨.inl r, M, hp, h3, by rw [h4]; exact hP⟩, hS.F h4, L, ⟨h5, h6⟩, h7⟩
theorem aw_ireturn {v : Int32} (hd : decode u.2.2.1 pc = .ok (.ireturn, 1)) (hr : u.2.2.2.2.1 = some .int) (h1 : ce ≤ R.cells) (h2 : sl ≤ R.slots) (hp : post (.inl (some (.int v))) M) : AW u R ce sl pc ls ([.int v]) M post := by
  intro G p l e s m args below meth c H locs la hF hL hK hZ hP hS hb hl
  refine W.widen h1 h2 (am_W_mono (fun t h => am_MQ_of (args := args) (r := (some (.int v))) hP hS hp h) ?_)
  exact W.iret hF.1 hF.2.1 (hF.2.2.2.2.2.1.trans hr) (fun t ht _ => ⟨rfl, ht⟩) hS.2.2 hd hF.2.2.2.2.2.2.1
theorem aw_zreturn {v : Int32} (hd : decode u.2.2.1 pc = .ok (.ireturn, 1)) (hr : u.2.2.2.2.1 = some .boolean) (hz : narrow .boolean (.int v) = .int v) (h1 : ce ≤ R.cells) (h2 : sl ≤ R.slots) (hp : post (.inl (some (.int v))) M) : AW u R ce sl pc ls ([.int v]) M post := by
  intro G p l e s m args below meth c H locs la hF hL hK hZ hP hS hb hl
  refine W.widen h1 h2 (am_W_mono (fun t h => am_MQ_of (args := args) (r := (some (.int v))) hP hS hp h) ?_)
  exact W.zret hF.1 hF.2.1 (hF.2.2.2.2.2.1.trans hr) hz (fun t ht _ => ⟨rfl, ht⟩) hS.2.2 hd hF.2.2.2.2.2.2.1
theorem aw_vreturn (hd : decode u.2.2.1 pc = .ok (.return_, 1)) (hr : u.2.2.2.2.1 = none) (h1 : ce ≤ R.cells) (h2 : sl ≤ R.slots) (hp : post (.inl none) M) : AW u R ce sl pc ls ([]) M post := by
  intro G p l e s m args below meth c H locs la hF hL hK hZ hP hS hb hl
  refine W.widen h1 h2 (am_W_mono (fun t h => am_MQ_of (args := args) (r := none) hP hS hp h) ?_)
  exact W.vret hF.1 hF.2.1 (hF.2.2.2.2.2.1.trans hr) (fun t ht _ => ⟨rfl, ht⟩) hS.2.2 hd hF.2.2.2.2.2.2.1
theorem aw_lreturn {v : Int64} (hd : decode u.2.2.1 pc = .ok (.lreturn, 1)) (hr : u.2.2.2.2.1 = some .long) (h1 : ce ≤ R.cells) (h2 : sl ≤ R.slots) (hp : post (.inl (some (.long v))) M) : AW u R ce sl pc ls ([.long v]) M post := by
  intro G p l e s m args below meth c H locs la hF hL hK hZ hP hS hb hl
  refine W.widen h1 h2 (am_W_mono (fun t h => am_MQ_of (args := args) (r := (some (.long v))) hP hS hp h) ?_)
  exact W.lret hF.1 hF.2.1 (hF.2.2.2.2.2.1.trans hr) (fun t ht _ => ⟨rfl, ht⟩) hS.2.2 hd hF.2.2.2.2.2.2.1
theorem aw_areturn {v : Nat} {nm : String} (hd : decode u.2.2.1 pc = .ok (.areturn, 1)) (hr : u.2.2.2.2.1 = some (.object nm)) (h1 : ce ≤ R.cells) (h2 : sl ≤ R.slots) (hp : post (.inl (some (.ref v))) M) : AW u R ce sl pc ls ([.ref v]) M post := by
  intro G p l e s m args below meth c H locs la hF hL hK hZ hP hS hb hl
  refine W.widen h1 h2 (am_W_mono (fun t h => am_MQ_of (args := args) (r := (some (.ref v))) hP hS hp h) ?_)
  exact W.aret hF.1 hF.2.1 (hF.2.2.2.2.2.1.trans hr) (Or.inl ⟨nm, rfl⟩) (Or.inr ⟨_, rfl⟩) (fun t ht _ => ⟨rfl, ht⟩) hS.2.2 hd hF.2.2.2.2.2.2.1
end AWR
