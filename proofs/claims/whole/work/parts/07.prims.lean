/-! ===== what an instruction does to a memory, as a function: none where it may not be used; and its row ===== -/
def q_gti (M : am_M) (i c k : Nat) : Option Int32 := if i < am_n M ∧ am_s M i = (0, c) then some (am_i M i k) else none
def q_gtr (M : am_M) (i c k : Nat) : Option Nat := if i < am_n M ∧ am_s M i = (0, c) then am_r M i k else none
def q_ix (j : Int32) (len : Nat) : Option Nat := if 0 ≤ j.toInt ∧ j.toInt < (len : Int) then some j.toInt.toNat else none
def q_ldi (M : am_M) (i : Nat) (j : Int32) : Option Int32 := if i < am_n M ∧ (am_s M i).1 = 1 then (q_ix j (am_s M i).2).map (am_i M i) else none
def q_ldl (M : am_M) (i : Nat) (j : Int32) : Option Int64 := if i < am_n M ∧ (am_s M i).1 = 2 then (q_ix j (am_s M i).2).map (am_l M i) else none
def q_ldz (M : am_M) (i : Nat) (j : Int32) : Option Int32 := if i < am_n M ∧ (am_s M i).1 = 3 then (q_ix j (am_s M i).2).map (am_i M i) else none
def q_ldr (M : am_M) (i : Nat) (j : Int32) : Option Nat := if i < am_n M ∧ 4 ≤ (am_s M i).1 then (q_ix j (am_s M i).2).bind (am_r M i) else none
def q_sti (M : am_M) (i : Nat) (j x : Int32) : Option am_M := if i < am_n M ∧ (am_s M i).1 = 1 then (q_ix j (am_s M i).2).map (fun n => am_pi M i n x) else none
def q_stl (M : am_M) (i : Nat) (j : Int32) (x : Int64) : Option am_M := if i < am_n M ∧ (am_s M i).1 = 2 then (q_ix j (am_s M i).2).map (fun n => am_pl M i n x) else none
def q_stz (M : am_M) (i : Nat) (j x : Int32) : Option am_M := if i < am_n M ∧ (am_s M i).1 = 3 ∧ (x = 0 ∨ x = 1) then (q_ix j (am_s M i).2).map (fun n => am_pi M i n x) else none
def q_pti (M : am_M) (i c k : Nat) (x : Int32) : Option am_M := if i < am_n M ∧ am_s M i = (0, c) then some (am_pi M i k x) else none
def q_ptz (M : am_M) (i c k : Nat) (x : Int32) : Option am_M := if i < am_n M ∧ am_s M i = (0, c) ∧ (x = 0 ∨ x = 1) then some (am_pi M i k x) else none
def q_len (M : am_M) (i : Nat) : Option Int32 := if i < am_n M ∧ 1 ≤ (am_s M i).1 then some (Int32.ofNat (am_s M i).2) else none
def q_ldk (a : Nat) (j : Int32) : Option Int32 := (q_ix j 11).map (am_kv a)
def q_div (x y : Int32) : Option Int32 := if y = 0 then none else some (x / y)
def q_rem (x y : Int32) : Option Int32 := if y = 0 then none else some (x - x / y * y)
def q_z (x : Int32) : Option Int32 := if x = 0 ∨ x = 1 then some x else none
theorem q_bind {α β : Type} {o : Option α} {f : α → Option β} {r : β} (h : o.bind f = some r) : ∃ x, o = some x ∧ f x = some r := Option.bind_eq_some_iff.mp h
theorem q_ix_spec {j : Int32} {len n : Nat} (h : q_ix j len = some n) : am_ix j len n := by
  unfold q_ix at h
  split at h
  · next h1 =>
    cases h
    exact ⟨by omega, by omega⟩
  · cases h
theorem q_if {α : Type} {c : Prop} [Decidable c] {o : Option α} {x : α} (h : (if c then o else none) = some x) : c ∧ o = some x := by
  split at h
  · next h1 => exact ⟨h1, h⟩
  · cases h
theorem q_mp {α : Type} {j : Int32} {len : Nat} {f : Nat → α} {x : α} (h : (q_ix j len).map f = some x) : ∃ n, am_ix j len n ∧ f n = x := by
  obtain ⟨n, h1, h2⟩ := Option.map_eq_some_iff.mp h
  exact ⟨n, q_ix_spec h1, h2⟩
theorem am_pair {M : am_M} {i a : Nat} (h : (am_s M i).1 = a) : am_s M i = (a, (am_s M i).2) := by rw [← h]
section AWP
variable {u : am_U} {R : Room} {ce sl pc : Nat} {ls : List (Nat × Value)} {st : List Value} {M : am_M} {post : am_R → am_M → Prop}
theorem aw_gti {i ci k idx : Nat} {x : Int32} (hd : decode u.2.2.1 pc = .ok (.getfield idx, 3)) (hf : am_fl u.1 idx ci k) (ht : am_tI (am_ty ci k)) (hg : q_gti M i ci k = some x) (kk : AW u R ce sl (pc + 3) ls (.int x :: st) M post) : AW u R ce sl pc ls (.ref i :: st) M post := by
  obtain ⟨⟨h1, h2⟩, h3⟩ := q_if hg
  cases h3
  exact aw_geti hd hf h1 h2 ht kk
theorem aw_gtr {i ci k idx j : Nat} (hd : decode u.2.2.1 pc = .ok (.getfield idx, 3)) (hf : am_fl u.1 idx ci k) (ht : am_tR (am_ty ci k)) (hg : q_gtr M i ci k = some j) (kk : AW u R ce sl (pc + 3) ls (.ref j :: st) M post) : AW u R ce sl pc ls (.ref i :: st) M post := by
  obtain ⟨⟨h1, h2⟩, h3⟩ := q_if hg
  exact aw_getr hd hf h1 h2 ht h3 kk
theorem aw_pti {i ci k idx : Nat} {x : Int32} {M1 : am_M} (hd : decode u.2.2.1 pc = .ok (.putfield idx, 3)) (hf : am_fl u.1 idx ci k) (ht : am_ty ci k = .int) (hfin : (am_T ci k).2.2.2 = false) (hg : q_pti M i ci k x = some M1) (kk : AW u R ce sl (pc + 3) ls st M1 post) : AW u R ce sl pc ls (.int x :: .ref i :: st) M post := by
  obtain ⟨⟨h1, h2⟩, h3⟩ := q_if hg
  cases h3
  exact aw_puti hd hf h1 h2 ht hfin kk
theorem aw_ptz {i ci k idx : Nat} {x : Int32} {M1 : am_M} (hd : decode u.2.2.1 pc = .ok (.putfield idx, 3)) (hf : am_fl u.1 idx ci k) (ht : am_ty ci k = .boolean) (hfin : (am_T ci k).2.2.2 = false) (hg : q_ptz M i ci k x = some M1) (kk : AW u R ce sl (pc + 3) ls st M1 post) : AW u R ce sl pc ls (.int x :: .ref i :: st) M post := by
  obtain ⟨⟨h1, h2, h4⟩, h3⟩ := q_if hg
  cases h3
  exact aw_putz hd hf h1 h2 ht hfin h4 kk
theorem aw_ldi {i : Nat} {j x : Int32} (hd : decode u.2.2.1 pc = .ok (.iaload, 1)) (hg : q_ldi M i j = some x) (kk : AW u R ce sl (pc + 1) ls (.int x :: st) M post) : AW u R ce sl pc ls (.int j :: .ref i :: st) M post := by
  obtain ⟨⟨h1, h2⟩, h3⟩ := q_if hg
  obtain ⟨n, h4, rfl⟩ := q_mp h3
  exact aw_iaload hd h1 (am_pair h2) h4 kk
theorem aw_ldl {i : Nat} {j : Int32} {x : Int64} (hd : decode u.2.2.1 pc = .ok (.laload, 1)) (hg : q_ldl M i j = some x) (kk : AW u R ce sl (pc + 1) ls (.long x :: st) M post) : AW u R ce sl pc ls (.int j :: .ref i :: st) M post := by
  obtain ⟨⟨h1, h2⟩, h3⟩ := q_if hg
  obtain ⟨n, h4, rfl⟩ := q_mp h3
  exact aw_laload hd h1 (am_pair h2) h4 kk
theorem aw_ldz {i : Nat} {j x : Int32} (hd : decode u.2.2.1 pc = .ok (.baload, 1)) (hg : q_ldz M i j = some x) (kk : AW u R ce sl (pc + 1) ls (.int x :: st) M post) : AW u R ce sl pc ls (.int j :: .ref i :: st) M post := by
  obtain ⟨⟨h1, h2⟩, h3⟩ := q_if hg
  obtain ⟨n, h4, rfl⟩ := q_mp h3
  exact aw_baload hd h1 (am_pair h2) h4 kk
theorem aw_ldr {i r : Nat} {j : Int32} (hd : decode u.2.2.1 pc = .ok (.aaload, 1)) (hg : q_ldr M i j = some r) (kk : AW u R ce sl (pc + 1) ls (.ref r :: st) M post) : AW u R ce sl pc ls (.int j :: .ref i :: st) M post := by
  obtain ⟨⟨h1, h2⟩, h3⟩ := q_if hg
  obtain ⟨n, h4, h5⟩ := q_bind h3
  obtain ⟨a, ha⟩ : ∃ a, (am_s M i).1 = a + 1 := ⟨(am_s M i).1 - 1, by omega⟩
  exact aw_aaload hd h1 (am_pair ha) (by omega) (q_ix_spec h4) h5 kk
theorem aw_sti {i : Nat} {j x : Int32} {M1 : am_M} (hd : decode u.2.2.1 pc = .ok (.iastore, 1)) (hg : q_sti M i j x = some M1) (kk : AW u R ce sl (pc + 1) ls st M1 post) : AW u R ce sl pc ls (.int x :: .int j :: .ref i :: st) M post := by
  obtain ⟨⟨h1, h2⟩, h3⟩ := q_if hg
  obtain ⟨n, h4, rfl⟩ := q_mp h3
  exact aw_iastore hd h1 (am_pair h2) h4 kk
theorem aw_stl {i : Nat} {j : Int32} {x : Int64} {M1 : am_M} (hd : decode u.2.2.1 pc = .ok (.lastore, 1)) (hg : q_stl M i j x = some M1) (kk : AW u R ce sl (pc + 1) ls st M1 post) : AW u R ce sl pc ls (.long x :: .int j :: .ref i :: st) M post := by
  obtain ⟨⟨h1, h2⟩, h3⟩ := q_if hg
  obtain ⟨n, h4, rfl⟩ := q_mp h3
  exact aw_lastore hd h1 (am_pair h2) h4 kk
theorem aw_stz {i : Nat} {j x : Int32} {M1 : am_M} (hd : decode u.2.2.1 pc = .ok (.bastore, 1)) (hg : q_stz M i j x = some M1) (kk : AW u R ce sl (pc + 1) ls st M1 post) : AW u R ce sl pc ls (.int x :: .int j :: .ref i :: st) M post := by
  obtain ⟨⟨h1, h2, h5⟩, h3⟩ := q_if hg
  obtain ⟨n, h4, rfl⟩ := q_mp h3
  exact aw_bastore hd h1 (am_pair h2) h4 h5 kk
theorem aw_len {i : Nat} {x : Int32} (hd : decode u.2.2.1 pc = .ok (.arraylength, 1)) (hg : q_len M i = some x) (kk : AW u R ce sl (pc + 1) ls (.int x :: st) M post) : AW u R ce sl pc ls (.ref i :: st) M post := by
  obtain ⟨⟨h1, h2⟩, h3⟩ := q_if hg
  cases h3
  obtain ⟨a, ha⟩ : ∃ a, (am_s M i).1 = a + 1 := ⟨(am_s M i).1 - 1, by omega⟩
  exact aw_alen hd h1 (am_pair ha) rfl kk
theorem aw_ldk {a : Nat} {j x : Int32} (hd : decode u.2.2.1 pc = .ok (.iaload, 1)) (ha : a < 3) (hg : q_ldk a j = some x) (kk : AW u R ce sl (pc + 1) ls (.int x :: st) M post) : AW u R ce sl pc ls (.int j :: .ref (am_CB + a) :: st) M post := by
  obtain ⟨n, h4, rfl⟩ := q_mp hg
  exact aw_kload hd ha h4 kk
theorem aw_div {x y z : Int32} (hd : decode u.2.2.1 pc = .ok (.idiv, 1)) (hg : q_div x y = some z) (kk : AW u R ce sl (pc + 1) ls (.int z :: st) M post) : AW u R ce sl pc ls (.int y :: .int x :: st) M post := by
  unfold q_div at hg
  split at hg
  · cases hg
  · next h => cases hg; exact aw_idiv hd h kk
theorem aw_rem {x y z : Int32} (hd : decode u.2.2.1 pc = .ok (.irem, 1)) (hg : q_rem x y = some z) (kk : AW u R ce sl (pc + 1) ls (.int z :: st) M post) : AW u R ce sl pc ls (.int y :: .int x :: st) M post := by
  unfold q_rem at hg
  split at hg
  · cases hg
  · next h => cases hg; exact aw_irem hd h kk
theorem q_z_spec {x z : Int32} (h : q_z x = some z) : z = x ∧ narrow .boolean (.int x) = .int x := by
  obtain ⟨h1, h2⟩ := q_if h
  cases h2
  exact ⟨rfl, (am_zn h1).1⟩
theorem aw_ldcw {idx : Nat} {v : Int32} (hd : decode u.2.2.1 pc = .ok (.ldc_w idx, 3)) (hw : Cond.constant u.1 idx v ∈ lw_tbl) (k : AW u R ce sl (pc + 3) ls (.int v :: st) M post) : AW u R ce sl pc ls st M post := by
  intro G p l e s m args below meth c H locs la hF hL hK hZ hP hS hb hl
  exact lv_ldcw hF.1 hF.2.1 hF.2.2.2.1 (hF.2.2.2.2.1 _ (am_mem hw rfl)) hd (k G p l e s m args below meth c H locs la hF hL hK hZ hP hS hb hl)
theorem aw_pick {ls' : List (Nat × Value)} (ks : List Nat) (h : lv_pick ls ks = ls') (k : AW u R ce sl pc ls' st M post) : AW u R ce sl pc ls st M post := by
  intro G p l e s m args below meth c H locs la hF hL hK hZ hP hS hb hl
  refine k G p l e s m args below meth c H locs la hF hL hK hZ hP hS hb (lv_sub hl ks ?_)
  rw [← h]
  unfold lv_pick am_lv
  rw [List.map_filterMap]
  congr 1
  funext i
  rw [List.getElem?_map]
-- calls of methods that come back with one answer and one memory
variable {y : MethodName} {u' : am_U} {R' : Room} {As rest : List Value} {idx n : Nat} {M1 : am_M}
theorem aw_cS {v : Option Value} {st' : List Value} (hd : decode u.2.2.1 pc = .ok (.invokestatic idx, 3)) (hw : am_kS u.1 idx y u' n) (hrm : am_rm R R' u' ce sl) (hA : As.length = n) (hst : As.reverse ++ rest = st) (hro : (rest.map fun v => v.category).sum ≤ 8) (hst' : v.toList ++ rest = st') (hM : AMet y u' R' As M (fun r M' => r = .inl v ∧ M' = M1))
    (kk : AW u R (ce + R'.cells) (sl + R'.slots) (pc + 3) ls st' M1 post) : AW u R ce sl pc ls st M post := by
  subst hst'
  refine aw_callS hd hw hrm hM hA hst hro (fun k M' h => by cases h.1) (fun w M' h => ?_)
  obtain ⟨h1, rfl⟩ := h
  cases h1
  exact kk
theorem aw_cV {i ci : Nat} {v : Option Value} {st' : List Value} (hd : decode u.2.2.1 pc = .ok (.invokevirtual idx, 3)) (hw : am_kV u.1 idx ci y u' n) (hi : i < am_n M) (hs : am_s M i = (0, ci)) (hrm : am_rm R R' u' ce sl) (hA : As.length = n) (hst : As.reverse ++ .ref i :: rest = st) (hro : (rest.map fun v => v.category).sum ≤ 8) (hst' : v.toList ++ rest = st') (hM : AMet y u' R' (.ref i :: As) M (fun r M' => r = .inl v ∧ M' = M1))
    (kk : AW u R (ce + R'.cells) (sl + R'.slots) (pc + 3) ls st' M1 post) : AW u R ce sl pc ls st M post := by
  subst hst'
  refine aw_callV hd hw hi hs hrm hM hA hst hro (fun k M' h => by cases h.1) (fun w M' h => ?_)
  obtain ⟨h1, rfl⟩ := h
  cases h1
  exact kk
end AWP
/-- the receiver of a call -/
def q_ob (M : am_M) (i c : Nat) : Option Unit := if i < am_n M ∧ am_s M i = (0, c) then some () else none
theorem q_ob_spec {M : am_M} {i c : Nat} {x : Unit} (h : q_ob M i c = some x) : i < am_n M ∧ am_s M i = (0, c) := (q_if h).1
