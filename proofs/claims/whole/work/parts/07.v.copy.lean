/-! ===== System.arraycopy of ints ===== -/
def am_cp (M : am_M) (i0 i1 sp dp n : Nat) : am_M := (M.1, M.2.1, fun a b => if a = i1 ∧ dp ≤ b ∧ b < dp + n then M.2.2.1 i0 (sp + (b - dp)) else M.2.2.1 a b, M.2.2.2.1, M.2.2.2.2.1, M.2.2.2.2.2)
def q_cpy (M : am_M) (i0 : Nat) (sp : Int32) (i1 : Nat) (dp n : Int32) : Option am_M :=
  if (i0 < am_n M ∧ (am_s M i0).1 = 1 ∧ i1 < am_n M ∧ (am_s M i1).1 = 1) ∧ 0 ≤ sp.toInt ∧ 0 ≤ dp.toInt ∧ 0 ≤ n.toInt ∧ sp.toInt + n.toInt ≤ ((am_s M i0).2 : Int) ∧ dp.toInt + n.toInt ≤ ((am_s M i1).2 : Int) then some (am_cp M i0 i1 sp.toInt.toNat dp.toInt.toNat n.toInt.toNat) else none
theorem am_copyw : Cond.native arraycopyName ∈ lw_tbl ∧ Cond.static arraycopyName ∈ lw_tbl ∧ Cond.initialized "java/lang/System" ∈ lw_tbl := ⟨by decide +kernel, by decide +kernel, by decide +kernel⟩
theorem am_ge0 {x : Int32} (h : 0 ≤ x.toInt) : ¬ x < 0 := by
  intro h1
  have h2 := Int32.lt_iff_toInt_lt.mp h1
  have h3 : (0 : Int32).toInt = 0 := by decide
  omega
set_option maxHeartbeats 1000000 in
theorem aw_cpy {u : am_U} {R : Room} {ce sl pc : Nat} {ls : List (Nat × Value)} {st : List Value} {M M1 : am_M} {post : am_R → am_M → Prop} {i0 i1 idx : Nat} {sp dp n : Int32} (hd : decode u.2.2.1 pc = .ok (.invokestatic idx, 3)) (hw : Cond.methodLink u.1 idx arraycopyName ∈ lw_tbl) (hfr : 1 ≤ R.frames) (hlo : (st.map fun v => v.category).sum + 18 ≤ R.locals)
    (hg : q_cpy M i0 sp i1 dp n = some M1) (kk : AW u R ce sl (pc + 3) ls st M1 post) : AW u R ce sl pc ls (.int n :: .int dp :: .ref i1 :: .int sp :: .ref i0 :: st) M post := by
  obtain ⟨⟨⟨g1, g2, g3, g4⟩, g5, g6, g7, g8, g9⟩, hM⟩ := q_if hg
  cases hM
  intro G p l e s m args below meth c H locs la hF hL hK hZ hP hS hb hl
  obtain ⟨h80, ha0⟩ := am_arr (j := 0) hP g1 (am_pair g2)
  obtain ⟨h81, ha1⟩ := am_arr (j := 0) hP g3 (am_pair g4)
  intro T hT X
  have hts := hF.2.2.2.2.1
  obtain ⟨w1, w2, w3⟩ := am_copyw
  have hAr := (hK.2 0 _ (am_tys_get G h80)).1
  obtain ⟨-, k0, hk0, cm0, hkk0⟩ := hAr (am_s M i0).2 (fun k => am_fv G M i0 (am_aty 0) k)
  have hk1 : s.vm.classes[(arrV (G.2.2.1 0) (am_s M i1).2 (fun k => am_fv G M i1 (am_aty 0) k)).cls]? = some k0 := hk0
  obtain ⟨vm', X', step⟩ := X.arraycopy hF.1 hF.2.2.2.1 (hts _ (am_mem hw rfl)) (hts _ (am_mem w1 rfl)) (hts _ (am_mem w2 rfl)) (hts _ (am_mem w3 rfl)) (src := am_a G i0) (dst := am_a G i1) (srcPos := sp) (destPos := dp) (n := n) (by rw [hT]; exact ha0) (by rw [hT]; exact ha1)
    (fun _ h => by cases h) (fun _ h => by cases h) (fun h => by cases h) (fun h => by cases h) hk0 hk1 hkk0 hkk0 (by simp [am_aty, refKind]) (am_ge0 g5) (am_ge0 g6) (am_ge0 g7)
    (by rw [arrV_size]; omega) (by rw [arrV_size]; omega)
    (fun vm₁ _ i hi => by
      have hi' : i < n.toInt.toNat := hi
      have e : (arrV (G.2.2.1 0) (am_s M i0).2 (fun k => am_fv G M i0 (am_aty 0) k)).slots.getD (sp.toNatClampNeg + i) .null = .int (am_i M i0 (sp.toNatClampNeg + i)) := by
        rw [Array.getD_eq_getD_getElem?, arrV_read _ _ (by show sp.toInt.toNat + i < _; omega)]
        rfl
      refine ⟨?_, ?_⟩
      · rw [e]
        rfl
      · rw [e]
        exact trivial)
    (g := F0 m pc la ((.int n :: .int dp :: .ref i1 :: .int sp :: .ref i0 :: st).map (am_v G))) rfl (hl.1.trans hF.2.2.1.symm) (rest := st.map (am_v G)) rfl (by rw [hF.2.1]; exact hd) hfr (by show 2 * 0 + _ + (5 + 2 + 11) ≤ _; rw [am_cats]; omega)
  have e1 : copied (arrV (G.2.2.1 0) (am_s M i0).2 (fun k => am_fv G M i0 (am_aty 0) k)) (arrV (G.2.2.1 0) (am_s M i1).2 (fun k => am_fv G M i1 (am_aty 0) k)) sp dp n = arrV (G.2.2.1 0) (am_s M i1).2 (fun j => .int (va_cpy (am_i M i0) (am_i M i1) sp.toNatClampNeg dp.toNatClampNeg n.toNatClampNeg j)) := va_copied (fun z => .int z) _ _ (am_i M i0) (am_i M i1) (by show sp.toInt.toNat + n.toInt.toNat ≤ _; omega)
  rw [e1] at X' step
  have hlt : am_a G i1 < H.size := (Array.getElem?_eq_some_iff.mp ha1).1
  have oq : ∀ q : Nat, q ≠ am_a G i1 → (H.setIfInBounds (am_a G i1) (arrV (G.2.2.1 0) (am_s M i1).2 (fun j => .int (va_cpy (am_i M i0) (am_i M i1) sp.toNatClampNeg dp.toNatClampNeg n.toNatClampNeg j))))[q]? = H[q]? := fun q hq => by simp [Array.getElem?_setIfInBounds, Ne.symm hq]
  have hP1 : am_P G (am_cp M i0 i1 sp.toInt.toNat dp.toInt.toNat n.toInt.toNat) (H.setIfInBounds (am_a G i1) (arrV (G.2.2.1 0) (am_s M i1).2 (fun j => .int (va_cpy (am_i M i0) (am_i M i1) sp.toNatClampNeg dp.toNatClampNeg n.toNatClampNeg j)))) := by
    refine hP.put g3 rfl rfl (fun j hj => ⟨rfl, funext fun b => if_neg (fun q => hj q.1), rfl, rfl⟩) (by simp) oq ?_
    unfold am_at
    rw [show am_s (am_cp M i0 i1 sp.toInt.toNat dp.toInt.toNat n.toInt.toNat) i1 = (0 + 1, (am_s M i1).2) from am_pair g4]
    refine ⟨by decide, ?_⟩
    have e2 : (H.setIfInBounds (am_a G i1) (arrV (G.2.2.1 0) (am_s M i1).2 (fun j => .int (va_cpy (am_i M i0) (am_i M i1) sp.toNatClampNeg dp.toNatClampNeg n.toNatClampNeg j))))[am_a G i1]? = some (arrV (G.2.2.1 0) (am_s M i1).2 (fun j => .int (va_cpy (am_i M i0) (am_i M i1) sp.toNatClampNeg dp.toNatClampNeg n.toNatClampNeg j))) := by simp [Array.getElem?_setIfInBounds, hlt]
    rw [e2]
    congr 2
    funext j
    show Value.int _ = Value.int (if i1 = i1 ∧ _ then _ else _)
    unfold va_cpy
    by_cases hj : dp.toNatClampNeg ≤ j ∧ j < dp.toNatClampNeg + n.toNatClampNeg
    · rw [if_pos hj, if_pos ⟨rfl, hj⟩]
      rfl
    · rw [if_neg hj, if_neg (fun q => hj q.2)]
  have hS1 : va_S (am_A G) s.heap (H.setIfInBounds (am_a G i1) (arrV (G.2.2.1 0) (am_s M i1).2 (fun j => .int (va_cpy (am_i M i0) (am_i M i1) sp.toNatClampNeg dp.toNatClampNeg n.toNatClampNeg j)))) (locs ++ ((arrV (G.2.2.1 0) (am_s M i0).2 (fun k => am_fv G M i0 (am_aty 0) k)).stretch sp.toNatClampNeg n.toNatClampNeg).zipIdx.map fun q => ⟨am_a G i1, dp.toNatClampNeg + q.2⟩) := by
    have hA1 : am_b G ≤ am_a G i1 := by rw [am_a_lt (Nat.lt_of_lt_of_le g3 hP.2.1)]; omega
    refine ⟨by simp; exact hS.1, fun q k1 k2 => ?_, fun q hq => ?_⟩
    · rw [oq q (fun e => k2 (by rw [e]; exact hA1))]
      exact hS.2.1 q k1 k2
    · rcases List.mem_append.mp hq with h | h
      · exact hS.2.2 q h
      · obtain ⟨z, -, hz⟩ := List.mem_map.mp h
        rw [← hz]
        exact hA1
  obtain ⟨t, a1, b1⟩ := kk G p l e s m args below meth c _ _ la hF hL hK hZ hP1 hS1 hb hl _ (by rw [← hT]; rfl) X'
  exact ⟨t, step t a1, b1⟩
