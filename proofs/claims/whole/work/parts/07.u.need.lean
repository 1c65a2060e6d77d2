/-! ===== the three methods that throw where a condition doesn't hold ===== -/
theorem am_own {k : Nat} (hk : k < 3) : ∀ w ∈ am_tw (am_ic k) (am_X k) (am_i5 k).1 (am_i5 k).2, w ∈ am_sw ∨ w ∈ am_ws := by
  match k, hk with
  | 0, _ => exact am_own0
  | 1, _ => exact am_own1
  | 2, _ => exact am_own2
  | k + 3, h => exact absurd h (by omega)
theorem am_fit {k : Nat} (hk : k < 3) : Bundle.fit (am_X k) = true ∧ (decode (am_i5 k).2 0 = .ok (.aload_n 0, 1) ∧ decode (am_i5 k).2 1 = .ok (.aload_n 1, 1)) ∧ decode (am_i5 k).2 2 = .ok (.invokespecial (am_i5 k).1, 3) ∧ decode (am_i5 k).2 5 = .ok (.return_, 1) := by
  match k, hk with
  | 0, _ => exact ⟨by decide +kernel, ⟨by decide +kernel, by decide +kernel⟩, by decide +kernel, by decide +kernel⟩
  | 1, _ => exact ⟨by decide +kernel, ⟨by decide +kernel, by decide +kernel⟩, by decide +kernel, by decide +kernel⟩
  | 2, _ => exact ⟨by decide +kernel, ⟨by decide +kernel, by decide +kernel⟩, by decide +kernel, by decide +kernel⟩
  | k + 3, h => exact absurd h (by omega)
def am_nix : Nat → Nat := fun k => match k with
  | 0 => 232
  | 1 => 239
  | _ => 244
theorem am_inw {k : Nat} (hk : k < 3) : Cond.classLink "CrewOffice" (am_nix k) (am_X k) ∈ lw_tbl ∧ Cond.instantiable (am_X k) 6 ∈ lw_tbl ∧ Cond.initialized (am_X k) ∈ lw_tbl := by
  match k, hk with
  | 0, _ => exact ⟨by decide +kernel, by decide +kernel, by decide +kernel⟩
  | 1, _ => exact ⟨by decide +kernel, by decide +kernel, by decide +kernel⟩
  | 2, _ => exact ⟨by decide +kernel, by decide +kernel, by decide +kernel⟩
  | k + 3, h => exact absurd h (by omega)
def am_nR : Room := { frames := 8, cells := 1, slots := 6, locals := 200 }
theorem am_Ppx {G : am_G} {M : am_M} {H H1 : Heap} (h : am_P G M H) (z : H1.size = H.size + 1) (o : ∀ q, q < H.size → H1[q]? = H[q]?) : am_P G (am_px M) H1 := by
  obtain ⟨h1, h2, h3⟩ := h
  refine ⟨by rw [z, h1]; show _ = am_b G + am_n M + (am_x M + 1); omega, h2, fun i hi => ?_⟩
  refine (h3 i hi).kept (M1 := am_px M) ⟨rfl, rfl, rfl, rfl⟩ (o _ ?_)
  have hi' : i < am_n M := hi
  rw [am_a_lt (Nat.lt_of_lt_of_le hi' h2), h1]
  omega
set_option maxHeartbeats 4000000 in
theorem am_need {k : Nat} {y : MethodName} {u : am_U} {M : am_M} (hk : k < 3) (hy : plainFor y = true) (hc : am_code y u ∈ am_ws) (hown : y.cls = "CrewOffice") (hu1 : u.1 = "CrewOffice") (hnm : y.name = u.2.1) (hul : u.2.2.2.1 = 1) (hur : u.2.2.2.2.1 = none) (huh : u.2.2.2.2.2 = [])
    (d0 : decode u.2.2.1 0 = .ok (.iload_n 0, 1)) (d1 : decode u.2.2.1 1 = .ok (.ifCond .ne 13, 3)) (d4 : decode u.2.2.1 4 = .ok (.new (am_nix k), 3)) (d7 : decode u.2.2.1 7 = .ok (.dup, 1)) (d8 : decode u.2.2.1 8 = .ok (.ldc (am_tx k).1, 2)) (d10 : decode u.2.2.1 10 = .ok (.invokespecial (am_ic k), 3)) (d13 : decode u.2.2.1 13 = .ok (.athrow, 1)) :
    AMet y u am_nR [.int 0] M (fun r M' => r = .inr k ∧ M' = am_px M) := by
  intro l hL G
  refine MetFree.of_bodySF (code := u.2.2.1) (maxLocals := u.2.2.2.1) (ret := u.2.2.2.2.1) hy ?_ ?_
  · intro args s m h hn
    obtain ⟨meth, c, h1, h2, h3, h4, h5, h6, -, -⟩ := am_code_spec hn (atoms_spec (ws := am_ws) h _ hc)
    exact ⟨meth, c, h1, h2, h3, h4, h5, h6⟩
  · intro p e s m args below meth c s₁ B hml hv _
    obtain ⟨rfl, hP, hK, hZ, hb⟩ := hv
    have hts := atoms_spec (ws := am_ws) B.pre
    have hh0 : s₁.heap = s.heap := by rw [B.state]; rfl
    have X₀ := Stand.of_body B
    have hnm1 : s.vm.findClass "CrewOffice" = some m.cls := by rw [← hown]; exact findClass_of_methodNamed B.named
    obtain ⟨meth', c', h1, h2, h3, h4, h5, h6, h7, -⟩ := am_code_spec B.named (hts _ hc)
    cases B.method.symm.trans h1
    cases X₀.code.symm.trans h2
    have hx := B.exec
    have hbb := B.bytes
    have hout : ∀ x ∈ c.exceptionTable.toList, covers x 13 = false := by
      intro x hx
      rw [huh] at h7
      rw [List.map_eq_nil_iff.mp h7] at hx
      cases hx
    obtain ⟨wL, wI, wN⟩ := am_inw hk
    obtain ⟨cX, kX0, hfX, hkX0, -⟩ := Cond.instantiable_spec (hts _ (am_mem wI rfl))
    obtain ⟨qt, htx⟩ := hZ.1.2.2.1 k hk
    have hl := lv_entry ([.int 0] : List Value) (n := u.2.2.2.1) (by rw [hul]; exact Nat.le_of_ble_eq_true rfl)
    show ∃ s₂ o, Steps p.tables e below (s₁.setTop (entryFrame m ([.int 0] : List Value).toArray u.2.2.2.1)) s₂ ∧ _
    rw [lg_entry_eq]
    generalize (lg_sl ([.int 0] : List Value) ++ List.replicate (u.2.2.2.1 - (lg_sl ([.int 0] : List Value)).length) Slot.unset).toArray = la at hl ⊢
    have K : W p l e am_nR s m (List.map (am_v G) [Value.int 0]).toArray below meth c s.heap [] 0 0 (am_MQ G below (fun r M' => r = .inr k ∧ M' = am_px M) am_nR.cells am_nR.slots s) (F0 m 0 la []) := by
      refine lv_iload_n hx hbb d0 rfl (lv_at hl 0 rfl) ?_
      refine lv_if_ne (tgt := 14) hx hbb d1 (by decide) (fun h => absurd rfl h) (fun _ => ?_)
      refine W.newcK (H := s.heap) (g := F0 m 4 la []) hx hbb hnm1 (hts _ (am_mem wL rfl)) (hts _ (am_mem wI rfl)) (hts _ (am_mem wN rfl)) rfl d4 (by decide) (by decide) hfX rfl (fun H' kC hkC e1 z1 o1 => ?_)
      refine lv_dup (pc := 7) (ls := la) hx hbb d7 rfl ?_
      refine va_ldcS hx hbb hnm1 htx d8 ?_
      intro T hT X
      have hat : ∀ w ∈ am_tw (am_ic k) (am_X k) (am_i5 k).1 (am_i5 k).2, w.before (List.map (am_v G) [Value.int 0]).toArray s = true := by
        intro w hw
        rcases am_own hk w hw with h | h
        · obtain ⟨y1, y2⟩ := hZ.1.1.args (List.map (am_v G) [Value.int 0]).toArray
          obtain ⟨y3, y4⟩ := hZ.1.2.1.args (List.map (am_v G) [Value.int 0]).toArray
          simp only [am_sw, List.mem_cons, List.not_mem_nil, or_false] at h
          rcases h with rfl | rfl | rfl | rfl
          · exact y1
          · exact y3
          · exact y2
          · exact y4
        · exact hts w h
      obtain ⟨f0, ⟨f1, f2⟩, f3, f4⟩ := am_fit hk
      obtain ⟨U, st, hrun, hend, hWm, hsame, ce, hce, hcls, hvm⟩ := am_ctorThrow (ic := am_ic k) (i5 := (am_i5 k).1) (b5 := (am_i5 k).2) X hx (hL e X.admits) hnm1 f0 f1 f2 f3 f4 hat hfX hkC (a := s.heap.size) (by rw [hT]; exact e1) (Nat.le_refl _) (msg := .ref qt) rfl (g := F0 m 10 la [.ref qt, .ref s.heap.size, .ref s.heap.size]) rfl (hl.1.trans hml.symm) rfl rfl (rest := []) rfl (by rw [hbb]; exact d10) (by rw [hbb]; exact d13) hout (by decide) (by show 2 * 0 + (1 + 0) + 81 ≤ 200; omega) h6
      have hold : ∀ q, q < s.heap.size → U.heap[q]? = s.heap[q]? := by
        intro q hq
        have hcq : s.heap[q]? = some s.heap[q] := Array.getElem?_eq_getElem hq
        rw [hcq]
        exact State.sameButNew.old_cell hsame hcq
      have hsz : U.heap.size = s.heap.size + 1 := by
        have hs3 : U.heap.size ≤ s.heap.size + (0 + 1) := hsame.2.2.1
        have hs4 := (Array.getElem?_eq_some_iff.mp hce).1
        omega
      refine ⟨U, st, .threw s.heap.size, hrun, hend, ⟨.inr k, am_px M, ⟨rfl, rfl⟩, ⟨s.heap.size, ce, rfl, hce, by rw [hvm]; rfl, by rw [hWm.alike.findClass]; exact hcls⟩, am_Ppx hP hsz hold⟩, ⟨by omega, fun q h1 _ => hold q h1⟩, [], ⟨hWm, hsame⟩, fun q h => by cases h⟩
    obtain ⟨t, a1, o, b1, b2, b3⟩ := K s₁ hh0 X₀
    exact ⟨t, o, a1, b1, b2, b3⟩
