/-! ===== rows that make cells ===== -/
def am_nw (M : am_M) (sh : Nat × Nat) : am_M := (M.1 + 1, fun i => if i = M.1 then sh else M.2.1 i, fun i k => if i = M.1 then 0 else M.2.2.1 i k, fun i k => if i = M.1 then 0 else M.2.2.2.1 i k, fun i k => if i = M.1 then none else M.2.2.2.2.1 i k, M.2.2.2.2.2)
def am_okt : FieldType → Bool
  | .int => true
  | .boolean => true
  | .long => true
  | .object _ => true
  | .array _ => true
  | _ => false
theorem am_dflt {G : am_G} {M : am_M} {sh : Nat × Nat} {ty : FieldType} (h : am_okt ty = true) (k : Nat) : defaultValue ty = am_fv G (am_nw M sh) (am_n M) ty k := by
  have e1 : am_i (am_nw M sh) (am_n M) k = 0 := if_pos rfl
  have e2 : am_l (am_nw M sh) (am_n M) k = 0 := if_pos rfl
  have e3 : am_r (am_nw M sh) (am_n M) k = none := if_pos rfl
  unfold am_fv
  rw [e1, e2, e3]
  cases ty <;> first | rfl | cases h
theorem am_nw_o (M : am_M) (sh : Nat × Nat) : ∀ j, j ≠ am_n M → am_same M (am_nw M sh) j := fun j hj => ⟨if_neg hj, funext fun _ => if_neg hj, funext fun _ => if_neg hj, funext fun _ => if_neg hj⟩
theorem am_okc {c : Nat} (h : c < 11) : ∀ k, k < am_N c → am_okt (am_ty c k) = true := by
  match c, h with
  | 0, _ => decide +kernel
  | 1, _ => decide +kernel
  | 2, _ => decide +kernel
  | 3, _ => decide +kernel
  | 4, _ => decide +kernel
  | 5, _ => decide +kernel
  | 6, _ => decide +kernel
  | 7, _ => decide +kernel
  | 8, _ => decide +kernel
  | 9, _ => decide +kernel
  | 10, _ => decide +kernel
  | k + 11, h => exact absurd h (by omega)
theorem am_Pnw {G : am_G} {M : am_M} {sh : Nat × Nat} {H H1 : Heap} (h : am_P G M H) (hx : am_x M = 0) (hn : am_n M < am_CB) (z : H1.size = H.size + 1) (o : ∀ q, q < H.size → H1[q]? = H[q]?) (hat : am_at G (am_nw M sh) (am_n M) H1) : am_P G (am_nw M sh) H1 := by
  obtain ⟨h1, h2, h3⟩ := h
  refine ⟨by rw [z, h1]; show _ = am_b G + (am_n M + 1) + am_x M; omega, hn, fun i hi => ?_⟩
  have hi' : i < am_n M + 1 := hi
  by_cases e : i = am_n M
  · subst e
    exact hat
  · have hlt : i < am_n M := by omega
    exact (h3 i hlt).kept (am_nw_o M sh i e) (o _ (by rw [am_a_lt (by omega), h1]; omega))
theorem am_top {G : am_G} {M : am_M} {H : Heap} (h : am_P G M H) (hx : am_x M = 0) (hn : am_n M < am_CB) : H.size = am_a G (am_n M) := by rw [am_a_lt hn, h.1, hx]; omega
def am_kN (own : String) (idx c : Nat) : Prop := c < 11 ∧ Cond.classLink own idx (am_C c) ∈ lw_tbl ∧ Cond.instantiable (am_C c) (am_N c) ∈ lw_tbl ∧ Cond.initialized (am_C c) ∈ lw_tbl
section AWN
variable {u : am_U} {R : Room} {ce sl pc : Nat} {ls : List (Nat × Value)} {st : List Value} {M : am_M} {post : am_R → am_M → Prop}
theorem am_Snew {G : am_G} {s : State} {H H1 : Heap} {locs : List Loc} (hS : va_S (am_A G) s.heap H locs) (z : H1.size = H.size + 1) (o : ∀ q, q < H.size → H1[q]? = H[q]?) : va_S (am_A G) s.heap H1 locs :=
  ⟨Nat.le_trans hS.1 (by omega), fun q h1 h2 => (o q (Nat.lt_of_lt_of_le h1 hS.1)).trans (hS.2.1 q h1 h2), hS.2.2⟩
theorem aw_new {idx c : Nat} (hd : decode u.2.2.1 pc = .ok (.new idx, 3)) (hw : am_kN u.1 idx c) (hx : am_x M = 0) (hn : am_n M < am_CB) (hce : ce + 1 ≤ R.cells) (hsl : sl + am_N c ≤ R.slots) (k : AW u R (ce + 1) (sl + am_N c) (pc + 3) ls (.ref (am_n M) :: st) (am_nw M (0, c)) post) : AW u R ce sl pc ls st M post := by
  intro G p l e s m args below meth c0 H locs la hF hL hK hZ hP hS hb hl
  obtain ⟨hc, w1, w2, w3⟩ := hw
  have hts := hF.2.2.2.2.1
  have hKn := hK.1 c _ (am_cl_get hc)
  have htop := am_top hP hx hn
  refine W.newcK (g := F0 m pc la (st.map (am_v G))) hF.1 hF.2.1 hF.2.2.2.1 (hts _ (am_mem w1 rfl)) (hts _ (am_mem w2 rfl)) (hts _ (am_mem w3 rfl)) rfl hd hce hsl hKn.2.1 htop (fun H' kC hkC e1 z1 o1 => ?_)
  rw [← htop] at z1 o1
  refine k G p l e s m args below meth c0 H' locs la hF hL hK hZ (am_Pnw hP hx hn z1 o1 ?_) (am_Snew hS z1 o1) hb hl
  unfold am_at
  rw [show am_s (am_nw M (0, c)) (am_n M) = (0, c) from if_pos rfl]
  exact ⟨hc, (u_born (am_ty c) hts (am_in hc) hKn hkC e1 (am_tk hc)).to (fun j hj => am_dflt (am_okc hc j hj) j)⟩
theorem aw_newarray {atype : ArrayType} {j n : Nat} {v : Int32} (hd : decode u.2.2.1 pc = .ok (.newarray atype, 2)) (hj : j < 3) (hty : newarray.typeOf atype = am_aty j) (hw : Cond.arrayClass (am_aty j) ∈ lw_tbl) (hv : am_ix v (n + 1) n) (hsm : n ≤ 1000000) (hx : am_x M = 0) (hn : am_n M < am_CB) (hce : ce + 1 ≤ R.cells) (hsl : sl + n ≤ R.slots) (k : AW u R (ce + 1) (sl + n) (pc + 2) ls (.ref (am_n M) :: st) (am_nw M (j + 1, n)) post) : AW u R ce sl pc ls (.int v :: st) M post := by
  intro G p l e s m args below meth c0 H locs la hF hL hK hZ hP hS hb hl
  have hts := hF.2.2.2.2.1
  have htop := am_top hP hx hn
  have hv0 : ¬ v < 0 := am_ge0 (by rw [hv.2]; omega)
  have hcb : n * componentBytes (newarray.typeOf atype) ≤ 536870912 := by
    have h8 : componentBytes (newarray.typeOf atype) ≤ 8 := by cases atype <;> decide
    calc n * componentBytes (newarray.typeOf atype) ≤ n * 8 := Nat.mul_le_mul_left n h8
      _ ≤ 536870912 := by omega
  refine va_newaK (g := F0 m pc la (.int v :: st.map (am_v G))) hF.1 hF.2.1 (by rw [hty]; exact hts _ (am_mem hw rfl)) rfl hd rfl hv0 (am_ix_in hv).2 hcb hce hsl htop (fun H' cA e1 z1 o1 hA hN => ?_)
  rw [← htop] at z1 o1
  refine k G p l e s m args below meth c0 H' locs la hF hL hK hZ (am_Pnw hP hx hn z1 o1 ?_) (am_Snew hS z1 o1) hb hl
  have hcA : cA = G.2.2.1 j := by
    have hra := (hK.2 j _ (am_tys_get G (by omega))).2
    rw [hty] at hN
    match j, hj, hra, hN with
    | 0, _, hra, hN => exact Option.some.inj (hN.symm.trans hra)
    | 1, _, hra, hN => exact Option.some.inj (hN.symm.trans hra)
    | 2, _, hra, hN => exact Option.some.inj (hN.symm.trans hra)
  subst hcA
  unfold am_at
  rw [show am_s (am_nw M (j + 1, n)) (am_n M) = (j + 1, n) from if_pos rfl]
  refine ⟨by omega, ?_⟩
  rw [e1, hty]
  congr 2
  funext b
  exact am_dflt (by match j, hj with
    | 0, _ => rfl
    | 1, _ => rfl
    | 2, _ => rfl) b
theorem aw_anewarray {idx j n : Nat} {C : String} {v : Int32} (hd : decode u.2.2.1 pc = .ok (.anewarray idx, 3)) (hj : 3 ≤ j ∧ j < 7) (hC : am_aty j = .object C) (hCm : C ∈ ["CrewOffice$Clock", "CrewOffice$Leg", "CrewOffice$Member", "CrewOffice$Work"]) (hw : Cond.classLink u.1 idx C ∈ lw_tbl) (hv : am_ix v (n + 1) n) (hsm : n ≤ 1000000) (hx : am_x M = 0) (hn : am_n M < am_CB) (hce : ce + 1 ≤ R.cells) (hsl : sl + n ≤ R.slots) (k : AW u R (ce + 1) (sl + n) (pc + 3) ls (.ref (am_n M) :: st) (am_nw M (j + 1, n)) post) : AW u R ce sl pc ls (.int v :: st) M post := by
  intro G p l e s m args below meth c0 H locs la hF hL hK hZ hP hS hb hl
  have hts := hF.2.2.2.2.1
  have htop := am_top hP hx hn
  have hv0 : ¬ v < 0 := am_ge0 (by rw [hv.2]; omega)
  have hvn := (am_ix_in hv).2
  refine W.anew (g := F0 m pc la (.int v :: st.map (am_v G))) hF.1 hF.2.1 hF.2.2.2.1 (hts _ (am_mem hw rfl)) (va_AO.use (hZ.1.2.2.2.1 C hCm)) rfl hd rfl hv0 (by rw [hvn]; omega) hce (by rw [hvn]; exact hsl) (fun cA kA comp f1 f2 f3 f4 => ?_)
  rw [hvn]
  generalize hH1 : H.push ({ cls := cA, slots := Array.replicate n .null, vm := .none } : Cell) = H1
  have z1 : H1.size = H.size + 1 := by rw [← hH1, Array.size_push]
  have e1 : H1[H.size]? = some (arrV cA n (fun _ => .null)) := by rw [← hH1, Array.getElem?_push_size, ← arrV_new]
  have o1 : ∀ q : Nat, q < H.size → H1[q]? = H[q]? := fun q hq => by rw [← hH1, Array.getElem?_push, if_neg (Nat.ne_of_lt hq)]
  have hcA : cA = G.2.2.1 j := by
    have hra := (hK.2 j _ (am_tys_get G (by omega))).2
    rw [hC] at hra
    obtain ⟨kA', comp', g1, g2, g3, g4⟩ := hra
    exact Option.some.inj (f1.symm.trans g4)
  subst hcA
  rw [htop]
  refine k G p l e s m args below meth c0 H1 locs la hF hL hK hZ (am_Pnw hP hx hn z1 o1 ?_) (am_Snew hS z1 o1) hb hl
  unfold am_at
  rw [show am_s (am_nw M (j + 1, n)) (am_n M) = (j + 1, n) from if_pos rfl]
  refine ⟨by omega, ?_⟩
  rw [← htop, e1]
  congr 2
  funext b
  have h9 := am_dflt (G := G) (M := M) (sh := (j + 1, n)) (ty := am_aty j) (by rw [hC]; rfl) b
  rw [← h9, hC]
  rfl
theorem aw_objInit {idx i : Nat} (hd : decode u.2.2.1 pc = .ok (.invokespecial idx, 3)) (hw : Cond.methodLink u.1 idx objectInit ∈ lw_tbl) (hw2 : Cond.instanceMethod objectInit ∈ lw_tbl) (hw3 : Cond.code objectInit ⟨#[0xb1]⟩ 1 none ∈ lw_tbl) (hfr : 1 ≤ R.frames) (hlo : (st.map fun v => v.category).sum + 12 ≤ R.locals) (k : AW u R ce sl (pc + 3) ls st M post) : AW u R ce sl pc ls (.ref i :: st) M post := by
  intro G p l e s m args below meth c H locs la hF hL hK hZ hP hS hb hl
  have hts := hF.2.2.2.2.1
  exact W.objInit (g := F0 m pc la (.ref (am_a G i) :: st.map (am_v G))) hF.1 hF.2.1 hF.2.2.2.1 (hts _ (am_mem hw rfl)) (hts _ (am_mem hw2 rfl)) (hts _ (am_mem hw3 rfl)) rfl (hl.1.trans hF.2.2.1.symm) rfl hd hfr (by show 2 * 0 + _ + 12 ≤ _; rw [am_cats]; omega) (k G p l e s m args below meth c H locs la hF hL hK hZ hP hS hb hl)
theorem aw_getsN {idx j : Nat} {host : String} (hd : decode u.2.2.1 pc = .ok (.getstatic idx, 3)) (hj : j < 3) (hw : Cond.fieldLinkNest u.1 idx "CrewOffice" (am_kn j) "[I" host ∈ lw_tbl) (k : AW u R ce sl (pc + 3) ls (.ref (am_CB + j) :: st) M post) : AW u R ce sl pc ls st M post := by
  intro G p l e s m args below meth c H locs la hF hL hK hZ hP hS hb hl
  refine va_getsN hF.1 hF.2.1 (hZ.2 j hj).1 hS hF.2.2.2.1 (hF.2.2.2.2.1 _ (am_mem hw rfl)) (fun _ h => h) hd ?_
  have k := k G p l e s m args below meth c H locs la hF hL hK hZ hP hS hb hl
  rw [List.map_cons, show am_v G (.ref (am_CB + j)) = .ref (G.2.2.2.2 j) from congrArg Value.ref am_a_k] at k
  exact k
end AWN
