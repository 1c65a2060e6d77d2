/-! ===== references into arrays; new int[a][b] ===== -/
/-- two memories one behind another: n cells of ints, each of k places, behind an array of references to them -/
def am_mn (M : am_M) (n k : Nat) : am_M := (M.1 + 1 + n, fun i => if i = M.1 then (8, n) else if M.1 < i ∧ i ≤ M.1 + n then (1, k) else M.2.1 i, fun i b => if M.1 ≤ i ∧ i ≤ M.1 + n then 0 else M.2.2.1 i b, fun i b => if M.1 ≤ i ∧ i ≤ M.1 + n then 0 else M.2.2.2.1 i b,
  fun i b => if i = M.1 then (if b < n then some (M.1 + 1 + b) else none) else if M.1 < i ∧ i ≤ M.1 + n then none else M.2.2.2.2.1 i b, M.2.2.2.2.2)
theorem am_outer (c : ClassId) (N h0 : Nat) : ∀ i : Nat, Jvm.Free.Multi.outerC c N h0 i = arrV c N (fun j => va_rf (if j < i then some (h0 + 1 + j) else none))
  | 0 => by
    show ({ cls := c, slots := Array.replicate N .null, vm := .none } : Cell) = _
    rw [arrV_new]
    refine congrArg (arrV c N) (funext fun j => ?_)
    simp [va_rf]
  | i + 1 => by
    show (Jvm.Free.Multi.outerC c N h0 i).setSlot i (.ref (h0 + 1 + i)) = _
    rw [am_outer c N h0 i, arrV_store]
    refine congrArg (arrV c N) (funext fun j => ?_)
    unfold updV
    by_cases e : j = i
    · rw [if_pos e, if_pos (by omega), e]
      rfl
    · rw [if_neg e]
      show va_rf (if j < i then some (h0 + 1 + j) else none) = va_rf (if j < i + 1 then some (h0 + 1 + j) else none)
      by_cases h : j < i
      · rw [if_pos h, if_pos (by omega)]
      · rw [if_neg h, if_neg (by omega)]
section AWM
variable {u : am_U} {R : Room} {ce sl pc : Nat} {ls : List (Nat × Value)} {st : List Value} {M : am_M} {post : am_R → am_M → Prop}
theorem aw_aastore {i len n a v c : Nat} {j : Int32} (hd : decode u.2.2.1 pc = .ok (.aastore, 1)) (hi : i < am_n M) (hs : am_s M i = (a + 1, len)) (ha : am_aty a = .object (am_C c)) (hx : am_ix j len n) (hv : v < am_n M) (hvs : am_s M v = (0, c)) (k : AW u R ce sl (pc + 1) ls st (am_pr M i n (some v)) post) : AW u R ce sl pc ls (.ref v :: .int j :: .ref i :: st) M post := by
  intro G p l e s m args below meth c0 H locs la hF hL hK hZ hP hS hb hl
  obtain ⟨h8, hA⟩ := am_arr (j := a) hP hi hs
  have hat := hP.2.2 v hv
  unfold am_at at hat
  rw [hvs] at hat
  obtain ⟨hc, cell, q1, q2, q3, q4⟩ := hat
  obtain ⟨hS', hfc, kC, hkC, hkind⟩ := hK.1 c _ (am_cl_get hc)
  have hra := (hK.2 a _ (am_tys_get G h8)).2
  rw [ha] at hra
  obtain ⟨kA, comp, g1, g2, g3, g4⟩ := hra
  have hcomp : comp = G.1 c := Option.some.inj (g3.symm.trans hfc)
  subst hcomp
  have hass := va_assign (s := s) (C := am_C c) (cC := G.1 c) ⟨hfc, kC, hkC, hkind⟩
  refine W.aast (t := .object (am_C c)) (g := F0 m pc la (.ref (am_a G v) :: .int j :: .ref (am_a G i) :: st.map (am_v G))) hF.1 hF.2.1 hA (fun q h => by cases h) (fun h => by cases h) g1 g2 rfl hkC ⟨am_ge0 (by rw [hx.2]; omega), by rw [arrV_size, (am_ix_in hx).2]; exact hx.1⟩ q1 (fun q h => by rw [q3] at h; cases h) (by rw [q2]; exact hkC) (by rw [q2]; exact hass) rfl rfl hd (fun H1 e1 e2 e3 => ?_)
  refine k G p l e s m args below meth c0 H1 _ la hF hL hK hZ (am_cons (am_pr M i n (some v)) hP hi hs hx rfl rfl rfl (am_pr_o M i n (some v)) (fun b => am_hv_pr (ty := fun _ => am_aty a) (by rw [ha]; exact Or.inl ⟨_, rfl⟩) b) e1 e2 e3) (am_Sput hP hi hS e2 e3) hb hl
set_option maxHeartbeats 1000000 in
theorem aw_multi {idx n b : Nat} {v w : Int32} (hd : decode u.2.2.1 pc = .ok (.multianewarray idx 2, 4)) (hw : Cond.classLink u.1 idx ("[" ++ (FieldType.array FieldType.int).toString) ∈ lw_tbl) (hw2 : Cond.arrayClass .int ∈ lw_tbl) (hv : am_ix v (n + 1) n) (hvw : am_ix w (b + 1) b) (hsm : n ≤ 1000 ∧ b ≤ 1000) (hx : am_x M = 0) (hn : am_n M + 1 + n ≤ am_CB) (hce : ce + (1 + n) ≤ R.cells) (hsl : sl + (n + n * b) ≤ R.slots)
    (k : AW u R (ce + 1 + n) (sl + n + n * b) (pc + 4) ls (.ref (am_n M) :: st) (am_mn M n b) post) : AW u R ce sl pc ls (.int w :: .int v :: st) M post := by
  intro G p l e s m args below meth c0 H locs la hF hL hK hZ hP hS hb hl
  have hts := hF.2.2.2.2.1
  have hn1 : am_n M < am_CB := by omega
  have htop := am_top hP hx hn1
  have hv0 : ¬ v < 0 := am_ge0 (by rw [hv.2]; omega)
  have hw0 : ¬ w < 0 := am_ge0 (by rw [hvw.2]; omega)
  have hvn := (am_ix_in hv).2
  have hwn := (am_ix_in hvw).2
  intro T hT X
  obtain ⟨vm₁, cA, comp, -, fA, fC, -, -, X', step⟩ := X.multianewarray2F hF.1 hF.2.2.2.1 (hts _ (am_mem hw rfl)) (show (Cond.arrayOver (.array .int)).before args s = true from hZ.1.2.2.2.2.2) (hts _ (am_mem hw2 rfl)) (g := F0 m pc la (.int w :: .int v :: st.map (am_v G))) rfl (by rw [hF.2.1]; exact hd) rfl hv0 hw0 (by rw [hvn]; omega) (by rw [hwn]; show b * 4 ≤ _; omega) (by rw [hwn]; omega) rfl rfl (by rw [hvn]; exact hce) (by rw [hvn, hwn]; exact hsl)
  rw [hvn, hwn] at X' step
  generalize hFF : Jvm.Free.Multi.fill (T.setVm vm₁) cA comp n b (defaultValue .int) n = F at X' step
  have hTh : (T.setVm vm₁).heap = H := hT
  obtain ⟨f1, f2, -, -⟩ := Jvm.Free.Multi.fill_facts (T.setVm vm₁) cA comp n b (defaultValue .int) n
  rw [hFF, hTh] at f1 f2
  have hold : ∀ x : Nat, x < H.size → F.heap[x]? = H[x]? := fun x hx => by
    have := Jvm.Free.Multi.fill_old (T.setVm vm₁) cA comp n b (defaultValue .int) (a := x) (by rw [hTh]; exact hx) n
    rw [hFF, hTh] at this
    exact this
  have hrow : ∀ j : Nat, j < n → F.heap[H.size + 1 + j]? = some (arrV comp b (fun _ => .int 0)) := fun j hj => by
    have := Jvm.Free.Multi.fill_inner (T.setVm vm₁) cA comp n b (defaultValue .int) n j hj
    rw [hFF, hTh] at this
    rw [this, ← arrV_new]
    rfl
  have hcA : cA = G.2.2.1 7 := Option.some.inj (fA.symm.trans (hK.2 7 _ (am_tys_get G (by decide))).2)
  have hcI : comp = G.2.2.1 0 := Option.some.inj (fC.symm.trans (hK.2 0 _ (am_tys_get G (by decide))).2)
  subst hcA
  subst hcI
  have hb0 : H.size = am_b G + am_n M := by rw [hP.1, hx]; rfl
  have hP1 : am_P G (am_mn M n b) F.heap := by
    refine ⟨by rw [f1, hb0]; show _ = am_b G + (am_n M + 1 + n) + am_x M; omega, hn, fun i hi => ?_⟩
    have hi' : i < am_n M + 1 + n := hi
    have hic : i < am_CB := by omega
    by_cases e1 : i = am_n M
    · subst e1
      unfold am_at
      rw [show am_s (am_mn M n b) (am_n M) = (7 + 1, n) from if_pos rfl]
      refine ⟨by decide, ?_⟩
      rw [← htop, f2, am_outer]
      congr 2
      funext q
      show va_rf (if q < n then some (H.size + 1 + q) else none) = va_rf (Option.map (am_a G) (am_r (am_mn M n b) (am_n M) q))
      rw [show am_r (am_mn M n b) (am_n M) q = if q < n then some (am_n M + 1 + q) else none from if_pos rfl]
      by_cases hq : q < n
      · rw [if_pos hq, if_pos hq, Option.map_some, am_a_lt (by omega), hb0]
        congr 2
        omega
      · rw [if_neg hq, if_neg hq]
        rfl
    · by_cases e2 : am_n M < i
      · have hr : am_n M < i ∧ i ≤ am_n M + n := ⟨e2, by omega⟩
        unfold am_at
        rw [show am_s (am_mn M n b) i = (0 + 1, b) from by show (if i = M.1 then _ else if _ then _ else _) = _; rw [if_neg e1, if_pos hr]]
        refine ⟨by decide, ?_⟩
        have hj := hrow (i - (am_n M + 1)) (by omega)
        rw [hb0, show am_b G + am_n M + 1 + (i - (am_n M + 1)) = am_a G i by rw [am_a_lt hic]; omega] at hj
        rw [hj]
        congr 2
        funext q
        show Value.int 0 = Value.int (if M.1 ≤ i ∧ i ≤ M.1 + n then 0 else _)
        rw [if_pos ⟨Nat.le_of_lt e2, hr.2⟩]
      · have hlt : i < am_n M := by omega
        have hns : ¬ (M.1 ≤ i ∧ i ≤ M.1 + n) := fun q => absurd q.1 (Nat.not_le.mpr hlt)
        have hns2 : ¬ (M.1 < i ∧ i ≤ M.1 + n) := fun q => e2 q.1
        refine (hP.2.2 i hlt).kept ⟨?_, ?_, ?_, ?_⟩ (hold _ (by rw [am_a_lt hic, hb0]; omega))
        · show (if i = M.1 then _ else if _ then _ else _) = _
          rw [if_neg e1, if_neg hns2]
        · funext q
          exact if_neg hns
        · funext q
          exact if_neg hns
        · funext q
          show (if i = M.1 then _ else if _ then _ else _) = _
          rw [if_neg e1, if_neg hns2]
  have hS1 : va_S (am_A G) s.heap F.heap locs := ⟨Nat.le_trans hS.1 (by omega), fun q h1 h2 => (hold q (Nat.lt_of_lt_of_le h1 hS.1)).trans (hS.2.1 q h1 h2), hS.2.2⟩
  obtain ⟨t, a1, b1⟩ := k G p l e s m args below meth c0 F.heap locs la hF hL hK hZ hP1 hS1 hb hl F rfl X'
  refine ⟨t, step t ?_, b1⟩
  rw [hT, htop]
  exact a1
end AWM
