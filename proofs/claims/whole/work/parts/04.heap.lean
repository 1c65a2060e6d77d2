/-! ===== rows of the judgement AW over fields and arrays ===== -/
def am_same (M M1 : am_M) (i : Nat) : Prop := am_s M1 i = am_s M i ∧ am_i M1 i = am_i M i ∧ am_l M1 i = am_l M i ∧ am_r M1 i = am_r M i
theorem am_fv_same {G : am_G} {M M1 : am_M} {i : Nat} (h : am_same M M1 i) (ty : FieldType) (k : Nat) : am_fv G M1 i ty k = am_fv G M i ty k := by
  obtain ⟨-, h2, h3, h4⟩ := h
  unfold am_fv
  rw [h2, h3, h4]
theorem am_at.kept {G : am_G} {M M1 : am_M} {i : Nat} {H H1 : Heap} (h : am_at G M i H) (hs : am_same M M1 i) (hq : H1[am_a G i]? = H[am_a G i]?) : am_at G M1 i H1 := by
  have hf := am_fv_same (G := G) hs
  unfold am_at at h ⊢
  rw [hs.1]
  cases hc : (am_s M i).1 with
  | zero =>
    rw [hc] at h
    exact ⟨h.1, (h.2.kept hq).to (fun k _ => (hf _ k).symm)⟩
  | succ j =>
    rw [hc] at h
    refine ⟨h.1, ?_⟩
    simp only [hf]
    exact hq.trans h.2
theorem am_P.put {G : am_G} {M M1 : am_M} {H H1 : Heap} {i : Nat} (h : am_P G M H) (hi : i < am_n M) (hn : am_n M1 = am_n M) (hx : am_x M1 = am_x M) (ho : ∀ j, j ≠ i → am_same M M1 j) (z : H1.size = H.size) (oq : ∀ q, q ≠ am_a G i → H1[q]? = H[q]?) (hat : am_at G M1 i H1) : am_P G M1 H1 := by
  obtain ⟨h1, h2, h3⟩ := h
  refine ⟨by rw [z, h1, hn, hx], by rw [hn]; exact h2, fun j hj => ?_⟩
  rw [hn] at hj
  by_cases e : j = i
  · subst e
    exact hat
  · exact (h3 j hj).kept (ho j e) (oq _ (by rw [am_a_lt (Nat.lt_of_lt_of_le hj h2), am_a_lt (Nat.lt_of_lt_of_le hi h2)]; omega))
/-- the memories behind a write -/
def am_pi (M : am_M) (i k : Nat) (x : Int32) : am_M := (M.1, M.2.1, fun a b => if a = i ∧ b = k then x else M.2.2.1 a b, M.2.2.2.1, M.2.2.2.2.1, M.2.2.2.2.2)
def am_pl (M : am_M) (i k : Nat) (x : Int64) : am_M := (M.1, M.2.1, M.2.2.1, fun a b => if a = i ∧ b = k then x else M.2.2.2.1 a b, M.2.2.2.2.1, M.2.2.2.2.2)
def am_pr (M : am_M) (i k : Nat) (x : Option Nat) : am_M := (M.1, M.2.1, M.2.2.1, M.2.2.2.1, fun a b => if a = i ∧ b = k then x else M.2.2.2.2.1 a b, M.2.2.2.2.2)
theorem am_pi_o (M : am_M) (i k : Nat) (x : Int32) : ∀ j, j ≠ i → am_same M (am_pi M i k x) j := fun j hj => ⟨rfl, funext fun b => if_neg (fun q => hj q.1), rfl, rfl⟩
theorem am_pl_o (M : am_M) (i k : Nat) (x : Int64) : ∀ j, j ≠ i → am_same M (am_pl M i k x) j := fun j hj => ⟨rfl, rfl, funext fun b => if_neg (fun q => hj q.1), rfl⟩
theorem am_pr_o (M : am_M) (i k : Nat) (x : Option Nat) : ∀ j, j ≠ i → am_same M (am_pr M i k x) j := fun j hj => ⟨rfl, rfl, rfl, funext fun b => if_neg (fun q => hj q.1)⟩
/-- kinds of types -/
def am_tI (ty : FieldType) : Prop := ty = .int ∨ ty = .boolean
def am_tR (ty : FieldType) : Prop := (∃ n, ty = .object n) ∨ ∃ t, ty = .array t
theorem am_fv_I {G : am_G} {M : am_M} {i k : Nat} {ty : FieldType} (h : am_tI ty) : am_fv G M i ty k = .int (am_i M i k) := by rcases h with rfl | rfl <;> rfl
theorem am_fv_L {G : am_G} {M : am_M} {i k : Nat} : am_fv G M i .long k = .long (am_l M i k) := rfl
theorem am_fv_R {G : am_G} {M : am_M} {i k : Nat} {ty : FieldType} (h : am_tR ty) : am_fv G M i ty k = va_rf ((am_r M i k).map (am_a G)) := by rcases h with ⟨n, rfl⟩ | ⟨t, rfl⟩ <;> rfl
theorem am_hv_pi {G : am_G} {M : am_M} {i k : Nat} {x : Int32} {ty : Nat → FieldType} (h : am_tI (ty k)) (b : Nat) : am_fv G (am_pi M i k x) i (ty b) b = if b = k then .int x else am_fv G M i (ty b) b := by
  by_cases hb : b = k
  · subst hb
    rw [if_pos rfl, am_fv_I h]
    show Value.int (if i = i ∧ b = b then x else _) = _
    rw [if_pos ⟨rfl, rfl⟩]
  · rw [if_neg hb]
    have e1 : am_i (am_pi M i k x) i b = am_i M i b := if_neg (fun q => hb q.2)
    unfold am_fv
    rw [e1]
    rfl
theorem am_hv_pl {G : am_G} {M : am_M} {i k : Nat} {x : Int64} {ty : Nat → FieldType} (h : ty k = .long) (b : Nat) : am_fv G (am_pl M i k x) i (ty b) b = if b = k then .long x else am_fv G M i (ty b) b := by
  by_cases hb : b = k
  · subst hb
    rw [if_pos rfl, h, am_fv_L]
    show Value.long (if i = i ∧ b = b then x else _) = _
    rw [if_pos ⟨rfl, rfl⟩]
  · rw [if_neg hb]
    have e1 : am_l (am_pl M i k x) i b = am_l M i b := if_neg (fun q => hb q.2)
    unfold am_fv
    rw [e1]
    rfl
theorem am_hv_pr {G : am_G} {M : am_M} {i k : Nat} {x : Option Nat} {ty : Nat → FieldType} (h : am_tR (ty k)) (b : Nat) : am_fv G (am_pr M i k x) i (ty b) b = if b = k then va_rf (x.map (am_a G)) else am_fv G M i (ty b) b := by
  by_cases hb : b = k
  · subst hb
    rw [if_pos rfl, am_fv_R h]
    show va_rf (Option.map (am_a G) (if i = i ∧ b = b then x else _)) = _
    rw [if_pos ⟨rfl, rfl⟩]
  · rw [if_neg hb]
    have e1 : am_r (am_pr M i k x) i b = am_r M i b := if_neg (fun q => hb q.2)
    unfold am_fv
    rw [e1]
    rfl
/-- a field by its link: the entry of the class's pool, the class and the place of the field -/
def am_fl (own : String) (idx c k : Nat) : Prop := c < 11 ∧ k < am_N c ∧ Cond.fieldLink own idx (am_C c) (am_T c k).2.1 (am_T c k).2.2.1 ∈ lw_tbl
section AWH
variable {u : am_U} {R : Room} {ce sl pc : Nat} {ls : List (Nat × Value)} {st : List Value} {M : am_M} {post : am_R → am_M → Prop}
variable {p : Program} {l : Launch} {e : Env} {s : State} {m : MethodId} {args : Array Value} {below : List Frame} {meth : Method} {c : Code} {H : Heap} {locs : List Loc} {la : Array Slot} {Q : State → Prop} {rest : List Value} {G : am_G}
theorem am_getW {i ci k idx : Nat} (hF : am_F u p s m args meth c) (hK : am_K G s) (hP : am_P G M H) (hd : decode u.2.2.1 pc = .ok (.getfield idx, 3)) (hf : am_fl u.1 idx ci k) (hi : i < am_n M) (hs : am_s M i = (0, ci))
    (kk : W p l e R s m args below meth c H locs ce sl Q (F0 m (pc + 3) la (am_fv G M i (am_ty ci k) k :: rest))) : W p l e R s m args below meth c H locs ce sl Q (F0 m pc la (.ref (am_a G i) :: rest)) := by
  have hat := hP.2.2 i hi
  unfold am_at at hat
  rw [hs] at hat
  obtain ⟨hc, cell, q1, q2, q3, q4⟩ := hat
  obtain ⟨-, hk, hlink⟩ := hf
  obtain ⟨hS', hfc, kC, hkC, hkind⟩ := hK.1 ci _ (am_cl_get hc)
  obtain ⟨cf, kf, fi, f, hi', hsl⟩ := hS' k hk
  have hts := hF.2.2.2.2.1
  have hst := (u_facts hfc hkC (u_lays hts (am_in hc) hk) hi').1
  refine W.getf hF.1 hF.2.1 hF.2.2.2.1 (hts _ (am_mem hlink rfl)) (by rw [← am_ow hc k hk]; exact hi') hst q1 (by rw [q3]; intro q; cases q) (by rw [hsl]; exact q4 k hk) rfl rfl hd kk
theorem aw_geti {i ci k idx : Nat} (hd : decode u.2.2.1 pc = .ok (.getfield idx, 3)) (hf : am_fl u.1 idx ci k) (hi : i < am_n M) (hs : am_s M i = (0, ci)) (ht : am_tI (am_ty ci k)) (k : AW u R ce sl (pc + 3) ls (.int (am_i M i k) :: st) M post) : AW u R ce sl pc ls (.ref i :: st) M post := by
  intro G p l e s m args below meth c H locs la hF hL hK hZ hP hS hb hl
  refine am_getW hF hK hP hd hf hi hs ?_
  rw [am_fv_I ht]
  exact k G p l e s m args below meth c H locs la hF hL hK hZ hP hS hb hl
theorem aw_getr {i ci k idx j : Nat} (hd : decode u.2.2.1 pc = .ok (.getfield idx, 3)) (hf : am_fl u.1 idx ci k) (hi : i < am_n M) (hs : am_s M i = (0, ci)) (ht : am_tR (am_ty ci k)) (hj : am_r M i k = some j) (k : AW u R ce sl (pc + 3) ls (.ref j :: st) M post) : AW u R ce sl pc ls (.ref i :: st) M post := by
  intro G p l e s m args below meth c H locs la hF hL hK hZ hP hS hb hl
  refine am_getW hF hK hP hd hf hi hs ?_
  rw [am_fv_R ht, hj]
  exact k G p l e s m args below meth c H locs la hF hL hK hZ hP hS hb hl
theorem am_putW {i ci k idx : Nat} {v : Value} {M1 : am_M} (hF : am_F u p s m args meth c) (hK : am_K G s) (hP : am_P G M H) (hS : va_S (am_A G) s.heap H locs) (hd : decode u.2.2.1 pc = .ok (.putfield idx, 3)) (hf : am_fl u.1 idx ci k) (hi : i < am_n M) (hs : am_s M i = (0, ci))
    (hfin : (am_T ci k).2.2.2 = false ∨ ((am_T ci k).2.2.2 = true ∧ u.2.1 = "<init>" ∧ u.1 = am_C ci)) (hn : narrow (am_ty ci k) v = v) (hfit : fits (am_ty ci k) v = true)
    (hn1 : am_n M1 = am_n M) (hx1 : am_x M1 = am_x M) (hs1 : am_s M1 i = am_s M i) (ho : ∀ j, j ≠ i → am_same M M1 j) (hv : ∀ b, b < am_N ci → am_fv G M1 i (am_ty ci b) b = if b = k then v else am_fv G M i (am_ty ci b) b)
    (kk : ∀ (H1 : Heap) (locs1 : List Loc), am_P G M1 H1 → va_S (am_A G) s.heap H1 locs1 → W p l e R s m args below meth c H1 locs1 ce sl Q (F0 m (pc + 3) la rest)) : W p l e R s m args below meth c H locs ce sl Q (F0 m pc la (v :: .ref (am_a G i) :: rest)) := by
  have hat := hP.2.2 i hi
  unfold am_at at hat
  rw [hs] at hat
  obtain ⟨hc, cell, q1, q2, q3, q4⟩ := hat
  obtain ⟨-, hk, hlink⟩ := hf
  have hKn := hK.1 ci _ (am_cl_get hc)
  obtain ⟨hS', hfc, kC, hkC, hkind⟩ := hKn
  obtain ⟨cf, kf, fi, f, hi', hsl⟩ := hS' k hk
  have hts := hF.2.2.2.2.1
  have hap := va_apart (own := u.1) hts (am_in hc) (am_ty ci) (am_tk hc) (am_nm hc) hK (am_cl_get hc)
  have hst := (u_facts hfc hkC (u_lays hts (am_in hc) hk) hi').1
  have hiC : s.fieldFound? (am_C ci) (am_T ci k).2.1 (am_T ci k).2.2.1 = some (cf, kf, fi, f) := by rw [← am_ow hc k hk]; exact hi'
  have fin : ∀ H' : Heap, H'[am_a G i]? = some (cell.setSlot f.slot v) → H'.size = H.size → (∀ q, q ≠ am_a G i → H'[q]? = H[q]?) → W p l e R s m args below meth c H' (locs ++ [⟨am_a G i, f.slot⟩]) ce sl Q (F0 m (pc + 3) la rest) := by
    intro H' e1 e2 e3
    refine kk H' _ (hP.put hi hn1 hx1 ho e2 e3 ?_) (hS.put e2 e3 (by show am_b G ≤ am_a G i; rw [am_a_lt (Nat.lt_of_lt_of_le hi hP.2.1)]; omega))
    unfold am_at
    rw [hs1, hs]
    refine ⟨hc, cell.setSlot f.slot v, e1, q2, q3, fun j hj => ?_⟩
    rw [hsl, t_set q4 hap hk v j hj]
    show some (updV _ k v j) = some (am_fv G M1 i (am_ty ci j) j)
    rw [hv j hj]
    rfl
  rcases hfin with hfin | ⟨hft, hini, hown⟩
  · have hlay := hts _ (am_in hc _ (u_in_lay hk))
    unfold u_lay at hlay
    rw [if_neg (by rw [hfin]; decide)] at hlay
    have h6 := u_store hfc hkC hkind hlay hi' (am_tk hc k hk) hn hfit
    exact W.putK hF.1 hF.2.1 (f := f) ⟨hF.2.2.2.1, hts _ (am_mem hlink rfl), ⟨_, _, _, hiC⟩, hst⟩ (by rw [q2]; exact h6) q1 q3 (by rw [hsl]; exact k2_hasslot (q4 k hk)) rfl rfl hd fin
  · have hlay := hts _ (am_in hc _ (u_in_lay hk))
    unfold u_lay at hlay
    rw [if_pos hft] at hlay
    have hcf : m.cls = cf := by
      obtain ⟨_, _, c', _, _, _, -, -, hf', -, -, -, hown2, -⟩ := Cond.laysFinal_spec hlay
      have e1 : c' = cf := by have := hi'.symm.trans hf'; simp at this; exact this.1.symm
      have h8 := hF.2.2.2.1
      rw [hown, ← am_ow hc k hk] at h8
      rw [← e1]; exact Option.some.inj (h8.symm.trans hown2)
    have h6 := u_fits hfc hkC hkind (Or.inr hlay) hi' (am_tk hc k hk) hn hfit
    exact W.putFinK hF.1 hF.2.1 hF.2.2.2.1 (hts _ (am_mem hlink rfl)) hiC hst hcf (hF.2.2.2.2.2.2.2.1.trans hini) (by rw [q2]; exact h6) q1 q3 (by rw [hsl]; exact k2_hasslot (q4 k hk)) rfl rfl hd fin
theorem am_zn {x : Int32} (h : x = 0 ∨ x = 1) : narrow .boolean (.int x) = .int x ∧ fits .boolean (.int x) = true := by rcases h with rfl | rfl <;> exact ⟨by decide, by decide⟩
theorem aw_puti {i ci k idx : Nat} {x : Int32} (hd : decode u.2.2.1 pc = .ok (.putfield idx, 3)) (hf : am_fl u.1 idx ci k) (hi : i < am_n M) (hs : am_s M i = (0, ci)) (ht : am_ty ci k = .int) (hfin : (am_T ci k).2.2.2 = false) (kk : AW u R ce sl (pc + 3) ls st (am_pi M i k x) post) : AW u R ce sl pc ls (.int x :: .ref i :: st) M post := by
  intro G p l e s m args below meth c H locs la hF hL hK hZ hP hS hb hl
  refine am_putW (M1 := am_pi M i k x) (v := .int x) hF hK hP hS hd hf hi hs (Or.inl hfin) (by rw [ht]; rfl) (by rw [ht]; rfl) rfl rfl rfl (am_pi_o M i k x) (fun b _ => am_hv_pi (ty := am_ty ci) (Or.inl ht) b) (fun H1 locs1 hP1 hS1 => ?_)
  exact kk G p l e s m args below meth c H1 locs1 la hF hL hK hZ hP1 hS1 hb hl
theorem aw_putz {i ci k idx : Nat} {x : Int32} (hd : decode u.2.2.1 pc = .ok (.putfield idx, 3)) (hf : am_fl u.1 idx ci k) (hi : i < am_n M) (hs : am_s M i = (0, ci)) (ht : am_ty ci k = .boolean) (hfin : (am_T ci k).2.2.2 = false) (hx : x = 0 ∨ x = 1) (kk : AW u R ce sl (pc + 3) ls st (am_pi M i k x) post) : AW u R ce sl pc ls (.int x :: .ref i :: st) M post := by
  intro G p l e s m args below meth c H locs la hF hL hK hZ hP hS hb hl
  refine am_putW (M1 := am_pi M i k x) (v := .int x) hF hK hP hS hd hf hi hs (Or.inl hfin) (by rw [ht]; exact (am_zn hx).1) (by rw [ht]; exact (am_zn hx).2) rfl rfl rfl (am_pi_o M i k x) (fun b _ => am_hv_pi (ty := am_ty ci) (Or.inr ht) b) (fun H1 locs1 hP1 hS1 => ?_)
  exact kk G p l e s m args below meth c H1 locs1 la hF hL hK hZ hP1 hS1 hb hl
theorem am_rn {ty : FieldType} (h : am_tR ty) (a : Nat) : narrow ty (.ref a) = .ref a ∧ fits ty (.ref a) = true := by rcases h with ⟨n, rfl⟩ | ⟨t, rfl⟩ <;> exact ⟨rfl, rfl⟩
/-- a final reference, in a constructor -/
theorem aw_putr {i ci k idx j : Nat} (hd : decode u.2.2.1 pc = .ok (.putfield idx, 3)) (hf : am_fl u.1 idx ci k) (hi : i < am_n M) (hs : am_s M i = (0, ci)) (ht : am_tR (am_ty ci k)) (hfin : (am_T ci k).2.2.2 = true ∧ u.2.1 = "<init>" ∧ u.1 = am_C ci) (kk : AW u R ce sl (pc + 3) ls st (am_pr M i k (some j)) post) : AW u R ce sl pc ls (.ref j :: .ref i :: st) M post := by
  intro G p l e s m args below meth c H locs la hF hL hK hZ hP hS hb hl
  refine am_putW (M1 := am_pr M i k (some j)) (v := .ref (am_a G j)) hF hK hP hS hd hf hi hs (Or.inr hfin) (am_rn ht _).1 (am_rn ht _).2 rfl rfl rfl (am_pr_o M i k (some j)) (fun b _ => am_hv_pr (ty := am_ty ci) ht b) (fun H1 locs1 hP1 hS1 => ?_)
  exact kk G p l e s m args below meth c H1 locs1 la hF hL hK hZ hP1 hS1 hb hl
/-- an index and the place that it names -/
def am_ix (j : Int32) (len n : Nat) : Prop := n < len ∧ j.toInt = (n : Int)
theorem am_ix_in {j : Int32} {len n : Nat} (h : am_ix j len n) : vp_in j len ∧ j.toNatClampNeg = n := by
  obtain ⟨h1, h2⟩ := h
  refine ⟨vp_in_iff.mpr ⟨by omega, by omega⟩, ?_⟩
  show j.toInt.toNat = n
  rw [h2]
  rfl
theorem am_ix_n {n len : Nat} (h : n < len) (hl : len < 2 ^ 31) : am_ix (nI n) len n := ⟨h, nI_toInt (by omega)⟩
theorem am_arr {i len j : Nat} (hP : am_P G M H) (hi : i < am_n M) (hs : am_s M i = (j + 1, len)) : j < 8 ∧ H[am_a G i]? = some (arrV (G.2.2.1 j) len (fun k => am_fv G M i (am_aty j) k)) := by
  have hat := hP.2.2 i hi
  unfold am_at at hat
  rw [hs] at hat
  exact hat
theorem am_in_sz {cA : ClassId} {len : Nat} {f : Nat → Value} {j : Int32} {n : Nat} (h : am_ix j len n) : ¬ (j < 0 ∨ (arrV cA len f).slots.size ≤ j.toNatClampNeg) := by
  rw [arrV_size]
  exact (am_ix_in h).1
theorem am_rd {cA : ClassId} {len : Nat} {f : Nat → Value} {j : Int32} {n : Nat} (h : am_ix j len n) : (arrV cA len f).slots[j.toNatClampNeg]? = some (f n) := by
  rw [(am_ix_in h).2]
  exact arrV_read _ _ h.1
theorem aw_iaload {i len n : Nat} {j : Int32} (hd : decode u.2.2.1 pc = .ok (.iaload, 1)) (hi : i < am_n M) (hs : am_s M i = (1, len)) (hx : am_ix j len n) (k : AW u R ce sl (pc + 1) ls (.int (am_i M i n) :: st) M post) : AW u R ce sl pc ls (.int j :: .ref i :: st) M post := by
  intro G p l e s m args below meth c H locs la hF hL hK hZ hP hS hb hl
  obtain ⟨h8, ha⟩ := am_arr (j := 0) hP hi hs
  exact W.iald hF.1 hF.2.1 ha ((hK.2 0 _ (am_tys_get G h8)).1 _ _) (fun q => by cases q) (am_in_sz hx) (am_rd hx) rfl rfl hd (k G p l e s m args below meth c H locs la hF hL hK hZ hP hS hb hl)
theorem aw_laload {i len n : Nat} {j : Int32} (hd : decode u.2.2.1 pc = .ok (.laload, 1)) (hi : i < am_n M) (hs : am_s M i = (2, len)) (hx : am_ix j len n) (k : AW u R ce sl (pc + 1) ls (.long (am_l M i n) :: st) M post) : AW u R ce sl pc ls (.int j :: .ref i :: st) M post := by
  intro G p l e s m args below meth c H locs la hF hL hK hZ hP hS hb hl
  obtain ⟨h8, ha⟩ := am_arr (j := 1) hP hi hs
  exact W.lald hF.1 hF.2.1 ha ((hK.2 1 _ (am_tys_get G h8)).1 _ _) (fun q => by cases q) (am_in_sz hx) (am_rd hx) rfl rfl hd (k G p l e s m args below meth c H locs la hF hL hK hZ hP hS hb hl)
theorem aw_baload {i len n : Nat} {j : Int32} (hd : decode u.2.2.1 pc = .ok (.baload, 1)) (hi : i < am_n M) (hs : am_s M i = (3, len)) (hx : am_ix j len n) (k : AW u R ce sl (pc + 1) ls (.int (am_i M i n) :: st) M post) : AW u R ce sl pc ls (.int j :: .ref i :: st) M post := by
  intro G p l e s m args below meth c H locs la hF hL hK hZ hP hS hb hl
  obtain ⟨h8, ha⟩ := am_arr (j := 2) hP hi hs
  exact W.zald hF.1 hF.2.1 ha ((hK.2 2 _ (am_tys_get G h8)).1 _ _) (fun q => by cases q) (am_in_sz hx) (am_rd hx) rfl rfl hd (k G p l e s m args below meth c H locs la hF hL hK hZ hP hS hb hl)
theorem am_aR : ∀ j, 3 ≤ j → am_tR (am_aty j) := by
  intro j h
  match j, h with
  | 3, _ => exact Or.inl ⟨_, rfl⟩
  | 4, _ => exact Or.inl ⟨_, rfl⟩
  | 5, _ => exact Or.inl ⟨_, rfl⟩
  | 6, _ => exact Or.inl ⟨_, rfl⟩
  | k + 7, _ => exact Or.inr ⟨_, rfl⟩
theorem aw_aaload {i len n a r : Nat} {j : Int32} (hd : decode u.2.2.1 pc = .ok (.aaload, 1)) (hi : i < am_n M) (hs : am_s M i = (a + 1, len)) (ha3 : 3 ≤ a) (hx : am_ix j len n) (hr : am_r M i n = some r) (k : AW u R ce sl (pc + 1) ls (.ref r :: st) M post) : AW u R ce sl pc ls (.int j :: .ref i :: st) M post := by
  intro G p l e s m args below meth c H locs la hF hL hK hZ hP hS hb hl
  obtain ⟨h8, ha⟩ := am_arr (j := a) hP hi hs
  have hv : am_fv G M i (am_aty a) n = .ref (am_a G r) := by rw [am_fv_R (am_aR a ha3), hr]; rfl
  exact W.aald (ty := am_aty a) hF.1 hF.2.1 ha ((hK.2 a _ (am_tys_get G h8)).1 _ _) (by rcases am_aR a ha3 with ⟨x, hx⟩ | ⟨x, hx⟩ <;> rw [hx] <;> rfl) (fun q => by cases q) (am_in_sz hx) ((am_rd hx).trans (congrArg some hv)) rfl rfl hd (k G p l e s m args below meth c H locs la hF hL hK hZ hP hS hb hl)
theorem am_cons (M1 : am_M) {i len a : Nat} {j : Int32} {n : Nat} {v : Value} {H1 : Heap} (hP : am_P G M H) (hi : i < am_n M) (hs : am_s M i = (a + 1, len)) (hx : am_ix j len n) (hn1 : am_n M1 = am_n M) (hx1 : am_x M1 = am_x M) (hs1 : am_s M1 i = am_s M i) (ho : ∀ b, b ≠ i → am_same M M1 b)
    (hv : ∀ b, am_fv G M1 i (am_aty a) b = if b = n then v else am_fv G M i (am_aty a) b) (e1 : H1[am_a G i]? = some ((arrV (G.2.2.1 a) len (fun k => am_fv G M i (am_aty a) k)).setSlot j.toNatClampNeg v)) (e2 : H1.size = H.size) (e3 : ∀ q, q ≠ am_a G i → H1[q]? = H[q]?) : am_P G M1 H1 := by
  refine hP.put hi hn1 hx1 ho e2 e3 ?_
  unfold am_at
  rw [hs1, hs]
  refine ⟨(am_arr hP hi hs).1, ?_⟩
  rw [e1, arrV_store, (am_ix_in hx).2]
  show some (arrV _ _ _) = some (arrV _ _ _)
  congr 2
  funext b
  show updV _ n v b = am_fv G M1 i (am_aty a) b
  rw [hv b]
  rfl
theorem am_Sput {i k : Nat} {H1 : Heap} (hP : am_P G M H) (hi : i < am_n M) (hS : va_S (am_A G) s.heap H locs) (e2 : H1.size = H.size) (e3 : ∀ q, q ≠ am_a G i → H1[q]? = H[q]?) : va_S (am_A G) s.heap H1 (locs ++ [⟨am_a G i, k⟩]) :=
  hS.put e2 e3 (by show am_b G ≤ am_a G i; rw [am_a_lt (Nat.lt_of_lt_of_le hi hP.2.1)]; omega)
theorem aw_iastore {i len n : Nat} {j x : Int32} (hd : decode u.2.2.1 pc = .ok (.iastore, 1)) (hi : i < am_n M) (hs : am_s M i = (1, len)) (hx : am_ix j len n) (k : AW u R ce sl (pc + 1) ls st (am_pi M i n x) post) : AW u R ce sl pc ls (.int x :: .int j :: .ref i :: st) M post := by
  intro G p l e s m args below meth c H locs la hF hL hK hZ hP hS hb hl
  obtain ⟨h8, ha⟩ := am_arr (j := 0) hP hi hs
  refine W.iast hF.1 hF.2.1 ha ((hK.2 0 _ (am_tys_get G h8)).1 _ _) (fun q => by cases q) (am_in_sz hx) rfl rfl hd (fun H1 e1 e2 e3 => ?_)
  exact k G p l e s m args below meth c H1 _ la hF hL hK hZ (am_cons (am_pi M i n x) hP hi hs hx rfl rfl rfl (am_pi_o M i n x) (fun b => am_hv_pi (ty := fun _ => am_aty 0) (Or.inl rfl) b) e1 e2 e3) (am_Sput hP hi hS e2 e3) hb hl
theorem aw_lastore {i len n : Nat} {j : Int32} {x : Int64} (hd : decode u.2.2.1 pc = .ok (.lastore, 1)) (hi : i < am_n M) (hs : am_s M i = (2, len)) (hx : am_ix j len n) (k : AW u R ce sl (pc + 1) ls st (am_pl M i n x) post) : AW u R ce sl pc ls (.long x :: .int j :: .ref i :: st) M post := by
  intro G p l e s m args below meth c H locs la hF hL hK hZ hP hS hb hl
  obtain ⟨h8, ha⟩ := am_arr (j := 1) hP hi hs
  refine W.last hF.1 hF.2.1 ha ((hK.2 1 _ (am_tys_get G h8)).1 _ _) (fun q => by cases q) (am_in_sz hx) rfl rfl hd (fun H1 e1 e2 e3 => ?_)
  exact k G p l e s m args below meth c H1 _ la hF hL hK hZ (am_cons (am_pl M i n x) hP hi hs hx rfl rfl rfl (am_pl_o M i n x) (fun b => am_hv_pl (ty := fun _ => am_aty 1) rfl b) e1 e2 e3) (am_Sput hP hi hS e2 e3) hb hl
theorem aw_bastore {i len n : Nat} {j x : Int32} (hd : decode u.2.2.1 pc = .ok (.bastore, 1)) (hi : i < am_n M) (hs : am_s M i = (3, len)) (hx : am_ix j len n) (h01 : x = 0 ∨ x = 1) (k : AW u R ce sl (pc + 1) ls st (am_pi M i n x) post) : AW u R ce sl pc ls (.int x :: .int j :: .ref i :: st) M post := by
  intro G p l e s m args below meth c H locs la hF hL hK hZ hP hS hb hl
  obtain ⟨h8, ha⟩ := am_arr (j := 2) hP hi hs
  refine W.zast hF.1 hF.2.1 ha ((hK.2 2 _ (am_tys_get G h8)).1 _ _) (fun q => by cases q) (am_in_sz hx) rfl rfl hd (fun H1 e1 e2 e3 => ?_)
  rw [(am_zn h01).1] at e1
  exact k G p l e s m args below meth c H1 _ la hF hL hK hZ (am_cons (am_pi M i n x) hP hi hs hx rfl rfl rfl (am_pi_o M i n x) (fun b => am_hv_pi (ty := fun _ => am_aty 2) (Or.inr rfl) b) e1 e2 e3) (am_Sput hP hi hS e2 e3) hb hl
theorem aw_alen {i len a : Nat} {v : Int32} (hd : decode u.2.2.1 pc = .ok (.arraylength, 1)) (hi : i < am_n M) (hs : am_s M i = (a + 1, len)) (hv : Int32.ofNat len = v) (k : AW u R ce sl (pc + 1) ls (.int v :: st) M post) : AW u R ce sl pc ls (.ref i :: st) M post := by
  intro G p l e s m args below meth c H locs la hF hL hK hZ hP hS hb hl
  obtain ⟨h8, ha⟩ := am_arr (j := a) hP hi hs
  exact W.alen (ty := am_aty a) (n := v) hF.1 hF.2.1 ha ((hK.2 a _ (am_tys_get G h8)).1 _ _) (by rw [arrV_size]; exact hv) rfl rfl hd (k G p l e s m args below meth c H locs la hF hL hK hZ hP hS hb hl)
theorem aw_lcmp {x y : Int64} (hd : decode u.2.2.1 pc = .ok (.lcmp, 1)) (k : AW u R ce sl (pc + 1) ls (.int (lg_cmp x y) :: st) M post) : AW u R ce sl pc ls (.long y :: .long x :: st) M post := by
  intro G p l e s m args below meth c H locs la hF hL hK hZ hP hS hb hl
  exact W.lcmp hF.1 hF.2.1 hd (k G p l e s m args below meth c H locs la hF hL hK hZ hP hS hb hl)
theorem am_a_k {G : am_G} {j : Nat} : am_a G (am_CB + j) = G.2.2.2.2 j := by
  unfold am_a
  rw [if_neg (by omega), Nat.add_sub_cancel_left]
/-- the class's three written arrays -/
theorem aw_gets {idx j : Nat} (hd : decode u.2.2.1 pc = .ok (.getstatic idx, 3)) (hj : j < 3) (hw : Cond.fieldLink u.1 idx "CrewOffice" (am_kn j) "[I" ∈ lw_tbl) (k : AW u R ce sl (pc + 3) ls (.ref (am_CB + j) :: st) M post) : AW u R ce sl pc ls st M post := by
  intro G p l e s m args below meth c H locs la hF hL hK hZ hP hS hb hl
  refine va_gets hF.1 hF.2.1 (hZ.2 j hj).1 hS hF.2.2.2.1 (hF.2.2.2.2.1 _ (am_mem hw rfl)) (fun _ h => h) hd ?_
  have k := k G p l e s m args below meth c H locs la hF hL hK hZ hP hS hb hl
  rw [List.map_cons, show am_v G (.ref (am_CB + j)) = .ref (G.2.2.2.2 j) from congrArg Value.ref am_a_k] at k
  exact k
theorem aw_kload {n a : Nat} {j : Int32} (hd : decode u.2.2.1 pc = .ok (.iaload, 1)) (ha : a < 3) (hx : am_ix j 11 n) (k : AW u R ce sl (pc + 1) ls (.int (am_kv a n) :: st) M post) : AW u R ce sl pc ls (.int j :: .ref (am_CB + a) :: st) M post := by
  intro G p l e s m args below meth c H locs la hF hL hK hZ hP hS hb hl
  rw [List.map_cons, List.map_cons, show am_v G (.ref (am_CB + a)) = .ref (G.2.2.2.2 a) from congrArg Value.ref am_a_k]
  refine va_ti hF.1 hF.2.1 (hZ.2 a ha).2 hS (am_ix_in hx).1 (v := .int (am_kv a n)) (by rw [(am_ix_in hx).2]) hd ?_
  exact k G p l e s m args below meth c H locs la hF hL hK hZ hP hS hb hl
end AWH
