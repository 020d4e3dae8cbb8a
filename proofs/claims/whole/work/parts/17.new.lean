/-! Making cells: new, newarray, anewarray, final fields, constructors' calls. -/
def gb_ltA (n : Nat) : gb_AV → Prop
  | .inr (some a) => a < n
  | _ => True
def gb_cok (n : Nat) : gb_Ce → Prop
  | .inl (.inl _) => True
  | .inl (.inr rs) => ∀ r, some r ∈ rs → r < n
  | .inr (_, fs) => ∀ r, some (some r) ∈ fs → r < n
def gb_ltAb (n : Nat) : gb_AV → Bool
  | .inr (some a) => decide (a < n)
  | _ => true
def gb_cokb (n : Nat) : gb_Ce → Bool
  | .inl (.inl _) => true
  | .inl (.inr rs) => rs.all (fun r => match r with | none => true | some a => decide (a < n))
  | .inr (_, fs) => fs.all (fun r => match r with | some (some a) => decide (a < n) | _ => true)
theorem gb_ltA_of {n : Nat} {st : List gb_AV} (h : st.all (gb_ltAb n) = true) : ∀ x ∈ st, gb_ltA n x := by
  intro x hx
  have h1 := List.all_eq_true.mp h x hx
  rcases x with x | (_ | a)
  · trivial
  · trivial
  · have h2 : a < n := of_decide_eq_true (p := a < n) h1
    exact h2
theorem gb_cok_of {n : Nat} {Sh : List gb_Ce} (h : Sh.all (gb_cokb n) = true) : ∀ c ∈ Sh, gb_cok n c := by
  intro c hc
  have h1 := List.all_eq_true.mp h c hc
  rcases c with (m | rs) | ⟨ci, fs⟩
  · trivial
  · intro r hr
    exact of_decide_eq_true (List.all_eq_true.mp h1 _ hr)
  · intro r hr
    exact of_decide_eq_true (List.all_eq_true.mp h1 _ hr)
theorem gb_v_lt {n : Nat} {ad ad' : Nat → Nat} (ha : ∀ i, i < n → ad' i = ad i) {x : gb_AV} (h : gb_ltA n x) : gb_v ad' x = gb_v ad x := by
  rcases x with x | (_ | a)
  · rfl
  · rfl
  · show Value.ref (ad' a) = Value.ref (ad a)
    rw [ha a h]
theorem gb_c_lt {n : Nat} {ad ad' : Nat → Nat} {cI cR : ClassId} {f : Nat → Int32} (ha : ∀ i, i < n → ad' i = ad i) {c : gb_Ce} (h : gb_cok n c) : gb_c ad' cI cR f c = gb_c ad cI cR f c := by
  rcases c with (m | rs) | ⟨ci, fs⟩
  · rfl
  · show (Sum.inl (cR, rs.length, .inr (.inr (.inr (.inr (fun k => (rs.getD k none).map ad'))))) : va_E) = Sum.inl (cR, rs.length, .inr (.inr (.inr (.inr (fun k => (rs.getD k none).map ad)))))
    congr 7
    funext k
    by_cases hk : k < rs.length
    · cases hx : rs.getD k none with
      | none => rfl
      | some r =>
        have hm : some r ∈ rs := by
          rw [List.getD_eq_getElem?_getD, List.getElem?_eq_getElem hk] at hx
          exact hx ▸ List.getElem_mem hk
        show some (ad' r) = some (ad r)
        rw [ha r (h r hm)]
    · have : rs.getD k none = none := by rw [List.getD_eq_getElem?_getD, List.getElem?_eq_none (by omega)]; rfl
      rw [this]; rfl
  · show (Sum.inr (ci, fs.mapIdx (gb_f ad' f)) : va_E) = Sum.inr (ci, fs.mapIdx (gb_f ad f))
    congr 2
    apply List.ext_getElem?
    intro i
    rw [List.getElem?_mapIdx, List.getElem?_mapIdx]
    cases hx : fs[i]? with
    | none => rfl
    | some x =>
      rcases x with _ | (_ | r)
      · rfl
      · rfl
      · show some (Value.ref (ad' r)) = some (Value.ref (ad r))
        rw [ha r (h r (List.mem_of_getElem? hx))]
theorem gb_w_lt {n : Nat} {ad ad' : Nat → Nat} {cI cR : ClassId} {Sh : List gb_Ce} {I : gb_Mem} (ha : ∀ i, i < n → ad' i = ad i) (hl : Sh.length ≤ n) (h : ∀ c ∈ Sh, gb_cok n c) : gb_w ad' cI cR Sh I = gb_w ad cI cR Sh I := by
  apply List.ext_getElem?
  intro i
  unfold gb_w
  rw [List.getElem?_mapIdx, List.getElem?_mapIdx]
  cases hx : Sh[i]? with
  | none => rfl
  | some c =>
    have hi : i < Sh.length := (List.getElem?_eq_some_iff.mp hx).1
    show some (ad' i, gb_c ad' cI cR (I i) c) = some (ad i, gb_c ad cI cR (I i) c)
    rw [ha i (by omega), gb_c_lt ha (h c (List.mem_of_getElem? hx))]
theorem gb_w_app {ad : Nat → Nat} {cI cR : ClassId} {Sh : List gb_Ce} {I : gb_Mem} {c : gb_Ce} : gb_w ad cI cR (Sh ++ [c]) I = gb_w ad cI cR Sh I ++ [(ad Sh.length, gb_c ad cI cR (I Sh.length) c)] := by
  unfold gb_w
  rw [List.mapIdx_append]
  simp
def gb_adn (ad : Nat → Nat) (n q : Nat) : Nat → Nat := fun i => if i = n then q else ad i
theorem gb_adn_lt {ad : Nat → Nat} {n q : Nat} : ∀ i, i < n → gb_adn ad n q i = ad i := fun i hi => by unfold gb_adn; rw [if_neg (Nat.ne_of_lt hi)]
theorem gb_adn_at {ad : Nat → Nat} {n q : Nat} : gb_adn ad n q n = q := by unfold gb_adn; rw [if_pos rfl]
theorem gb_adn_ge {ad : Nat → Nat} {n q : Nat} : ∀ i, n + 1 ≤ i → gb_adn ad n q i = ad i := fun i hi => by unfold gb_adn; rw [if_neg (by omega)]
def gb_df : Option (Option Nat) → Value
  | none => .int 0
  | some _ => .null
theorem gb_lv_lt {n : Nat} {ad ad' : Nat → Nat} (ha : ∀ i, i < n → ad' i = ad i) {lv : List (Nat × gb_AV)} (h : ∀ q ∈ lv, gb_ltA n q.2) : gb_lv ad' lv = gb_lv ad lv := List.map_congr_left fun q hq => by rw [gb_v_lt ha (h q hq)]
theorem gb_st_lt {n : Nat} {ad ad' : Nat → Nat} (ha : ∀ i, i < n → ad' i = ad i) {st : List gb_AV} (h : ∀ x ∈ st, gb_ltA n x) : st.map (gb_v ad') = st.map (gb_v ad) := List.map_congr_left fun x hx => gb_v_lt ha (h x hx)
section NewRules
variable {l : Launch} {M : gb_MI} {d kc ks pc n : Nat} {lv : List (Nat × gb_AV)} {st sk st1 : List gb_AV} {Sh Sh' : List gb_Ce} {I I' : gb_Mem} {post : Option gb_AV → List gb_Ce → gb_Mem → Prop}
/-- behind a new cell c at the address q -/
theorem gb_grown {D : va_G} {cI cR : ClassId} {ad ad0 : Nat → Nat} {n0 : Nat} {A : Nat → Prop} {s : State} {H H1 : Heap} {locs : List Loc} {c : gb_Ce} {q : Nat} (hW : gb_Wd D cI cR ad A s H locs Sh I) (hn : n0 ≤ Sh.length) (hE : gb_Ex ad ad0 n0 Sh.length) (hcl : ∀ c ∈ Sh, gb_cok Sh.length c) (h99 : Sh.length + 1 ≤ 1000)
    (hR : gb_Rr D cR (Sh ++ [c]) s) (hP : va_P D gb_CL (gb_w ad cI cR Sh I ++ [(q, gb_c (gb_adn ad Sh.length q) cI cR (I Sh.length) c)]) H1) (hD : va_D A (gb_w ad cI cR Sh I ++ [(q, gb_c (gb_adn ad Sh.length q) cI cR (I Sh.length) c)])) (hS : va_S A s.heap H1 locs) :
    gb_Wd D cI cR (gb_adn ad Sh.length q) A s H1 locs (Sh ++ [c]) I ∧ n0 ≤ (Sh ++ [c]).length ∧ gb_Ex (gb_adn ad Sh.length q) ad0 n0 (Sh ++ [c]).length := by
  obtain ⟨w1, w2, w3, w4, w5, w6, w7, w8⟩ := hW
  have e1 : gb_w (gb_adn ad Sh.length q) cI cR (Sh ++ [c]) I = gb_w ad cI cR Sh I ++ [(q, gb_c (gb_adn ad Sh.length q) cI cR (I Sh.length) c)] := by
    rw [gb_w_app, gb_w_lt gb_adn_lt (Nat.le_refl _) hcl, gb_adn_at]
  refine ⟨⟨w1, hR, by rw [e1]; exact hP, by rw [e1]; exact hD, hS, w6, w7.ad (fun i hi => gb_adn_ge i (by omega)), by simp; omega⟩, by simp; omega, fun i hi => ?_⟩
  simp at hi
  have hne : i ≠ Sh.length := by omega
  show (if i = Sh.length then q else ad i) = ad0 i
  rw [if_neg hne]
  exact hE i (by omega)
theorem gb_Rr_app {D : va_G} {cR : ClassId} {s : State} {c : gb_Ce} (h : gb_Rr D cR Sh s) : gb_Rr D cR (Sh ++ [c]) s := h
theorem go_new {idx ci : Nat} {q : vw_C} {fs : List (Option (Option Nat))} (hd : decode M.2.1 pc = .ok (.new idx, 3)) (hcl : Cond.classLink M.1.cls idx q.1 ∈ gb_all) (hin : Cond.instantiable q.1 q.2.2 ∈ gb_all) (hini : Cond.initialized q.1 ∈ gb_all) (hc : gb_CL[ci]? = some q) (hN : Sh.length = n) (h99 : n + 1 ≤ 1000) (hz : ∀ k, I n k = 0) (hfs : ∀ x ∈ fs, x = none ∨ x = some none) (hdf : ∀ j, j < q.2.2 → defaultValue ((gb_ET.getD ci eGb) j) = vp_V (fs.map gb_df) j) (hclo : ∀ c ∈ Sh, gb_cok n c) (hlv : ∀ q ∈ lv, gb_ltA n q.2) (hst : ∀ x ∈ st, gb_ltA n x) (hSh : Sh ++ [.inr (ci, fs)] = Sh')
    (K : gb_Go l M d kc ks (pc + 3) lv (.inr (some n) :: st) Sh' I post) : gb_Go l M d (kc + 1) (ks + q.2.2) pc lv st Sh I post := by
  subst hN; subst hSh
  intro p e R s m args below meth c D cI cR ad ad0 n0 A H locs cells slots mc ms ls hF h1 h2 h3 h4 h5 h6 hW hn hE hl
  have hW0 := hW
  obtain ⟨w1, w2, w3, w4, w5, w6, w7, w8⟩ := hW
  refine va_new (C := q.1) (T := q.2.1) (N := q.2.2) (fs := fs.map gb_df) hF.1 hF.2.1 hF.2.2.2.2.2.2.2 (gb_cl_all (gb_mem_of hc)) (gb_ET.getD ci eGb) (gb_ty_of hc) hF.2.2.2.2.2.1 (hF.2.2.2.2.2.2.2 _ hcl) (hF.2.2.2.2.2.2.2 _ hin) (hF.2.2.2.2.2.2.2 _ hini) w1 w3 w4 w5 w6 hc hdf (by omega) (by omega) hd (fun q9 H1 g1 g2 g3 => ?_)
  have e0 : (.inr (ci, fs.map gb_df) : va_E) = gb_c (gb_adn ad Sh.length q9) cI cR (I Sh.length) (.inr (ci, fs)) := by
    show _ = (Sum.inr (ci, fs.mapIdx (gb_f (gb_adn ad Sh.length q9) (I Sh.length))) : va_E)
    congr 2
    apply List.ext_getElem?
    intro i
    rw [List.getElem?_map, List.getElem?_mapIdx]
    cases hx : fs[i]? with
    | none => rfl
    | some x =>
      rcases hfs x (List.mem_of_getElem? hx) with rfl | rfl
      · show some (Value.int 0) = some (Value.int (I Sh.length i)); rw [hz]
      · rfl
  rw [e0] at g1 g2
  obtain ⟨k1, k2, k3⟩ := gb_grown (c := .inr (ci, fs)) hW0 hn hE hclo h99 (gb_Rr_app w2) g1 g2 g3
  have e1 : (.ref q9 :: st.map (gb_v ad)) = (.inr (some Sh.length) :: st : List gb_AV).map (gb_v (gb_adn ad Sh.length q9)) := by
    rw [List.map_cons, gb_st_lt gb_adn_lt hst]
    show _ = Value.ref (gb_adn ad Sh.length q9 Sh.length) :: _
    rw [gb_adn_at]
  rw [e1]
  exact K p e R s m args below meth c D cI cR _ ad0 n0 A H1 locs (cells + 1) (slots + q.2.2) mc ms ls hF h1 h2 (by omega) (by omega) h5 h6 k1 k2 k3 (by rw [gb_lv_lt gb_adn_lt hlv]; exact hl)
theorem gb_arrOne {s : State} {cA cB : ClassId} {ty : FieldType} (h1 : va_RA s cA .int) (h2 : va_RA s cB .int) : cA = cB := Option.some.inj (h1.symm.trans h2)
set_option maxRecDepth 20000 in
theorem gb_aI : Cond.arrayClass .int ∈ gb_all := gb_t1 (List.mem_of_getElem? (i := 81) rfl) rfl
theorem go_newa {x : Int32} {N : Nat} (hd : decode M.2.1 pc = .ok (.newarray .int, 2)) (hx : ¬ x < 0) (hN9 : x.toNatClampNeg = N) (hb : N ≤ 100000) (hN : Sh.length = n) (h99 : n + 1 ≤ 1000) (hz : ∀ k, I n k = 0) (hclo : ∀ c ∈ Sh, gb_cok n c) (hlv : ∀ q ∈ lv, gb_ltA n q.2) (hst : ∀ x ∈ st, gb_ltA n x) (hSh : Sh ++ [.inl (.inl N)] = Sh')
    (K : gb_Go l M d kc ks (pc + 2) lv (.inr (some n) :: st) Sh' I post) : gb_Go l M d (kc + 1) (ks + N) pc lv (.inl x :: st) Sh I post := by
  subst hN; subst hSh
  intro p e R s m args below meth c D cI cR ad ad0 n0 A H locs cells slots mc ms ls hF h1 h2 h3 h4 h5 h6 hW hn hE hl
  have hW0 := hW
  obtain ⟨w1, w2, w3, w4, w5, w6, w7, w8⟩ := hW
  have hz0 : I Sh.length = fun _ => 0 := funext hz
  refine va_newa (atype := .int) (ty := .int) (a0 := (N, .inl (fun _ => 0))) hF.1 hF.2.1 (hF.2.2.2.2.2.2.2 _ gb_aI) rfl w1 w3 w4 w5 w6 (fun cA => rfl) hx hN9 (by show N * 4 ≤ 536870912; omega) (by omega) (by omega) hd (fun q9 cA H1 gK g1 g2 g3 => ?_)
  have ecA : cA = cI := gb_arrOne (ty := .int) (gK.2 1 (cA, .int) rfl).2 (w1.2 0 (cI, .int) rfl).2
  subst ecA
  have e0 : (.inl (cA, N, .inl (fun _ => 0)) : va_E) = gb_c (gb_adn ad Sh.length q9) cA cR (I Sh.length) (.inl (.inl N)) := by rw [hz0]; rfl
  rw [e0] at g1 g2
  obtain ⟨k1, k2, k3⟩ := gb_grown (c := .inl (.inl N)) hW0 hn hE hclo h99 (gb_Rr_app w2) g1 g2 g3
  have e1 : (.ref q9 :: st.map (gb_v ad)) = (.inr (some Sh.length) :: st : List gb_AV).map (gb_v (gb_adn ad Sh.length q9)) := by
    rw [List.map_cons, gb_st_lt gb_adn_lt hst]
    show _ = Value.ref (gb_adn ad Sh.length q9 Sh.length) :: _
    rw [gb_adn_at]
  rw [e1]
  exact K p e R s m args below meth c D cA cR _ ad0 n0 A H1 locs (cells + 1) (slots + N) mc ms ls hF h1 h2 (by omega) (by omega) h5 h6 k1 k2 k3 (by rw [gb_lv_lt gb_adn_lt hlv]; exact hl)
/-- a final field in a constructor: a reference -/
theorem gb_ws_ref {ad : Nat → Nat} {cI cR : ClassId} {a ci k r : Nat} {fs : List (Option (Option Nat))} (hs : Sh[a]? = some (.inr (ci, fs))) (hk : k < fs.length) : (gb_w ad cI cR Sh I).set a (ad a, .inr (ci, (fs.mapIdx (gb_f ad (I a))).set k (.ref (ad r)))) = gb_w ad cI cR (Sh.set a (.inr (ci, fs.set k (some (some r))))) I := by
  have e1 : (fs.mapIdx (gb_f ad (I a))).set k (.ref (ad r)) = (fs.set k (some (some r))).mapIdx (gb_f ad (I a)) := by
    apply List.ext_getElem?
    intro i
    by_cases hi : i = k
    · subst hi
      rw [List.getElem?_set_self (by simp; exact hk), List.getElem?_mapIdx, List.getElem?_set_self hk]
      rfl
    · rw [List.getElem?_set_ne (Ne.symm hi), List.getElem?_mapIdx, List.getElem?_mapIdx, List.getElem?_set_ne (Ne.symm hi)]
  rw [e1]
  apply List.ext_getElem?
  intro i
  have hl := (List.getElem?_eq_some_iff.mp hs).1
  by_cases hi : i = a
  · subst hi
    rw [List.getElem?_set_self (by rw [gb_w_len]; exact hl), gb_w_at (List.getElem?_set_self hl)]
    rfl
  · rw [List.getElem?_set_ne (Ne.symm hi)]
    unfold gb_w
    rw [List.getElem?_mapIdx, List.getElem?_mapIdx, List.getElem?_set_ne (Ne.symm hi)]
theorem go_putR {idx ci k a r : Nat} {q : vw_C} {fs : List (Option (Option Nat))} {ty : FieldType} (hd : decode M.2.1 pc = .ok (.putfield idx, 3)) (hs : Sh[a]? = some (.inr (ci, fs))) (hc : gb_CL[ci]? = some q) (hk : k < q.2.2) (hlk : Cond.fieldLink M.1.cls idx (q.2.1 k).1 (q.2.1 k).2.1 (q.2.1 k).2.2.1 ∈ gb_all) (hkl : k < fs.length) (hfin : (q.2.1 k).2.2.2 = true) (hown : (q.2.1 k).1 = M.1.cls) (hM : M.1.name = "<init>") (hty : (gb_ET.getD ci eGb) k = ty) (hnr : ∀ a, narrow ty (.ref a) = .ref a) (hft : ∀ a, fits ty (.ref a) = true) (hSh : Sh.set a (.inr (ci, fs.set k (some (some r)))) = Sh')
    (K : gb_Go l M d kc ks (pc + 3) lv st Sh' I post) : gb_Go l M d kc ks pc lv (.inr (some r) :: .inr (some a) :: st) Sh I post := by
  subst hSh
  intro p e R s m args below meth c D cI cR ad ad0 n0 A H locs cells slots mc ms ls hF h1 h2 h3 h4 h5 h6 hW hn hE hl
  obtain ⟨w1, w2, w3, w4, w5, w6, w7, w8⟩ := hW
  refine va_putF (C := q.1) (T := q.2.1) (N := q.2.2) (v := .ref (ad r)) hF.1 hF.2.1 hF.2.2.2.2.2.2.2 (gb_cl_all (gb_mem_of hc)) (gb_ET.getD ci eGb) (gb_ty_of hc) (gb_cl_nm q (gb_mem_of hc)) hF.2.2.2.2.2.1 w1 w3 w4 w5 a (gb_w_at hs) hc k hk (hF.2.2.2.2.2.2.2 _ hlk) (fun _ h9 => h9) hfin (hF.2.2.2.2.2.2.1.trans hM) hown (hty ▸ gb_ty_of hc k hk) (hnr _) (hft _) (by rw [List.length_mapIdx]; exact hkl) hd (fun H1 locs1 g1 g2 g3 => ?_)
  rw [gb_ws_ref hs hkl] at g1 g2
  exact K p e R s m args below meth c D cI cR ad ad0 n0 A H1 locs1 cells slots mc ms ls hF h1 h2 h3 h4 h5 h6 ⟨w1, w2, g1, g2, g3, w6, w7, by rw [List.length_set]; exact w8⟩ (by rw [List.length_set]; exact hn) (by rw [List.length_set]; exact hE) hl
/-- a final int field in a constructor -/
theorem go_putFi {idx ci k a : Nat} {q : vw_C} {fs : List (Option (Option Nat))} {v : Int32} {ty : FieldType} (hd : decode M.2.1 pc = .ok (.putfield idx, 3)) (hs : Sh[a]? = some (.inr (ci, fs))) (hc : gb_CL[ci]? = some q) (hk : k < q.2.2) (hlk : Cond.fieldLink M.1.cls idx (q.2.1 k).1 (q.2.1 k).2.1 (q.2.1 k).2.2.1 ∈ gb_all) (hf : fs[k]? = some none) (hfin : (q.2.1 k).2.2.2 = true) (hown : (q.2.1 k).1 = M.1.cls) (hM : M.1.name = "<init>") (hty : (gb_ET.getD ci eGb) k = ty) (hnr : narrow ty (.int v) = .int v) (hft : fits ty (.int v) = true) (hI : I' = mw I a k v)
    (K : gb_Go l M d kc ks (pc + 3) lv st Sh I' post) : gb_Go l M d kc ks pc lv (.inl v :: .inr (some a) :: st) Sh I post := by
  subst hI
  intro p e R s m args below meth c D cI cR ad ad0 n0 A H locs cells slots mc ms ls hF h1 h2 h3 h4 h5 h6 hW hn hE hl
  obtain ⟨w1, w2, w3, w4, w5, w6, w7, w8⟩ := hW
  refine va_putF (C := q.1) (T := q.2.1) (N := q.2.2) (v := .int v) hF.1 hF.2.1 hF.2.2.2.2.2.2.2 (gb_cl_all (gb_mem_of hc)) (gb_ET.getD ci eGb) (gb_ty_of hc) (gb_cl_nm q (gb_mem_of hc)) hF.2.2.2.2.2.1 w1 w3 w4 w5 a (gb_w_at hs) hc k hk (hF.2.2.2.2.2.2.2 _ hlk) (fun _ h9 => h9) hfin (hF.2.2.2.2.2.2.1.trans hM) hown (hty ▸ gb_ty_of hc k hk) hnr hft (by rw [List.length_mapIdx]; exact (List.getElem?_eq_some_iff.mp hf).1) hd (fun H1 locs1 g1 g2 g3 => ?_)
  rw [gb_ws_obj hs hf] at g1 g2
  exact K p e R s m args below meth c D cI cR ad ad0 n0 A H1 locs1 cells slots mc ms ls hF h1 h2 h3 h4 h5 h6 ⟨w1, w2, g1, g2, g3, w6, w7, w8⟩ hn hE hl
theorem go_objI {idx a : Nat} (hd : decode M.2.1 pc = .ok (.invokespecial idx, 3)) (hlk : Cond.methodLink M.1.cls idx Lib.objectInit ∈ gb_all) (hin : Cond.instanceMethod Lib.objectInit ∈ gb_all) (hco : Cond.code Lib.objectInit ⟨#[0xb1]⟩ 1 none ∈ gb_all) (h8 : st.length ≤ 8) (K : gb_Go l M (d + 1) kc ks (pc + 3) lv st Sh I post) : gb_Go l M (d + 1) kc ks pc lv (.inr (some a) :: st) Sh I post := by
  intro p e R s m args below meth c D cI cR ad ad0 n0 A H locs cells slots mc ms ls hF h1 h2 h3 h4 h5 h6 hW hn hE hl
  refine W.objInit hF.1 hF.2.1 hF.2.2.2.2.2.1 (hF.2.2.2.2.2.2.2 _ hlk) (hF.2.2.2.2.2.2.2 _ hin) (hF.2.2.2.2.2.2.2 _ hco) rfl (by rw [hF.2.2.1]; exact hl.1) rfl hd (by omega) (by show 2 * 0 + ((st.map (gb_v ad)).map fun v => v.category).sum + 12 ≤ R.locals; rw [gb_cats]; omega) ?_
  exact K p e R s m args below meth c D cI cR ad ad0 n0 A H locs cells slots mc ms ls hF h1 h2 h3 h4 h5 h6 hW hn hE hl
/-- a row of tables -/
theorem go_newq {idx : Nat} {x : Int32} {N : Nat} (hd : decode M.2.1 pc = .ok (.anewarray idx, 3)) (hlk : Cond.classLink M.1.cls idx "GravyBoats$Table" ∈ gb_all) (hx : ¬ x < 0) (hN9 : x.toNatClampNeg = N) (hb : N ≤ 100000) (hN : Sh.length = n) (h99 : n + 1 ≤ 1000) (hclo : ∀ c ∈ Sh, gb_cok n c) (hlv : ∀ q ∈ lv, gb_ltA n q.2) (hst : ∀ x ∈ st, gb_ltA n x) (hSh : Sh ++ [.inl (.inr (List.replicate N none))] = Sh')
    (K : gb_Go l M d kc ks (pc + 3) lv (.inr (some n) :: st) Sh' I post) : gb_Go l M d (kc + 1) (ks + N) pc lv (.inl x :: st) Sh I post := by
  subst hN; subst hSh
  intro p e R s m args below meth c D cI cR ad ad0 n0 A H locs cells slots mc ms ls hF h1 h2 h3 h4 h5 h6 hW hn hE hl
  have hW0 := hW
  obtain ⟨w1, w2, w3, w4, w5, w6, w7, w8⟩ := hW
  refine va_newq (C := "GravyBoats$Table") hF.1 hF.2.1 hF.2.2.2.2.2.1 (hF.2.2.2.2.2.2.2 _ hlk) w7.2.2.2.2.1 (w2 [] rfl) w3 w4 w5 w6 hx hN9 (by omega) (by omega) (by omega) hd (fun q9 cA H1 gK g1 g2 g3 => ?_)
  have ecA : cA = cR := by
    obtain ⟨_, _, _, _, _, e1⟩ := (gK.2 1 (cA, .object "GravyBoats$Table") rfl).2
    obtain ⟨_, _, _, _, _, e2⟩ := ((w2 [] rfl).2 0 (cR, .object "GravyBoats$Table") rfl).2
    exact Option.some.inj (e1.symm.trans e2)
  subst ecA
  have e0 : (.inl (cA, N, .inr (.inr (.inr (.inr (fun _ => none))))) : va_E) = gb_c (gb_adn ad Sh.length q9) cI cA (I Sh.length) (.inl (.inr (List.replicate N none))) := by
    show _ = (Sum.inl (cA, (List.replicate N (none : Option Nat)).length, .inr (.inr (.inr (.inr (fun k => ((List.replicate N (none : Option Nat)).getD k none).map (gb_adn ad Sh.length q9)))))) : va_E)
    rw [List.length_replicate]
    congr 7
    funext k
    have : (List.replicate N (none : Option Nat)).getD k none = none := by
      rw [List.getD_eq_getElem?_getD, List.getElem?_replicate]
      split <;> rfl
    rw [this]; rfl
  rw [e0] at g1 g2
  obtain ⟨k1, k2, k3⟩ := gb_grown (c := .inl (.inr (List.replicate N none))) hW0 hn hE hclo h99 (gb_Rr_app w2) g1 g2 g3
  have e1 : (.ref q9 :: st.map (gb_v ad)) = (.inr (some Sh.length) :: st : List gb_AV).map (gb_v (gb_adn ad Sh.length q9)) := by
    rw [List.map_cons, gb_st_lt gb_adn_lt hst]
    show _ = Value.ref (gb_adn ad Sh.length q9 Sh.length) :: _
    rw [gb_adn_at]
  rw [e1]
  exact K p e R s m args below meth c D cI cA _ ad0 n0 A H1 locs (cells + 1) (slots + N) mc ms ls hF h1 h2 (by omega) (by omega) h5 h6 k1 k2 k3 (by rw [gb_lv_lt gb_adn_lt hlv]; exact hl)
theorem go_aast {a r ci : Nat} {fs : List (Option (Option Nat))} {rs : List (Option Nat)} {i : Int32} (hd : decode M.2.1 pc = .ok (.aastore, 1)) (hs : Sh[a]? = some (.inl (.inr rs))) (hv : Sh[r]? = some (.inr (2, fs))) (hin : vp_in i rs.length) (hSh : Sh.set a (.inl (.inr (rs.set i.toNatClampNeg (some r)))) = Sh')
    (K : gb_Go l M d kc ks (pc + 1) lv st Sh' I post) : gb_Go l M d kc ks pc lv (.inr (some r) :: .inl i :: .inr (some a) :: st) Sh I post := by
  subst hSh
  intro p e R s m args below meth c D cI cR ad ad0 n0 A H locs cells slots mc ms ls hF h1 h2 h3 h4 h5 h6 hW hn hE hl
  obtain ⟨w1, w2, w3, w4, w5, w6, w7, w8⟩ := hW
  have hlt : i.toNatClampNeg < rs.length := Nat.not_le.mp fun q => hin (Or.inr q)
  refine va_astq (r := ("GravyBoats$Table", TTa, 9)) (f := fun k => (rs.getD k none).map ad) hF.1 hF.2.1 (w2 [] rfl) w3 w4 w5 a 0 r 2 (gb_w_at hs) rfl (gb_w_at hv) rfl hin hd (fun H1 locs1 g1 g2 g3 => ?_)
  have e1 : (gb_w ad cI cR Sh I).set a (ad a, .inl (cR, rs.length, .inr (.inr (.inr (.inr (va_up (fun k => (rs.getD k none).map ad) i.toNatClampNeg (some (ad r)))))))) = gb_w ad cI cR (Sh.set a (.inl (.inr (rs.set i.toNatClampNeg (some r))))) I := by
    have e2 : (va_up (fun k => (rs.getD k none).map ad) i.toNatClampNeg (some (ad r))) = fun k => ((rs.set i.toNatClampNeg (some r)).getD k none).map ad := by
      funext k
      unfold va_up
      by_cases hk : k = i.toNatClampNeg
      · subst hk
        rw [if_pos rfl, List.getD_eq_getElem?_getD, List.getElem?_set_self hlt]; rfl
      · rw [if_neg hk]
        show Option.map ad (rs.getD k none) = _
        rw [List.getD_eq_getElem?_getD, List.getD_eq_getElem?_getD, List.getElem?_set_ne (Ne.symm hk)]
    rw [e2]
    have hl9 := (List.getElem?_eq_some_iff.mp hs).1
    apply List.ext_getElem?
    intro j
    by_cases hj : j = a
    · subst hj
      rw [List.getElem?_set_self (by rw [gb_w_len]; exact hl9), gb_w_at (List.getElem?_set_self hl9)]
      show _ = some (ad j, (Sum.inl (cR, (rs.set i.toNatClampNeg (some r)).length, _) : va_E))
      rw [List.length_set]
    · rw [List.getElem?_set_ne (Ne.symm hj)]
      unfold gb_w
      rw [List.getElem?_mapIdx, List.getElem?_mapIdx, List.getElem?_set_ne (Ne.symm hj)]
  rw [e1] at g1 g2
  exact K p e R s m args below meth c D cI cR ad ad0 n0 A H1 locs1 cells slots mc ms ls hF h1 h2 h3 h4 h5 h6 ⟨w1, w2, g1, g2, g3, w6, w7, by rw [List.length_set]; exact w8⟩ (by rw [List.length_set]; exact hn) (by rw [List.length_set]; exact hE) hl
/-- a constructor's call, that may make cells -/
theorem go_callI {y : gb_MI} {idx np a kc1 ks1 : Nat} {asr : List gb_AV} {Sh1 : List gb_Ce} {I1 : gb_Mem} (hd : decode M.2.1 pc = .ok (.invokespecial idx, 3)) (hy : gb_Mc y np) (hlk : Cond.methodLink M.1.cls idx y.1 ∈ gb_all) (hn : asr.length = np) (h8 : st.length ≤ 8) (hk : sk = asr.reverse ++ .inr (some a) :: st) (hlv : ∀ q ∈ lv, gb_ltA Sh.length q.2) (hst : ∀ x ∈ st, gb_ltA Sh.length x) (hC : gb_Ct l y d kc1 ks1 (.inr (some a) :: asr) Sh I (gb_po Sh1 none I1))
    (K : gb_Go l M (d + 1) kc ks (pc + 3) lv st Sh1 I1 post) : gb_Go l M (d + 1) (kc + kc1) (ks + ks1) pc lv sk Sh I post := by
  intro p e R s m args below meth c D cI cR ad ad0 n0 A H locs cells slots mc ms ls hF h1 h2 h3 h4 h5 h6 hW hn9 hE hl
  subst hk
  have hCD := hC D cI cR ad H.size
  have hcb : CallB R s args M.1.cls idx y.1 y.2.1 y.2.2.1 none (Cond.code y.1 y.2.1 y.2.2.1 y.2.2.2 :: gb_all) { frames := d, cells := kc1, slots := ks1, locals := 40 * d } kc1 ks1 np := by
    have h9 := gb_cb (R := R) (d := d) (kc := kc1) (ks := ks1) hF hy.1 hy.2.1 hy.2.2.1 hlk h1 h2
    rw [hy.2.2.2.2.2] at h9 ⊢
    exact h9
  refine gb_back (mc := kc1) (ms := ks1) hW (va_runI (As := asr.map (gb_v ad)) (rest := st.map (gb_v ad)) ⟨hF.1, hF.2.1, hF.2.2.1, hF.2.2.2.2.2.1, hF.2.2.2.2.2.2.2⟩ hCD ⟨hcb, hy.2.2.2.2.1, hF.2.2.2.2.2.2.2 _ hy.2.2.2.1⟩ ⟨gb_blind, fun U hU hw => gb_pre hW _ U hU hw⟩ rfl (by rw [List.length_map]; exact hn) hl.1 (by simp [gb_v]) (gb_room h8) hd ⟨by omega, by omega⟩) ?_
  intro v1 Sh2 I2 ad1 H1 locs1 hp hn1 hE1 hW1
  obtain ⟨rfl, rfl, rfl⟩ := hp
  have ha : ∀ i, i < Sh.length → ad1 i = ad i := fun i hi => hE1 i (Or.inl hi)
  show W p l e R s m args below meth c H1 locs1 (cells + kc1) (slots + ks1) _ (F0 m (pc + 3) ls (st.map (gb_v ad)))
  rw [← gb_st_lt ha hst]
  refine K p e R s m args below meth c D cI cR ad1 ad0 n0 A H1 locs1 (cells + kc1) (slots + ks1) mc ms ls hF h1 h2 (by omega) (by omega) h5 h6 hW1 (by omega) (fun i hi => ?_) (by rw [gb_lv_lt ha hlv]; exact hl)
  rw [hE1 i (by omega)]
  exact hE i (by omega)
theorem go_callIN {y : gb_MI} {idx np a kc1 ks1 : Nat} {host : String} {asr : List gb_AV} {Sh1 : List gb_Ce} {I1 : gb_Mem} (hd : decode M.2.1 pc = .ok (.invokespecial idx, 3)) (hy : gb_Mc y np) (hlk : Cond.methodLinkNest M.1.cls idx y.1 host ∈ gb_all) (hn : asr.length = np) (h8 : st.length ≤ 8) (hk : sk = asr.reverse ++ .inr (some a) :: st) (hlv : ∀ q ∈ lv, gb_ltA Sh.length q.2) (hst : ∀ x ∈ st, gb_ltA Sh.length x) (hC : gb_Ct l y d kc1 ks1 (.inr (some a) :: asr) Sh I (gb_po Sh1 none I1))
    (K : gb_Go l M (d + 1) kc ks (pc + 3) lv st Sh1 I1 post) : gb_Go l M (d + 1) (kc + kc1) (ks + ks1) pc lv sk Sh I post := by
  intro p e R s m args below meth c D cI cR ad ad0 n0 A H locs cells slots mc ms ls hF h1 h2 h3 h4 h5 h6 hW hn9 hE hl
  subst hk
  have hCD := hC D cI cR ad H.size
  have hcb : va_CN R s args M.1.cls idx y.1 host y.2.1 y.2.2.1 none (Cond.code y.1 y.2.1 y.2.2.1 y.2.2.2 :: gb_all) { frames := d, cells := kc1, slots := ks1, locals := 40 * d } kc1 ks1 np := by
    have h9 := gb_cn (R := R) (d := d) (kc := kc1) (ks := ks1) hF hy.1 hy.2.1 hy.2.2.1 hlk h1 h2
    rw [hy.2.2.2.2.2] at h9 ⊢
    exact h9
  refine gb_back (mc := kc1) (ms := ks1) hW (va_runIN (As := asr.map (gb_v ad)) (rest := st.map (gb_v ad)) ⟨hF.1, hF.2.1, hF.2.2.1, hF.2.2.2.2.2.1, hF.2.2.2.2.2.2.2⟩ hCD ⟨hcb, hy.2.2.2.2.1, hF.2.2.2.2.2.2.2 _ hy.2.2.2.1⟩ ⟨gb_blind, fun U hU hw => gb_pre hW _ U hU hw⟩ rfl (by rw [List.length_map]; exact hn) hl.1 (by simp [gb_v]) (gb_room h8) hd ⟨by omega, by omega⟩) ?_
  intro v1 Sh2 I2 ad1 H1 locs1 hp hn1 hE1 hW1
  obtain ⟨rfl, rfl, rfl⟩ := hp
  have ha : ∀ i, i < Sh.length → ad1 i = ad i := fun i hi => hE1 i (Or.inl hi)
  show W p l e R s m args below meth c H1 locs1 (cells + kc1) (slots + ks1) _ (F0 m (pc + 3) ls (st.map (gb_v ad)))
  rw [← gb_st_lt ha hst]
  refine K p e R s m args below meth c D cI cR ad1 ad0 n0 A H1 locs1 (cells + kc1) (slots + ks1) mc ms ls hF h1 h2 (by omega) (by omega) h5 h6 hW1 (by omega) (fun i hi => ?_) (by rw [gb_lv_lt ha hlv]; exact hl)
  rw [hE1 i (by omega)]
  exact hE i (by omega)
end NewRules
