/-! Rules over the world: fields, rows, what stands outside, calls, answers. -/
section Heap
variable {l : Launch} {M : gb_MI} {d kc ks pc : Nat} {lv : List (Nat × gb_AV)} {st : List gb_AV} {Sh : List gb_Ce} {I : gb_Mem} {post : Option gb_AV → List gb_Ce → gb_Mem → Prop}
theorem gb_mem_of {q : vw_C} {ci : Nat} (h : gb_CL[ci]? = some q) : q ∈ gb_CL := List.mem_of_getElem? h
theorem go_geti {idx ci k a : Nat} {q : vw_C} {fs : List (Option (Option Nat))} (hd : decode M.2.1 pc = .ok (.getfield idx, 3)) (hs : Sh[a]? = some (.inr (ci, fs))) (hc : gb_CL[ci]? = some q) (hk : k < q.2.2) (hlk : Cond.fieldLink M.1.cls idx (q.2.1 k).1 (q.2.1 k).2.1 (q.2.1 k).2.2.1 ∈ gb_all) (hf : fs[k]? = some none)
    (K : gb_Go l M d kc ks (pc + 3) lv (.inl (I a k) :: st) Sh I post) : gb_Go l M d kc ks pc lv (.inr (some a) :: st) Sh I post := by
  intro p e R s m args below meth c D cI cR ad ad0 n0 A H locs cells slots mc ms ls hF h1 h2 h3 h4 h5 h6 hW hn hE hl
  exact va_get (C := q.1) (T := q.2.1) (N := q.2.2) hF.1 hF.2.1 hF.2.2.2.2.2.2.2 (gb_cl_all (gb_mem_of hc)) hF.2.2.2.2.2.1 hW.1 hW.2.2.1 a (gb_w_at hs) hc k hk (hF.2.2.2.2.2.2.2 _ hlk) (fun _ h9 => h9) (v := .int (I a k)) (gb_fs_at hf) hd (K p e R s m args below meth c D cI cR ad ad0 n0 A H locs cells slots mc ms ls hF h1 h2 h3 h4 h5 h6 hW hn hE hl)
theorem go_getr {idx ci k a r : Nat} {q : vw_C} {fs : List (Option (Option Nat))} (hd : decode M.2.1 pc = .ok (.getfield idx, 3)) (hs : Sh[a]? = some (.inr (ci, fs))) (hc : gb_CL[ci]? = some q) (hk : k < q.2.2) (hlk : Cond.fieldLink M.1.cls idx (q.2.1 k).1 (q.2.1 k).2.1 (q.2.1 k).2.2.1 ∈ gb_all) (hf : fs[k]? = some (some (some r)))
    (K : gb_Go l M d kc ks (pc + 3) lv (.inr (some r) :: st) Sh I post) : gb_Go l M d kc ks pc lv (.inr (some a) :: st) Sh I post := by
  intro p e R s m args below meth c D cI cR ad ad0 n0 A H locs cells slots mc ms ls hF h1 h2 h3 h4 h5 h6 hW hn hE hl
  exact va_get (C := q.1) (T := q.2.1) (N := q.2.2) hF.1 hF.2.1 hF.2.2.2.2.2.2.2 (gb_cl_all (gb_mem_of hc)) hF.2.2.2.2.2.1 hW.1 hW.2.2.1 a (gb_w_at hs) hc k hk (hF.2.2.2.2.2.2.2 _ hlk) (fun _ h9 => h9) (v := .ref (ad r)) (gb_fs_at hf) hd (K p e R s m args below meth c D cI cR ad ad0 n0 A H locs cells slots mc ms ls hF h1 h2 h3 h4 h5 h6 hW hn hE hl)
theorem go_getiN {idx ci k a : Nat} {host : String} {q : vw_C} {fs : List (Option (Option Nat))} (hd : decode M.2.1 pc = .ok (.getfield idx, 3)) (hs : Sh[a]? = some (.inr (ci, fs))) (hc : gb_CL[ci]? = some q) (hk : k < q.2.2) (hlk : Cond.fieldLinkNest M.1.cls idx (q.2.1 k).1 (q.2.1 k).2.1 (q.2.1 k).2.2.1 host ∈ gb_all) (hf : fs[k]? = some none)
    (K : gb_Go l M d kc ks (pc + 3) lv (.inl (I a k) :: st) Sh I post) : gb_Go l M d kc ks pc lv (.inr (some a) :: st) Sh I post := by
  intro p e R s m args below meth c D cI cR ad ad0 n0 A H locs cells slots mc ms ls hF h1 h2 h3 h4 h5 h6 hW hn hE hl
  exact va_getN (C := q.1) (T := q.2.1) (N := q.2.2) hF.1 hF.2.1 hF.2.2.2.2.2.2.2 (gb_cl_all (gb_mem_of hc)) hF.2.2.2.2.2.1 hW.1 hW.2.2.1 a (gb_w_at hs) hc k hk (hF.2.2.2.2.2.2.2 _ hlk) (fun _ h9 => h9) (v := .int (I a k)) (gb_fs_at hf) hd (K p e R s m args below meth c D cI cR ad ad0 n0 A H locs cells slots mc ms ls hF h1 h2 h3 h4 h5 h6 hW hn hE hl)
theorem go_getrN {idx ci k a r : Nat} {host : String} {q : vw_C} {fs : List (Option (Option Nat))} (hd : decode M.2.1 pc = .ok (.getfield idx, 3)) (hs : Sh[a]? = some (.inr (ci, fs))) (hc : gb_CL[ci]? = some q) (hk : k < q.2.2) (hlk : Cond.fieldLinkNest M.1.cls idx (q.2.1 k).1 (q.2.1 k).2.1 (q.2.1 k).2.2.1 host ∈ gb_all) (hf : fs[k]? = some (some (some r)))
    (K : gb_Go l M d kc ks (pc + 3) lv (.inr (some r) :: st) Sh I post) : gb_Go l M d kc ks pc lv (.inr (some a) :: st) Sh I post := by
  intro p e R s m args below meth c D cI cR ad ad0 n0 A H locs cells slots mc ms ls hF h1 h2 h3 h4 h5 h6 hW hn hE hl
  exact va_getN (C := q.1) (T := q.2.1) (N := q.2.2) hF.1 hF.2.1 hF.2.2.2.2.2.2.2 (gb_cl_all (gb_mem_of hc)) hF.2.2.2.2.2.1 hW.1 hW.2.2.1 a (gb_w_at hs) hc k hk (hF.2.2.2.2.2.2.2 _ hlk) (fun _ h9 => h9) (v := .ref (ad r)) (gb_fs_at hf) hd (K p e R s m args below meth c D cI cR ad ad0 n0 A H locs cells slots mc ms ls hF h1 h2 h3 h4 h5 h6 hW hn hE hl)
/-- behind a store into an object's int field -/
theorem gb_ws_obj {ad : Nat → Nat} {cI cR : ClassId} {a ci k : Nat} {fs : List (Option (Option Nat))} (hs : Sh[a]? = some (.inr (ci, fs))) (hf : fs[k]? = some none) (v : Int32) : (gb_w ad cI cR Sh I).set a (ad a, .inr (ci, (fs.mapIdx (gb_f ad (I a))).set k (.int v))) = gb_w ad cI cR Sh (mw I a k v) := by
  rw [gb_fs_set hf]
  exact gb_w_set hs (upd (I a) k v)
theorem gb_narZ {v : Int32} (h : v = 0 ∨ v = 1) : narrow .boolean (.int v) = .int v := by rcases h with rfl | rfl <;> decide
theorem gb_fitZ {v : Int32} (h : v = 0 ∨ v = 1) : fits .boolean (.int v) = true := by rcases h with rfl | rfl <;> decide
theorem go_putT {idx ci k a : Nat} {q : vw_C} {fs : List (Option (Option Nat))} {v : Int32} {I' : gb_Mem} {ty : FieldType} (hd : decode M.2.1 pc = .ok (.putfield idx, 3)) (hs : Sh[a]? = some (.inr (ci, fs))) (hc : gb_CL[ci]? = some q) (hk : k < q.2.2) (hlk : Cond.fieldLink M.1.cls idx (q.2.1 k).1 (q.2.1 k).2.1 (q.2.1 k).2.2.1 ∈ gb_all) (hf : fs[k]? = some none) (hfin : (q.2.1 k).2.2.2 = false) (hty : (gb_ET.getD ci eGb) k = ty) (hnr : narrow ty (.int v) = .int v) (hft : fits ty (.int v) = true) (hI : I' = mw I a k v)
    (K : gb_Go l M d kc ks (pc + 3) lv st Sh I' post) : gb_Go l M d kc ks pc lv (.inl v :: .inr (some a) :: st) Sh I post := by
  subst hI
  intro p e R s m args below meth c D cI cR ad ad0 n0 A H locs cells slots mc ms ls hF h1 h2 h3 h4 h5 h6 hW hn hE hl
  obtain ⟨w1, w2, w3, w4, w5, w6, w7, w8⟩ := hW
  refine va_put (C := q.1) (T := q.2.1) (N := q.2.2) (v := .int v) hF.1 hF.2.1 hF.2.2.2.2.2.2.2 (gb_cl_all (gb_mem_of hc)) (gb_ET.getD ci eGb) (gb_ty_of hc) (gb_cl_nm q (gb_mem_of hc)) hF.2.2.2.2.2.1 w1 w3 w4 w5 a (gb_w_at hs) hc k hk (hF.2.2.2.2.2.2.2 _ hlk) (fun _ h9 => h9) hfin (hty ▸ gb_ty_of hc k hk) hnr hft (by rw [List.length_mapIdx]; exact (List.getElem?_eq_some_iff.mp hf).1) hd (fun H1 locs1 g1 g2 g3 => ?_)
  rw [gb_ws_obj hs hf] at g1 g2
  exact K p e R s m args below meth c D cI cR ad ad0 n0 A H1 locs1 cells slots mc ms ls hF h1 h2 h3 h4 h5 h6 ⟨w1, w2, g1, g2, g3, w6, w7, w8⟩ hn hE hl
theorem go_putTN {idx ci k a : Nat} {host : String} {q : vw_C} {fs : List (Option (Option Nat))} {v : Int32} {I' : gb_Mem} {ty : FieldType} (hd : decode M.2.1 pc = .ok (.putfield idx, 3)) (hs : Sh[a]? = some (.inr (ci, fs))) (hc : gb_CL[ci]? = some q) (hk : k < q.2.2) (hlk : Cond.fieldLinkNest M.1.cls idx (q.2.1 k).1 (q.2.1 k).2.1 (q.2.1 k).2.2.1 host ∈ gb_all) (hf : fs[k]? = some none) (hfin : (q.2.1 k).2.2.2 = false) (hty : (gb_ET.getD ci eGb) k = ty) (hnr : narrow ty (.int v) = .int v) (hft : fits ty (.int v) = true) (hI : I' = mw I a k v)
    (K : gb_Go l M d kc ks (pc + 3) lv st Sh I' post) : gb_Go l M d kc ks pc lv (.inl v :: .inr (some a) :: st) Sh I post := by
  subst hI
  intro p e R s m args below meth c D cI cR ad ad0 n0 A H locs cells slots mc ms ls hF h1 h2 h3 h4 h5 h6 hW hn hE hl
  obtain ⟨w1, w2, w3, w4, w5, w6, w7, w8⟩ := hW
  refine va_putN (C := q.1) (T := q.2.1) (N := q.2.2) (v := .int v) hF.1 hF.2.1 hF.2.2.2.2.2.2.2 (gb_cl_all (gb_mem_of hc)) (gb_ET.getD ci eGb) (gb_ty_of hc) (gb_cl_nm q (gb_mem_of hc)) hF.2.2.2.2.2.1 w1 w3 w4 w5 a (gb_w_at hs) hc k hk (hF.2.2.2.2.2.2.2 _ hlk) (fun _ h9 => h9) hfin (hty ▸ gb_ty_of hc k hk) hnr hft (by rw [List.length_mapIdx]; exact (List.getElem?_eq_some_iff.mp hf).1) hd (fun H1 locs1 g1 g2 g3 => ?_)
  rw [gb_ws_obj hs hf] at g1 g2
  exact K p e R s m args below meth c D cI cR ad ad0 n0 A H1 locs1 cells slots mc ms ls hF h1 h2 h3 h4 h5 h6 ⟨w1, w2, g1, g2, g3, w6, w7, w8⟩ hn hE hl
/-- rows of ints -/
theorem go_iald {a n : Nat} {i : Int32} (hd : decode M.2.1 pc = .ok (.iaload, 1)) (hs : Sh[a]? = some (.inl (.inl n))) (hin : vp_in i n)
    (K : gb_Go l M d kc ks (pc + 1) lv (.inl (I a i.toNatClampNeg) :: st) Sh I post) : gb_Go l M d kc ks pc lv (.inl i :: .inr (some a) :: st) Sh I post := by
  intro p e R s m args below meth c D cI cR ad ad0 n0 A H locs cells slots mc ms ls hF h1 h2 h3 h4 h5 h6 hW hn hE hl
  exact va_iald hF.1 hF.2.1 hW.1 hW.2.2.1 a 0 (gb_w_at hs) rfl hin hd (K p e R s m args below meth c D cI cR ad ad0 n0 A H locs cells slots mc ms ls hF h1 h2 h3 h4 h5 h6 hW hn hE hl)
theorem go_iast {a n : Nat} {i x : Int32} {I' : gb_Mem} (hd : decode M.2.1 pc = .ok (.iastore, 1)) (hs : Sh[a]? = some (.inl (.inl n))) (hin : vp_in i n) (hI : I' = mw I a i.toNatClampNeg x)
    (K : gb_Go l M d kc ks (pc + 1) lv st Sh I' post) : gb_Go l M d kc ks pc lv (.inl x :: .inl i :: .inr (some a) :: st) Sh I post := by
  subst hI
  intro p e R s m args below meth c D cI cR ad ad0 n0 A H locs cells slots mc ms ls hF h1 h2 h3 h4 h5 h6 hW hn hE hl
  obtain ⟨w1, w2, w3, w4, w5, w6, w7, w8⟩ := hW
  refine va_iast hF.1 hF.2.1 w1 w3 w4 w5 a 0 (gb_w_at hs) rfl hin hd (fun H1 locs1 g1 g2 g3 => ?_)
  have e1 : (gb_w ad cI cR Sh I).set a (ad a, .inl (cI, n, .inl (upd (I a) i.toNatClampNeg x))) = gb_w ad cI cR Sh (mw I a i.toNatClampNeg x) := gb_w_set hs (upd (I a) i.toNatClampNeg x)
  rw [e1] at g1 g2
  exact K p e R s m args below meth c D cI cR ad ad0 n0 A H1 locs1 cells slots mc ms ls hF h1 h2 h3 h4 h5 h6 ⟨w1, w2, g1, g2, g3, w6, w7, w8⟩ hn hE hl
theorem go_alen {a n : Nat} (hd : decode M.2.1 pc = .ok (.arraylength, 1)) (hs : Sh[a]? = some (.inl (.inl n)))
    (K : gb_Go l M d kc ks (pc + 1) lv (.inl (nI n) :: st) Sh I post) : gb_Go l M d kc ks pc lv (.inr (some a) :: st) Sh I post := by
  intro p e R s m args below meth c D cI cR ad ad0 n0 A H locs cells slots mc ms ls hF h1 h2 h3 h4 h5 h6 hW hn hE hl
  exact va_alen (ty := .int) hF.1 hF.2.1 hW.1 hW.2.2.1 a 0 (gb_w_at hs) rfl rfl hd (K p e R s m args below meth c D cI cR ad ad0 n0 A H locs cells slots mc ms ls hF h1 h2 h3 h4 h5 h6 hW hn hE hl)
theorem go_aald {a r : Nat} {rs : List (Option Nat)} {i : Int32} (hd : decode M.2.1 pc = .ok (.aaload, 1)) (hs : Sh[a]? = some (.inl (.inr rs))) (hin : vp_in i rs.length) (hr : rs.getD i.toNatClampNeg none = some r)
    (K : gb_Go l M d kc ks (pc + 1) lv (.inr (some r) :: st) Sh I post) : gb_Go l M d kc ks pc lv (.inl i :: .inr (some a) :: st) Sh I post := by
  intro p e R s m args below meth c D cI cR ad ad0 n0 A H locs cells slots mc ms ls hF h1 h2 h3 h4 h5 h6 hW hn hE hl
  have hK := hW.2.1 rs rfl
  have e1 : va_rf ((fun k => (rs.getD k none).map ad) i.toNatClampNeg) = .ref (ad r) := by show va_rf ((rs.getD i.toNatClampNeg none).map ad) = _; rw [hr]; rfl
  refine va_aldq (C := "GravyBoats$Table") (f := fun k => (rs.getD k none).map ad) hF.1 hF.2.1 hK hW.2.2.1 a 0 (gb_w_at hs) rfl hin hd ?_
  rw [e1]
  exact K p e R s m args below meth c D cI cR ad ad0 n0 A H locs cells slots mc ms ls hF h1 h2 h3 h4 h5 h6 hW hn hE hl
theorem go_alenR {a : Nat} {rs : List (Option Nat)} (hd : decode M.2.1 pc = .ok (.arraylength, 1)) (hs : Sh[a]? = some (.inl (.inr rs)))
    (K : gb_Go l M d kc ks (pc + 1) lv (.inl (nI rs.length) :: st) Sh I post) : gb_Go l M d kc ks pc lv (.inr (some a) :: st) Sh I post := by
  intro p e R s m args below meth c D cI cR ad ad0 n0 A H locs cells slots mc ms ls hF h1 h2 h3 h4 h5 h6 hW hn hE hl
  exact va_alen (ty := .object "GravyBoats$Table") hF.1 hF.2.1 (hW.2.1 rs rfl) hW.2.2.1 a 0 (gb_w_at hs) rfl rfl hd (K p e R s m args below meth c D cI cR ad ad0 n0 A H locs cells slots mc ms ls hF h1 h2 h3 h4 h5 h6 hW hn hE hl)
/-- what stands outside -/
theorem go_getG {idx : Nat} (hd : decode M.2.1 pc = .ok (.getstatic idx, 3)) (hlk : Cond.fieldLink M.1.cls idx "GravyBoats" "GREATEST" "[I" ∈ gb_all)
    (K : gb_Go l M d kc ks (pc + 3) lv (.inr (some 1000) :: st) Sh I post) : gb_Go l M d kc ks pc lv st Sh I post := by
  intro p e R s m args below meth c D cI cR ad ad0 n0 A H locs cells slots mc ms ls hF h1 h2 h3 h4 h5 h6 hW hn hE hl
  exact va_gets hF.1 hF.2.1 hW.2.2.2.2.2.2.1.1.1 hW.2.2.2.2.1 hF.2.2.2.2.2.1 (hF.2.2.2.2.2.2.2 _ hlk) (fun _ h9 => h9) hd (K p e R s m args below meth c D cI cR ad ad0 n0 A H locs cells slots mc ms ls hF h1 h2 h3 h4 h5 h6 hW hn hE hl)
theorem go_getGN {idx : Nat} {host : String} (hd : decode M.2.1 pc = .ok (.getstatic idx, 3)) (hlk : Cond.fieldLinkNest M.1.cls idx "GravyBoats" "GREATEST" "[I" host ∈ gb_all)
    (K : gb_Go l M d kc ks (pc + 3) lv (.inr (some 1000) :: st) Sh I post) : gb_Go l M d kc ks pc lv st Sh I post := by
  intro p e R s m args below meth c D cI cR ad ad0 n0 A H locs cells slots mc ms ls hF h1 h2 h3 h4 h5 h6 hW hn hE hl
  exact va_getsN hF.1 hF.2.1 hW.2.2.2.2.2.2.1.1.1 hW.2.2.2.2.1 hF.2.2.2.2.2.1 (hF.2.2.2.2.2.2.2 _ hlk) (fun _ h9 => h9) hd (K p e R s m args below meth c D cI cR ad ad0 n0 A H locs cells slots mc ms ls hF h1 h2 h3 h4 h5 h6 hW hn hE hl)
theorem go_ialdG {i : Int32} (hd : decode M.2.1 pc = .ok (.iaload, 1)) (hin : vp_in i 8)
    (K : gb_Go l M d kc ks (pc + 1) lv (.inl (gb_gr i.toNatClampNeg) :: st) Sh I post) : gb_Go l M d kc ks pc lv (.inl i :: .inr (some 1000) :: st) Sh I post := by
  intro p e R s m args below meth c D cI cR ad ad0 n0 A H locs cells slots mc ms ls hF h1 h2 h3 h4 h5 h6 hW hn hE hl
  exact va_ti hF.1 hF.2.1 hW.2.2.2.2.2.2.1.1.2 hW.2.2.2.2.1 hin rfl hd (K p e R s m args below meth c D cI cR ad ad0 n0 A H locs cells slots mc ms ls hF h1 h2 h3 h4 h5 h6 hW hn hE hl)
/-- answers -/
theorem gb_fin {D : va_G} {cI cR : ClassId} {ad ad0 : Nat → Nat} {n0 : Nat} {A : Nat → Prop} {s : State} {H : Heap} {locs : List Loc} {args : Array Value} {v : Option gb_AV} (hW : gb_Wd D cI cR ad A s H locs Sh I) (hn : n0 ≤ Sh.length) (hE : gb_Ex ad ad0 n0 Sh.length) (hp : post v Sh I) (t : State) (ht : t.heap = H) (hw : s.WarmedH t.vm) : gb_Q post ad0 n0 D cI cR A args s (.returned (v.map (gb_v ad))) t := by
  obtain ⟨w1, w2, w3, w4, w5, w6, w7, w8⟩ := hW
  exact ⟨⟨v, Sh, I, ad, rfl, hp, hn, w8, hE, by rw [ht]; exact w3, w4, fun rs hrs => va_K.moved hw.alike (w2 rs hrs)⟩, w5.F ht⟩
theorem go_ireturn {v : Int32} (hd : decode M.2.1 pc = .ok (.ireturn, 1)) (hr : M.2.2.2 = some .int) (hp : post (some (.inl v)) Sh I) : gb_Go l M d kc ks pc lv [.inl v] Sh I post := by
  intro p e R s m args below meth c D cI cR ad ad0 n0 A H locs cells slots mc ms ls hF h1 h2 h3 h4 h5 h6 hW hn hE hl
  refine W.widen (k := mc) (n := ms) (by omega) (by omega) ?_
  exact W.iret (v := v) hF.1 hF.2.1 (hF.2.2.2.1.trans hr) (fun t ht hw => gb_fin hW hn hE hp t ht hw) hW.2.2.2.2.1.2.2 hd hF.2.2.2.2.1
theorem go_zreturn {v : Int32} (hd : decode M.2.1 pc = .ok (.ireturn, 1)) (hr : M.2.2.2 = some .boolean) (hz : v = 0 ∨ v = 1) (hp : post (some (.inl v)) Sh I) : gb_Go l M d kc ks pc lv [.inl v] Sh I post := by
  intro p e R s m args below meth c D cI cR ad ad0 n0 A H locs cells slots mc ms ls hF h1 h2 h3 h4 h5 h6 hW hn hE hl
  refine W.widen (k := mc) (n := ms) (by omega) (by omega) ?_
  exact W.zret (v := v) (ty := .boolean) hF.1 hF.2.1 (hF.2.2.2.1.trans hr) (gb_narZ hz) (fun t ht hw => gb_fin hW hn hE hp t ht hw) hW.2.2.2.2.1.2.2 hd hF.2.2.2.2.1
theorem go_return (hd : decode M.2.1 pc = .ok (.return_, 1)) (hr : M.2.2.2 = none) (hp : post none Sh I) : gb_Go l M d kc ks pc lv [] Sh I post := by
  intro p e R s m args below meth c D cI cR ad ad0 n0 A H locs cells slots mc ms ls hF h1 h2 h3 h4 h5 h6 hW hn hE hl
  refine W.widen (k := mc) (n := ms) (by omega) (by omega) ?_
  exact W.vret hF.1 hF.2.1 (hF.2.2.2.1.trans hr) (fun t ht hw => gb_fin hW hn hE hp t ht hw) hW.2.2.2.2.1.2.2 hd hF.2.2.2.2.1
end Heap
