/-! The rules of gb_Go, an instruction a rule: each by the kit's row. -/
section Rules
variable {l : Launch} {M : gb_MI} {d kc ks pc : Nat} {lv : List (Nat × gb_AV)} {st : List gb_AV} {Sh : List gb_Ce} {I : gb_Mem} {post : Option gb_AV → List gb_Ce → gb_Mem → Prop}
/-- locals behind a store -/
def gb_st (i : Nat) (v : gb_AV) (lv : List (Nat × gb_AV)) : List (Nat × gb_AV) := (i, v) :: lv.filter (fun q => !(q.1 == i))
theorem gb_lv_st {ls : Array Slot} {n i : Nat} {ad : Nat → Nat} {v : gb_AV} {lv lv' : List (Nat × gb_AV)} (hs : gb_st i v lv = lv') (h : lv_has ls n ((i, gb_v ad v) :: (gb_lv ad lv).filter (fun q => !(q.1 == i) && !(q.1 + 1 == i && q.2.category == 2)))) : lv_has ls n (gb_lv ad lv') := by
  subst hs
  refine ⟨h.1, h.2.1, fun q hq => ?_⟩
  obtain ⟨r, hr, rfl⟩ := List.mem_map.mp hq
  refine h.2.2 _ ?_
  rcases List.mem_cons.mp hr with rfl | hr
  · exact List.mem_cons_self
  · obtain ⟨a1, a2⟩ := List.mem_filter.mp hr
    refine List.mem_cons_of_mem _ (List.mem_filter.mpr ⟨List.mem_map.mpr ⟨r, a1, rfl⟩, ?_⟩)
    have hc : (gb_v ad r.2).category = 1 := by rcases r.2 with x | (_ | y) <;> rfl
    simp only [hc]
    simpa using a2
theorem gb_lv_at {ls : Array Slot} {n i k : Nat} {ad : Nat → Nat} {v : gb_AV} {lv : List (Nat × gb_AV)} (h : lv_has ls n (gb_lv ad lv)) (hk : lv[k]? = some (i, v)) : ls[i]? = some (.val (gb_v ad v)) :=
  h.2.2 _ (List.mem_map.mpr ⟨(i, v), List.mem_of_getElem? hk, rfl⟩)
theorem gb_cat1 (ad : Nat → Nat) (v : gb_AV) : (gb_v ad v).category = 1 := by rcases v with x | (_ | y) <;> rfl
theorem go_iconst {n : Int} {v : Int32} (hd : decode M.2.1 pc = .ok (.iconst n, 1)) (hv : Int32.ofInt n = v) (K : gb_Go l M d kc ks (pc + 1) lv (.inl v :: st) Sh I post) : gb_Go l M d kc ks pc lv st Sh I post := by
  intro p e R s m args below meth c D cI cR ad ad0 n0 A H locs cells slots mc ms ls hF h1 h2 h3 h4 h5 h6 hW hn hE hl
  exact lv_iconst hF.1 hF.2.1 hd hv (K p e R s m args below meth c D cI cR ad ad0 n0 A H locs cells slots mc ms ls hF h1 h2 h3 h4 h5 h6 hW hn hE hl)
theorem go_bipush {n : Int} {v : Int32} (hd : decode M.2.1 pc = .ok (.bipush n, 2)) (hv : (Int8.ofInt n).toInt32 = v) (K : gb_Go l M d kc ks (pc + 2) lv (.inl v :: st) Sh I post) : gb_Go l M d kc ks pc lv st Sh I post := by
  intro p e R s m args below meth c D cI cR ad ad0 n0 A H locs cells slots mc ms ls hF h1 h2 h3 h4 h5 h6 hW hn hE hl
  exact lv_bipush hF.1 hF.2.1 hd hv (K p e R s m args below meth c D cI cR ad ad0 n0 A H locs cells slots mc ms ls hF h1 h2 h3 h4 h5 h6 hW hn hE hl)
theorem go_sipush {n : Int} {v : Int32} (hd : decode M.2.1 pc = .ok (.sipush n, 3)) (hv : (Int16.ofInt n).toInt32 = v) (K : gb_Go l M d kc ks (pc + 3) lv (.inl v :: st) Sh I post) : gb_Go l M d kc ks pc lv st Sh I post := by
  intro p e R s m args below meth c D cI cR ad ad0 n0 A H locs cells slots mc ms ls hF h1 h2 h3 h4 h5 h6 hW hn hE hl
  exact lv_sipush hF.1 hF.2.1 hd hv (K p e R s m args below meth c D cI cR ad ad0 n0 A H locs cells slots mc ms ls hF h1 h2 h3 h4 h5 h6 hW hn hE hl)
theorem go_ldc {idx : Nat} {v : Int32} (hd : decode M.2.1 pc = .ok (.ldc idx, 2)) (hc : Cond.constant M.1.cls idx v ∈ gb_all) (K : gb_Go l M d kc ks (pc + 2) lv (.inl v :: st) Sh I post) : gb_Go l M d kc ks pc lv st Sh I post := by
  intro p e R s m args below meth c D cI cR ad ad0 n0 A H locs cells slots mc ms ls hF h1 h2 h3 h4 h5 h6 hW hn hE hl
  exact lv_ldc hF.1 hF.2.1 hF.2.2.2.2.2.1 (hF.2.2.2.2.2.2.2 _ hc) hd (K p e R s m args below meth c D cI cR ad ad0 n0 A H locs cells slots mc ms ls hF h1 h2 h3 h4 h5 h6 hW hn hE hl)
theorem go_ldcw {idx : Nat} {v : Int32} (hd : decode M.2.1 pc = .ok (.ldc_w idx, 3)) (hc : Cond.constant M.1.cls idx v ∈ gb_all) (K : gb_Go l M d kc ks (pc + 3) lv (.inl v :: st) Sh I post) : gb_Go l M d kc ks pc lv st Sh I post := by
  intro p e R s m args below meth c D cI cR ad ad0 n0 A H locs cells slots mc ms ls hF h1 h2 h3 h4 h5 h6 hW hn hE hl
  exact lv_ldcw hF.1 hF.2.1 hF.2.2.2.2.2.1 (hF.2.2.2.2.2.2.2 _ hc) hd (K p e R s m args below meth c D cI cR ad ad0 n0 A H locs cells slots mc ms ls hF h1 h2 h3 h4 h5 h6 hW hn hE hl)
theorem go_iload_n {n : Fin 4} {i k : Nat} {x : Int32} (hd : decode M.2.1 pc = .ok (.iload_n n, 1)) (hi : (n : Nat) = i) (hk : lv[k]? = some (i, .inl x)) (K : gb_Go l M d kc ks (pc + 1) lv (.inl x :: st) Sh I post) : gb_Go l M d kc ks pc lv st Sh I post := by
  intro p e R s m args below meth c D cI cR ad ad0 n0 A H locs cells slots mc ms ls hF h1 h2 h3 h4 h5 h6 hW hn hE hl
  exact lv_iload_n hF.1 hF.2.1 hd hi (gb_lv_at hl hk) (K p e R s m args below meth c D cI cR ad ad0 n0 A H locs cells slots mc ms ls hF h1 h2 h3 h4 h5 h6 hW hn hE hl)
theorem go_iload {i k : Nat} {x : Int32} (hd : decode M.2.1 pc = .ok (.iload i, 2)) (hk : lv[k]? = some (i, .inl x)) (K : gb_Go l M d kc ks (pc + 2) lv (.inl x :: st) Sh I post) : gb_Go l M d kc ks pc lv st Sh I post := by
  intro p e R s m args below meth c D cI cR ad ad0 n0 A H locs cells slots mc ms ls hF h1 h2 h3 h4 h5 h6 hW hn hE hl
  exact lv_iload hF.1 hF.2.1 hd (gb_lv_at hl hk) (K p e R s m args below meth c D cI cR ad ad0 n0 A H locs cells slots mc ms ls hF h1 h2 h3 h4 h5 h6 hW hn hE hl)
theorem go_aload_n {n : Fin 4} {i k a : Nat} (hd : decode M.2.1 pc = .ok (.aload_n n, 1)) (hi : (n : Nat) = i) (hk : lv[k]? = some (i, .inr (some a))) (K : gb_Go l M d kc ks (pc + 1) lv (.inr (some a) :: st) Sh I post) : gb_Go l M d kc ks pc lv st Sh I post := by
  intro p e R s m args below meth c D cI cR ad ad0 n0 A H locs cells slots mc ms ls hF h1 h2 h3 h4 h5 h6 hW hn hE hl
  exact lv_aload_n hF.1 hF.2.1 hd hi (gb_lv_at hl hk) (K p e R s m args below meth c D cI cR ad ad0 n0 A H locs cells slots mc ms ls hF h1 h2 h3 h4 h5 h6 hW hn hE hl)
theorem go_aload {i k a : Nat} (hd : decode M.2.1 pc = .ok (.aload i, 2)) (hk : lv[k]? = some (i, .inr (some a))) (K : gb_Go l M d kc ks (pc + 2) lv (.inr (some a) :: st) Sh I post) : gb_Go l M d kc ks pc lv st Sh I post := by
  intro p e R s m args below meth c D cI cR ad ad0 n0 A H locs cells slots mc ms ls hF h1 h2 h3 h4 h5 h6 hW hn hE hl
  exact lv_aload hF.1 hF.2.1 hd (gb_lv_at hl hk) (K p e R s m args below meth c D cI cR ad ad0 n0 A H locs cells slots mc ms ls hF h1 h2 h3 h4 h5 h6 hW hn hE hl)
theorem go_istore_n {n : Fin 4} {i : Nat} {x : Int32} {lv' : List (Nat × gb_AV)} (hd : decode M.2.1 pc = .ok (.istore_n n, 1)) (hi : (n : Nat) = i) (hb : i < M.2.2.1) (hs : gb_st i (.inl x) lv = lv') (K : gb_Go l M d kc ks (pc + 1) lv' st Sh I post) : gb_Go l M d kc ks pc lv (.inl x :: st) Sh I post := by
  intro p e R s m args below meth c D cI cR ad ad0 n0 A H locs cells slots mc ms ls hF h1 h2 h3 h4 h5 h6 hW hn hE hl
  exact lv_istore_n hF.1 hF.2.1 hd hi hl hb rfl (fun ls2 hl2 => (K p e R s m args below meth c D cI cR ad ad0 n0 A H locs cells slots mc ms ls2 hF h1 h2 h3 h4 h5 h6 hW hn hE (gb_lv_st (v := .inl x) hs hl2)))
theorem go_istore {i : Nat} {x : Int32} {lv' : List (Nat × gb_AV)} (hd : decode M.2.1 pc = .ok (.istore i, 2)) (hb : i < M.2.2.1) (hs : gb_st i (.inl x) lv = lv') (K : gb_Go l M d kc ks (pc + 2) lv' st Sh I post) : gb_Go l M d kc ks pc lv (.inl x :: st) Sh I post := by
  intro p e R s m args below meth c D cI cR ad ad0 n0 A H locs cells slots mc ms ls hF h1 h2 h3 h4 h5 h6 hW hn hE hl
  exact lv_istore hF.1 hF.2.1 hd hl hb rfl (fun ls2 hl2 => (K p e R s m args below meth c D cI cR ad ad0 n0 A H locs cells slots mc ms ls2 hF h1 h2 h3 h4 h5 h6 hW hn hE (gb_lv_st (v := .inl x) hs hl2)))
theorem go_astore_n {n : Fin 4} {i : Nat} {x : Nat} {lv' : List (Nat × gb_AV)} (hd : decode M.2.1 pc = .ok (.astore_n n, 1)) (hi : (n : Nat) = i) (hb : i < M.2.2.1) (hs : gb_st i (.inr (some x)) lv = lv') (K : gb_Go l M d kc ks (pc + 1) lv' st Sh I post) : gb_Go l M d kc ks pc lv (.inr (some x) :: st) Sh I post := by
  intro p e R s m args below meth c D cI cR ad ad0 n0 A H locs cells slots mc ms ls hF h1 h2 h3 h4 h5 h6 hW hn hE hl
  exact lv_astore_n hF.1 hF.2.1 hd hi hl hb rfl (fun ls2 hl2 => (K p e R s m args below meth c D cI cR ad ad0 n0 A H locs cells slots mc ms ls2 hF h1 h2 h3 h4 h5 h6 hW hn hE (gb_lv_st (v := .inr (some x)) hs hl2)))
theorem go_astore {i : Nat} {x : Nat} {lv' : List (Nat × gb_AV)} (hd : decode M.2.1 pc = .ok (.astore i, 2)) (hb : i < M.2.2.1) (hs : gb_st i (.inr (some x)) lv = lv') (K : gb_Go l M d kc ks (pc + 2) lv' st Sh I post) : gb_Go l M d kc ks pc lv (.inr (some x) :: st) Sh I post := by
  intro p e R s m args below meth c D cI cR ad ad0 n0 A H locs cells slots mc ms ls hF h1 h2 h3 h4 h5 h6 hW hn hE hl
  exact lv_astore hF.1 hF.2.1 hd hl hb rfl (fun ls2 hl2 => (K p e R s m args below meth c D cI cR ad ad0 n0 A H locs cells slots mc ms ls2 hF h1 h2 h3 h4 h5 h6 hW hn hE (gb_lv_st (v := .inr (some x)) hs hl2)))
theorem go_iinc {i k : Nat} {n : Int} {x v : Int32} {lv' : List (Nat × gb_AV)} (hd : decode M.2.1 pc = .ok (.iinc i n, 3)) (hk : lv[k]? = some (i, .inl x)) (hv : x + Int32.ofInt n = v) (hb : i < M.2.2.1) (hs : gb_st i (.inl v) lv = lv') (K : gb_Go l M d kc ks (pc + 3) lv' st Sh I post) : gb_Go l M d kc ks pc lv st Sh I post := by
  intro p e R s m args below meth c D cI cR ad ad0 n0 A H locs cells slots mc ms ls hF h1 h2 h3 h4 h5 h6 hW hn hE hl
  exact lv_iinc (k := k) (x := x) hF.1 hF.2.1 hd hl (by unfold gb_lv; rw [List.getElem?_map, hk]; rfl) hv hb rfl (fun ls2 hl2 => (K p e R s m args below meth c D cI cR ad ad0 n0 A H locs cells slots mc ms ls2 hF h1 h2 h3 h4 h5 h6 hW hn hE (gb_lv_st (v := .inl v) hs hl2)))
theorem go_iadd {x y : Int32} (hd : decode M.2.1 pc = .ok (.iadd, 1)) (K : gb_Go l M d kc ks (pc + 1) lv (.inl (x + y) :: st) Sh I post) : gb_Go l M d kc ks pc lv (.inl y :: .inl x :: st) Sh I post := by
  intro p e R s m args below meth c D cI cR ad ad0 n0 A H locs cells slots mc ms ls hF h1 h2 h3 h4 h5 h6 hW hn hE hl
  exact lv_iadd hF.1 hF.2.1 hd (K p e R s m args below meth c D cI cR ad ad0 n0 A H locs cells slots mc ms ls hF h1 h2 h3 h4 h5 h6 hW hn hE hl)
theorem go_isub {x y : Int32} (hd : decode M.2.1 pc = .ok (.isub, 1)) (K : gb_Go l M d kc ks (pc + 1) lv (.inl (x - y) :: st) Sh I post) : gb_Go l M d kc ks pc lv (.inl y :: .inl x :: st) Sh I post := by
  intro p e R s m args below meth c D cI cR ad ad0 n0 A H locs cells slots mc ms ls hF h1 h2 h3 h4 h5 h6 hW hn hE hl
  exact lv_isub hF.1 hF.2.1 hd (K p e R s m args below meth c D cI cR ad ad0 n0 A H locs cells slots mc ms ls hF h1 h2 h3 h4 h5 h6 hW hn hE hl)
theorem go_imul {x y : Int32} (hd : decode M.2.1 pc = .ok (.imul, 1)) (K : gb_Go l M d kc ks (pc + 1) lv (.inl (x * y) :: st) Sh I post) : gb_Go l M d kc ks pc lv (.inl y :: .inl x :: st) Sh I post := by
  intro p e R s m args below meth c D cI cR ad ad0 n0 A H locs cells slots mc ms ls hF h1 h2 h3 h4 h5 h6 hW hn hE hl
  exact lv_imul hF.1 hF.2.1 hd (K p e R s m args below meth c D cI cR ad ad0 n0 A H locs cells slots mc ms ls hF h1 h2 h3 h4 h5 h6 hW hn hE hl)
theorem go_iand {x y : Int32} (hd : decode M.2.1 pc = .ok (.iand, 1)) (K : gb_Go l M d kc ks (pc + 1) lv (.inl (x &&& y) :: st) Sh I post) : gb_Go l M d kc ks pc lv (.inl y :: .inl x :: st) Sh I post := by
  intro p e R s m args below meth c D cI cR ad ad0 n0 A H locs cells slots mc ms ls hF h1 h2 h3 h4 h5 h6 hW hn hE hl
  exact lv_iand hF.1 hF.2.1 hd (K p e R s m args below meth c D cI cR ad ad0 n0 A H locs cells slots mc ms ls hF h1 h2 h3 h4 h5 h6 hW hn hE hl)
theorem go_ior {x y : Int32} (hd : decode M.2.1 pc = .ok (.ior, 1)) (K : gb_Go l M d kc ks (pc + 1) lv (.inl (x ||| y) :: st) Sh I post) : gb_Go l M d kc ks pc lv (.inl y :: .inl x :: st) Sh I post := by
  intro p e R s m args below meth c D cI cR ad ad0 n0 A H locs cells slots mc ms ls hF h1 h2 h3 h4 h5 h6 hW hn hE hl
  exact lv_ior hF.1 hF.2.1 hd (K p e R s m args below meth c D cI cR ad ad0 n0 A H locs cells slots mc ms ls hF h1 h2 h3 h4 h5 h6 hW hn hE hl)
theorem go_ixor {x y : Int32} (hd : decode M.2.1 pc = .ok (.ixor, 1)) (K : gb_Go l M d kc ks (pc + 1) lv (.inl (x ^^^ y) :: st) Sh I post) : gb_Go l M d kc ks pc lv (.inl y :: .inl x :: st) Sh I post := by
  intro p e R s m args below meth c D cI cR ad ad0 n0 A H locs cells slots mc ms ls hF h1 h2 h3 h4 h5 h6 hW hn hE hl
  exact lv_ixor hF.1 hF.2.1 hd (K p e R s m args below meth c D cI cR ad ad0 n0 A H locs cells slots mc ms ls hF h1 h2 h3 h4 h5 h6 hW hn hE hl)
theorem go_ishl {x y : Int32} (hd : decode M.2.1 pc = .ok (.ishl, 1)) (K : gb_Go l M d kc ks (pc + 1) lv (.inl (x <<< (y &&& 31)) :: st) Sh I post) : gb_Go l M d kc ks pc lv (.inl y :: .inl x :: st) Sh I post := by
  intro p e R s m args below meth c D cI cR ad ad0 n0 A H locs cells slots mc ms ls hF h1 h2 h3 h4 h5 h6 hW hn hE hl
  exact lv_ishl hF.1 hF.2.1 hd (K p e R s m args below meth c D cI cR ad ad0 n0 A H locs cells slots mc ms ls hF h1 h2 h3 h4 h5 h6 hW hn hE hl)
theorem go_ishr {x y : Int32} (hd : decode M.2.1 pc = .ok (.ishr, 1)) (K : gb_Go l M d kc ks (pc + 1) lv (.inl (x >>> (y &&& 31)) :: st) Sh I post) : gb_Go l M d kc ks pc lv (.inl y :: .inl x :: st) Sh I post := by
  intro p e R s m args below meth c D cI cR ad ad0 n0 A H locs cells slots mc ms ls hF h1 h2 h3 h4 h5 h6 hW hn hE hl
  exact lv_ishr hF.1 hF.2.1 hd (K p e R s m args below meth c D cI cR ad ad0 n0 A H locs cells slots mc ms ls hF h1 h2 h3 h4 h5 h6 hW hn hE hl)
theorem go_idiv {x y : Int32} (hd : decode M.2.1 pc = .ok (.idiv, 1)) (hne : ¬ y = 0) (K : gb_Go l M d kc ks (pc + 1) lv (.inl (x / y) :: st) Sh I post) : gb_Go l M d kc ks pc lv (.inl y :: .inl x :: st) Sh I post := by
  intro p e R s m args below meth c D cI cR ad ad0 n0 A H locs cells slots mc ms ls hF h1 h2 h3 h4 h5 h6 hW hn hE hl
  exact lv_idiv hF.1 hF.2.1 hd hne (K p e R s m args below meth c D cI cR ad ad0 n0 A H locs cells slots mc ms ls hF h1 h2 h3 h4 h5 h6 hW hn hE hl)
theorem go_irem {x y : Int32} (hd : decode M.2.1 pc = .ok (.irem, 1)) (hne : ¬ y = 0) (K : gb_Go l M d kc ks (pc + 1) lv (.inl (x - x / y * y) :: st) Sh I post) : gb_Go l M d kc ks pc lv (.inl y :: .inl x :: st) Sh I post := by
  intro p e R s m args below meth c D cI cR ad ad0 n0 A H locs cells slots mc ms ls hF h1 h2 h3 h4 h5 h6 hW hn hE hl
  exact lv_irem hF.1 hF.2.1 hd hne (K p e R s m args below meth c D cI cR ad ad0 n0 A H locs cells slots mc ms ls hF h1 h2 h3 h4 h5 h6 hW hn hE hl)
theorem go_iushr {x y : Int32} (hd : decode M.2.1 pc = .ok (.iushr, 1)) (K : gb_Go l M d kc ks (pc + 1) lv (.inl ((x.toUInt32 >>> (y.toUInt32 &&& Int32.toUInt32 31)).toInt32) :: st) Sh I post) : gb_Go l M d kc ks pc lv (.inl y :: .inl x :: st) Sh I post := by
  intro p e R s m args below meth c D cI cR ad ad0 n0 A H locs cells slots mc ms ls hF h1 h2 h3 h4 h5 h6 hW hn hE hl
  exact lv_iushr hF.1 hF.2.1 hd rfl (K p e R s m args below meth c D cI cR ad ad0 n0 A H locs cells slots mc ms ls hF h1 h2 h3 h4 h5 h6 hW hn hE hl)
theorem go_ineg {x : Int32} (hd : decode M.2.1 pc = .ok (.ineg, 1)) (K : gb_Go l M d kc ks (pc + 1) lv (.inl (-x) :: st) Sh I post) : gb_Go l M d kc ks pc lv (.inl x :: st) Sh I post := by
  intro p e R s m args below meth c D cI cR ad ad0 n0 A H locs cells slots mc ms ls hF h1 h2 h3 h4 h5 h6 hW hn hE hl
  exact lv_ineg hF.1 hF.2.1 hd (K p e R s m args below meth c D cI cR ad ad0 n0 A H locs cells slots mc ms ls hF h1 h2 h3 h4 h5 h6 hW hn hE hl)
theorem go_dup {v : gb_AV} (hd : decode M.2.1 pc = .ok (.dup, 1)) (K : gb_Go l M d kc ks (pc + 1) lv (v :: v :: st) Sh I post) : gb_Go l M d kc ks pc lv (v :: st) Sh I post := by
  intro p e R s m args below meth c D cI cR ad ad0 n0 A H locs cells slots mc ms ls hF h1 h2 h3 h4 h5 h6 hW hn hE hl
  exact lv_dup hF.1 hF.2.1 hd (gb_cat1 ad v) (K p e R s m args below meth c D cI cR ad ad0 n0 A H locs cells slots mc ms ls hF h1 h2 h3 h4 h5 h6 hW hn hE hl)
theorem go_pop {v : gb_AV} (hd : decode M.2.1 pc = .ok (.pop, 1)) (K : gb_Go l M d kc ks (pc + 1) lv st Sh I post) : gb_Go l M d kc ks pc lv (v :: st) Sh I post := by
  intro p e R s m args below meth c D cI cR ad ad0 n0 A H locs cells slots mc ms ls hF h1 h2 h3 h4 h5 h6 hW hn hE hl
  exact lv_pop hF.1 hF.2.1 hd (gb_cat1 ad v) (K p e R s m args below meth c D cI cR ad ad0 n0 A H locs cells slots mc ms ls hF h1 h2 h3 h4 h5 h6 hW hn hE hl)
theorem go_dup2 {v w : gb_AV} (hd : decode M.2.1 pc = .ok (.dup2, 1)) (K : gb_Go l M d kc ks (pc + 1) lv (v :: w :: v :: w :: st) Sh I post) : gb_Go l M d kc ks pc lv (v :: w :: st) Sh I post := by
  intro p e R s m args below meth c D cI cR ad ad0 n0 A H locs cells slots mc ms ls hF h1 h2 h3 h4 h5 h6 hW hn hE hl
  exact lv_dup2_11 hF.1 hF.2.1 hd (gb_cat1 ad v) (gb_cat1 ad w) (K p e R s m args below meth c D cI cR ad ad0 n0 A H locs cells slots mc ms ls hF h1 h2 h3 h4 h5 h6 hW hn hE hl)
theorem go_if_eq {x : Int32} {off : Int} {tgt : Nat} (hd : decode M.2.1 pc = .ok (.ifCond .eq off, 3)) (ht : (pc : Int) + off = (tgt : Int)) (Kt : x = 0 → gb_Go l M d kc ks tgt lv st Sh I post) (Kf : ¬ x = 0 → gb_Go l M d kc ks (pc + 3) lv st Sh I post) : gb_Go l M d kc ks pc lv (.inl x :: st) Sh I post := by
  intro p e R s m args below meth c D cI cR ad ad0 n0 A H locs cells slots mc ms ls hF h1 h2 h3 h4 h5 h6 hW hn hE hl
  exact lv_if_eq hF.1 hF.2.1 hd ht (fun q => (Kt q p e R s m args below meth c D cI cR ad ad0 n0 A H locs cells slots mc ms ls hF h1 h2 h3 h4 h5 h6 hW hn hE hl)) (fun q => (Kf q p e R s m args below meth c D cI cR ad ad0 n0 A H locs cells slots mc ms ls hF h1 h2 h3 h4 h5 h6 hW hn hE hl))
theorem go_if_ne {x : Int32} {off : Int} {tgt : Nat} (hd : decode M.2.1 pc = .ok (.ifCond .ne off, 3)) (ht : (pc : Int) + off = (tgt : Int)) (Kt : ¬ x = 0 → gb_Go l M d kc ks tgt lv st Sh I post) (Kf : x = 0 → gb_Go l M d kc ks (pc + 3) lv st Sh I post) : gb_Go l M d kc ks pc lv (.inl x :: st) Sh I post := by
  intro p e R s m args below meth c D cI cR ad ad0 n0 A H locs cells slots mc ms ls hF h1 h2 h3 h4 h5 h6 hW hn hE hl
  exact lv_if_ne hF.1 hF.2.1 hd ht (fun q => (Kt q p e R s m args below meth c D cI cR ad ad0 n0 A H locs cells slots mc ms ls hF h1 h2 h3 h4 h5 h6 hW hn hE hl)) (fun q => (Kf q p e R s m args below meth c D cI cR ad ad0 n0 A H locs cells slots mc ms ls hF h1 h2 h3 h4 h5 h6 hW hn hE hl))
theorem go_if_lt {x : Int32} {off : Int} {tgt : Nat} (hd : decode M.2.1 pc = .ok (.ifCond .lt off, 3)) (ht : (pc : Int) + off = (tgt : Int)) (Kt : x < 0 → gb_Go l M d kc ks tgt lv st Sh I post) (Kf : ¬ x < 0 → gb_Go l M d kc ks (pc + 3) lv st Sh I post) : gb_Go l M d kc ks pc lv (.inl x :: st) Sh I post := by
  intro p e R s m args below meth c D cI cR ad ad0 n0 A H locs cells slots mc ms ls hF h1 h2 h3 h4 h5 h6 hW hn hE hl
  exact lv_if_lt hF.1 hF.2.1 hd ht (fun q => (Kt q p e R s m args below meth c D cI cR ad ad0 n0 A H locs cells slots mc ms ls hF h1 h2 h3 h4 h5 h6 hW hn hE hl)) (fun q => (Kf q p e R s m args below meth c D cI cR ad ad0 n0 A H locs cells slots mc ms ls hF h1 h2 h3 h4 h5 h6 hW hn hE hl))
theorem go_if_ge {x : Int32} {off : Int} {tgt : Nat} (hd : decode M.2.1 pc = .ok (.ifCond .ge off, 3)) (ht : (pc : Int) + off = (tgt : Int)) (Kt : 0 ≤ x → gb_Go l M d kc ks tgt lv st Sh I post) (Kf : ¬ 0 ≤ x → gb_Go l M d kc ks (pc + 3) lv st Sh I post) : gb_Go l M d kc ks pc lv (.inl x :: st) Sh I post := by
  intro p e R s m args below meth c D cI cR ad ad0 n0 A H locs cells slots mc ms ls hF h1 h2 h3 h4 h5 h6 hW hn hE hl
  exact lv_if_ge hF.1 hF.2.1 hd ht (fun q => (Kt q p e R s m args below meth c D cI cR ad ad0 n0 A H locs cells slots mc ms ls hF h1 h2 h3 h4 h5 h6 hW hn hE hl)) (fun q => (Kf q p e R s m args below meth c D cI cR ad ad0 n0 A H locs cells slots mc ms ls hF h1 h2 h3 h4 h5 h6 hW hn hE hl))
theorem go_if_gt {x : Int32} {off : Int} {tgt : Nat} (hd : decode M.2.1 pc = .ok (.ifCond .gt off, 3)) (ht : (pc : Int) + off = (tgt : Int)) (Kt : 0 < x → gb_Go l M d kc ks tgt lv st Sh I post) (Kf : ¬ 0 < x → gb_Go l M d kc ks (pc + 3) lv st Sh I post) : gb_Go l M d kc ks pc lv (.inl x :: st) Sh I post := by
  intro p e R s m args below meth c D cI cR ad ad0 n0 A H locs cells slots mc ms ls hF h1 h2 h3 h4 h5 h6 hW hn hE hl
  exact lv_if_gt hF.1 hF.2.1 hd ht (fun q => (Kt q p e R s m args below meth c D cI cR ad ad0 n0 A H locs cells slots mc ms ls hF h1 h2 h3 h4 h5 h6 hW hn hE hl)) (fun q => (Kf q p e R s m args below meth c D cI cR ad ad0 n0 A H locs cells slots mc ms ls hF h1 h2 h3 h4 h5 h6 hW hn hE hl))
theorem go_if_le {x : Int32} {off : Int} {tgt : Nat} (hd : decode M.2.1 pc = .ok (.ifCond .le off, 3)) (ht : (pc : Int) + off = (tgt : Int)) (Kt : x ≤ 0 → gb_Go l M d kc ks tgt lv st Sh I post) (Kf : ¬ x ≤ 0 → gb_Go l M d kc ks (pc + 3) lv st Sh I post) : gb_Go l M d kc ks pc lv (.inl x :: st) Sh I post := by
  intro p e R s m args below meth c D cI cR ad ad0 n0 A H locs cells slots mc ms ls hF h1 h2 h3 h4 h5 h6 hW hn hE hl
  exact lv_if_le hF.1 hF.2.1 hd ht (fun q => (Kt q p e R s m args below meth c D cI cR ad ad0 n0 A H locs cells slots mc ms ls hF h1 h2 h3 h4 h5 h6 hW hn hE hl)) (fun q => (Kf q p e R s m args below meth c D cI cR ad ad0 n0 A H locs cells slots mc ms ls hF h1 h2 h3 h4 h5 h6 hW hn hE hl))
theorem go_cmp_eq {x y : Int32} {off : Int} {tgt : Nat} (hd : decode M.2.1 pc = .ok (.if_icmp .eq off, 3)) (ht : (pc : Int) + off = (tgt : Int)) (Kt : x = y → gb_Go l M d kc ks tgt lv st Sh I post) (Kf : ¬ x = y → gb_Go l M d kc ks (pc + 3) lv st Sh I post) : gb_Go l M d kc ks pc lv (.inl y :: .inl x :: st) Sh I post := by
  intro p e R s m args below meth c D cI cR ad ad0 n0 A H locs cells slots mc ms ls hF h1 h2 h3 h4 h5 h6 hW hn hE hl
  exact lv_icmp_eq hF.1 hF.2.1 hd ht (fun q => (Kt q p e R s m args below meth c D cI cR ad ad0 n0 A H locs cells slots mc ms ls hF h1 h2 h3 h4 h5 h6 hW hn hE hl)) (fun q => (Kf q p e R s m args below meth c D cI cR ad ad0 n0 A H locs cells slots mc ms ls hF h1 h2 h3 h4 h5 h6 hW hn hE hl))
theorem go_cmp_ne {x y : Int32} {off : Int} {tgt : Nat} (hd : decode M.2.1 pc = .ok (.if_icmp .ne off, 3)) (ht : (pc : Int) + off = (tgt : Int)) (Kt : ¬ x = y → gb_Go l M d kc ks tgt lv st Sh I post) (Kf : x = y → gb_Go l M d kc ks (pc + 3) lv st Sh I post) : gb_Go l M d kc ks pc lv (.inl y :: .inl x :: st) Sh I post := by
  intro p e R s m args below meth c D cI cR ad ad0 n0 A H locs cells slots mc ms ls hF h1 h2 h3 h4 h5 h6 hW hn hE hl
  exact lv_icmp_ne hF.1 hF.2.1 hd ht (fun q => (Kt q p e R s m args below meth c D cI cR ad ad0 n0 A H locs cells slots mc ms ls hF h1 h2 h3 h4 h5 h6 hW hn hE hl)) (fun q => (Kf q p e R s m args below meth c D cI cR ad ad0 n0 A H locs cells slots mc ms ls hF h1 h2 h3 h4 h5 h6 hW hn hE hl))
theorem go_cmp_lt {x y : Int32} {off : Int} {tgt : Nat} (hd : decode M.2.1 pc = .ok (.if_icmp .lt off, 3)) (ht : (pc : Int) + off = (tgt : Int)) (Kt : x < y → gb_Go l M d kc ks tgt lv st Sh I post) (Kf : ¬ x < y → gb_Go l M d kc ks (pc + 3) lv st Sh I post) : gb_Go l M d kc ks pc lv (.inl y :: .inl x :: st) Sh I post := by
  intro p e R s m args below meth c D cI cR ad ad0 n0 A H locs cells slots mc ms ls hF h1 h2 h3 h4 h5 h6 hW hn hE hl
  exact lv_icmp_lt hF.1 hF.2.1 hd ht (fun q => (Kt q p e R s m args below meth c D cI cR ad ad0 n0 A H locs cells slots mc ms ls hF h1 h2 h3 h4 h5 h6 hW hn hE hl)) (fun q => (Kf q p e R s m args below meth c D cI cR ad ad0 n0 A H locs cells slots mc ms ls hF h1 h2 h3 h4 h5 h6 hW hn hE hl))
theorem go_cmp_ge {x y : Int32} {off : Int} {tgt : Nat} (hd : decode M.2.1 pc = .ok (.if_icmp .ge off, 3)) (ht : (pc : Int) + off = (tgt : Int)) (Kt : y ≤ x → gb_Go l M d kc ks tgt lv st Sh I post) (Kf : ¬ y ≤ x → gb_Go l M d kc ks (pc + 3) lv st Sh I post) : gb_Go l M d kc ks pc lv (.inl y :: .inl x :: st) Sh I post := by
  intro p e R s m args below meth c D cI cR ad ad0 n0 A H locs cells slots mc ms ls hF h1 h2 h3 h4 h5 h6 hW hn hE hl
  exact lv_icmp_ge hF.1 hF.2.1 hd ht (fun q => (Kt q p e R s m args below meth c D cI cR ad ad0 n0 A H locs cells slots mc ms ls hF h1 h2 h3 h4 h5 h6 hW hn hE hl)) (fun q => (Kf q p e R s m args below meth c D cI cR ad ad0 n0 A H locs cells slots mc ms ls hF h1 h2 h3 h4 h5 h6 hW hn hE hl))
theorem go_cmp_gt {x y : Int32} {off : Int} {tgt : Nat} (hd : decode M.2.1 pc = .ok (.if_icmp .gt off, 3)) (ht : (pc : Int) + off = (tgt : Int)) (Kt : y < x → gb_Go l M d kc ks tgt lv st Sh I post) (Kf : ¬ y < x → gb_Go l M d kc ks (pc + 3) lv st Sh I post) : gb_Go l M d kc ks pc lv (.inl y :: .inl x :: st) Sh I post := by
  intro p e R s m args below meth c D cI cR ad ad0 n0 A H locs cells slots mc ms ls hF h1 h2 h3 h4 h5 h6 hW hn hE hl
  exact lv_icmp_gt hF.1 hF.2.1 hd ht (fun q => (Kt q p e R s m args below meth c D cI cR ad ad0 n0 A H locs cells slots mc ms ls hF h1 h2 h3 h4 h5 h6 hW hn hE hl)) (fun q => (Kf q p e R s m args below meth c D cI cR ad ad0 n0 A H locs cells slots mc ms ls hF h1 h2 h3 h4 h5 h6 hW hn hE hl))
theorem go_cmp_le {x y : Int32} {off : Int} {tgt : Nat} (hd : decode M.2.1 pc = .ok (.if_icmp .le off, 3)) (ht : (pc : Int) + off = (tgt : Int)) (Kt : x ≤ y → gb_Go l M d kc ks tgt lv st Sh I post) (Kf : ¬ x ≤ y → gb_Go l M d kc ks (pc + 3) lv st Sh I post) : gb_Go l M d kc ks pc lv (.inl y :: .inl x :: st) Sh I post := by
  intro p e R s m args below meth c D cI cR ad ad0 n0 A H locs cells slots mc ms ls hF h1 h2 h3 h4 h5 h6 hW hn hE hl
  exact lv_icmp_le hF.1 hF.2.1 hd ht (fun q => (Kt q p e R s m args below meth c D cI cR ad ad0 n0 A H locs cells slots mc ms ls hF h1 h2 h3 h4 h5 h6 hW hn hE hl)) (fun q => (Kf q p e R s m args below meth c D cI cR ad ad0 n0 A H locs cells slots mc ms ls hF h1 h2 h3 h4 h5 h6 hW hn hE hl))
theorem go_goto {off : Int} {tgt : Nat} (hd : decode M.2.1 pc = .ok (.goto off, 3)) (ht : (pc : Int) + off = (tgt : Int)) (K : gb_Go l M d kc ks tgt lv st Sh I post) : gb_Go l M d kc ks pc lv st Sh I post := by
  intro p e R s m args below meth c D cI cR ad ad0 n0 A H locs cells slots mc ms ls hF h1 h2 h3 h4 h5 h6 hW hn hE hl
  exact lv_goto hF.1 hF.2.1 hd ht (K p e R s m args below meth c D cI cR ad ad0 n0 A H locs cells slots mc ms ls hF h1 h2 h3 h4 h5 h6 hW hn hE hl)
theorem go_ifnonnull {a : Nat} {off : Int} {tgt : Nat} (hd : decode M.2.1 pc = .ok (.ifnonnull off, 3)) (ht : (pc : Int) + off = (tgt : Int)) (K : gb_Go l M d kc ks tgt lv st Sh I post) : gb_Go l M d kc ks pc lv (.inr (some a) :: st) Sh I post := by
  intro p e R s m args below meth c D cI cR ad ad0 n0 A H locs cells slots mc ms ls hF h1 h2 h3 h4 h5 h6 hW hn hE hl
  exact lv_ifnonnull hF.1 hF.2.1 hd ht (K p e R s m args below meth c D cI cR ad ad0 n0 A H locs cells slots mc ms ls hF h1 h2 h3 h4 h5 h6 hW hn hE hl)
theorem go_tsOut {dflt lo hi : Int} {offs : Array Int} {len : Nat} {x : Int32} {tgt : Nat} (hd : decode M.2.1 pc = .ok (.tableswitch dflt lo hi offs, len)) (h : x.toInt < lo ∨ hi < x.toInt) (ht : (pc : Int) + dflt = (tgt : Int)) (K : gb_Go l M d kc ks tgt lv st Sh I post) : gb_Go l M d kc ks pc lv (.inl x :: st) Sh I post := by
  intro p e R s m args below meth c D cI cR ad ad0 n0 A H locs cells slots mc ms ls hF h1 h2 h3 h4 h5 h6 hW hn hE hl
  exact lv_tableOut hF.1 hF.2.1 hd h ht (K p e R s m args below meth c D cI cR ad ad0 n0 A H locs cells slots mc ms ls hF h1 h2 h3 h4 h5 h6 hW hn hE hl)
theorem go_tsIn {dflt lo hi : Int} {offs : Array Int} {len : Nat} {x : Int32} {off : Int} {tgt : Nat} (hd : decode M.2.1 pc = .ok (.tableswitch dflt lo hi offs, len)) (ha : ¬ x.toInt < lo) (hb : ¬ hi < x.toInt) (ho : offs[(x.toInt - lo).toNat]? = some off) (ht : (pc : Int) + off = (tgt : Int)) (K : gb_Go l M d kc ks tgt lv st Sh I post) : gb_Go l M d kc ks pc lv (.inl x :: st) Sh I post := by
  intro p e R s m args below meth c D cI cR ad ad0 n0 A H locs cells slots mc ms ls hF h1 h2 h3 h4 h5 h6 hW hn hE hl
  exact lv_tableIn hF.1 hF.2.1 hd ha hb ho ht (K p e R s m args below meth c D cI cR ad ad0 n0 A H locs cells slots mc ms ls hF h1 h2 h3 h4 h5 h6 hW hn hE hl)
end Rules
