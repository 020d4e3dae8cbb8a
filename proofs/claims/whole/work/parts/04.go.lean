/-! The judgement 'gb_Go' and the contract 'gb_Ct'. -/
def gb_gr (j : Nat) : Int32 := ([9, 9, 9, 1, 999, 99, 9, 9] : List Int32).getD j 0
def gb_tx0 : String := "passes pours spills kind full skin steady thirst love pirate seat head fog stain minute when or and not boat again at talk salt fill turn to "
def gb_tx1 : String := ";+-*/()<=>"
def gb_by0 (j : Nat) : Int32 := (gb_tx0.toList.map (fun c => nI c.toNat)).getD j 0
def gb_by1 (j : Nat) : Int32 := (gb_tx1.toList.map (fun c => nI c.toNat)).getD j 0
/-- what stands outside the world and nobody writes: cells 1000 (GREATEST), 1001, 1002 (the words' text and its bytes), 1003, 1004 (the signs') -/
def gb_Cn (ad : Nat → Nat) (A : Nat → Prop) (U : State) (H : Heap) : Prop :=
  (va_Z "GravyBoats" "GREATEST" "[I" (.ref (ad 1000)) A U H ∧ va_T .int (ad 1000) 8 (fun j => .int (gb_gr j)) A U H) ∧
  (vk_R "GravyBoats$Reader" 166 gb_tx0 (ad 1001) U ∧ va_O "java/lang/String" (ad 1001) A U H ∧ va_OF "java/lang/String" "coder" "B" (.int 0) (ad 1001) A U H ∧ va_OF "java/lang/String" "value" "[B" (.ref (ad 1002)) (ad 1001) A U H ∧ va_T .byte (ad 1002) 141 (fun j => .int (gb_by0 j)) A U H) ∧
  (vk_R "GravyBoats$Reader" 159 gb_tx1 (ad 1003) U ∧ va_O "java/lang/String" (ad 1003) A U H ∧ va_OF "java/lang/String" "coder" "B" (.int 0) (ad 1003) A U H ∧ va_OF "java/lang/String" "value" "[B" (.ref (ad 1004)) (ad 1003) A U H ∧ va_T .byte (ad 1004) 10 (fun j => .int (gb_by1 j)) A U H) ∧
  va_Z "java/lang/String" "COMPACT_STRINGS" "Z" (.int 1) A U H ∧ va_AO "GravyBoats$Table" U ∧
  (va_Z "jdk/internal/util/Preconditions" "SIOOBE_FORMATTER" "Ljava/util/function/BiFunction;" .null A U H ∨ va_Z "jdk/internal/util/Preconditions" "SIOOBE_FORMATTER" "Ljava/util/function/BiFunction;" (.ref (ad 1005)) A U H)
theorem gb_Cn.at {ad : Nat → Nat} {A B : Nat → Prop} {s U : State} {H0 H : Heap} (h : gb_Cn ad A s H0) (hW : s.WarmedH U.vm) (hq : ∀ a : Nat, a < H0.size → ¬ A a → H[a]? = H0[a]?) (hAB : ∀ q, B q → A q) : gb_Cn ad B U H := by
  obtain ⟨⟨a1, a2⟩, ⟨b1, b2, b3, b4, b5⟩, ⟨c1, c2, c3, c4, c5⟩, d1, d2, f1⟩ := h
  have v := hW.alike
  exact ⟨⟨((a1.kept hq).moved v).narrow hAB, ((a2.kept hq).moved v).narrow hAB⟩,
    ⟨vk_R.warm hW b1, ((b2.kept hq).moved v).narrow hAB, ((b3.kept hq).moved v).narrow hAB, ((b4.kept hq).moved v).narrow hAB, ((b5.kept hq).moved v).narrow hAB⟩,
    ⟨vk_R.warm hW c1, ((c2.kept hq).moved v).narrow hAB, ((c3.kept hq).moved v).narrow hAB, ((c4.kept hq).moved v).narrow hAB, ((c5.kept hq).moved v).narrow hAB⟩,
    ((d1.kept hq).moved v).narrow hAB, d2.moved v, f1.elim (fun z => Or.inl (((z.kept hq).moved v).narrow hAB)) (fun z => Or.inr (((z.kept hq).moved v).narrow hAB))⟩
theorem gb_Cn.calling {ad : Nat → Nat} {A : Nat → Prop} {U : State} {H : Heap} {g : JFrame} {mk : MethodId} {a : Array Value} (h : gb_Cn ad A U H) : gb_Cn ad A (U.calling g mk a) H := by
  obtain ⟨⟨a1, a2⟩, ⟨b1, b2, b3, b4, b5⟩, ⟨c1, c2, c3, c4, c5⟩, d1, d2, f1⟩ := h
  have v : U.vm.Alike (U.calling g mk a).vm := Vm.Alike.refl U.vm
  exact ⟨⟨a1.moved v, a2.moved v⟩, ⟨vk_R.same (u := U) rfl b1, b2.moved v, b3.moved v, b4.moved v, b5.moved v⟩, ⟨vk_R.same (u := U) rfl c1, c2.moved v, c3.moved v, c4.moved v, c5.moved v⟩, d1.moved v, d2.moved v, f1.elim (fun z => Or.inl (z.moved v)) (fun z => Or.inr (z.moved v))⟩
theorem gb_Cn.ad {ad ad' : Nat → Nat} {A : Nat → Prop} {U : State} {H : Heap} (h : gb_Cn ad A U H) (e : ∀ i, 1000 ≤ i → ad' i = ad i) : gb_Cn ad' A U H := by
  unfold gb_Cn
  rw [e 1000 (by omega), e 1001 (by omega), e 1002 (by omega), e 1003 (by omega), e 1004 (by omega), e 1005 (by omega)]
  exact h
/-- the two maps agree but on the cells made since: from n on, below n1 -/
def gb_Ex (ad ad0 : Nat → Nat) (n n1 : Nat) : Prop := ∀ i, (i < n ∨ n1 ≤ i) → ad i = ad0 i
/-- rows of references stand over the class of tables -/
def gb_Rr (D : va_G) (cR : ClassId) (_ : List gb_Ce) (U : State) : Prop := ∀ rs : List (Option Nat), rs = rs → va_K D gb_CL [(cR, .object "GravyBoats$Table")] U
def gb_Fx (M : gb_MI) (p : Program) (s : State) (m : MethodId) (args : Array Value) (meth : Method) (c : Code) : Prop :=
  p.tables.exec = Jvm.exec ∧ c.code = M.2.1 ∧ c.maxLocals = M.2.2.1 ∧ meth.sig.returnType = M.2.2.2 ∧ meth.locks = false ∧ s.vm.findClass M.1.cls = some m.cls ∧ meth.name = M.1.name ∧ ∀ w ∈ gb_all, w.before args s = true
def gb_Wd (D : va_G) (cI cR : ClassId) (ad : Nat → Nat) (A : Nat → Prop) (s : State) (H : Heap) (locs : List Loc) (Sh : List gb_Ce) (I : gb_Mem) : Prop :=
  va_K D gb_CL [(cI, .int)] s ∧ gb_Rr D cR Sh s ∧ va_P D gb_CL (gb_w ad cI cR Sh I) H ∧ va_D A (gb_w ad cI cR Sh I) ∧ va_S A s.heap H locs ∧ (∀ q, s.heap.size ≤ q → A q) ∧ gb_Cn ad A s s.heap ∧ Sh.length ≤ 1000
def gb_Q (post : Option gb_AV → List gb_Ce → gb_Mem → Prop) (ad0 : Nat → Nat) (n0 : Nat) (D : va_G) (cI cR : ClassId) (A : Nat → Prop) : Array Value → State → Outcome → State → Prop := fun _ st o t =>
  (∃ (v : Option gb_AV) (Sh : List gb_Ce) (I : gb_Mem) (ad : Nat → Nat), o = .returned (v.map (gb_v ad)) ∧ post v Sh I ∧ n0 ≤ Sh.length ∧ Sh.length ≤ 1000 ∧ gb_Ex ad ad0 n0 Sh.length ∧ va_P D gb_CL (gb_w ad cI cR Sh I) t.heap ∧ va_D A (gb_w ad cI cR Sh I) ∧ gb_Rr D cR Sh t) ∧ va_F A st t
def gb_lv (ad : Nat → Nat) (lv : List (Nat × gb_AV)) : List (Nat × Value) := lv.map (fun q => (q.1, gb_v ad q.2))
/-- from pc, with these locals, stack, shape and ints, the method M comes to its end, and there 'post' holds of answer, shape and ints; d frames and kc cells of ks slots are enough -/
def gb_Go (l : Launch) (M : gb_MI) (d kc ks pc : Nat) (lv : List (Nat × gb_AV)) (st : List gb_AV) (Sh : List gb_Ce) (I : gb_Mem) (post : Option gb_AV → List gb_Ce → gb_Mem → Prop) : Prop :=
  ∀ (p : Program) (e : Env) (R : Room) (s : State) (m : MethodId) (args : Array Value) (below : List Frame) (meth : Method) (c : Code) (D : va_G) (cI cR : ClassId) (ad ad0 : Nat → Nat) (n0 : Nat) (A : Nat → Prop) (H : Heap) (locs : List Loc) (cells slots mc ms : Nat) (ls : Array Slot),
    gb_Fx M p s m args meth c → d ≤ R.frames → 40 * d ≤ R.locals → cells + kc ≤ mc → slots + ks ≤ ms → mc ≤ R.cells → ms ≤ R.slots → gb_Wd D cI cR ad A s H locs Sh I → n0 ≤ Sh.length → gb_Ex ad ad0 n0 Sh.length → lv_has ls M.2.2.1 (gb_lv ad lv) →
    W p l e R s m args below meth c H locs cells slots (MQ below (gb_Q post ad0 n0 D cI cR A) args s mc ms A) (F0 m pc ls (st.map (gb_v ad)))
/-- the contract of M: called with these values in a world of this shape and these ints, it returns, and 'post' holds -/
def gb_Ct (l : Launch) (M : gb_MI) (d kc ks : Nat) (as : List gb_AV) (Sh : List gb_Ce) (I : gb_Mem) (post : Option gb_AV → List gb_Ce → gb_Mem → Prop) : Prop :=
  ∀ (D : va_G) (cI cR : ClassId) (ad : Nat → Nat) (sz : Nat),
    Met l M.1 (Cond.code M.1 M.2.1 M.2.2.1 M.2.2.2 :: gb_all) { frames := d, cells := kc, slots := ks, locals := 40 * d }
      (va_Pc (as.map (gb_v ad)) (fun U => U.heap.size = sz ∧ va_K D gb_CL [(cI, .int)] U ∧ gb_Rr D cR Sh U ∧ va_P D gb_CL (gb_w ad cI cR Sh I) U.heap ∧ va_D (fun _ => True) (gb_w ad cI cR Sh I) ∧ gb_Cn ad (va_A (gb_w ad cI cR Sh I) sz) U U.heap ∧ Sh.length ≤ 1000))
      (gb_Q post ad Sh.length D cI cR (va_A (gb_w ad cI cR Sh I) sz)) kc ks (va_A (gb_w ad cI cR Sh I) sz)
theorem gb_lv_args (ad : Nat → Nat) : ∀ (as : List gb_AV) (n : Nat), lv_args n (as.map (gb_v ad)) = gb_lv ad (as.mapIdx (fun i v => (n + i, v))) := by
  intro as
  induction as with
  | nil => intro n; rfl
  | cons a as ih =>
    intro n
    have hc : (gb_v ad a).category = 1 := by rcases a with x | (_ | r) <;> rfl
    simp only [List.map_cons, lv_args, hc, List.mapIdx_cons, gb_lv, Nat.add_zero]
    have h2 := ih (n + 1)
    unfold gb_lv at h2
    rw [if_neg (show ¬ (1 : Nat) = 2 by decide), h2]
    congr 3
    funext i v
    congr 1
    omega
theorem gb_sl_len (ad : Nat → Nat) (as : List gb_AV) : (lg_sl (as.map (gb_v ad))).length = as.length := by
  induction as with
  | nil => rfl
  | cons a as ih =>
    have hc : (gb_v ad a).category = 1 := by rcases a with x | (_ | r) <;> rfl
    simp [lg_sl, hc] at ih ⊢
    omega
theorem gb_lv_sub {ls : Array Slot} {n : Nat} {ad : Nat → Nat} {lv lv' : List (Nat × gb_AV)} (h : lv_has ls n (gb_lv ad lv)) (hs : ∀ q ∈ lv', q ∈ lv) : lv_has ls n (gb_lv ad lv') := by
  refine ⟨h.1, h.2.1, fun q hq => ?_⟩
  obtain ⟨r, hr, rfl⟩ := List.mem_map.mp hq
  exact h.2.2 _ (List.mem_map.mpr ⟨r, hs r hr, rfl⟩)
/-- the contract out of the walk from the entry -/
theorem gb_Ct.of {l : Launch} {M : gb_MI} {d kc ks : Nat} {as : List gb_AV} {Sh : List gb_Ce} {I : gb_Mem} {post : Option gb_AV → List gb_Ce → gb_Mem → Prop} (hy : plainName M.1.cls = true) (hn : as.length ≤ M.2.2.1) {lv : List (Nat × gb_AV)} (hlv : as.mapIdx (fun i v => (0 + i, v)) = lv) (h : gb_Go l M d kc ks 0 lv [] Sh I post) : gb_Ct l M d kc ks as Sh I post := by
  intro D cI cR ad sz
  refine Met.ofW (cc := M.2.1) (maxL := M.2.2.1) (ret := M.2.2.2) hy rfl ?_
  intro p e s m args below meth c s₁ B hml hv
  obtain ⟨rfl, hsz, hK, hR, hP, hD0, hC, h99⟩ := hv
  subst hsz
  have hts0 := atoms_spec (ws := Cond.code M.1 M.2.1 M.2.2.1 M.2.2.2 :: gb_all) B.pre
  have hD := hD0.self (sz := s.heap.size)
  have hl := lv_entry (as.map (gb_v ad)) (n := M.2.2.1) (by rw [gb_sl_len]; exact hn)
  rw [lg_entry_eq]
  generalize (lg_sl (as.map (gb_v ad)) ++ List.replicate (M.2.2.1 - (lg_sl (as.map (gb_v ad))).length) Slot.unset).toArray = ls at hl ⊢
  rw [gb_lv_args, hlv] at hl
  refine h p e _ s m _ below meth c D cI cR ad ad Sh.length _ s.heap [] 0 0 kc ks ls ⟨B.exec, B.bytes, hml, B.returns, B.notSynchronized, findClass_of_methodNamed B.named, (name_of_methodNamed B.named B.method).1, fun w hw => hts0 w (List.mem_cons_of_mem _ hw)⟩ (Nat.le_refl _) (Nat.le_refl _) (by omega) (by omega) (Nat.le_refl _) (Nat.le_refl _) ⟨hK, hR, hP, hD, va_S.rf, fun q hq => Or.inr hq, hC, h99⟩ (Nat.le_refl _) (fun _ _ => rfl) hl
