
/-! THE CLAIM OUT OF ONE WALK OF THE LAW'S BODY. Your part is whole_start (and what it stands on); all else here is the same for every law, but numbers. -/
def R_law : String := "GravyBoatsLaw"
def lw_P (b : Addr) (xs : List Int32) (args : Array Value) (s : State) : Prop := args = #[.ref b] ∧ s.IntsAt b xs ∧ xs.length ≤ 3072 ∧ (Jvm.Cond.and given_1 narrow_1).before args s = true
def lw_Q (_ : Array Value) (s : State) (o : Outcome) (t : State) : Prop := o = .returned (some (.int 1)) ∧ Framed s o t [] 600000 7302250
def lw_Z (below : List Frame) (a : Array Value) (s : State) : State → Prop := fun t => ∃ o, t.status = .running ∧ Ended t below o ∧ lw_Q a s o t
/-- the law's own end, with 1 on the stack, nothing written that was there before, its room as the claim has it -/
theorem lw_ret {p : Program} {l : Launch} {e : Env} {s : State} {m : MethodId} {below : List Frame} {meth : Method} {c : Code} {b : Nat} (hx : p.tables.exec = Jvm.exec) (hb : c.code = code) (hr : meth.sig.returnType = ret) (hlocks : meth.locks = false) {pc : Nat} {H : Heap} {ls : Array Slot} (hdg : decode code pc = .ok (.ireturn, 1)) : W p l e room_1 s m #[Value.ref b] below meth c H [] 600000 7302250 (lw_Z below #[Value.ref b] s) (F0 m pc ls [.int 1]) := by
  intro T hT X
  obtain ⟨fs, hret, hrun, hended, hW, hframe⟩ := X.leave (v := some (.int 1)) (hlocks := hlocks) (fun h => by rw [hr] at h; cases h)
  have hmeth' : T.vm.method? m = some meth := X.method'
  refine ⟨T.setFrames fs, ?_, .returned (some (.int 1)), hrun, hended, rfl, ⟨_, rfl⟩, hW, hframe⟩
  jvm_step X.here [X.here.top, hx, hb, hdg, hmeth', hr, ret, narrow_b1]
  (try refine ⟨rfl, ?_⟩); (try refine ⟨rfl, ?_⟩)
  first | (intro acts; rw [hret _ acts rfl rfl rfl]) | rw [hret _ _ rfl rfl rfl]
  exact Steps.refl _
/-- what holds at the law's entry: the machine, the code, the tables' words (any of lw_tbl by 'hts w (by decide +kernel)'), the script of L ints xs at the cell b, what the Statement gives of the start (any of its parts by flat_of_before) -/
def lw_At (p : Program) (s : State) (m : MethodId) (meth : Method) (c : Code) (b L : Nat) (xs : Nat → Int32) : Prop :=
  p.tables.exec = Jvm.exec ∧ c.code = code ∧ meth.sig.returnType = ret ∧ c.maxLocals = 4 ∧ s.vm.findClass R_law = some m.cls ∧ (∀ w ∈ lw_tbl, w.before #[Value.ref b] s = true) ∧ va_X b L xs s s.heap ∧ b < s.heap.size ∧ meth.locks = false ∧ (Jvm.Cond.and given_1 narrow_1).before #[Value.ref b] s = true

/-! The law's world: the class's cells and the reference's, apart. -/
def lw_W (D : va_G) (cI cR : ClassId) (adX adM : Nat → Nat) (s : State) (H : Heap) (locs : List Loc) (IX IM : gb_Mem) : Prop :=
  va_K D gb_CL [(cI, .int)] s ∧ gb_Rr D cR [] s ∧ va_P D gb_CL (gb_w adX cI cR shX IX) H ∧ va_P D gb_CL (gb_w adM cI cR shM IM) H ∧ va_D (fun q => s.heap.size ≤ q) (gb_w adX cI cR shX IX) ∧ va_D (fun q => s.heap.size ≤ q) (gb_w adM cI cR shM IM) ∧ (∀ i j, i < 121 → j < 42 → adX i ≠ adM j) ∧ va_S (fun q => s.heap.size ≤ q) s.heap H locs ∧ gb_Cn adX (fun q => s.heap.size ≤ q) s s.heap ∧ gb_Cn adM (fun q => s.heap.size ≤ q) s s.heap
section LawCalls
variable {p : Program} {l : Launch} {e : Env} {R : Room} {s : State} {m : MethodId} {args : Array Value} {below : List Frame} {meth : Method} {c : Code} {H : Heap} {locs : List Loc} {cells slots : Nat} {Q : State → Prop} {D : va_G} {cI cR : ClassId} {ad adX adM : Nat → Nat} {A : Nat → Prop} {Sh : List gb_Ce} {I IX IM : gb_Mem}
/-- behind a call, with what is said of the other cells -/
theorem lw_back {pc : Nat} {ls : Array Slot} {st0 rest : List Value} {a : Array Value} {postc : Option gb_AV → List gb_Ce → gb_Mem → Prop} {mc ms : Nat} (hW : gb_Wd D cI cR ad A s H locs Sh I)
    (hr : va_Run p l e R s m args below meth c H locs cells slots mc ms (F0 m pc ls st0) rest (gb_Q postc ad Sh.length D cI cR (va_A (gb_w ad cI cR Sh I) H.size) a) (va_A (gb_w ad cI cR Sh I) H.size))
    (K : ∀ (v : Option gb_AV) (Sh1 : List gb_Ce) (I1 : gb_Mem) (ad1 : Nat → Nat) (H1 : Heap) (locs1 : List Loc), postc v Sh1 I1 → Sh.length ≤ Sh1.length → gb_Ex ad1 ad Sh.length Sh1.length → gb_Wd D cI cR ad1 A s H1 locs1 Sh1 I1 → (∀ q : Nat, q < H.size → ¬ va_A (gb_w ad cI cR Sh I) H.size q → H1[q]? = H[q]?) → va_D (va_A (gb_w ad cI cR Sh I) H.size) (gb_w ad1 cI cR Sh1 I1) → W p l e R s m args below meth c H1 locs1 (cells + mc) (slots + ms) Q (F0 m (pc + 3) ls ((v.map (gb_v ad1)).toList ++ rest))) : W p l e R s m args below meth c H locs cells slots Q (F0 m pc ls st0) := by
  have hsub := gb_sub_A hW
  obtain ⟨w1, w2, w3, w4, w5, w6, w7, w8⟩ := hW
  intro T hT X
  obtain ⟨v0, st₀, t, T', L, h0, X', hL, e1, e2, ⟨⟨v, Sh1, I1, ad1, hv, hp, hn1, h99, hE1, hP1, hD1, hR1⟩, hz, hk⟩, stp⟩ := hr T hT X
  cases hv
  rw [h0] at hz hk
  have hal : s.vm.Alike t.vm := by rw [← e2]; exact X'.warmed.alike
  have hS1 : va_S A s.heap T'.heap (locs ++ L) := ⟨Nat.le_trans w5.1 (by rw [e1]; exact hz), fun q h1 h2 => by rw [e1, hk q (Nat.lt_of_lt_of_le h1 w5.1) (fun z => h2 (hsub q z))]; exact w5.2.1 q h1 h2, fun q hq => by
      rcases List.mem_append.mp hq with h | h
      · exact w5.2.2 q h
      · exact hsub _ (hL q h)⟩
  obtain ⟨t2, a1, b1⟩ := K v Sh1 I1 ad1 T'.heap (locs ++ L) hp hn1 hE1 ⟨w1, fun rs hrs => va_K.moved hal.symm (hR1 rs hrs), by rw [e1]; exact hP1, hD1.weaken (fun k q _ h => hsub q.1 h), hS1, w6, w7.ad (fun i hi => hE1 i (Or.inr (Nat.le_trans h99 hi))), h99⟩ (fun q h1 h2 => by rw [e1]; exact hk q h1 h2) hD1 T' rfl X'
  exact ⟨t2, stp t2 a1, b1⟩
theorem lw_WX (h : lw_W D cI cR adX adM s H locs IX IM) : gb_Wd D cI cR adX (fun q => s.heap.size ≤ q) s H locs shX IX := ⟨h.1, h.2.1, h.2.2.1, h.2.2.2.2.1, h.2.2.2.2.2.2.2.1, fun _ h => h, h.2.2.2.2.2.2.2.2.1, by decide⟩
theorem lw_WM (h : lw_W D cI cR adX adM s H locs IX IM) : gb_Wd D cI cR adM (fun q => s.heap.size ≤ q) s H locs shM IM := ⟨h.1, h.2.1, h.2.2.2.1, h.2.2.2.2.2.1, h.2.2.2.2.2.2.2.1, fun _ h => h, h.2.2.2.2.2.2.2.2.2, by decide⟩
theorem gb_w_fst {k : Nat} {q : Nat × va_E} (h : (gb_w ad cI cR Sh I)[k]? = some q) : k < Sh.length ∧ q.1 = ad k := by
  unfold gb_w at h
  rw [List.getElem?_mapIdx] at h
  cases hx : Sh[k]? with
  | none => rw [hx] at h; cases h
  | some x =>
    rw [hx] at h
    cases h
    exact ⟨(List.getElem?_eq_some_iff.mp hx).1, rfl⟩
/-- the other world's cells stay over a call -/
theorem lw_keep {Sh2 : List gb_Ce} {I2 : gb_Mem} {ad2 : Nat → Nat} {H1 : Heap} (hP : va_P D gb_CL (gb_w ad2 cI cR Sh2 I2) H) (hd : ∀ i j, i < Sh.length → j < Sh2.length → ad i ≠ ad2 j) (hk : ∀ q : Nat, q < H.size → ¬ va_A (gb_w ad cI cR Sh I) H.size q → H1[q]? = H[q]?) : va_P D gb_CL (gb_w ad2 cI cR Sh2 I2) H1 := by
  refine hP.kept (fun k q hq => ?_)
  have hlt := (hP k q hq).lt
  refine hk q.1 hlt (fun hA => ?_)
  obtain ⟨g1, g2⟩ := gb_w_fst hq
  rcases hA with ⟨k2, x, h2⟩ | h2
  · obtain ⟨g3, g4⟩ := gb_w_fst h2
    exact hd k2 k g3 g1 (g4.symm.trans g2)
  · omega
end LawCalls
theorem lw_all {p : Program} {s : State} {m : MethodId} {meth : Method} {c : Code} {b L : Nat} {xs : Nat → Int32} (C0 : lw_At p s m meth c b L xs) : gb_Fx (⟨"GravyBoatsLaw", meth.name, "([I)Z"⟩, code, 4, ret) p s m #[Value.ref b] meth c :=
  ⟨C0.1, C0.2.1, C0.2.2.2.1, C0.2.2.1, C0.2.2.2.2.2.2.2.2.1, C0.2.2.2.2.1, rfl, fun w hw => C0.2.2.2.2.2.1 w (List.mem_filter.mp hw).1⟩
section LawRules
variable {p : Program} {l : Launch} {e : Env} {s : State} {m : MethodId} {below : List Frame} {meth : Method} {c : Code} {b L : Nat} {xs : Nat → Int32} {D : va_G} {cI cR : ClassId} {adX adM : Nat → Nat} {H : Heap} {locs : List Loc} {cells slots : Nat} {Q : State → Prop} {IX IM I' : gb_Mem} {ls : Array Slot} {pc : Nat} {y : gb_MI} {idx np d : Nat} {asr : List Int32} {rest sk : List Value} {v : Int32}
theorem lw_vals (ad : Nat → Nat) (a : Nat) (asr : List Int32) : ((.inr (some a) :: asr.map .inl : List gb_AV).map (gb_v ad)) = .ref (ad a) :: asr.map .int := by
  simp [gb_v, Function.comp_def]
theorem lw_callX (C0 : lw_At p s m meth c b L xs) (hd : decode code pc = .ok (.invokevirtual idx, 3)) (hy : gb_Mi y np) (hlk : Cond.methodLink "GravyBoatsLaw" idx y.1 ∈ gb_all) (hq : y.1.cls = "GravyBoats") (hn : asr.length = np) (h8 : (rest.map fun v => v.category).sum ≤ 8) (hd9 : d + 1 ≤ 2048) (hls : ls.size = 4) (hc : cells ≤ 600000) (hs : slots ≤ 7302250) (hk : sk = (asr.map Value.int).reverse ++ .ref (adX 0) :: rest) (hW : lw_W D cI cR adX adM s H locs IX IM) (hC : gb_Cs l y d (.inr (some 0) :: asr.map .inl) shX IX (some (.inl v)) I')
    (K : ∀ (H1 : Heap) (locs1 : List Loc), lw_W D cI cR adX adM s H1 locs1 I' IM → W p l e room_1 s m #[Value.ref b] below meth c H1 locs1 cells slots Q (F0 m (pc + 3) ls (.int v :: rest))) : W p l e room_1 s m #[Value.ref b] below meth c H locs cells slots Q (F0 m pc ls sk) := by
  subst hk
  have hF := lw_all C0
  have hWX := lw_WX hW
  have hCD := hC D cI cR adX H.size
  rw [lw_vals] at hCD
  refine lw_back (mc := 0) (ms := 0) hWX (va_runV (As := asr.map .int) (rest := rest) (C := "GravyBoats") ⟨hF.1, hF.2.1, hF.2.2.1, hF.2.2.2.2.2.1, hF.2.2.2.2.2.2.2⟩ hCD ⟨gb_cb (R := room_1) (M := (⟨"GravyBoatsLaw", meth.name, "([I)Z"⟩, code, 4, ret)) hF hy.1 hy.2.1 hy.2.2.1 hlk hd9 (by show 40 * (d + 1) ≤ 84000; omega), hF.2.2.2.2.2.2.2 _ hy.2.2.2.1, by rw [← hq]; exact hF.2.2.2.2.2.2.2 _ hy.2.2.2.2⟩ ⟨by rw [← lw_vals adX 0]; exact gb_blind, va_recv hWX.1 hWX.2.2.1 (ci := 0) rfl (gb_w_at a_X_0), fun U hU hw => by rw [← lw_vals adX 0]; exact gb_pre hWX _ U hU hw⟩ rfl (by rw [List.length_map]; exact hn) hls rfl (lv_room h8) hd ⟨by show cells + 0 ≤ 600000; omega, by show slots + 0 ≤ 7302250; omega⟩) ?_
  intro v1 Sh1 I1 ad1 H1 locs1 hp hn1 hE1 hW1 hk1 hD1
  obtain ⟨rfl, rfl, rfl⟩ := hp
  have e9 := gb_ex_same hE1
  subst e9
  obtain ⟨z1, z2, z3, z4, z5, z6, z7, z8, z9, z10⟩ := hW
  exact K H1 locs1 ⟨z1, z2, hW1.2.2.1, lw_keep (Sh := shX) (Sh2 := shM) z4 (fun i j hi hj => z7 i j hi hj) hk1, hW1.2.2.2.1, z6, z7, hW1.2.2.2.2.1, z9, z10⟩
theorem lw_callM (C0 : lw_At p s m meth c b L xs) (hd : decode code pc = .ok (.invokevirtual idx, 3)) (hy : gb_Mi y np) (hlk : Cond.methodLink "GravyBoatsLaw" idx y.1 ∈ gb_all) (hq : y.1.cls = "GravyBoatsModel") (hn : asr.length = np) (h8 : (rest.map fun v => v.category).sum ≤ 8) (hd9 : d + 1 ≤ 2048) (hls : ls.size = 4) (hc : cells ≤ 600000) (hs : slots ≤ 7302250) (hk : sk = (asr.map Value.int).reverse ++ .ref (adM 0) :: rest) (hW : lw_W D cI cR adX adM s H locs IX IM) (hC : gb_Cs l y d (.inr (some 0) :: asr.map .inl) shM IM (some (.inl v)) I')
    (K : ∀ (H1 : Heap) (locs1 : List Loc), lw_W D cI cR adX adM s H1 locs1 IX I' → W p l e room_1 s m #[Value.ref b] below meth c H1 locs1 cells slots Q (F0 m (pc + 3) ls (.int v :: rest))) : W p l e room_1 s m #[Value.ref b] below meth c H locs cells slots Q (F0 m pc ls sk) := by
  subst hk
  have hF := lw_all C0
  have hWM := lw_WM hW
  have hCD := hC D cI cR adM H.size
  rw [lw_vals] at hCD
  refine lw_back (mc := 0) (ms := 0) hWM (va_runV (As := asr.map .int) (rest := rest) (C := "GravyBoatsModel") ⟨hF.1, hF.2.1, hF.2.2.1, hF.2.2.2.2.2.1, hF.2.2.2.2.2.2.2⟩ hCD ⟨gb_cb (R := room_1) (M := (⟨"GravyBoatsLaw", meth.name, "([I)Z"⟩, code, 4, ret)) hF hy.1 hy.2.1 hy.2.2.1 hlk hd9 (by show 40 * (d + 1) ≤ 84000; omega), hF.2.2.2.2.2.2.2 _ hy.2.2.2.1, by rw [← hq]; exact hF.2.2.2.2.2.2.2 _ hy.2.2.2.2⟩ ⟨by rw [← lw_vals adM 0]; exact gb_blind, va_recv hWM.1 hWM.2.2.1 (ci := 10) rfl (gb_w_at a_M_0), fun U hU hw => by rw [← lw_vals adM 0]; exact gb_pre hWM _ U hU hw⟩ rfl (by rw [List.length_map]; exact hn) hls rfl (lv_room h8) hd ⟨by show cells + 0 ≤ 600000; omega, by show slots + 0 ≤ 7302250; omega⟩) ?_
  intro v1 Sh1 I1 ad1 H1 locs1 hp hn1 hE1 hW1 hk1 hD1
  obtain ⟨rfl, rfl, rfl⟩ := hp
  have e9 := gb_ex_same hE1
  subst e9
  obtain ⟨z1, z2, z3, z4, z5, z6, z7, z8, z9, z10⟩ := hW
  exact K H1 locs1 ⟨z1, z2, lw_keep (Sh := shM) (Sh2 := shX) z3 (fun i j hi hj => (z7 j i hj hi).symm) hk1, hW1.2.2.1, z5, hW1.2.2.2.1, z7, hW1.2.2.2.2.1, z9, z10⟩
end LawRules
theorem lw_in {t L : Nat} (ht : t + 6 ≤ L) (hL : L ≤ 3072) (k : Nat) (hk : k < 6) : vp_in (nI t + nI k) L := by
  rw [nI_add]
  exact vp_in_nI (by omega) (by omega)
set_option maxRecDepth 20000 in
theorem ml_13 : Cond.methodLink "GravyBoatsLaw" 13 yGb_state.1 ∈ gb_all := gb_t2 (List.mem_of_getElem? (i := 120) rfl) rfl
set_option maxRecDepth 20000 in
theorem ml_18 : Cond.methodLink "GravyBoatsLaw" 18 yGb_boat.1 ∈ gb_all := gb_t2 (List.mem_of_getElem? (i := 128) rfl) rfl
set_option maxRecDepth 20000 in
theorem ml_23 : Cond.methodLink "GravyBoatsLaw" 23 yGb_set.1 ∈ gb_all := gb_t2 (List.mem_of_getElem? (i := 145) rfl) rfl
set_option maxRecDepth 20000 in
theorem ml_28 : Cond.methodLink "GravyBoatsLaw" 28 yGb_act.1 ∈ gb_all := gb_t2 (List.mem_of_getElem? (i := 157) rfl) rfl
set_option maxRecDepth 20000 in
theorem ml_32 : Cond.methodLink "GravyBoatsLaw" 32 yGb_minutes.1 ∈ gb_all := gb_t3 (List.mem_of_getElem? (i := 11) rfl) rfl
set_option maxRecDepth 20000 in
theorem ml_36 : Cond.methodLink "GravyBoatsLaw" 36 yGb_feed.1 ∈ gb_all := gb_t3 (List.mem_of_getElem? (i := 96) rfl) rfl
set_option maxRecDepth 20000 in
theorem ml_41 : Cond.methodLink "GravyBoatsLaw" 41 yGb_end.1 ∈ gb_all := gb_t3 (List.mem_of_getElem? (i := 104) rfl) rfl
set_option maxRecDepth 20000 in
theorem ml_46 : Cond.methodLink "GravyBoatsLaw" 46 yGb_text.1 ∈ gb_all := gb_t3 (List.mem_of_getElem? (i := 108) rfl) rfl
set_option maxRecDepth 20000 in
theorem ml_50 : Cond.methodLink "GravyBoatsLaw" 50 yGb_fault.1 ∈ gb_all := gb_t4 (List.mem_of_getElem? (i := 110) rfl) rfl
set_option maxRecDepth 20000 in
theorem ml_54 : Cond.methodLink "GravyBoatsLaw" 54 yGb_of.1 ∈ gb_all := gb_t4 (List.mem_of_getElem? (i := 114) rfl) rfl
set_option maxRecDepth 20000 in
theorem ml_59 : Cond.methodLink "GravyBoatsLaw" 59 yGb_seat.1 ∈ gb_all := gb_t4 (List.mem_of_getElem? (i := 119) rfl) rfl
set_option maxRecDepth 20000 in
theorem ml_63 : Cond.methodLink "GravyBoatsLaw" 63 yGb_got.1 ∈ gb_all := gb_t4 (List.mem_of_getElem? (i := 123) rfl) rfl
set_option maxRecDepth 20000 in
theorem ml_67 : Cond.methodLink "GravyBoatsLaw" 67 yGb_book.1 ∈ gb_all := gb_t4 (List.mem_of_getElem? (i := 131) rfl) rfl
set_option maxRecDepth 20000 in
theorem ml_71 : Cond.methodLink "GravyBoatsLaw" 71 yGb_goes.1 ∈ gb_all := gb_t4 (List.mem_of_getElem? (i := 136) rfl) rfl
set_option maxRecDepth 20000 in
theorem ml_75 : Cond.methodLink "GravyBoatsLaw" 75 yGb_brings.1 ∈ gb_all := gb_t4 (List.mem_of_getElem? (i := 146) rfl) rfl
set_option maxRecDepth 20000 in
theorem ml_79 : Cond.methodLink "GravyBoatsLaw" 79 yGb_hands.1 ∈ gb_all := gb_t4 (List.mem_of_getElem? (i := 154) rfl) rfl
set_option maxRecDepth 20000 in
theorem ml_84 : Cond.methodLink "GravyBoatsLaw" 84 yGb_letter.1 ∈ gb_all := gb_t4 (List.mem_of_getElem? (i := 169) rfl) rfl
set_option maxRecDepth 20000 in
theorem ml_88 : Cond.methodLink "GravyBoatsLaw" 88 yGb_both.1 ∈ gb_all := gb_t4 (List.mem_of_getElem? (i := 177) rfl) rfl
set_option maxRecDepth 20000 in
theorem ml_92 : Cond.methodLink "GravyBoatsLaw" 92 yGb_candles.1 ∈ gb_all := gb_t4 (List.mem_of_getElem? (i := 201) rfl) rfl
set_option maxRecDepth 20000 in
theorem ml_96 : Cond.methodLink "GravyBoatsLaw" 96 yGb_stained.1 ∈ gb_all := gb_t4 (List.mem_of_getElem? (i := 215) rfl) rfl
set_option maxRecDepth 20000 in
theorem ml_100 : Cond.methodLink "GravyBoatsLaw" 100 yGb_convoy.1 ∈ gb_all := gb_t4 (List.mem_of_getElem? (i := 223) rfl) rfl
set_option maxRecDepth 20000 in
theorem ml_104 : Cond.methodLink "GravyBoatsLaw" 104 yGb_meets.1 ∈ gb_all := gb_t4 (List.mem_of_getElem? (i := 232) rfl) rfl
set_option maxRecDepth 20000 in
theorem ml_108 : Cond.methodLink "GravyBoatsLaw" 108 yGb_flag.1 ∈ gb_all := gb_t5 (List.mem_of_getElem? (i := 0) rfl) rfl
set_option maxRecDepth 20000 in
theorem ml_112 : Cond.methodLink "GravyBoatsLaw" 112 yGb_spoons.1 ∈ gb_all := gb_t5 (List.mem_of_getElem? (i := 4) rfl) rfl
set_option maxRecDepth 20000 in
theorem ml_116 : Cond.methodLink "GravyBoatsLaw" 116 yGb_treaty.1 ∈ gb_all := gb_t5 (List.mem_of_getElem? (i := 21) rfl) rfl
set_option maxRecDepth 20000 in
theorem ml_120 : Cond.methodLink "GravyBoatsLaw" 120 yGb_gives.1 ∈ gb_all := gb_t5 (List.mem_of_getElem? (i := 30) rfl) rfl
set_option maxRecDepth 20000 in
theorem ml_124 : Cond.methodLink "GravyBoatsLaw" 124 yGb_way.1 ∈ gb_all := gb_t5 (List.mem_of_getElem? (i := 34) rfl) rfl
set_option maxRecDepth 20000 in
theorem ml_128 : Cond.methodLink "GravyBoatsLaw" 128 yGb_cloth.1 ∈ gb_all := gb_t5 (List.mem_of_getElem? (i := 46) rfl) rfl
set_option maxRecDepth 20000 in
theorem ml_132 : Cond.methodLink "GravyBoatsLaw" 132 yGb_free.1 ∈ gb_all := gb_t5 (List.mem_of_getElem? (i := 50) rfl) rfl
set_option maxRecDepth 20000 in
theorem ml_136 : Cond.methodLink "GravyBoatsLaw" 136 yGb_report.1 ∈ gb_all := gb_t5 (List.mem_of_getElem? (i := 66) rfl) rfl
set_option maxRecDepth 20000 in
theorem ml_140 : Cond.methodLink "GravyBoatsLaw" 140 yGb_sprouts.1 ∈ gb_all := gb_t5 (List.mem_of_getElem? (i := 70) rfl) rfl
set_option maxRecDepth 20000 in
theorem ml_144 : Cond.methodLink "GravyBoatsLaw" 144 yGb_jar.1 ∈ gb_all := gb_t5 (List.mem_of_getElem? (i := 78) rfl) rfl
set_option maxRecDepth 20000 in
theorem ml_148 : Cond.methodLink "GravyBoatsLaw" 148 yGb_stowed.1 ∈ gb_all := gb_t5 (List.mem_of_getElem? (i := 82) rfl) rfl
set_option maxRecDepth 20000 in
theorem ml_152 : Cond.methodLink "GravyBoatsLaw" 152 yGb_game.1 ∈ gb_all := gb_t5 (List.mem_of_getElem? (i := 94) rfl) rfl
set_option maxRecDepth 20000 in
theorem ml_156 : Cond.methodLink "GravyBoatsLaw" 156 yGb_undo.1 ∈ gb_all := gb_t5 (List.mem_of_getElem? (i := 105) rfl) rfl
set_option maxRecDepth 20000 in
theorem ml_161 : Cond.methodLink "GravyBoatsLaw" 161 yGb_image.1 ∈ gb_all := gb_t5 (List.mem_of_getElem? (i := 113) rfl) rfl
set_option maxRecDepth 20000 in
theorem ml_166 : Cond.methodLink "GravyBoatsLaw" 166 yGb_look.1 ∈ gb_all := gb_t5 (List.mem_of_getElem? (i := 124) rfl) rfl
set_option maxRecDepth 20000 in
theorem ml_160 : Cond.methodLink "GravyBoatsLaw" 160 yMo_undo.1 ∈ gb_all := gb_t6 (List.mem_of_getElem? (i := 108) rfl) rfl
set_option maxRecDepth 20000 in
theorem ml_17 : Cond.methodLink "GravyBoatsLaw" 17 yMo_state.1 ∈ gb_all := gb_t6 (List.mem_of_getElem? (i := 112) rfl) rfl
set_option maxRecDepth 20000 in
theorem ml_22 : Cond.methodLink "GravyBoatsLaw" 22 yMo_boat.1 ∈ gb_all := gb_t6 (List.mem_of_getElem? (i := 116) rfl) rfl
set_option maxRecDepth 20000 in
theorem ml_27 : Cond.methodLink "GravyBoatsLaw" 27 yMo_set.1 ∈ gb_all := gb_t6 (List.mem_of_getElem? (i := 132) rfl) rfl
set_option maxRecDepth 20000 in
theorem ml_40 : Cond.methodLink "GravyBoatsLaw" 40 yMo_feed.1 ∈ gb_all := gb_t6 (List.mem_of_getElem? (i := 144) rfl) rfl
set_option maxRecDepth 20000 in
theorem ml_45 : Cond.methodLink "GravyBoatsLaw" 45 yMo_end.1 ∈ gb_all := gb_t6 (List.mem_of_getElem? (i := 152) rfl) rfl
set_option maxRecDepth 20000 in
theorem ml_49 : Cond.methodLink "GravyBoatsLaw" 49 yMo_text.1 ∈ gb_all := gb_t6 (List.mem_of_getElem? (i := 156) rfl) rfl
set_option maxRecDepth 20000 in
theorem ml_53 : Cond.methodLink "GravyBoatsLaw" 53 yMo_fault.1 ∈ gb_all := gb_t7 (List.mem_of_getElem? (i := 52) rfl) rfl
set_option maxRecDepth 20000 in
theorem ml_31 : Cond.methodLink "GravyBoatsLaw" 31 yMo_act.1 ∈ gb_all := gb_t7 (List.mem_of_getElem? (i := 56) rfl) rfl
set_option maxRecDepth 20000 in
theorem ml_35 : Cond.methodLink "GravyBoatsLaw" 35 yMo_minutes.1 ∈ gb_all := gb_t7 (List.mem_of_getElem? (i := 96) rfl) rfl
set_option maxRecDepth 20000 in
theorem ml_58 : Cond.methodLink "GravyBoatsLaw" 58 yMo_of.1 ∈ gb_all := gb_t7 (List.mem_of_getElem? (i := 178) rfl) rfl
set_option maxRecDepth 20000 in
theorem ml_62 : Cond.methodLink "GravyBoatsLaw" 62 yMo_seat.1 ∈ gb_all := gb_t7 (List.mem_of_getElem? (i := 182) rfl) rfl
set_option maxRecDepth 20000 in
theorem ml_66 : Cond.methodLink "GravyBoatsLaw" 66 yMo_got.1 ∈ gb_all := gb_t7 (List.mem_of_getElem? (i := 186) rfl) rfl
set_option maxRecDepth 20000 in
theorem ml_70 : Cond.methodLink "GravyBoatsLaw" 70 yMo_book.1 ∈ gb_all := gb_t7 (List.mem_of_getElem? (i := 190) rfl) rfl
set_option maxRecDepth 20000 in
theorem ml_74 : Cond.methodLink "GravyBoatsLaw" 74 yMo_goes.1 ∈ gb_all := gb_t7 (List.mem_of_getElem? (i := 194) rfl) rfl
set_option maxRecDepth 20000 in
theorem ml_78 : Cond.methodLink "GravyBoatsLaw" 78 yMo_brings.1 ∈ gb_all := gb_t7 (List.mem_of_getElem? (i := 210) rfl) rfl
set_option maxRecDepth 20000 in
theorem ml_83 : Cond.methodLink "GravyBoatsLaw" 83 yMo_hands.1 ∈ gb_all := gb_t7 (List.mem_of_getElem? (i := 218) rfl) rfl
set_option maxRecDepth 20000 in
theorem ml_87 : Cond.methodLink "GravyBoatsLaw" 87 yMo_letter.1 ∈ gb_all := gb_t7 (List.mem_of_getElem? (i := 227) rfl) rfl
set_option maxRecDepth 20000 in
theorem ml_91 : Cond.methodLink "GravyBoatsLaw" 91 yMo_both.1 ∈ gb_all := gb_t7 (List.mem_of_getElem? (i := 231) rfl) rfl
set_option maxRecDepth 20000 in
theorem ml_95 : Cond.methodLink "GravyBoatsLaw" 95 yMo_candles.1 ∈ gb_all := gb_t7 (List.mem_of_getElem? (i := 239) rfl) rfl
set_option maxRecDepth 20000 in
theorem ml_99 : Cond.methodLink "GravyBoatsLaw" 99 yMo_stained.1 ∈ gb_all := gb_t8 (List.mem_of_getElem? (i := 15) rfl) rfl
set_option maxRecDepth 20000 in
theorem ml_103 : Cond.methodLink "GravyBoatsLaw" 103 yMo_convoy.1 ∈ gb_all := gb_t8 (List.mem_of_getElem? (i := 19) rfl) rfl
set_option maxRecDepth 20000 in
theorem ml_107 : Cond.methodLink "GravyBoatsLaw" 107 yMo_meets.1 ∈ gb_all := gb_t8 (List.mem_of_getElem? (i := 23) rfl) rfl
set_option maxRecDepth 20000 in
theorem ml_111 : Cond.methodLink "GravyBoatsLaw" 111 yMo_flag.1 ∈ gb_all := gb_t8 (List.mem_of_getElem? (i := 27) rfl) rfl
set_option maxRecDepth 20000 in
theorem ml_115 : Cond.methodLink "GravyBoatsLaw" 115 yMo_spoons.1 ∈ gb_all := gb_t8 (List.mem_of_getElem? (i := 31) rfl) rfl
set_option maxRecDepth 20000 in
theorem ml_119 : Cond.methodLink "GravyBoatsLaw" 119 yMo_treaty.1 ∈ gb_all := gb_t8 (List.mem_of_getElem? (i := 43) rfl) rfl
set_option maxRecDepth 20000 in
theorem ml_123 : Cond.methodLink "GravyBoatsLaw" 123 yMo_gives.1 ∈ gb_all := gb_t8 (List.mem_of_getElem? (i := 52) rfl) rfl
set_option maxRecDepth 20000 in
theorem ml_127 : Cond.methodLink "GravyBoatsLaw" 127 yMo_way.1 ∈ gb_all := gb_t8 (List.mem_of_getElem? (i := 56) rfl) rfl
set_option maxRecDepth 20000 in
theorem ml_131 : Cond.methodLink "GravyBoatsLaw" 131 yMo_cloth.1 ∈ gb_all := gb_t8 (List.mem_of_getElem? (i := 68) rfl) rfl
set_option maxRecDepth 20000 in
theorem ml_135 : Cond.methodLink "GravyBoatsLaw" 135 yMo_free.1 ∈ gb_all := gb_t8 (List.mem_of_getElem? (i := 72) rfl) rfl
set_option maxRecDepth 20000 in
theorem ml_139 : Cond.methodLink "GravyBoatsLaw" 139 yMo_report.1 ∈ gb_all := gb_t8 (List.mem_of_getElem? (i := 80) rfl) rfl
set_option maxRecDepth 20000 in
theorem ml_143 : Cond.methodLink "GravyBoatsLaw" 143 yMo_sprouts.1 ∈ gb_all := gb_t8 (List.mem_of_getElem? (i := 84) rfl) rfl
set_option maxRecDepth 20000 in
theorem ml_147 : Cond.methodLink "GravyBoatsLaw" 147 yMo_jar.1 ∈ gb_all := gb_t8 (List.mem_of_getElem? (i := 92) rfl) rfl
set_option maxRecDepth 20000 in
theorem ml_151 : Cond.methodLink "GravyBoatsLaw" 151 yMo_stowed.1 ∈ gb_all := gb_t8 (List.mem_of_getElem? (i := 96) rfl) rfl
set_option maxRecDepth 20000 in
theorem ml_155 : Cond.methodLink "GravyBoatsLaw" 155 yMo_game.1 ∈ gb_all := gb_t8 (List.mem_of_getElem? (i := 108) rfl) rfl
set_option maxRecDepth 20000 in
theorem ml_165 : Cond.methodLink "GravyBoatsLaw" 165 yMo_image.1 ∈ gb_all := gb_t8 (List.mem_of_getElem? (i := 116) rfl) rfl
set_option maxRecDepth 20000 in
theorem ml_169 : Cond.methodLink "GravyBoatsLaw" 169 yMo_look.1 ∈ gb_all := gb_t8 (List.mem_of_getElem? (i := 136) rfl) rfl
