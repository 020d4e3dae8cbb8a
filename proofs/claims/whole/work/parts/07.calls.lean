/-! Calls that make no cell: the contract 'gb_Cs' with its exact answer and ints. -/
def gb_Cs (l : Launch) (M : gb_MI) (d : Nat) (as : List gb_AV) (Sh : List gb_Ce) (I : gb_Mem) (v : Option gb_AV) (I' : gb_Mem) : Prop := gb_Ct l M d 0 0 as Sh I (fun v2 Sh2 I2 => v2 = v ∧ Sh2 = Sh ∧ I2 = I')
def gb_plainY (y : gb_MI) (n : Nat) : Prop := (y.1.cls ≠ "java/lang/invoke/MethodHandle" ∧ y.1.cls ≠ "java/lang/invoke/VarHandle") ∧ (parseMethodDescriptor y.1.desc).map (fun d => d.parameters.length) = some n ∧ y.2.2.1 ≤ 21
/-- what the tables say of a method: instance, static, constructor -/
def gb_Mi (y : gb_MI) (n : Nat) : Prop := gb_plainY y n ∧ Cond.code y.1 y.2.1 y.2.2.1 y.2.2.2 ∈ gb_all ∧ Cond.initialized y.1.cls ∈ gb_all ∧ Cond.instanceMethod y.1 ∈ gb_all ∧ Cond.selects y.1.cls y.1 y.1 ∈ gb_all
def gb_Ms (y : gb_MI) (n : Nat) : Prop := gb_plainY y n ∧ Cond.code y.1 y.2.1 y.2.2.1 y.2.2.2 ∈ gb_all ∧ Cond.initialized y.1.cls ∈ gb_all ∧ Cond.static y.1 ∈ gb_all
def gb_Mc (y : gb_MI) (n : Nat) : Prop := gb_plainY y n ∧ Cond.code y.1 y.2.1 y.2.2.1 y.2.2.2 ∈ gb_all ∧ Cond.initialized y.1.cls ∈ gb_all ∧ Cond.instanceMethod y.1 ∈ gb_all ∧ y.1.name = "<init>" ∧ y.2.2.2 = none
section Calls
variable {p : Program} {l : Launch} {e : Env} {R : Room} {s : State} {m : MethodId} {args : Array Value} {below : List Frame} {meth : Method} {c : Code} {H : Heap} {locs : List Loc} {cells slots : Nat} {Q : State → Prop} {D : va_G} {cI cR : ClassId} {ad : Nat → Nat} {A : Nat → Prop} {Sh : List gb_Ce} {I : gb_Mem} {M : gb_MI}
theorem gb_sub_A (hW : gb_Wd D cI cR ad A s H locs Sh I) : ∀ q, va_A (gb_w ad cI cR Sh I) H.size q → A q := by
  obtain ⟨w1, w2, w3, w4, w5, w6, w7, w8⟩ := hW
  intro q h
  rcases h with ⟨k, x, h⟩ | h
  · exact w4.2 k _ h
  · exact w6 q (Nat.le_trans w5.1 h)
/-- the callee's start -/
theorem gb_pre (hW : gb_Wd D cI cR ad A s H locs Sh I) (as : List gb_AV) (U : State) (hU : U.heap = H) (hw : s.WarmedH U.vm) : va_Pc (as.map (gb_v ad)) (fun U => U.heap.size = H.size ∧ va_K D gb_CL [(cI, .int)] U ∧ gb_Rr D cR Sh U ∧ va_P D gb_CL (gb_w ad cI cR Sh I) U.heap ∧ va_D (fun _ => True) (gb_w ad cI cR Sh I) ∧ gb_Cn ad (va_A (gb_w ad cI cR Sh I) H.size) U U.heap ∧ Sh.length ≤ 1000) (as.map (gb_v ad)).toArray U := by
  have hs := gb_sub_A hW
  obtain ⟨w1, w2, w3, w4, w5, w6, w7, w8⟩ := hW
  exact ⟨rfl, by rw [hU], va_K.moved hw.alike w1, fun rs hrs => va_K.moved hw.alike (w2 rs hrs), by rw [hU]; exact w3, w4.weaken (fun _ _ _ _ => trivial), by rw [hU]; exact w7.at hw (fun a h1 h2 => w5.2.1 a h1 h2) hs, w8⟩
theorem gb_blind {as : List gb_AV} {sz : Nat} {B : Nat → Prop} : FrameBlind (va_Pc (as.map (gb_v ad)) (fun U => U.heap.size = sz ∧ va_K D gb_CL [(cI, .int)] U ∧ gb_Rr D cR Sh U ∧ va_P D gb_CL (gb_w ad cI cR Sh I) U.heap ∧ va_D (fun _ => True) (gb_w ad cI cR Sh I) ∧ gb_Cn ad B U U.heap ∧ Sh.length ≤ 1000)) := by
  intro a U g mk q
  obtain ⟨q0, q1, qK, qR, qP, qD, qC, q9⟩ := q
  exact ⟨q0, q1, va_K.moved (u := U) (U := U.calling g mk a) (Vm.Alike.refl U.vm) qK, fun rs hrs => va_K.moved (u := U) (U := U.calling g mk a) (Vm.Alike.refl U.vm) (qR rs hrs), qP, qD, gb_Cn.calling qC, q9⟩
/-- behind the call -/
theorem gb_back {pc : Nat} {ls : Array Slot} {st0 rest : List Value} {a : Array Value} {postc : Option gb_AV → List gb_Ce → gb_Mem → Prop} {mc ms : Nat} (hW : gb_Wd D cI cR ad A s H locs Sh I)
    (hr : va_Run p l e R s m args below meth c H locs cells slots mc ms (F0 m pc ls st0) rest (gb_Q postc ad Sh.length D cI cR (va_A (gb_w ad cI cR Sh I) H.size) a) (va_A (gb_w ad cI cR Sh I) H.size))
    (K : ∀ (v : Option gb_AV) (Sh1 : List gb_Ce) (I1 : gb_Mem) (ad1 : Nat → Nat) (H1 : Heap) (locs1 : List Loc), postc v Sh1 I1 → Sh.length ≤ Sh1.length → gb_Ex ad1 ad Sh.length Sh1.length → gb_Wd D cI cR ad1 A s H1 locs1 Sh1 I1 → W p l e R s m args below meth c H1 locs1 (cells + mc) (slots + ms) Q (F0 m (pc + 3) ls ((v.map (gb_v ad1)).toList ++ rest))) : W p l e R s m args below meth c H locs cells slots Q (F0 m pc ls st0) := by
  have hsub := gb_sub_A hW
  obtain ⟨w1, w2, w3, w4, w5, w6, w7, w8⟩ := hW
  intro T hT X
  obtain ⟨v0, st₀, t, T', L, h0, X', hL, e1, e2, ⟨⟨v, Sh1, I1, ad1, hv, hp, hn1, h99, hE1, hP1, hD1, hR1⟩, hz, hk⟩, stp⟩ := hr T hT X
  cases hv
  rw [h0] at hz hk
  have hal : s.vm.Alike t.vm := by rw [← e2]; exact X'.warmed.alike
  have hS1 : va_S A s.heap T'.heap (locs ++ L) := ⟨Nat.le_trans w5.1 (by rw [e1]; exact hz), fun q h1 h2 => by rw [e1, hk q (Nat.lt_of_lt_of_le h1 w5.1) (fun z => h2 (hsub q z))]; exact w5.2.1 q h1 h2, fun q hq => by
      rcases List.mem_append.mp hq with h | h
      · exact w5.2.2 q h
      · exact hsub _ (hL q h)⟩
  obtain ⟨t2, a1, b1⟩ := K v Sh1 I1 ad1 T'.heap (locs ++ L) hp hn1 hE1 ⟨w1, fun rs hrs => va_K.moved hal.symm (hR1 rs hrs), by rw [e1]; exact hP1, hD1.weaken (fun k q _ h => hsub q.1 h), hS1, w6, w7.ad (fun i hi => hE1 i (Or.inr (Nat.le_trans h99 hi))), h99⟩ T' rfl X'
  exact ⟨t2, stp t2 a1, b1⟩
theorem gb_words (hF : gb_Fx M p s m args meth c) {y : gb_MI} (hc : Cond.code y.1 y.2.1 y.2.2.1 y.2.2.2 ∈ gb_all) : ∀ w ∈ Cond.code y.1 y.2.1 y.2.2.1 y.2.2.2 :: gb_all, ∀ (a' : Array Value) (U : State), s.WarmedH U.vm → w.before a' U = true := by
  intro w hw a' U hWm
  have h1 : w ∈ gb_all := by
    rcases List.mem_cons.mp hw with rfl | h
    · exact hc
    · exact h
  exact gb_warm h1 hWm (hF.2.2.2.2.2.2.2 w h1)
theorem gb_sig {y : gb_MI} {n : Nat} (h : gb_plainY y n) : ∀ sig, parseMethodDescriptor y.1.desc = some sig → n = sig.parameters.length := by
  intro sig hs
  have h2 := h.2.1
  rw [hs] at h2
  exact (Option.some.inj h2).symm
theorem gb_cb (hF : gb_Fx M p s m args meth c) {y : gb_MI} {n d kc ks idx : Nat} (hp : gb_plainY y n) (hc : Cond.code y.1 y.2.1 y.2.2.1 y.2.2.2 ∈ gb_all) (hi : Cond.initialized y.1.cls ∈ gb_all) (hlk : Cond.methodLink M.1.cls idx y.1 ∈ gb_all) (h1 : d + 1 ≤ R.frames) (h2 : 40 * (d + 1) ≤ R.locals) :
    CallB R s args M.1.cls idx y.1 y.2.1 y.2.2.1 y.2.2.2 (Cond.code y.1 y.2.1 y.2.2.1 y.2.2.2 :: gb_all) { frames := d, cells := kc, slots := ks, locals := 40 * d } kc ks n := by
  have h3 := hp.2.2
  exact ⟨rfl, rfl, h1, by show 8 + (y.2.2.1 + 11) + 40 * d ≤ R.locals; omega, gb_words hF hc, List.mem_cons_self, hF.2.2.2.2.2.2.2 _ hc, hF.2.2.2.2.2.2.2 _ hi, hp.1, gb_sig hp, hF.2.2.2.2.2.2.2 _ hlk⟩
theorem gb_cn (hF : gb_Fx M p s m args meth c) {y : gb_MI} {n d kc ks idx : Nat} {host : String} (hp : gb_plainY y n) (hc : Cond.code y.1 y.2.1 y.2.2.1 y.2.2.2 ∈ gb_all) (hi : Cond.initialized y.1.cls ∈ gb_all) (hlk : Cond.methodLinkNest M.1.cls idx y.1 host ∈ gb_all) (h1 : d + 1 ≤ R.frames) (h2 : 40 * (d + 1) ≤ R.locals) :
    va_CN R s args M.1.cls idx y.1 host y.2.1 y.2.2.1 y.2.2.2 (Cond.code y.1 y.2.1 y.2.2.1 y.2.2.2 :: gb_all) { frames := d, cells := kc, slots := ks, locals := 40 * d } kc ks n := by
  have h3 := hp.2.2
  exact ⟨⟨rfl, rfl, h1, by show 8 + (y.2.2.1 + 11) + 40 * d ≤ R.locals; omega, gb_words hF hc, List.mem_cons_self⟩, hF.2.2.2.2.2.2.2 _ hc, hF.2.2.2.2.2.2.2 _ hi, hp.1, gb_sig hp, hF.2.2.2.2.2.2.2 _ hlk⟩
theorem gb_room {pc : Nat} {ls : Array Slot} {rest st : List gb_AV} (h : st.length ≤ 8) : 2 * (F0 m pc ls (rest.map (gb_v ad))).monitorRoom + ((st.map (gb_v ad)).map fun v => v.category).sum ≤ 8 := by
  refine lv_room ?_
  have : ((st.map (gb_v ad)).map fun v => v.category).sum = st.length := by
    clear h
    induction st with
    | nil => rfl
    | cons a st ih => simp only [List.map_cons, List.sum_cons, List.length_cons, ih, gb_cat1]; omega
  omega
end Calls
section CallRules
variable {l : Launch} {M : gb_MI} {d kc ks pc : Nat} {lv : List (Nat × gb_AV)} {st sk st1 : List gb_AV} {Sh : List gb_Ce} {I I' : gb_Mem} {post : Option gb_AV → List gb_Ce → gb_Mem → Prop} {y : gb_MI} {idx n a ci : Nat} {fs : List (Option (Option Nat))} {q : vw_C} {asr : List gb_AV} {v : Option gb_AV} {host : String}
theorem gb_ex_same {ad1 ad : Nat → Nat} {n : Nat} (h : gb_Ex ad1 ad n n) : ad1 = ad := funext fun i => h i (Nat.lt_or_ge i n)
theorem go_callV (hd : decode M.2.1 pc = .ok (.invokevirtual idx, 3)) (hy : gb_Mi y n) (hlk : Cond.methodLink M.1.cls idx y.1 ∈ gb_all) (hs : Sh[a]? = some (.inr (ci, fs))) (hc : gb_CL[ci]? = some q) (hq : q.1 = y.1.cls) (hn : asr.length = n) (h8 : st.length ≤ 8) (hk : sk = asr.reverse ++ .inr (some a) :: st) (hv : v.toList ++ st = st1) (hC : gb_Cs l y d (.inr (some a) :: asr) Sh I v I')
    (K : gb_Go l M (d + 1) kc ks (pc + 3) lv st1 Sh I' post) : gb_Go l M (d + 1) kc ks pc lv sk Sh I post := by
  intro p e R s m args below meth c D cI cR ad ad0 n0 A H locs cells slots mc ms ls hF h1 h2 h3 h4 h5 h6 hW hn9 hE hl
  subst hk; subst hv
  refine gb_back (mc := 0) (ms := 0) hW (va_runV (As := asr.map (gb_v ad)) (rest := st.map (gb_v ad)) (C := q.1) ⟨hF.1, hF.2.1, hF.2.2.1, hF.2.2.2.2.2.1, hF.2.2.2.2.2.2.2⟩ (hC D cI cR ad H.size) ⟨gb_cb hF hy.1 hy.2.1 hy.2.2.1 hlk h1 h2, hF.2.2.2.2.2.2.2 _ hy.2.2.2.1, by rw [hq]; exact hF.2.2.2.2.2.2.2 _ hy.2.2.2.2⟩ ⟨gb_blind, va_recv hW.1 hW.2.2.1 hc (gb_w_at hs), fun U hU hw => gb_pre hW _ U hU hw⟩ rfl (by rw [List.length_map]; exact hn) hl.1 (by simp [gb_v]) (gb_room h8) hd ⟨by omega, by omega⟩) ?_
  intro v1 Sh1 I1 ad1 H1 locs1 hp hn1 hE1 hW1
  obtain ⟨rfl, rfl, rfl⟩ := hp
  have e9 := gb_ex_same hE1
  subst e9
  have e8 : (v1.map (gb_v ad1)).toList ++ st.map (gb_v ad1) = (v1.toList ++ st).map (gb_v ad1) := by cases v1 <;> rfl
  rw [e8]
  exact K p e R s m args below meth c D cI cR ad1 ad0 n0 A H1 locs1 cells slots mc ms ls hF h1 h2 h3 h4 h5 h6 hW1 hn9 hE hl
theorem go_callVN (hd : decode M.2.1 pc = .ok (.invokevirtual idx, 3)) (hy : gb_Mi y n) (hlk : Cond.methodLinkNest M.1.cls idx y.1 host ∈ gb_all) (hs : Sh[a]? = some (.inr (ci, fs))) (hc : gb_CL[ci]? = some q) (hq : q.1 = y.1.cls) (hn : asr.length = n) (h8 : st.length ≤ 8) (hk : sk = asr.reverse ++ .inr (some a) :: st) (hv : v.toList ++ st = st1) (hC : gb_Cs l y d (.inr (some a) :: asr) Sh I v I')
    (K : gb_Go l M (d + 1) kc ks (pc + 3) lv st1 Sh I' post) : gb_Go l M (d + 1) kc ks pc lv sk Sh I post := by
  intro p e R s m args below meth c D cI cR ad ad0 n0 A H locs cells slots mc ms ls hF h1 h2 h3 h4 h5 h6 hW hn9 hE hl
  subst hk; subst hv
  refine gb_back (mc := 0) (ms := 0) hW (va_runVN (As := asr.map (gb_v ad)) (rest := st.map (gb_v ad)) (C := q.1) ⟨hF.1, hF.2.1, hF.2.2.1, hF.2.2.2.2.2.1, hF.2.2.2.2.2.2.2⟩ (hC D cI cR ad H.size) ⟨gb_cn hF hy.1 hy.2.1 hy.2.2.1 hlk h1 h2, hF.2.2.2.2.2.2.2 _ hy.2.2.2.1, by rw [hq]; exact hF.2.2.2.2.2.2.2 _ hy.2.2.2.2⟩ ⟨gb_blind, va_recv hW.1 hW.2.2.1 hc (gb_w_at hs), fun U hU hw => gb_pre hW _ U hU hw⟩ rfl (by rw [List.length_map]; exact hn) hl.1 (by simp [gb_v]) (gb_room h8) hd ⟨by omega, by omega⟩) ?_
  intro v1 Sh1 I1 ad1 H1 locs1 hp hn1 hE1 hW1
  obtain ⟨rfl, rfl, rfl⟩ := hp
  have e9 := gb_ex_same hE1
  subst e9
  have e8 : (v1.map (gb_v ad1)).toList ++ st.map (gb_v ad1) = (v1.toList ++ st).map (gb_v ad1) := by cases v1 <;> rfl
  rw [e8]
  exact K p e R s m args below meth c D cI cR ad1 ad0 n0 A H1 locs1 cells slots mc ms ls hF h1 h2 h3 h4 h5 h6 hW1 hn9 hE hl
theorem go_callS (hd : decode M.2.1 pc = .ok (.invokestatic idx, 3)) (hy : gb_Ms y n) (hlk : Cond.methodLink M.1.cls idx y.1 ∈ gb_all) (hn : asr.length = n) (h8 : st.length ≤ 8) (hk : sk = asr.reverse ++ st) (hv : v.toList ++ st = st1) (hC : gb_Cs l y d asr Sh I v I')
    (K : gb_Go l M (d + 1) kc ks (pc + 3) lv st1 Sh I' post) : gb_Go l M (d + 1) kc ks pc lv sk Sh I post := by
  intro p e R s m args below meth c D cI cR ad ad0 n0 A H locs cells slots mc ms ls hF h1 h2 h3 h4 h5 h6 hW hn9 hE hl
  subst hk; subst hv
  refine gb_back (mc := 0) (ms := 0) hW (va_runS (As := asr.map (gb_v ad)) (rest := st.map (gb_v ad)) ⟨hF.1, hF.2.1, hF.2.2.1, hF.2.2.2.2.2.1, hF.2.2.2.2.2.2.2⟩ (hC D cI cR ad H.size) ⟨gb_cb hF hy.1 hy.2.1 hy.2.2.1 hlk h1 h2, hF.2.2.2.2.2.2.2 _ hy.2.2.2⟩ ⟨gb_blind, fun U hU hw => gb_pre hW _ U hU hw⟩ rfl (by rw [List.length_map]; exact hn) hl.1 (by simp) (gb_room h8) hd ⟨by omega, by omega⟩) ?_
  intro v1 Sh1 I1 ad1 H1 locs1 hp hn1 hE1 hW1
  obtain ⟨rfl, rfl, rfl⟩ := hp
  have e9 := gb_ex_same hE1
  subst e9
  have e8 : (v1.map (gb_v ad1)).toList ++ st.map (gb_v ad1) = (v1.toList ++ st).map (gb_v ad1) := by cases v1 <;> rfl
  rw [e8]
  exact K p e R s m args below meth c D cI cR ad1 ad0 n0 A H1 locs1 cells slots mc ms ls hF h1 h2 h3 h4 h5 h6 hW1 hn9 hE hl
theorem go_callSN (hd : decode M.2.1 pc = .ok (.invokestatic idx, 3)) (hy : gb_Ms y n) (hlk : Cond.methodLinkNest M.1.cls idx y.1 host ∈ gb_all) (hn : asr.length = n) (h8 : st.length ≤ 8) (hk : sk = asr.reverse ++ st) (hv : v.toList ++ st = st1) (hC : gb_Cs l y d asr Sh I v I')
    (K : gb_Go l M (d + 1) kc ks (pc + 3) lv st1 Sh I' post) : gb_Go l M (d + 1) kc ks pc lv sk Sh I post := by
  intro p e R s m args below meth c D cI cR ad ad0 n0 A H locs cells slots mc ms ls hF h1 h2 h3 h4 h5 h6 hW hn9 hE hl
  subst hk; subst hv
  refine gb_back (mc := 0) (ms := 0) hW (va_runSN (As := asr.map (gb_v ad)) (rest := st.map (gb_v ad)) ⟨hF.1, hF.2.1, hF.2.2.1, hF.2.2.2.2.2.1, hF.2.2.2.2.2.2.2⟩ (hC D cI cR ad H.size) ⟨gb_cn hF hy.1 hy.2.1 hy.2.2.1 hlk h1 h2, hF.2.2.2.2.2.2.2 _ hy.2.2.2, trivial⟩ ⟨gb_blind, fun U hU hw => gb_pre hW _ U hU hw⟩ rfl (by rw [List.length_map]; exact hn) hl.1 (by simp) (gb_room h8) hd ⟨by omega, by omega⟩) ?_
  intro v1 Sh1 I1 ad1 H1 locs1 hp hn1 hE1 hW1
  obtain ⟨rfl, rfl, rfl⟩ := hp
  have e9 := gb_ex_same hE1
  subst e9
  have e8 : (v1.map (gb_v ad1)).toList ++ st.map (gb_v ad1) = (v1.toList ++ st).map (gb_v ad1) := by cases v1 <;> rfl
  rw [e8]
  exact K p e R s m args below meth c D cI cR ad1 ad0 n0 A H1 locs1 cells slots mc ms ls hF h1 h2 h3 h4 h5 h6 hW1 hn9 hE hl
end CallRules
