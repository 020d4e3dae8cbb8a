/-! More rules: copies of rows, texts, the past's tables; the class's objects. -/
section Rules3
variable {l : Launch} {M : gb_MI} {d kc ks pc : Nat} {lv : List (Nat × gb_AV)} {st sk st1 : List gb_AV} {Sh : List gb_Ce} {I : gb_Mem} {post : Option gb_AV → List gb_Ce → gb_Mem → Prop}
theorem go_i2c {x : Int32} (hd : decode M.2.1 pc = .ok (.i2c, 1)) (K : gb_Go l M d kc ks (pc + 1) lv (.inl ((x.toUInt32 % 65536).toInt32) :: st) Sh I post) : gb_Go l M d kc ks pc lv (.inl x :: st) Sh I post := by
  intro p e R s m args below meth c D cI cR ad ad0 n0 A H locs cells slots mc ms ls hF h1 h2 h3 h4 h5 h6 hW hn hE hl
  exact lv_i2c hF.1 hF.2.1 hd rfl (K p e R s m args below meth c D cI cR ad ad0 n0 A H locs cells slots mc ms ls hF h1 h2 h3 h4 h5 h6 hW hn hE hl)
theorem go_i2b {x : Int32} (hd : decode M.2.1 pc = .ok (.i2b, 1)) (K : gb_Go l M d kc ks (pc + 1) lv (.inl (x.toInt8.toInt32) :: st) Sh I post) : gb_Go l M d kc ks pc lv (.inl x :: st) Sh I post := by
  intro p e R s m args below meth c D cI cR ad ad0 n0 A H locs cells slots mc ms ls hF h1 h2 h3 h4 h5 h6 hW hn hE hl
  exact lv_i2b hF.1 hF.2.1 hd rfl (K p e R s m args below meth c D cI cR ad ad0 n0 A H locs cells slots mc ms ls hF h1 h2 h3 h4 h5 h6 hW hn hE hl)
set_option maxRecDepth 20000 in
theorem gb_cpN : Cond.native arraycopyName ∈ gb_all := gb_t2 (List.mem_of_getElem? (i := 197) rfl) rfl
set_option maxRecDepth 20000 in
theorem gb_cpS : Cond.static arraycopyName ∈ gb_all := gb_t2 (List.mem_of_getElem? (i := 196) rfl) rfl
set_option maxRecDepth 20000 in
theorem gb_cpI : Cond.initialized "java/lang/System" ∈ gb_all := gb_t1 (List.mem_of_getElem? (i := 13) rfl) rfl
theorem gb_cats {ad : Nat → Nat} (st : List gb_AV) : ((st.map (gb_v ad)).map fun v => v.category).sum = st.length := by
  induction st with
  | nil => rfl
  | cons a st ih => simp only [List.map_cons, List.sum_cons, List.length_cons, ih, gb_cat1]; omega
/-- System.arraycopy from the row a into the row b -/
theorem go_copy {idx a b na nb : Nat} {sp dp n : Int32} {I' : gb_Mem} (hd : decode M.2.1 pc = .ok (.invokestatic idx, 3)) (hlk : Cond.methodLink M.1.cls idx arraycopyName ∈ gb_all) (ha : Sh[a]? = some (.inl (.inl na))) (hb : Sh[b]? = some (.inl (.inl nb))) (h8 : st.length ≤ 8) (g1 : ¬ sp < 0) (g2 : ¬ dp < 0) (g3 : ¬ n < 0) (g4 : sp.toNatClampNeg + n.toNatClampNeg ≤ na) (g5 : dp.toNatClampNeg + n.toNatClampNeg ≤ nb) (hI : I' = mset I b (va_cpy (I a) (I b) sp.toNatClampNeg dp.toNatClampNeg n.toNatClampNeg))
    (K : gb_Go l M (d + 1) kc ks (pc + 3) lv st Sh I' post) : gb_Go l M (d + 1) kc ks pc lv (.inl n :: .inl dp :: .inr (some b) :: .inl sp :: .inr (some a) :: st) Sh I post := by
  subst hI
  intro p e R s m args below meth c D cI cR ad ad0 n0 A H locs cells slots mc ms ls hF h1 h2 h3 h4 h5 h6 hW hn hE hl
  obtain ⟨w1, w2, w3, w4, w5, w6, w7, w8⟩ := hW
  refine va_copyi (ty := .int) hF.1 hF.2.1 (hF.2.2.1.trans hl.1.symm) hF.2.2.2.2.2.1 (hF.2.2.2.2.2.2.2 _ hlk) (hF.2.2.2.2.2.2.2 _ gb_cpN) (hF.2.2.2.2.2.2.2 _ gb_cpS) (hF.2.2.2.2.2.2.2 _ gb_cpI) w1 w3 w4 w5 a b 0 0 (gb_w_at ha) (gb_w_at hb) rfl rfl rfl g1 g2 g3 g4 g5 (fun _ _ => rfl) (by omega) (by rw [gb_cats, show nativeFrameWords "java/lang/System" "arraycopy" 5 = 7 from by decide]; omega) hd (fun H1 locs1 q1 q2 q3 => ?_)
  have e1 : (gb_w ad cI cR Sh I).set b (ad b, .inl (cI, nb, .inl (va_cpy (I a) (I b) sp.toNatClampNeg dp.toNatClampNeg n.toNatClampNeg))) = gb_w ad cI cR Sh (mset I b (va_cpy (I a) (I b) sp.toNatClampNeg dp.toNatClampNeg n.toNatClampNeg)) := gb_w_set hb _
  rw [e1] at q1 q2
  exact K p e R s m args below meth c D cI cR ad ad0 n0 A H1 locs1 cells slots mc ms ls hF h1 h2 h3 h4 h5 h6 ⟨w1, w2, q1, q2, q3, w6, w7, w8⟩ hn hE hl
/-- the texts -/
theorem go_ldcS0 (hd : decode M.2.1 pc = .ok (.ldc 166, 2)) (hM : M.1.cls = "GravyBoats$Reader") (K : gb_Go l M d kc ks (pc + 2) lv (.inr (some 1001) :: st) Sh I post) : gb_Go l M d kc ks pc lv st Sh I post := by
  intro p e R s m args below meth c D cI cR ad ad0 n0 A H locs cells slots mc ms ls hF h1 h2 h3 h4 h5 h6 hW hn hE hl
  exact va_ldcS hF.1 hF.2.1 (hM ▸ hF.2.2.2.2.2.1) hW.2.2.2.2.2.2.1.2.1.1 hd (K p e R s m args below meth c D cI cR ad ad0 n0 A H locs cells slots mc ms ls hF h1 h2 h3 h4 h5 h6 hW hn hE hl)
theorem go_ldcS1 (hd : decode M.2.1 pc = .ok (.ldc 159, 2)) (hM : M.1.cls = "GravyBoats$Reader") (K : gb_Go l M d kc ks (pc + 2) lv (.inr (some 1003) :: st) Sh I post) : gb_Go l M d kc ks pc lv st Sh I post := by
  intro p e R s m args below meth c D cI cR ad ad0 n0 A H locs cells slots mc ms ls hF h1 h2 h3 h4 h5 h6 hW hn hE hl
  exact va_ldcS hF.1 hF.2.1 (hM ▸ hF.2.2.2.2.2.1) hW.2.2.2.2.2.2.1.2.2.1.1 hd (K p e R s m args below meth c D cI cR ad ad0 n0 A H locs cells slots mc ms ls hF h1 h2 h3 h4 h5 h6 hW hn hE hl)
theorem gb_recS {ad : Nat → Nat} {A : Nat → Prop} {s : State} {H : Heap} {locs : List Loc} {t : Nat} (h : va_O "java/lang/String" t A s s.heap) (hS : va_S A s.heap H locs) : ∃ cell : Cell, H[t]? = some cell ∧ cell.vm.isStatics = false ∧ s.vm.findClass "java/lang/String" = some cell.cls := by
  obtain ⟨cell, h1, h2, h3, -⟩ := h.kept hS.2.1
  exact ⟨cell, h1, h2, h3⟩
/-- a call of a text's own method -/
theorem go_callT {y : gb_MI} {idx n a : Nat} {asr : List gb_AV} {v : Option gb_AV} {I' : gb_Mem} (ha : a = 1001 ∨ a = 1003) (hd : decode M.2.1 pc = .ok (.invokevirtual idx, 3)) (hy : gb_Mi y n) (hlk : Cond.methodLink M.1.cls idx y.1 ∈ gb_all) (hq : y.1.cls = "java/lang/String") (hn : asr.length = n) (h8 : st.length ≤ 8) (hk : sk = asr.reverse ++ .inr (some a) :: st) (hv : v.toList ++ st = st1) (hC : gb_Cs l y d (.inr (some a) :: asr) Sh I v I')
    (K : gb_Go l M (d + 1) kc ks (pc + 3) lv st1 Sh I' post) : gb_Go l M (d + 1) kc ks pc lv sk Sh I post := by
  intro p e R s m args below meth c D cI cR ad ad0 n0 A H locs cells slots mc ms ls hF h1 h2 h3 h4 h5 h6 hW hn9 hE hl
  subst hk; subst hv
  have hrec : ∃ cell : Cell, H[ad a]? = some cell ∧ cell.vm.isStatics = false ∧ s.vm.findClass "java/lang/String" = some cell.cls := by
    rcases ha with rfl | rfl
    · exact gb_recS (ad := ad) hW.2.2.2.2.2.2.1.2.1.2.1 hW.2.2.2.2.1
    · exact gb_recS (ad := ad) hW.2.2.2.2.2.2.1.2.2.1.2.1 hW.2.2.2.2.1
  refine gb_back (mc := 0) (ms := 0) hW (va_runV (As := asr.map (gb_v ad)) (rest := st.map (gb_v ad)) (C := "java/lang/String") ⟨hF.1, hF.2.1, hF.2.2.1, hF.2.2.2.2.2.1, hF.2.2.2.2.2.2.2⟩ (hC D cI cR ad H.size) ⟨gb_cb hF hy.1 hy.2.1 hy.2.2.1 hlk h1 h2, hF.2.2.2.2.2.2.2 _ hy.2.2.2.1, by rw [← hq]; exact hF.2.2.2.2.2.2.2 _ hy.2.2.2.2⟩ ⟨gb_blind, hrec, fun U hU hw => gb_pre hW _ U hU hw⟩ rfl (by rw [List.length_map]; exact hn) hl.1 (by simp [gb_v]) (gb_room h8) hd ⟨by omega, by omega⟩) ?_
  intro v1 Sh1 I1 ad1 H1 locs1 hp hn1 hE1 hW1
  obtain ⟨rfl, rfl, rfl⟩ := hp
  have e9 := gb_ex_same hE1
  subst e9
  have e8 : (v1.map (gb_v ad1)).toList ++ st.map (gb_v ad1) = (v1.toList ++ st).map (gb_v ad1) := by cases v1 <;> rfl
  rw [e8]
  exact K p e R s m args below meth c D cI cR ad1 ad0 n0 A H1 locs1 cells slots mc ms ls hF h1 h2 h3 h4 h5 h6 hW1 hn9 hE hl
theorem go_alenG (hd : decode M.2.1 pc = .ok (.arraylength, 1)) (K : gb_Go l M d kc ks (pc + 1) lv (.inl 8 :: st) Sh I post) : gb_Go l M d kc ks pc lv (.inr (some 1000) :: st) Sh I post := by
  intro p e R s m args below meth c D cI cR ad ad0 n0 A H locs cells slots mc ms ls hF h1 h2 h3 h4 h5 h6 hW hn hE hl
  exact va_tlen hF.1 hF.2.1 hW.2.2.2.2.2.2.1.1.2 hW.2.2.2.2.1 rfl hd (K p e R s m args below meth c D cI cR ad ad0 n0 A H locs cells slots mc ms ls hF h1 h2 h3 h4 h5 h6 hW hn hE hl)
set_option maxRecDepth 20000 in
theorem gb_mxC : Cond.code Lib.Math.max.name Lib.Math.max.code 2 (some .int) ∈ gb_all := gb_t1 (List.mem_of_getElem? (i := 120) rfl) rfl
set_option maxRecDepth 20000 in
theorem gb_mnC : Cond.code Lib.Math.min.name Lib.Math.min.code 2 (some .int) ∈ gb_all := gb_t2 (List.mem_of_getElem? (i := 200) rfl) rfl
set_option maxRecDepth 20000 in
theorem gb_abC : Cond.code Lib.Math.abs.name Lib.Math.abs.code 1 (some .int) ∈ gb_all := gb_t4 (List.mem_of_getElem? (i := 93) rfl) rfl
set_option maxRecDepth 20000 in
theorem gb_mxS : Cond.static Lib.Math.max.name ∈ gb_all := gb_t1 (List.mem_of_getElem? (i := 119) rfl) rfl
set_option maxRecDepth 20000 in
theorem gb_mnS : Cond.static Lib.Math.min.name ∈ gb_all := gb_t2 (List.mem_of_getElem? (i := 199) rfl) rfl
set_option maxRecDepth 20000 in
theorem gb_abS : Cond.static Lib.Math.abs.name ∈ gb_all := gb_t4 (List.mem_of_getElem? (i := 92) rfl) rfl
/-- the greater, the lesser, the amount -/
def mx (x y : Int32) : Int32 := if x < y then y else x
def mn (x y : Int32) : Int32 := if y < x then y else x
def ab (x : Int32) : Int32 := if 0 ≤ x then x else 0 - x
theorem go_mmax {idx : Nat} {x y : Int32} (hd : decode M.2.1 pc = .ok (.invokestatic idx, 3)) (hlk : Cond.methodLink M.1.cls idx yJm_max.1 ∈ gb_all) (h8 : st.length ≤ 8) (K : gb_Go l M (d + 1) kc ks (pc + 3) lv (.inl (mx x y) :: st) Sh I post) : gb_Go l M (d + 1) kc ks pc lv (.inl y :: .inl x :: st) Sh I post := by
  intro p e R s m args below meth c D cI cR ad ad0 n0 A H locs cells slots mc ms ls hF h1 h2 h3 h4 h5 h6 hW hn hE hl
  exact va_mmax hF.1 hF.2.1 (hF.2.2.1.trans hl.1.symm) hF.2.2.2.2.2.1 (hF.2.2.2.2.2.2.2 _ hlk) (hF.2.2.2.2.2.2.2 _ gb_mxS) (hF.2.2.2.2.2.2.2 _ n_Jm) (hF.2.2.2.2.2.2.2 _ gb_mxC) (by omega) (by rw [gb_cats]; omega) (by omega) (by omega) hd (K p e R s m args below meth c D cI cR ad ad0 n0 A H locs cells slots mc ms ls hF h1 h2 h3 h4 h5 h6 hW hn hE hl)
theorem go_mmin {idx : Nat} {x y : Int32} (hd : decode M.2.1 pc = .ok (.invokestatic idx, 3)) (hlk : Cond.methodLink M.1.cls idx yJm_min.1 ∈ gb_all) (h8 : st.length ≤ 8) (K : gb_Go l M (d + 1) kc ks (pc + 3) lv (.inl (mn x y) :: st) Sh I post) : gb_Go l M (d + 1) kc ks pc lv (.inl y :: .inl x :: st) Sh I post := by
  intro p e R s m args below meth c D cI cR ad ad0 n0 A H locs cells slots mc ms ls hF h1 h2 h3 h4 h5 h6 hW hn hE hl
  exact va_mmin hF.1 hF.2.1 (hF.2.2.1.trans hl.1.symm) hF.2.2.2.2.2.1 (hF.2.2.2.2.2.2.2 _ hlk) (hF.2.2.2.2.2.2.2 _ gb_mnS) (hF.2.2.2.2.2.2.2 _ n_Jm) (hF.2.2.2.2.2.2.2 _ gb_mnC) (by omega) (by rw [gb_cats]; omega) (by omega) (by omega) hd (K p e R s m args below meth c D cI cR ad ad0 n0 A H locs cells slots mc ms ls hF h1 h2 h3 h4 h5 h6 hW hn hE hl)
theorem go_mabs {idx : Nat} {x : Int32} (hd : decode M.2.1 pc = .ok (.invokestatic idx, 3)) (hlk : Cond.methodLink M.1.cls idx yJm_abs.1 ∈ gb_all) (h8 : st.length ≤ 8) (K : gb_Go l M (d + 1) kc ks (pc + 3) lv (.inl (ab x) :: st) Sh I post) : gb_Go l M (d + 1) kc ks pc lv (.inl x :: st) Sh I post := by
  intro p e R s m args below meth c D cI cR ad ad0 n0 A H locs cells slots mc ms ls hF h1 h2 h3 h4 h5 h6 hW hn hE hl
  exact va_mabs hF.1 hF.2.1 (hF.2.2.1.trans hl.1.symm) hF.2.2.2.2.2.1 (hF.2.2.2.2.2.2.2 _ hlk) (hF.2.2.2.2.2.2.2 _ gb_abS) (hF.2.2.2.2.2.2.2 _ n_Jm) (hF.2.2.2.2.2.2.2 _ gb_abC) (by omega) (by rw [gb_cats]; omega) (by omega) (by omega) hd (K p e R s m args below meth c D cI cR ad ad0 n0 A H locs cells slots mc ms ls hF h1 h2 h3 h4 h5 h6 hW hn hE hl)
end Rules3
def fcpy {α : Type} (I : gb_Mem) (a na b nb : Nat) (sp dp n : Int32) (k : gb_Mem → Option α) : Option α := if ¬ sp < 0 ∧ ¬ dp < 0 ∧ ¬ n < 0 ∧ sp.toNatClampNeg + n.toNatClampNeg ≤ na ∧ dp.toNatClampNeg + n.toNatClampNeg ≤ nb then k (mset I b (va_cpy (I a) (I b) sp.toNatClampNeg dp.toNatClampNeg n.toNatClampNeg)) else none
theorem fcpy_e {α : Type} {I : gb_Mem} {a na b nb : Nat} {sp dp n : Int32} {k : gb_Mem → Option α} {r : α} (h : fcpy I a na b nb sp dp n k = some r) : (¬ sp < 0 ∧ ¬ dp < 0 ∧ ¬ n < 0 ∧ sp.toNatClampNeg + n.toNatClampNeg ≤ na ∧ dp.toNatClampNeg + n.toNatClampNeg ≤ nb) ∧ ∃ I2, I2 = mset I b (va_cpy (I a) (I b) sp.toNatClampNeg dp.toNatClampNeg n.toNatClampNeg) ∧ k I2 = some r := by
  unfold fcpy at h
  by_cases hc : ¬ sp < 0 ∧ ¬ dp < 0 ∧ ¬ n < 0 ∧ sp.toNatClampNeg + n.toNatClampNeg ≤ na ∧ dp.toNatClampNeg + n.toNatClampNeg ≤ nb
  · rw [if_pos hc] at h; exact ⟨hc, _, rfl, h⟩
  · rw [if_neg hc] at h; cases h
/-- the past's tables -/
def ftab {α : Type} (i : Int32) (k : Nat → Option α) : Option α := if inb i 6 = true then k (72 + 4 * i.toNatClampNeg) else none
theorem ftab_e {α : Type} {i : Int32} {k : Nat → Option α} {r : α} (h : ftab i k = some r) : vp_in i 6 ∧ ∃ x, x = 72 + 4 * i.toNatClampNeg ∧ k x = some r := by
  unfold ftab at h
  by_cases hc : inb i 6 = true
  · rw [if_pos hc] at h; exact ⟨inb_iff.mp hc, _, rfl, h⟩
  · rw [if_neg hc] at h; cases h

def isRo (h n : Nat) : Prop := shX[h]? = some (.inr (4, [none, some (some (h + 1)), none])) ∧ shX[h + 1]? = some (.inl (.inl n))
def isTa (h : Nat) : Prop := shX[h]? = some (.inr (2, [none, none, none, none, none, none, some (some (h + 1)), some (some (h + 2)), some (some (h + 3))])) ∧ shX[h + 1]? = some (.inl (.inl 60)) ∧ shX[h + 2]? = some (.inl (.inl 48)) ∧ shX[h + 3]? = some (.inl (.inl 10))
def isLa (h : Nat) : Prop := shX[h]? = some (.inr (3, [some (some (h + 1)), none, some (some (h + 2)), some (some (h + 3)), none, some (some (h + 4)), none])) ∧ shX[h + 1]? = some (.inl (.inl 400)) ∧ shX[h + 2]? = some (.inl (.inl 16)) ∧ shX[h + 3]? = some (.inl (.inl 33)) ∧ shX[h + 4]? = some (.inl (.inl 64))
def isWo (h : Nat) : Prop := shX[h]? = some (.inr (1, [some (some (h + 1)), some (some (h + 5)), some (some (h + 10)), some (some (h + 12)), some (some (h + 14)), some (some (h + 16)), some (some (h + 18)), some (some (h + 20)), some (some (h + 22)), some (some (h + 24)), some (some (h + 26)), some (some (h + 28)), some (some (h + 30)), some (some (h + 32))])) ∧ isTa (h + 1) ∧ isLa (h + 5) ∧ isRo (h + 10) 64 ∧ isRo (h + 12) 64 ∧ isRo (h + 14) 64 ∧ isRo (h + 16) 600 ∧ isRo (h + 18) 48 ∧ isRo (h + 20) 48 ∧ isRo (h + 22) 32 ∧ isRo (h + 24) 40 ∧ isRo (h + 26) 64 ∧ isRo (h + 28) 36 ∧ isRo (h + 30) 32 ∧ isRo (h + 32) 36
def isCo (h t : Nat) : Prop := shX[h]? = some (.inr (6, [some (some 1), some (some t), none, some (some (h + 1))])) ∧ shX[h + 1]? = some (.inl (.inl 8)) ∧ isTa t
theorem isTa_2 : isTa 2 := ⟨rfl, rfl, rfl, rfl⟩
theorem isLa_6 : isLa 6 := ⟨rfl, rfl, rfl, rfl, rfl⟩
theorem isRo_11 : isRo 11 64 := ⟨rfl, rfl⟩
theorem isRo_13 : isRo 13 64 := ⟨rfl, rfl⟩
theorem isRo_15 : isRo 15 64 := ⟨rfl, rfl⟩
theorem isRo_17 : isRo 17 600 := ⟨rfl, rfl⟩
theorem isRo_19 : isRo 19 48 := ⟨rfl, rfl⟩
theorem isRo_21 : isRo 21 48 := ⟨rfl, rfl⟩
theorem isRo_23 : isRo 23 32 := ⟨rfl, rfl⟩
theorem isRo_25 : isRo 25 40 := ⟨rfl, rfl⟩
theorem isRo_27 : isRo 27 64 := ⟨rfl, rfl⟩
theorem isRo_29 : isRo 29 36 := ⟨rfl, rfl⟩
theorem isRo_31 : isRo 31 32 := ⟨rfl, rfl⟩
theorem isRo_33 : isRo 33 36 := ⟨rfl, rfl⟩
theorem isTa_36 : isTa 36 := ⟨rfl, rfl, rfl, rfl⟩
theorem isLa_40 : isLa 40 := ⟨rfl, rfl, rfl, rfl, rfl⟩
theorem isRo_45 : isRo 45 64 := ⟨rfl, rfl⟩
theorem isRo_47 : isRo 47 64 := ⟨rfl, rfl⟩
theorem isRo_49 : isRo 49 64 := ⟨rfl, rfl⟩
theorem isRo_51 : isRo 51 600 := ⟨rfl, rfl⟩
theorem isRo_53 : isRo 53 48 := ⟨rfl, rfl⟩
theorem isRo_55 : isRo 55 48 := ⟨rfl, rfl⟩
theorem isRo_57 : isRo 57 32 := ⟨rfl, rfl⟩
theorem isRo_59 : isRo 59 40 := ⟨rfl, rfl⟩
theorem isRo_61 : isRo 61 64 := ⟨rfl, rfl⟩
theorem isRo_63 : isRo 63 36 := ⟨rfl, rfl⟩
theorem isRo_65 : isRo 65 32 := ⟨rfl, rfl⟩
theorem isRo_67 : isRo 67 36 := ⟨rfl, rfl⟩
theorem isTa_72 : isTa 72 := ⟨rfl, rfl, rfl, rfl⟩
theorem isTa_76 : isTa 76 := ⟨rfl, rfl, rfl, rfl⟩
theorem isTa_80 : isTa 80 := ⟨rfl, rfl, rfl, rfl⟩
theorem isTa_84 : isTa 84 := ⟨rfl, rfl, rfl, rfl⟩
theorem isTa_88 : isTa 88 := ⟨rfl, rfl, rfl, rfl⟩
theorem isTa_92 : isTa 92 := ⟨rfl, rfl, rfl, rfl⟩
theorem isTa_96 : isTa 96 := ⟨rfl, rfl, rfl, rfl⟩
theorem isLa_114 : isLa 114 := ⟨rfl, rfl, rfl, rfl, rfl⟩
theorem isRo_119 : isRo 119 64 := ⟨rfl, rfl⟩
theorem isWo_1 : isWo 1 := ⟨rfl, isTa_2, isLa_6, isRo_11, isRo_13, isRo_15, isRo_17, isRo_19, isRo_21, isRo_23, isRo_25, isRo_27, isRo_29, isRo_31, isRo_33⟩
theorem isWo_35 : isWo 35 := ⟨rfl, isTa_36, isLa_40, isRo_45, isRo_47, isRo_49, isRo_51, isRo_53, isRo_55, isRo_57, isRo_59, isRo_61, isRo_63, isRo_65, isRo_67⟩
theorem isCo_100 : isCo 100 2 := ⟨rfl, rfl, isTa_2⟩
theorem isCo_102 : isCo 102 96 := ⟨rfl, rfl, isTa_96⟩
theorem gb_tabs {i : Int32} {r : Nat} (hi : vp_in i 6) (hr : r = 72 + 4 * i.toNatClampNeg) : ([some 72, some 76, some 80, some 84, some 88, some 92] : List (Option Nat)).getD i.toNatClampNeg none = some r ∧ isTa r := by
  have hlt : i.toNatClampNeg < 6 := Nat.not_le.mp fun q => hi (Or.inr q)
  subst hr
  generalize i.toNatClampNeg = j at hlt
  match j, hlt with
  | 0, _ => exact ⟨rfl, isTa_72⟩
  | 1, _ => exact ⟨rfl, isTa_76⟩
  | 2, _ => exact ⟨rfl, isTa_80⟩
  | 3, _ => exact ⟨rfl, isTa_84⟩
  | 4, _ => exact ⟨rfl, isTa_88⟩
  | 5, _ => exact ⟨rfl, isTa_92⟩
  | n + 6, h => exact absurd h (by omega)
set_option maxRecDepth 20000 in
theorem m_Ta_40 : Cond.methodLink "GravyBoats$Table" 40 arraycopyName ∈ gb_all := gb_t2 (List.mem_of_getElem? (i := 195) rfl) rfl
set_option maxRecDepth 20000 in
theorem m_La_31 : Cond.methodLink "GravyBoats$Law" 31 arraycopyName ∈ gb_all := gb_t4 (List.mem_of_getElem? (i := 102) rfl) rfl
set_option maxRecDepth 20000 in
theorem m_Ro_38 : Cond.methodLink "GravyBoats$Rows" 38 arraycopyName ∈ gb_all := gb_t4 (List.mem_of_getElem? (i := 108) rfl) rfl
