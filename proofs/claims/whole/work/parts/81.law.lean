/-! THE LAW's lines. -/
/-- the lines that stand -/
def LNs (k : Nat) (P : List (Nat × Nat)) (X M : gb_Mem) : Prop := ∀ l, l < k → ∃ p q P1 P2 : List (Nat × Nat), P = P1 ++ p ++ q ++ P2 ∧ X 116 l = M 12 (32 + l) ∧ X 117 (2 * l) = nI P1.length ∧ X 117 (2 * l + 1) = nI (P1.length + p.length) ∧ X 117 (2 * l + 2) = nI (P1.length + p.length + q.length) ∧ M 13 (32 + l) = nI (gMl P1).length ∧ M 14 (32 + l) = nI ((gMl P1).length + (gMl p).length) ∧ M 15 (32 + l) = nI ((gMl P1).length + (gMl p).length + (gMl q).length) ∧ gTy p [] = some [false] ∧ (q = [] ∨ gTy q [] = some [true])
def GL (Y N : gb_Mem) (x : Int32) : Prop := ∃ (k : Nat) (P : List (Nat × Nat)), x = nI k ∧ k ≤ 16 ∧ Y 114 4 = nI k ∧ EX P Y ∧ EM (gMl P) N ∧ (gMl P).length ≤ 400 ∧ LNs k P Y N
def RLf (f : Nat) (x : Int32) (M : gb_Mem) : Option (Int32 × gb_Mem) := fbr (L_Mo_readLaw_2 f x M) (fun (o16, I17) => if (I17 0 16) = 0 then some (o16, I17) else fbd (F_Mo_errs 1 I17) fun (r21, I20) => some (r21, I20)) (fun (q18, I19) => some (q18, I19))
section LAWTEXT
variable {T : Nat → Nat} {len : Nat} {L : List (Nat × Nat)} {X0 M0 X M Y N : gb_Mem} {i k p o : Nat} {P Q : List (Nat × Nat)} {S : List Nat}
theorem addl {j : Nat} (hj : X 114 4 = nI j) (h : j < 16) (x1 x2 : Int32) : F_La_addLine 114 x1 x2 X = some (mw (mw (mw (mw X 116 j x1) 117 (2 * j + 1) x2) 117 (2 * j + 2) (X 114 1)) 114 4 (nI (j + 1))) := by
  unfold F_La_addLine
  have e2 : (2 : Int32) * nI j + 1 = nI (2 * j + 1) := by rw [show (2 : Int32) * nI j = nI (2 * j) by rw [show (2 : Int32) = nI 2 from rfl, pk_mul], nI_1]
  have e3 : (2 : Int32) * nI j + 2 = nI (2 * j + 2) := by rw [show (2 : Int32) * nI j = nI (2 * j) by rw [show (2 : Int32) = nI 2 from rfl, pk_mul]]; exact nI_add (2 * j) 2
  have a1 : mw X (114 + 2) j x1 114 4 = nI j := by rw [mw_ne (by decide)]; exact hj
  have a2 : mw (mw X (114 + 2) j x1) (114 + 3) (2 * j + 1) x2 114 4 = nI j := by rw [mw_ne (by decide)]; exact a1
  have a3 : mw (mw X (114 + 2) j x1) (114 + 3) (2 * j + 1) x2 114 1 = X 114 1 := by rw [mw_ne (by decide), mw_ne (by decide)]
  have a4 : mw (mw (mw X (114 + 2) j x1) (114 + 3) (2 * j + 1) x2) (114 + 3) (2 * j + 2) (X 114 1) 114 4 = nI j := by rw [mw_ne (by decide)]; exact a2
  rw [hj, if_neg (show ¬ F_Gb_within (nI j) 0 15 X = 0 from fun z => within_0.mp z ⟨nI_le (a := 0) (by omega) (by omega), nI_le (b := 15) (by omega) (by decide)⟩), fsto_n h (by decide), a1, e2, fsto_n (by omega) (by decide), a2, e3, a3, fsto_n (by omega) (by decide), fstf_d, a4, nI_1]
theorem addl_e (h : XE X0 k p X) (x1 x2 : Int32) : ∃ Y, F_La_addLine 114 x1 x2 X = some Y ∧ XE X0 k p Y := by
  by_cases c : F_Gb_within (X 114 4) 0 15 X = 0
  · refine ⟨X, ?_, h⟩
    unfold F_La_addLine
    rw [if_pos c]
  · have c2 : 0 ≤ X 114 4 ∧ X 114 4 ≤ 15 := Classical.byContradiction fun z => c (within_0.mpr z)
    obtain ⟨j, hj, e⟩ := nI_of (x := X 114 4) (fun z => by have := Int32.lt_iff_toInt_lt.mp z; have := Int32.le_iff_toInt_le.mp c2.1; omega)
    have hj2 : j < 16 := by
      have := Int32.le_iff_toInt_le.mp c2.2
      rw [e, nI_toInt hj] at this
      have e15 : (15 : Int32).toInt = 15 := rfl
      omega
    refine ⟨_, addl e hj2 x1 x2, ?_⟩
    obtain ⟨g1, g2, g3, g4, g5⟩ := h
    have e111 : mw (mw (mw (mw X 116 j x1) 117 (2 * j + 1) x2) 117 (2 * j + 2) (X 114 1)) 114 4 (nI (j + 1)) 111 = X 111 := by rw [mw_ne (by decide), mw_ne (by decide), mw_ne (by decide), mw_ne (by decide)]
    refine ⟨g1.d (fun c hc => by rw [mw_ne (by omega), mw_ne (by omega), mw_ne (by omega), mw_ne (by omega)]) ?_ ?_, g2, g3, by rw [e111]; exact g4, by rw [e111]; exact g5⟩
    · rw [mw_ne (by decide), mw_eq, pk_un (by omega), mw_eq, pk_un (by omega), mw_ne (by decide)]
    · rw [mw_ne (by decide), mw_ne (by decide), mw_ne (by decide), mw_ne (by decide)]
theorem ll_e {f : Nat} (hf : 0 < f) (x : Int32) (h : XE X0 k p X) : L_Rd_readLaw_13 f x X = some X := by
  obtain ⟨f, rfl⟩ : ∃ g, f = g + 1 := ⟨f - 1, by omega⟩
  simp only [L_Rd_readLaw_13]
  rw [if_neg h.f, ite_self]
theorem j104_e (hP : PC T len L X0 M0) {f : Nat} (hf : 0 < f) (h : XE X0 k p X) (x1 x2 x3 : Int32) : ∃ Y, J_Rd_readLaw_104 (L_Rd_readLaw_13 f) x1 x2 x3 X = some Y ∧ XE X0 k p Y := by
  obtain ⟨Y, y1, y2⟩ := addl_e h x2 x3
  refine ⟨Y, ?_, y2⟩
  unfold J_Rd_readLaw_104
  rw [take_e hP h, fbd_s, y1, fbd_s, ll_e hf _ y2]
theorem lwd_n {c : Nat} (h : TR c (M 0 16) (M 0 17)) : (F_Mo_isLineWord M = 0 ∧ ¬ (200 ≤ c ∧ c ≤ 202)) ∨ (¬ F_Mo_isLineWord M = 0 ∧ ∃ w, w < 3 ∧ c = 200 + w ∧ M 0 17 = nI w) := by
  unfold F_Mo_isLineWord
  rcases word_r h with ⟨t, w, w1, w2, w3⟩ | ⟨t, hc⟩
  · have hcw : (w < 3 ∧ cw w = w) ∨ (3 ≤ w ∧ 3 ≤ cw w) := by
      unfold cw
      by_cases a : w < 3
      · rw [if_pos a]; exact Or.inl ⟨a, rfl⟩
      · rw [if_neg a]
        by_cases b : w < 7
        · rw [if_pos b]; exact Or.inr ⟨by omega, by omega⟩
        · rw [if_neg b]
          by_cases d : w < 19
          · rw [if_pos d]; exact Or.inr ⟨by omega, by omega⟩
          · rw [if_neg d]; exact Or.inr ⟨by omega, by omega⟩
    rw [if_pos t, w3, isIn_within (nI w) 0 2 M M]
    rcases hcw with ⟨a, b⟩ | ⟨a, b⟩
    · right
      rw [if_neg (show ¬ F_Gb_within (nI w) 0 2 M = 0 from fun z => within_0.mp z ⟨nI_le (a := 0) (by omega) (by omega), nI_le (b := 2) (by omega) (by decide)⟩)]
      exact ⟨by decide, w, a, by omega, rfl⟩
    · left
      rw [if_pos (show F_Gb_within (nI w) 0 2 M = 0 from within_0.mpr (fun z => nI_ge (b := w) (a := 2) (by omega) (by omega) z.2))]
      exact ⟨rfl, by omega⟩
  · rw [if_neg t]
    exact Or.inl ⟨rfl, by omega⟩
theorem MF.m {c j : Nat} {v : Int32} (h : MF M0 M) (hc : 12 ≤ c ∧ c ≤ 15) (hj : 32 ≤ j) : MF M0 (mw M c j v) := by
  obtain ⟨h1, h2, h3, h4, h5, h6, h7⟩ := h
  refine ⟨fun d d0 d1 => by rw [mw_ne (by omega)]; exact h1 d d0 d1, fun k k1 k2 k3 k4 k5 k6 => by rw [mw_ne (by omega)]; exact h2 k k1 k2 k3 k4 k5 k6, fun d k a b e => ?_, fun d k a b e => by rw [mw_ne (by omega)]; exact h4 d k a b e, fun k a => by rw [mw_ne (by omega)]; exact h5 k a, fun k a => by rw [mw_ne (by omega)]; exact h6 k a, fun k a => by rw [mw_ne (by omega)]; exact h7 k a⟩
  by_cases z : d = c
  · subst z
    rw [mw_eq, pk_un (by omega)]; exact h3 d k a b e
  · rw [mw_ne z]; exact h3 d k a b e
theorem PS.m {c j : Nat} {v : Int32} (h : PS T len L X0 M0 i X M) (hc : 12 ≤ c ∧ c ≤ 15) (hj : 32 ≤ j) : PS T len L X0 M0 i X (mw M c j v) := by
  obtain ⟨a1, a2, a3, a4, a5, a6, a7, a8⟩ := h
  exact ⟨a1, a2, a3, a4, a5.m hc hj, by rw [mw_ne (by omega)]; exact a6, by rw [mw_ne (by omega)]; exact a7, by rw [mw_ne (by omega)]; exact a8⟩
theorem EM.m {c j : Nat} {v : Int32} (h : EM Q M) (hc : 12 ≤ c ∧ c ≤ 15) : EM Q (mw M c j v) := ⟨by rw [mw_ne (by omega)]; exact h.1, by rw [mw_ne (by omega), mw_ne (by omega)]; exact h.2⟩
/-- neither a line nor room for one -/
theorem law_h (hP : PC T len L X0 M0) (hk : k ≤ 16) {f f' : Nat} (h : PS T len L X0 M0 i X M) (hX : EX P X) (hM : EM (gMl P) M) (hl : (gMl P).length ≤ i) (h4 : X 114 4 = nI k) (hL : LNs k P X M) (hc : ¬ (200 ≤ cdA L i ∧ cdA L i ≤ 202) ∨ k = 16) (hf : 1 < f) (hf' : 0 < f') : LO X0 M0 GL (L_Rd_readLaw_13 f (nI k) X) (RLf f' (nI k) M) := by
  obtain ⟨f, rfl⟩ : ∃ g, f = g + 1 := ⟨f - 1, by omega⟩
  obtain ⟨f', rfl⟩ : ∃ g, f' = g + 1 := ⟨f' - 1, by omega⟩
  have hT := h.2.2.2.2.2.2.2
  have hb := hT.b
  have hil := h.2.1
  have hn := hP.1
  have n0 : nI (cdA L i) = 0 ↔ cdA L i = 0 := nI_eq (b := 0) (by omega) (by decide)
  simp only [L_Rd_readLaw_13, RLf, L_Mo_readLaw_2]
  rw [if_neg (show ¬ 16 < nI k from nI_nlt (a := 16) (by omega) (by decide)), if_pos h.2.2.2.1.1, now_n hP h, fbd_s, fbd_s, fbd_s]
  -- what comes behind a FAULT
  have fin : ∀ (j q : Nat) (Y : gb_Mem) (x : Int32), XE X0 j q Y → ∃ Y2, (fbd (F_Rd_readSum Y) fun I7 => if (I7 111 7) = 0 then fbd (F_Rd_now I7) fun r10 => if r10 = 215 then fstf I7 111 6 ((I7 111 6) + 1) fun I11 => fbd (F_Rd_readCondition 0 I11) fun I12 => J_Rd_readLaw_104 (L_Rd_readLaw_13 f) (nI k) x (I7 114 1) I12 else J_Rd_readLaw_104 (L_Rd_readLaw_13 f) (nI k) x (I7 114 1) I7 else J_Rd_readLaw_104 (L_Rd_readLaw_13 f) (nI k) x (I7 114 1) I7) = some Y2 ∧ XE X0 j q Y2 := by
    intro j q Y x hE
    obtain ⟨Y2, y1, y2⟩ := j104_e hP (f := f) (by omega) hE (nI k) x (Y 114 1)
    refine ⟨Y2, ?_, y2⟩
    rw [sum_e hP hE, fbd_s, if_neg hE.f, y1]
  rcases lwd_n hT with ⟨w1, w2⟩ | ⟨w1, w, w2, w3, w4⟩
  · rw [if_pos w1]
    by_cases c0 : cdA L i = 0
    · rw [if_pos (n0.mpr c0)]
      refine Or.inl ⟨X, M, k, hk, rfl, ?_, h.1, h.2.2.2.2.1, h.2.2.2.1.1, h.2.2.2.1.2, ⟨k, P, rfl, hk, h4, hX, hM, by omega, hL⟩⟩
      simp only [fbr]
      rw [if_pos ((end_y hT).mpr c0)]
    · rw [if_neg (fun z => c0 (n0.mp z))]
      obtain ⟨Y, y1, y2, y3⟩ := ref_n (k := 1) hP h (by decide) (by decide)
      obtain ⟨N, e1, e2⟩ := err_n (k := 1) h.2.2.2.2
      have ew : F_Gb_within (nI (cdA L i)) 200 202 X = 0 := within_0.mpr (fun z => w2 ⟨Classical.byContradiction fun q => nI_ge (b := 200) (a := cdA L i) (by omega) (by decide) z.1, Classical.byContradiction fun q => nI_ge (b := cdA L i) (a := 202) (by omega) (by omega) z.2⟩)
      have eo : F_Rd_openLine (nI k) (F_Gb_within (nI (cdA L i)) 200 202 X) X = some Y := by
        unfold F_Rd_openLine
        rw [if_pos ew, show F_Rd_refuse 1 X = some Y from y1, fbd_s]
      obtain ⟨Y2, g1, g2⟩ := fin _ _ Y (nI (cdA L i) - 200) y2
      rw [eo, fbd_s]
      simp only [fbr]
      rw [if_neg (fun z => c0 ((end_y hT).mp z)), show F_Mo_errs 1 M = some (-1, N) from e1]
      exact Or.inr ⟨Y2, N, _, _, g1, rfl, g2, e2⟩
  · have hk16 : k = 16 := hc.resolve_left (fun z => z ⟨by omega, by omega⟩)
    subst hk16
    rw [if_neg w1, if_pos (show nI 16 = 16 from rfl), if_neg (fun z => by have := n0.mp z; omega)]
    obtain ⟨Y, y1, y2, y3⟩ := ref_n (k := 3) hP h (by decide) (by decide)
    obtain ⟨N, e1, e2⟩ := err_n (k := 3) h.2.2.2.2
    have eo : F_Rd_openLine (nI 16) (F_Gb_within (nI (cdA L i)) 200 202 X) X = some Y := by
      unfold F_Rd_openLine
      rw [if_neg (show ¬ F_Gb_within (nI (cdA L i)) 200 202 X = 0 from fun z => within_0.mp z ⟨nI_le (a := 200) (by omega) (by omega), nI_le (b := 202) (by omega) (by decide)⟩), if_neg (by decide), show F_Rd_refuse 3 X = some Y from y1, fbd_s]
    obtain ⟨Y2, g1, g2⟩ := fin _ _ Y (nI (cdA L i) - 200) y2
    rw [eo, fbd_s, show F_Mo_errs 3 M = some (-1, N) from e1]
    exact Or.inr ⟨Y2, N, _, _, g1, rfl, g2, e2⟩
theorem law_l (hP : PC T len L X0 M0) : ∀ m k f f' i P X M, PS T len L X0 M0 i X M → EX P X → EM (gMl P) M → (gMl P).length ≤ i → M 0 28 = nI 0 → X 114 4 = nI k → X 117 (2 * k) = nI P.length → LNs k P X M → k + m = 16 → m + 1 < f → m + 1 < f' → LO X0 M0 GL (L_Rd_readLaw_13 f (nI k) X) (RLf f' (nI k) M) := by
  have hn := hP.1
  intro m
  induction m with
  | zero =>
    intro k f f' i P X M h hX hM hl h28 h4 h117 hL hm hf hf'
    exact law_h hP (by omega) h hX hM hl h4 hL (Or.inr (by omega)) hf (by omega)
  | succ m ih =>
    intro k f f' i P X M h hX hM hl h28 h4 h117 hL hm hf hf'
    have hT := h.2.2.2.2.2.2.2
    have hb := hT.b
    have hil := h.2.1
    rcases lwd_n hT with ⟨w1, w2⟩ | ⟨w1, w, w2, w3, w4⟩
    · exact law_h hP (by omega) h hX hM hl h4 hL (Or.inl w2) (by omega) (by omega)
    · obtain ⟨f, rfl⟩ : ∃ g, f = g + 1 := ⟨f - 1, by omega⟩
      obtain ⟨f', rfl⟩ : ∃ g, f' = g + 1 := ⟨f' - 1, by omega⟩
      have hk : k < 16 := by omega
      have n0 : ¬ nI (cdA L i) = 0 := fun z => by have := (nI_eq (b := 0) (by omega) (by decide)).mp z; omega
      -- the line's word
      obtain ⟨X1, hX1⟩ : ∃ Z, Z = mw X 111 6 (nI (i + 1)) := ⟨_, rfl⟩
      have eo : F_Rd_openLine (nI k) (F_Gb_within (nI (cdA L i)) 200 202 X) X = some X1 := by
        unfold F_Rd_openLine
        rw [if_neg (show ¬ F_Gb_within (nI (cdA L i)) 200 202 X = 0 from fun z => within_0.mp z ⟨nI_le (a := 200) (by omega) (by omega), nI_le (b := 202) (by omega) (by decide)⟩), if_pos (show nI k < 16 from nI_lt (b := 16) hk (by decide)), fstf_d, h.2.2.1, nI_1, hX1]
      have ewd : nI (cdA L i) - 200 = nI w := by rw [w3]; exact (pk_sub (b := 200) (by omega)).trans (congrArg nI (by omega))
      have h1 : PS T len L X0 M0 i X (mw M 12 (32 + k) (nI w)) := h.m (by omega) (by omega)
      obtain ⟨N2, a1, a2, a3, a4⟩ := adv_n hP h1 (cd_pos (by omega))
      rw [← hX1] at a2
      have E2 : EM (gMl P) N2 := (hM.m (c := 12) (j := 32 + k) (v := nI w) (by omega)).t a3 a4
      have h3 : PS T len L X0 M0 (i + 1) X1 (mw N2 13 (32 + k) (nI (gMl P).length)) := a2.m (by omega) (by omega)
      have E3 : EM (gMl P) (mw N2 13 (32 + k) (nI (gMl P).length)) := E2.m (by omega)
      have EX1 : EX P X1 := by rw [hX1]; exact hX.r
      have XQ1 : XQ X X1 := by rw [hX1]; exact XQ.same.r
      have e28 : N2 0 28 = nI 0 := by rw [a4 28 (by decide) (by decide) (by decide) (by decide), mw_ne (by decide)]; exact h28
      simp only [L_Rd_readLaw_13, RLf, L_Mo_readLaw_2]
      rw [if_neg (show ¬ 16 < nI k from nI_nlt (a := 16) (by omega) (by decide)), if_pos h.2.2.2.1.1, now_n hP h, fbd_s, fbd_s, fbd_s, if_neg n0, if_neg w1, if_neg (show ¬ nI k = 16 from fun z => by have := (nI_eq (b := 16) (by omega) (by decide)).mp z; omega), eo, fbd_s, ewd, w4, show (32 : Int32) + nI k = nI (32 + k) from nI_add 32 k, fsto_n (by omega) (by decide), a1, fbd_s, E2.1, fsto_n (by omega) (by decide)]
      rcases sum_n hP h3 EX1 E3 (by omega) with ⟨i2, p, Y, N4, u1, u2, u3, u4, u5, u6, u7, u8, u9, u10⟩ | ⟨Y, N4, j, q, u1, u2, u3, u4⟩
      · have hi2 := u3.2.1
        have h5 : PS T len L X0 M0 i2 Y (mw N4 14 (32 + k) (nI (gMl (P ++ p)).length)) := u3.m (by omega) (by omega)
        have E5 : EM (gMl (P ++ p)) (mw N4 14 (32 + k) (nI (gMl (P ++ p)).length)) := u5.m (by omega)
        have hT5 := h5.2.2.2.2.2.2.2
        have hb5 := hT5.b
        have w215 : F_Mo_isWord 3 (mw N4 14 (32 + k) (nI (gMl (P ++ p)).length)) = if cdA L i2 = 215 then 1 else 0 := word_n (w := 3) hT5 (by decide)
        have n215 : nI (cdA L i2) = 215 ↔ cdA L i2 = 215 := nI_eq (b := 215) (by omega) (by decide)
        have hgp : (gMl (P ++ p)).length = (gMl P).length + (gMl p).length := by rw [gMl_app, List.length_append]
        have e28b : mw N4 14 (32 + k) (nI (gMl (P ++ p)).length) 0 28 = nI 0 := by rw [mw_ne (by decide), u9.2.1, mw_ne (by decide)]; exact e28
        -- 12 .. 15
        have c12 : mw N4 14 (32 + k) (nI (gMl (P ++ p)).length) 12 = upd (M 12) (32 + k) (nI w) := by rw [mw_ne (by decide), u9.2.2.2 12 (by decide) (by decide), mw_ne (by decide), a3 12 (by decide), mw_eq]
        have c13 : mw N4 14 (32 + k) (nI (gMl (P ++ p)).length) 13 = upd (M 13) (32 + k) (nI (gMl P).length) := by rw [mw_ne (by decide), u9.2.2.2 13 (by decide) (by decide), mw_eq, a3 13 (by decide), mw_ne (by decide)]
        have c14 : mw N4 14 (32 + k) (nI (gMl (P ++ p)).length) 14 = upd (M 14) (32 + k) (nI (gMl (P ++ p)).length) := by rw [mw_eq, u9.2.2.2 14 (by decide) (by decide), mw_ne (by decide), a3 14 (by decide), mw_ne (by decide)]
        have c15 : mw N4 14 (32 + k) (nI (gMl (P ++ p)).length) 15 = M 15 := by rw [mw_ne (by decide), u9.2.2.2 15 (by decide) (by decide), mw_ne (by decide), a3 15 (by decide), mw_ne (by decide)]
        obtain ⟨N5, hN5⟩ : ∃ Z, Z = mw N4 14 (32 + k) (nI (gMl (P ++ p)).length) := ⟨_, rfl⟩
        rw [← hN5] at h5 E5 w215 e28b c12 c13 c14 c15
        -- the line's end
        have fin : ∀ i' q Y2 N, PS T len L X0 M0 i' Y2 N → EX (P ++ p ++ q) Y2 → EM (gMl (P ++ p ++ q)) N → (gMl (P ++ p ++ q)).length ≤ i' → N 0 28 = nI 0 → XQ Y Y2 → MQc N5 N → (q = [] ∨ gTy q [] = some [true]) → LO X0 M0 GL (J_Rd_readLaw_104 (L_Rd_readLaw_13 f) (nI k) (nI w) (Y 114 1) Y2) (fbr (J_Mo_readLaw_92 (L_Mo_readLaw_2 f') (nI k) (nI (32 + k)) N) (fun (o16, I17) => if (I17 0 16) = 0 then some (o16, I17) else fbd (F_Mo_errs 1 I17) fun (r21, I20) => some (r21, I20)) (fun (q18, I19) => some (q18, I19))) := by
          intro i' q Y2 N g1 g2 g3 g4 g5 g6 g7 g8
          have gm : PS T len L X0 M0 i' Y2 (mw N 15 (32 + k) (nI (gMl (P ++ p ++ q)).length)) := g1.m (by omega) (by omega)
          have hT6 := gm.2.2.2.2.2.2.2
          have s59 : F_Mo_isSign 59 (mw N 15 (32 + k) (nI (gMl (P ++ p ++ q)).length)) = if cdA L i' = 59 then 1 else 0 := sign_n (s := 59) hT6 (by decide)
          unfold J_Rd_readLaw_104 J_Mo_readLaw_92
          rw [g3.1, fsto_n (by omega) (by decide), s59]
          by_cases c : cdA L i' = 59
          · obtain ⟨N7, b1, b2, b3, b4⟩ := adv_n hP gm (cd_pos (by omega))
            obtain ⟨Y3, hY3⟩ : ∃ Z, Z = mw Y2 111 6 (nI (i' + 1)) := ⟨_, rfl⟩
            rw [← hY3] at b2
            have y4 : Y3 114 4 = nI k := by rw [hY3, mw_ne (by decide), g6.2.2 4 (by decide), u8.2.2 4 (by decide), XQ1.2.2 4 (by decide)]; exact h4
            have y1 : Y3 114 1 = nI (P ++ p ++ q).length := by rw [hY3, mw_ne (by decide)]; exact g2.1
            have y116 : Y3 116 = X 116 := by rw [hY3, mw_ne (by decide), g6.1, u8.1, XQ1.1]
            have y117 : Y3 117 = X 117 := by rw [hY3, mw_ne (by decide), g6.2.1, u8.2.1, XQ1.2.1]
            have y115 : EX (P ++ p ++ q) Y3 := by rw [hY3]; exact g2.r
            rw [show F_Rd_take 59 Y2 = some Y3 by rw [hY3]; exact take_t (k := 59) hP g1 c, fbd_s, addl y4 hk, fbd_s, if_pos c, if_neg (show ¬ (1 : Int32) = 0 by decide), b1, fbd_s, nI_1, u4.1, y1]
            obtain ⟨Z, hZ⟩ : ∃ Z, Z = mw (mw (mw (mw Y3 116 k (nI w)) 117 (2 * k + 1) (nI (P ++ p).length)) 117 (2 * k + 2) (nI (P ++ p ++ q).length)) 114 4 (nI (k + 1)) := ⟨_, rfl⟩
            rw [← hZ]
            have z111 : Z 111 = Y3 111 := by rw [hZ, mw_ne (by decide), mw_ne (by decide), mw_ne (by decide), mw_ne (by decide)]
            have z116 : Z 116 = upd (X 116) k (nI w) := by rw [hZ, mw_ne (by decide), mw_ne (by decide), mw_ne (by decide), mw_eq, y116]
            have z117 : Z 117 = upd (upd (X 117) (2 * k + 1) (nI (P ++ p).length)) (2 * k + 2) (nI (P ++ p ++ q).length) := by rw [hZ, mw_ne (by decide), mw_eq, mw_eq, mw_ne (by decide), y117]
            have zX : EX (P ++ p ++ q) Z := ⟨by rw [hZ, mw_eq, pk_un (by decide), mw_ne (by decide), mw_ne (by decide), mw_ne (by decide)]; exact y115.1, by rw [hZ, mw_ne (by decide), mw_ne (by decide), mw_ne (by decide), mw_ne (by decide)]; exact y115.2⟩
            have zF : XF X0 Z := by
              rw [hZ]
              refine b2.1.d (fun c hc => by rw [mw_ne (by omega), mw_ne (by omega), mw_ne (by omega), mw_ne (by omega)]) ?_ ?_
              · rw [mw_ne (by decide), mw_eq, pk_un (by omega), mw_eq, pk_un (by omega), mw_ne (by decide)]
              · rw [mw_ne (by decide), mw_ne (by decide), mw_ne (by decide), mw_ne (by decide)]
            have d12 : N7 12 = upd (M 12) (32 + k) (nI w) := by rw [b3 12 (by decide), mw_ne (by decide), g7 12 (by decide) (by decide)]; exact c12
            have d13 : N7 13 = upd (M 13) (32 + k) (nI (gMl P).length) := by rw [b3 13 (by decide), mw_ne (by decide), g7 13 (by decide) (by decide)]; exact c13
            have d14 : N7 14 = upd (M 14) (32 + k) (nI (gMl (P ++ p)).length) := by rw [b3 14 (by decide), mw_ne (by decide), g7 14 (by decide) (by decide)]; exact c14
            have d15 : N7 15 = upd (M 15) (32 + k) (nI (gMl (P ++ p ++ q)).length) := by rw [b3 15 (by decide), mw_eq, g7 15 (by decide) (by decide), c15]
            refine ih (k + 1) f f' (i' + 1) (P ++ p ++ q) Z N7 (b2.eX zF z111) zX ((g3.m (by omega)).t b3 b4) (by omega) (by rw [b4 28 (by decide) (by decide) (by decide) (by decide), mw_ne (by decide)]; exact g5) (by rw [hZ, mw_eq, pk_us]) ?_ ?_ (by omega) (by omega) (by omega)
            · rw [z117, show 2 * (k + 1) = 2 * k + 2 by omega, pk_us]
            · intro l hl2
              rw [z116, z117, d12, d13, d14, d15]
              by_cases e : l = k
              · subst e
                refine ⟨p, q, P, [], by rw [List.append_nil], by rw [pk_us, pk_us], by rw [pk_un (by omega), pk_un (by omega)]; exact h117, by rw [pk_un (by omega), pk_us, List.length_append], by rw [pk_us, List.length_append, List.length_append], by rw [pk_us], by rw [pk_us, hgp], by rw [pk_us, gMl_app, List.length_append, hgp], u10 [] (by decide), g8⟩
              · obtain ⟨p', q', P1, P2, k1, k2, k3, k4, k5, k6, k7, k8, k9, k10⟩ := hL l (by omega)
                refine ⟨p', q', P1, P2 ++ p ++ q, by rw [k1]; simp only [List.append_assoc], by rw [pk_un (by omega), pk_un (by omega)]; exact k2, by rw [pk_un (by omega), pk_un (by omega)]; exact k3, by rw [pk_un (by omega), pk_un (by omega)]; exact k4, by rw [pk_un (by omega), pk_un (by omega)]; exact k5, by rw [pk_un (by omega)]; exact k6, by rw [pk_un (by omega)]; exact k7, by rw [pk_un (by omega)]; exact k8, k9, k10⟩
          · obtain ⟨Y3, y1, y2, y3⟩ := take_f (k := 59) hP g1 c (by decide)
            obtain ⟨N7, e1, e2⟩ := err_n (k := 1) gm.2.2.2.2
            obtain ⟨Y4, z1, z2⟩ := addl_e y2 (nI w) (Y 114 1)
            rw [show F_Rd_take 59 Y2 = some Y3 from y1, fbd_s, z1, fbd_s, if_neg c, if_pos rfl, show F_Mo_errs 1 (mw N 15 (32 + k) (nI (gMl (P ++ p ++ q)).length)) = some (-1, N7) from e1, ll_e (by omega) _ z2]
            exact Or.inr ⟨Y4, N7, _, _, rfl, rfl, z2, e2⟩
        rw [u1, u2]
        simp only [fbd_s]
        rw [if_neg (show ¬ (0 : Int32) = -1 by decide), u5.1, fsto_n (by omega) (by decide), ← hN5, if_pos u3.2.2.2.1.1, now_n hP u3, fbd_s, w215]
        by_cases c : cdA L i2 = 215
        · rw [if_pos (n215.mpr c), if_pos c, if_neg (show ¬ (1 : Int32) = 0 by decide), fstf_d, u3.2.2.1, nI_1]
          obtain ⟨N6, b1, b2, b3, b4⟩ := adv_n hP h5 (cd_pos (by omega))
          rw [b1, fbd_s]
          unfold F_Mo_readAny F_Rd_readCondition
          rw [fstf_d]
          have hC : CIn T len L X0 M0 0 [] (P ++ p) (i2 + 1) (mw Y 111 6 (nI (i2 + 1))) (mw N6 0 30 0) := by
            refine ⟨b2.w (b2.2.2.2.2.1.z (by omega)) (fun j hj => by rw [mw_eq, pk_un hj]), u4.r, (E5.t b3 b4).w (fun j hj => by rw [mw_eq, pk_un hj]) (fun c c0 _ => by rw [mw_ne c0]), by omega, ⟨by rw [mw_eq, pk_us]; rfl, fun j x hj => by cases hj⟩, by rw [mw_eq, pk_un (by decide), b4 28 (by decide) (by decide) (by decide) (by decide)]; exact e28b⟩
          have mq6 : MQc N5 (mw N6 0 30 0) := fun c h1 h2 => by rw [mw_ne (by omega), b3 c (by omega)]
          rcases cond_all hP 8 0 (by omega) 0 (by omega) (by omega) 40 5000 0 (i2 + 1) [] (P ++ p) _ _ (by omega) hC (by decide) (by decide) (by decide) (by decide) (by omega) (by omega) with ⟨i3, q, Y2, N7, f9, v1, v2, v3, v4, v5, v6, v7, v8, v9⟩ | ⟨Y2, N7, j, q, v1, v2, v3, v4⟩
          · obtain ⟨k1, k2, k3, k4, k5, k6⟩ := v3
            have v2' : L_Mo_readAny_9 5000 0 1 (mw N6 0 30 0) = some (.inr (0, N7)) := v2.trans (if_pos rfl)
            rw [show F_Rd_rec 40 true 0 (mw Y 111 6 (nI (i2 + 1))) = some Y2 from v1, fbd_s, v2']
            simp only [fbr, fbd_s]
            rw [if_neg (show ¬ (0 : Int32) = -1 by decide)]
            exact fin i3 q Y2 N7 k1 k2 k3 k4 k6 (XQ.same.r.trans v7) (mq6.trans v8) (Or.inr (v9 [] (by decide)))
          · have v2' : L_Mo_readAny_9 5000 0 1 (mw N6 0 30 0) = some (.inr (-1, N7)) := v2
            obtain ⟨Y4, z1, z2⟩ := j104_e hP (f := f) (by omega) v3 (nI k) (nI w) (Y 114 1)
            rw [show F_Rd_rec 40 true 0 (mw Y 111 6 (nI (i2 + 1))) = some Y2 from v1, fbd_s, v2', z1]
            simp only [fbr, fbd_s]
            rw [if_pos True.intro]
            exact Or.inr ⟨Y4, N7, j, q, rfl, rfl, z2, v4⟩
        · rw [if_neg (fun z => c (n215.mp z)), if_neg c, if_pos rfl]
          exact fin i2 [] Y N5 h5 (by rw [List.append_nil]; exact u4) (by rw [List.append_nil]; exact E5) (by rw [List.append_nil]; omega) e28b XQ.same MQc.same (Or.inl rfl)
      · obtain ⟨Y4, z1, z2⟩ := j104_e hP (f := f) (by omega) u3 (nI k) (nI w) (Y 114 1)
        rw [u1, u2]
        simp only [fbd_s]
        rw [if_neg u3.f, z1, if_pos True.intro]
        exact Or.inr ⟨Y4, N4, j, q, rfl, rfl, z2, u4⟩
end LAWTEXT
