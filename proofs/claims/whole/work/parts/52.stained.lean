/-! stained. -/
def runS (st : Nat → Nat) : Nat → Nat → Nat
  | 0, _ => 0
  | m + 1, i => if st i = 0 then 0 else st i + runS st m (i + 1)
theorem runS_le {st : Nat → Nat} (h : ∀ i, i < 12 → st i ≤ 999) : ∀ m i, i + m = 12 → runS st m i ≤ 999 * m := by
  intro m
  induction m with
  | zero => intro i _; exact Nat.zero_le _
  | succ m ih =>
    intro i hi
    have h1 := h i (by omega)
    have h2 := ih (i + 1) (by omega)
    show (if st i = 0 then 0 else st i + runS st m (i + 1)) ≤ _
    split <;> omega
def gI (x : Nat) : Int32 := if x = 0 then -1 else nI x
theorem gI_le {S x : Nat} (h0 : 0 < S) (h1 : S < 2 ^ 31) (h2 : x < 2 ^ 31) : nI S ≤ gI x ↔ S ≤ x := by
  unfold gI
  by_cases c : x = 0
  · rw [if_pos c, Int32.le_iff_toInt_le, nI_toInt h1, show (-1 : Int32).toInt = -1 from rfl]; omega
  · rw [if_neg c, nI_leI h1 h2]
theorem greater_g {x T : Nat} {I : gb_Mem} (h0 : 0 < T) (h1 : T < 2 ^ 31) (h2 : x < 2 ^ 31) : F_Mo_greater (gI x) (nI T) I = gI (max x T) := by
  unfold gI
  by_cases c : x = 0
  · subst c
    rw [if_pos rfl, if_neg (by omega), Nat.max_eq_right (by omega)]
    unfold F_Mo_greater
    rw [if_pos]
    rw [Int32.le_iff_toInt_le, nI_toInt h1, show (-1 : Int32).toInt = -1 from rfl]; omega
  · rw [if_neg c, if_neg (by omega), greater_n h2 h1]
theorem st_run {I1 : gb_Mem} {st : Nat → Nat} (h : ∀ i, i < 12 → I1 1 (18 + i) = nI (st i) ∧ st i ≤ 999) (x1 x2 x3 x4 x6 : Int32) : ∀ m i f acc, i + m = 12 → m < f → L_Mo_stained_87 x1 x2 x3 x4 x6 I1 f (nI acc) (nI i) = some (nI (acc + runS st m i)) := by
  intro m
  induction m with
  | zero =>
    intro i f acc hi hf
    obtain ⟨f, rfl⟩ : ∃ g, f = g + 1 := ⟨f - 1, by omega⟩
    simp only [L_Mo_stained_87]
    rw [show (12 : Int32) = nI 12 from rfl, if_pos (nI_le (by omega) (by omega))]; rfl
  | succ m ih =>
    intro i f acc hi hf
    obtain ⟨f, rfl⟩ : ∃ g, f = g + 1 := ⟨f - 1, by omega⟩
    obtain ⟨e, hs⟩ := h i (by omega)
    simp only [L_Mo_stained_87]
    rw [if_neg (show ¬ 12 ≤ nI i from nI_ge (b := 12) (by omega) (by omega)), show (18 : Int32) + nI i = nI (18 + i) from nI_add 18 i, flod_n (by omega) (by decide), flod_n (by omega) (by decide), e]
    show _ = some (nI (acc + if st i = 0 then 0 else st i + runS st m (i + 1)))
    by_cases c : st i = 0
    · rw [if_pos c, c, if_pos (by decide)]; rfl
    · rw [if_neg c, if_neg (nI_nle (by omega) (by omega)), nI_add, nI_1, ih (i + 1) f _ (by omega) (by omega), Nat.add_assoc]
def sRel (st : Nat → Nat) (i m : Nat) (x3 x4 x5 x6 y3 y4 : Int32) : Prop :=
  ((i = 0 ∨ st (i - 1) = 0) ∧ x5 = 0 ∧ ∃ x : Nat, x < 20000 ∧ x3 = gI x ∧ y3 = gI x ∧ x4 = y4) ∨
  (0 < i ∧ 0 < st (i - 1) ∧ ∃ (x0 S b : Nat) (f0 : Int32), 0 < S ∧ S ≤ 999 * i ∧ x0 < 20000 ∧ x5 = nI S ∧ x6 = nI b ∧ x3 = gI (max x0 S) ∧ x4 = (if S ≤ x0 then f0 else nI b) ∧ y3 = gI (max x0 (S + runS st m i)) ∧ y4 = (if S + runS st m i ≤ x0 then f0 else nI b))
theorem st_all {IX I1 : gb_Mem} {st : Nat → Nat} (h : ∀ i, i < 12 → I1 1 (18 + i) = nI (st i) ∧ st i ≤ 999) (hX : ∀ i, i < 12 → IX 3 (48 + i) = nI (st i)) (x1 y1 : Int32) : ∀ m i fX fM n x3 x4 x5 x6 y3 y4, i + m = 12 → m < fX → m < fM → sRel st i m x3 x4 x5 x6 y3 y4 →
    ∃ r1 r2 r3, L_Se_stainsJoined_16 x1 IX fX n x3 x4 x5 x6 (nI i) = some (r1, r2, r3) ∧ L_Mo_stained_30 y1 I1 fM n y3 y4 (nI i) = some (r1, r2, r3) := by
  intro m
  induction m with
  | zero =>
    intro i fX fM n x3 x4 x5 x6 y3 y4 hi h1 h2 hr
    obtain ⟨fX, rfl⟩ : ∃ g, fX = g + 1 := ⟨fX - 1, by omega⟩
    obtain ⟨fM, rfl⟩ : ∃ g, fM = g + 1 := ⟨fM - 1, by omega⟩
    have e : x3 = y3 ∧ x4 = y4 := by
      rcases hr with ⟨-, -, x, -, g1, g2, g3⟩ | ⟨-, -, x0, S, b, f0, -, -, -, -, -, g3, g4, g5, g6⟩
      · exact ⟨g1.trans g2.symm, g3⟩
      · exact ⟨g3.trans g5.symm, g4.trans g6.symm⟩
    obtain ⟨rfl, rfl⟩ := e
    refine ⟨n, x3, x4, ?_, ?_⟩
    · simp only [L_Se_stainsJoined_16]
      rw [show (12 : Int32) = nI 12 from rfl, if_pos (nI_le (by omega) (by omega))]
    · simp only [L_Mo_stained_30]
      rw [show (12 : Int32) = nI 12 from rfl, if_pos (nI_le (by omega) (by omega))]
  | succ m ih =>
    intro i fX fM n x3 x4 x5 x6 y3 y4 hi h1 h2 hr
    obtain ⟨fX, rfl⟩ : ∃ g, fX = g + 1 := ⟨fX - 1, by omega⟩
    obtain ⟨fM, rfl⟩ : ∃ g, fM = g + 1 := ⟨fM - 1, by omega⟩
    obtain ⟨e, hs⟩ := h i (by omega)
    have hru := runS_le (fun i hi => (h i hi).2) m (i + 1) (by omega)
    simp only [L_Se_stainsJoined_16, L_Mo_stained_30, J_Se_stainsJoined_55, J_Se_stainsJoined_69, J_Se_stainsJoined_89, J_Mo_stained_151, J_Mo_stained_141, J_Mo_stained_128, J_Mo_stained_76, flt_d]
    rw [if_neg (show ¬ 12 ≤ nI i from nI_ge (b := 12) (by omega) (by omega)), if_neg (show ¬ 12 ≤ nI i from nI_ge (b := 12) (by omega) (by omega)), show (18 : Int32) + nI i = nI (18 + i) from nI_add 18 i, flod_n (by omega) (by decide), e, show F_Ta_ofSeat 2 4 (nI i) IX = some (nI (st i)) from (ofSeat_n (w := 4) (by decide) (by omega)).trans (congrArg some (hX i (by omega))), fbd_s, nI_1]
    by_cases c : st i = 0
    · have cz : nI (st i) = 0 := by rw [c]; rfl
      simp only [cz]
      rw [if_pos (show (0 : Int32) ≤ 0 by decide), if_pos (show (0 : Int32) ≤ 0 by decide), if_pos (show (0 : Int32) ≤ 0 by decide), if_pos True.intro]
      refine ih (i + 1) fX fM n x3 x4 0 x6 y3 y4 (by omega) (by omega) (by omega) (Or.inl ⟨Or.inr (by rw [Nat.add_sub_cancel]; exact c), rfl, ?_⟩)
      rcases hr with ⟨-, -, x, g0, g1, g2, g3⟩ | ⟨-, -, x0, S, b, f0, s1, s2, s3, -, -, g3, g4, g5, g6⟩
      · exact ⟨x, g0, g1, g2, g3⟩
      · have rz : runS st (m + 1) i = 0 := by show (if st i = 0 then 0 else _) = 0; rw [if_pos c]
        rw [rz] at g5 g6
        exact ⟨max x0 S, by omega, g3, g5, g4.trans g6.symm⟩
    · have rs : runS st (m + 1) i = st i + runS st m (i + 1) := by show (if st i = 0 then 0 else _) = _; rw [if_neg c]
      have cp : ¬ nI (st i) ≤ 0 := nI_nle (by omega) (by omega)
      rw [if_neg cp, if_neg cp, if_neg cp, if_neg (nI_ne0 (by omega) (by omega))]
      rcases hr with ⟨g7, rfl, x, g0, rfl, rfl, rfl⟩ | ⟨p1, p2, x0, S, b, f0, s1, s2, s3, rfl, rfl, rfl, rfl, rfl, rfl⟩
      · rw [if_pos rfl, show (0 : Int32) + nI (st i) = nI (st i) from (nI_add 0 (st i)).trans (congrArg nI (Nat.zero_add _)), if_neg cp]
        have hX3 : ∀ n2, (if nI (st i) ≤ gI x then L_Se_stainsJoined_16 x1 IX fX n2 (gI x) x4 (nI (st i)) (nI i) (nI (i + 1)) else L_Se_stainsJoined_16 x1 IX fX n2 (nI (st i)) (nI i) (nI (st i)) (nI i) (nI (i + 1))) = L_Se_stainsJoined_16 x1 IX fX n2 (gI (max x (st i))) (if st i ≤ x then x4 else nI i) (nI (st i)) (nI i) (nI (i + 1)) := by
          intro n2
          by_cases d : st i ≤ x
          · rw [if_pos ((gI_le (by omega) (by omega) (by omega)).mpr d), if_pos d, Nat.max_eq_left d]
          · rw [if_neg (fun q => d ((gI_le (by omega) (by omega) (by omega)).mp q)), if_neg d, Nat.max_eq_right (by omega)]
            unfold gI
            rw [if_neg c]
        rw [hX3]
        have hM3 : ∀ T, 0 < T → T < 2 ^ 31 → ∀ n2, (if nI T ≤ gI x then L_Mo_stained_30 y1 I1 fM n2 (F_Mo_greater (gI x) (nI T) I1) x4 (nI (i + 1)) else L_Mo_stained_30 y1 I1 fM n2 (F_Mo_greater (gI x) (nI T) I1) (nI i) (nI (i + 1))) = L_Mo_stained_30 y1 I1 fM n2 (gI (max x T)) (if T ≤ x then x4 else nI i) (nI (i + 1)) := by
          intro T hT0 hT1 n2
          rw [greater_g hT0 hT1 (by omega)]
          by_cases d : T ≤ x
          · rw [if_pos ((gI_le (by omega) (by omega) (by omega)).mpr d), if_pos d]
          · rw [if_neg (fun q => d ((gI_le (by omega) (by omega) (by omega)).mp q)), if_neg d]
        have hgo : ∃ r1 r2 r3, L_Se_stainsJoined_16 x1 IX fX (n + 1) (gI (max x (st i))) (if st i ≤ x then x4 else nI i) (nI (st i)) (nI i) (nI (i + 1)) = some (r1, r2, r3) ∧ L_Mo_stained_30 y1 I1 fM (n + 1) (gI (max x (st i + runS st m (i + 1)))) (if st i + runS st m (i + 1) ≤ x then x4 else nI i) (nI (i + 1)) = some (r1, r2, r3) := by
          refine ih (i + 1) fX fM (n + 1) _ _ _ _ _ _ (by omega) (by omega) (by omega) (Or.inr ⟨by omega, by rw [Nat.add_sub_cancel]; omega, x, st i, i, x4, by omega, by omega, g0, rfl, rfl, rfl, rfl, rfl, rfl⟩)
        have run9 : ∀ a b d e9, L_Mo_stained_87 a b d e9 (nI i) I1 5000 0 (nI i) = some (nI (st i + runS st m (i + 1))) := by
          intro a b d e9
          have := st_run h a b d e9 (nI i) (m + 1) i 5000 0 (by omega) (by omega)
          rw [rs, Nat.zero_add] at this
          exact this
        rw [run9, fbd_s, hM3 _ (by omega) (by omega)]
        rcases g7 with rfl | g7
        · rw [if_pos (show nI 0 ≤ 0 by decide)]; exact hgo
        · cases i with
          | zero => rw [if_pos (show nI 0 ≤ 0 by decide)]; exact hgo
          | succ i =>
            rw [if_neg (nI_nle (by omega) (by omega)), show nI (18 + (i + 1)) - 1 = nI (18 + i) from nI_pred (18 + i), flod_n (by omega) (by decide), (h i (by omega)).1]
            rw [Nat.add_sub_cancel] at g7
            rw [g7, if_pos (show nI 0 ≤ 0 by decide)]; exact hgo
      · rw [if_neg (nI_ne0 s1 (by omega)), nI_add, if_neg (nI_nle (by omega) (by omega))]
        have hX3 : (if nI (S + st i) ≤ gI (max x0 S) then L_Se_stainsJoined_16 x1 IX fX n (gI (max x0 S)) (if S ≤ x0 then f0 else nI b) (nI (S + st i)) (nI b) (nI (i + 1)) else L_Se_stainsJoined_16 x1 IX fX n (nI (S + st i)) (nI b) (nI (S + st i)) (nI b) (nI (i + 1))) = L_Se_stainsJoined_16 x1 IX fX n (gI (max x0 (S + st i))) (if S + st i ≤ x0 then f0 else nI b) (nI (S + st i)) (nI b) (nI (i + 1)) := by
          by_cases d : S + st i ≤ x0
          · rw [if_pos ((gI_le (by omega) (by omega) (by omega)).mpr (by omega)), if_pos (show S ≤ x0 by omega), if_pos d, Nat.max_eq_left (show S ≤ x0 by omega), Nat.max_eq_left d]
          · rw [if_neg (fun q => d (by have := (gI_le (by omega) (by omega) (by omega)).mp q; omega)), if_neg d, Nat.max_eq_right (show x0 ≤ S + st i by omega)]
            unfold gI
            rw [if_neg (by omega)]
        rw [hX3]
        obtain ⟨j, rfl⟩ : ∃ j, i = j + 1 := ⟨i - 1, by omega⟩
        rw [Nat.add_sub_cancel] at p2
        have p3 := (h j (by omega)).2
        rw [if_neg (nI_nle (by omega) (by omega)), show nI (18 + (j + 1)) - 1 = nI (18 + j) from nI_pred (18 + j), flod_n (by omega) (by decide), (h j (by omega)).1, if_neg (nI_nle p2 (by omega)), rs, ← Nat.add_assoc]
        exact ih (j + 1 + 1) fX fM n _ _ _ _ _ _ (by omega) (by omega) (by omega) (Or.inr ⟨by omega, by rw [Nat.add_sub_cancel]; omega, x0, S + st (j + 1), b, f0, by omega, by omega, s3, rfl, rfl, rfl, rfl, rfl, rfl⟩)
theorem sim_stained : S_stained GInv := by
  intro x1 IX IM h
  have h9 := ginv_told (v := 0) h
  generalize hI : mw IM 0 0 0 = I1 at h9
  obtain ⟨hT, hR, hBk, hLw, hVo, hDi, hRe, hNe, hFa, hCo, hFl, hGi, hSp, hRp, hJa⟩ := h9.2.2.1
  simp only [F_Mo_stained, fstf_d, hI, isIn_within _ _ _ I1 IX, F_Gb_stained, fbd_i]
  by_cases c1 : F_Gb_within x1 0 2 IX = 0
  · exact ⟨-1, IX, I1, ⟨by rw [if_pos c1], rfl⟩, by rw [if_pos c1], h9⟩
  rw [if_neg c1, if_neg c1]
  have hs : ∀ i, i < 12 → I1 1 (18 + i) = nI (I1 1 (18 + i)).toNatClampNeg ∧ (I1 1 (18 + i)).toNatClampNeg ≤ 999 := by
    intro i hi
    obtain ⟨k, ek, hk, hk2⟩ := gIn_n (hR.2.1 i hi).2.2
    rw [ek, nI_clamp hk2]
    exact ⟨rfl, by omega⟩
  obtain ⟨r1, r2, r3, q1, q2⟩ := st_all hs (fun i hi => (hT.2.1 i hi).2.2.2.2.trans (hs i hi).1) x1 x1 12 0 5000 5000 0 (-1) (-1) 0 0 (-1) (-1) (by omega) (by omega) (by omega) (Or.inl ⟨Or.inl rfl, rfl, 0, by omega, rfl, rfl, rfl⟩)
  unfold F_Se_stainsJoined
  rw [show L_Se_stainsJoined_16 x1 IX 5000 0 (-1) (-1) 0 0 0 = _ from q1, show L_Mo_stained_30 x1 I1 5000 0 (-1) (-1) 0 = _ from q2, fbd_s, fbd_s]
  by_cases d0 : x1 = 0
  · exact ⟨r1, IX, I1, ⟨by simp only []; rw [if_pos d0], rfl⟩, by simp only []; rw [if_pos d0], h9⟩
  · by_cases d1 : x1 = 1
    · exact ⟨r2, IX, I1, ⟨by simp only []; rw [if_neg d0, if_pos d1], rfl⟩, by simp only []; rw [if_neg d0, if_pos d1], h9⟩
    · exact ⟨r3, IX, I1, ⟨by simp only []; rw [if_neg d0, if_neg d1], rfl⟩, by simp only []; rw [if_neg d0, if_neg d1], h9⟩
