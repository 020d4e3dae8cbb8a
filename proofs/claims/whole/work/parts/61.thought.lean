/-! In thought: goes, brings. -/
theorem th_l : ∀ m i f (I : gb_Mem), i + m = 80 → m < f → L_Mo_thinks_2 f (nI i) I = some (mset I 3 (fun j => if i ≤ j ∧ j < 80 then I 1 j else I 3 j)) := by
  intro m
  induction m with
  | zero =>
    intro i f I hi hf
    obtain ⟨f, rfl⟩ : ∃ g, f = g + 1 := ⟨f - 1, by omega⟩
    simp only [L_Mo_thinks_2]
    rw [if_pos (show 80 ≤ nI i from nI_le (a := 80) (by omega) (by omega)), mset_self]
    funext j
    rw [if_neg (by omega)]
  | succ m ih =>
    intro i f I hi hf
    obtain ⟨f, rfl⟩ : ∃ g, f = g + 1 := ⟨f - 1, by omega⟩
    simp only [L_Mo_thinks_2]
    rw [if_neg (show ¬ 80 ≤ nI i from nI_ge (b := 80) (by omega) (by omega)), flod_n (by omega) (by decide), fsto_n (by omega) (by decide), nI_1, ih (i + 1) f _ (by omega) (by omega), mset_mw]
    congr 2
    funext j
    rw [mw_eq, mw_ne (by decide), upd_ap]
    by_cases c : i ≤ j ∧ j < 80
    · rw [if_pos c]
      by_cases c2 : j = i
      · rw [if_neg (by omega), if_pos c2, c2]
      · rw [if_pos (by omega)]
    · rw [if_neg c, if_neg (by omega), if_neg (by omega)]
theorem et_l : ∀ m i f (I : gb_Mem), i + m = 80 → m < f → L_Mo_endsThought_2 f (nI i) I = some (mset I 1 (fun j => if i ≤ j ∧ j < 80 then I 3 j else I 1 j)) := by
  intro m
  induction m with
  | zero =>
    intro i f I hi hf
    obtain ⟨f, rfl⟩ : ∃ g, f = g + 1 := ⟨f - 1, by omega⟩
    simp only [L_Mo_endsThought_2]
    rw [if_pos (show 80 ≤ nI i from nI_le (a := 80) (by omega) (by omega)), mset_self]
    funext j
    rw [if_neg (by omega)]
  | succ m ih =>
    intro i f I hi hf
    obtain ⟨f, rfl⟩ : ∃ g, f = g + 1 := ⟨f - 1, by omega⟩
    simp only [L_Mo_endsThought_2]
    rw [if_neg (show ¬ 80 ≤ nI i from nI_ge (b := 80) (by omega) (by omega)), flod_n (by omega) (by decide), fsto_n (by omega) (by decide), nI_1, ih (i + 1) f _ (by omega) (by omega), mset_mw]
    congr 2
    funext j
    rw [mw_eq, mw_ne (by decide), upd_ap]
    by_cases c : i ≤ j ∧ j < 80
    · rw [if_pos c]
      by_cases c2 : j = i
      · rw [if_neg (by omega), if_pos c2, c2]
      · rw [if_pos (by omega)]
    · rw [if_neg c, if_neg (by omega), if_neg (by omega)]
theorem thought_go {IX IM : gb_Mem} (h : GInv IX IM) : ∃ JX JM, F_Ta_copyFrom 96 2 IX = some JX ∧ F_Mo_thinks IM = some JM ∧ GCo 96 102 JX JM ∧ JM 1 = IM 1 ∧ ∀ Z O, GSt 96 102 JX JM Z O → ∃ O2, F_Mo_endsThought O = some O2 ∧ GInv Z O2 := by
  obtain ⟨K, hK, k0, k1, k2, k3, k4⟩ := ta_copy (I := IX) 96 2 (by omega)
  obtain ⟨g, hg⟩ : ∃ g : Nat → Int32, g = fun j => if 0 ≤ j ∧ j < 80 then IM 1 j else IM 3 j := ⟨_, rfl⟩
  obtain ⟨JM, hJM⟩ : ∃ JM, JM = mw (mset IM 3 g) 0 5 1 := ⟨_, rfl⟩
  have eJ : ∀ c, c ≠ 0 → c ≠ 3 → JM c = IM c := fun c h1 h2 => by rw [hJM, mw_ne h1, mset_ne h2]
  have eJ0 : ∀ j, j ≠ 5 → JM 0 j = IM 0 j := fun j hj => by rw [hJM, mw_eq, pk_un hj, mset_ne (by decide)]
  have eJ3 : JM 3 = g := by rw [hJM, mw_ne (by decide), mset_eq]
  have eJ5 : JM 0 5 = 1 := by rw [hJM, mw_eq, pk_us]
  have eK : ∀ c, c < 96 ∨ 99 < c → K c = IX c := fun c hc => k0 c (by omega)
  have hC := ginv_gco h
  obtain ⟨cT, cR, cL, cV, cD, cH, cB⟩ := hC
  refine ⟨K, JM, hK, ?_, ⟨?_, ?_, ?_, ?_, ?_, ?_, ?_⟩, eJ 1 (by decide) (by decide), ?_⟩
  · unfold F_Mo_thinks
    rw [show (0 : Int32) = nI 0 from rfl, th_l 80 0 5000 IM (by omega) (by omega), fbd_s, fstf_d, hJM, hg]
  · rw [eJ 1 (by decide) (by decide), eJ 4 (by decide) (by decide), eJ 5 (by decide) (by decide), eJ 6 (by decide) (by decide), eJ 7 (by decide) (by decide), eJ0 6 (by decide)]
    exact cT.congr k1 k2 k3 k4 (fun _ _ => rfl)
  · rw [eJ 1 (by decide) (by decide), eJ 4 (by decide) (by decide), eJ 5 (by decide) (by decide), eJ 6 (by decide) (by decide), eJ 7 (by decide) (by decide), eJ0 6 (by decide)]
    exact cR
  · rw [eK 6 (by omega), eK 7 (by omega), eK 8 (by omega), eK 9 (by omega), eJ 11 (by decide) (by decide), eJ 12 (by decide) (by decide), eJ 13 (by decide) (by decide), eJ 14 (by decide) (by decide), eJ 15 (by decide) (by decide), eJ 16 (by decide) (by decide), eJ 17 (by decide) (by decide)]
    exact cL
  · rw [eK 11 (by omega), eK 12 (by omega), eJ0 35 (by decide), eJ 19 (by decide) (by decide)]
    exact cV
  · rw [eK 13 (by omega), eK 14 (by omega), eJ0 37 (by decide), eJ 20 (by decide) (by decide)]
    exact cD
  · rw [eK 102 (by omega), eJ5]
    exact h.1.2.2.1.2
  · intro q
    rw [eJ5] at q
    exact absurd q (by decide)
  · intro Z O hS
    obtain ⟨-, f1, f2, f3, f4, f5, f6, f7, f8⟩ := hS
    obtain ⟨p1, p2, p3, p4⟩ := f6 (by rw [eJ5]; decide)
    obtain ⟨O2, hO2⟩ : ∃ O2, O2 = mw (mset O 1 (fun j => if 0 ≤ j ∧ j < 80 then O 3 j else O 1 j)) 0 5 0 := ⟨_, rfl⟩
    refine ⟨O2, ?_, ginv_scr h (fun c hc => ?_) ?_ (fun c hc => ?_) (fun j hj => ?_)⟩
    · unfold F_Mo_endsThought
      rw [show (0 : Int32) = nI 0 from rfl, et_l 80 0 5000 O (by omega) (by omega), fbd_s, fstf_d, hO2]; rfl
    · unfold xUse at hc
      by_cases c17 : c = 17
      · rw [c17, p1, eK 17 (by omega)]
      · by_cases c18 : c = 18
        · rw [c18, p2, eK 18 (by omega)]
        · rw [f1 c (by omega) (by omega) (by omega) c17 c18 (by omega), eK c (by omega)]
    · rw [f2 4 (by decide), eK 6 (by omega)]
    · unfold mUse at hc
      obtain ⟨m0, m3, m18, m22, m23, -⟩ := hc
      rw [hO2, mw_ne m0]
      by_cases c1 : c = 1
      · subst c1
        rw [mset_eq]
        funext j
        rw [f4 3 (by decide) (by decide) (by decide) (by decide) (by decide), eJ3, hg]
        dsimp only
        by_cases q : 0 ≤ j ∧ j < 80
        · rw [if_pos q, if_pos q]
        · rw [if_neg q, f8 j (by omega), eJ 1 (by decide) (by decide)]
      · rw [mset_ne c1]
        by_cases c8 : c = 8
        · rw [c8, p3, eJ 8 (by decide) (by decide)]
        · rw [f4 c m0 c1 c8 m22 m23, eJ c m0 m3]
    · unfold oUse at hj
      rw [hO2, mw_eq, upd_ap, mset_ne (by decide)]
      by_cases q : j = 5
      · rw [if_pos q, q]; exact h.2.1.symm
      · rw [if_neg q, f5 j (by omega), eJ0 j q]
theorem go_l {x : Nat} {x2 : Int32} {X M : gb_Mem} (hx : x ≤ 60) : ∀ m i f f' Y N, GSt 96 102 X M Y N → i + m = x → m < f → m < f' → ∃ Z O, L_Gb_goes_37 (nI x) x2 f (nI i) Y = some Z ∧ L_Mo_goes_34 (nI x) x2 f' (nI i) N = some O ∧ GSt 96 102 X M Z O := by
  intro m
  induction m with
  | zero =>
    intro i f f' Y N hS hi hf hf'
    obtain ⟨f, rfl⟩ : ∃ g, f = g + 1 := ⟨f - 1, by omega⟩
    obtain ⟨f', rfl⟩ : ∃ g, f' = g + 1 := ⟨f' - 1, by omega⟩
    simp only [L_Gb_goes_37, L_Mo_goes_34]
    rw [if_pos (nI_le (by omega) (by omega)), if_pos (nI_le (by omega) (by omega))]
    exact ⟨Y, N, rfl, rfl, hS⟩
  | succ m ih =>
    intro i f f' Y N hS hi hf hf'
    obtain ⟨f, rfl⟩ : ∃ g, f = g + 1 := ⟨f - 1, by omega⟩
    obtain ⟨f', rfl⟩ : ∃ g, f' = g + 1 := ⟨f' - 1, by omega⟩
    simp only [L_Gb_goes_37, L_Mo_goes_34]
    rw [if_neg (nI_ge (by omega) (by omega)), if_neg (nI_ge (by omega) (by omega))]
    obtain ⟨r, Z, O, u1, u2, u3, -⟩ := gst_min (Or.inr ⟨rfl, rfl⟩) hS.1 (bb := 0) (by decide)
    rw [u1, u2]
    simp only [fbd_s, nI_1]
    exact ih (i + 1) f f' Z O ⟨u3.1, hS.2.trans u3.2⟩ (by omega) (by omega) (by omega)
section SUMS
variable {t h : Nat} {Y N : gb_Mem}
theorem sum_16 (hC : GCo t h Y N) : ∀ m i f f' acc, i + m = 10 → m < f → m < f' → ∃ r, L_Ta_sumOf_16 t 0 Y f acc (nI i) = some r ∧ L_Mo_sumOf_5 30 10 N f' acc (nI i) = some r := by
  intro m
  induction m with
  | zero =>
    intro i f f' acc hi hf hf'
    obtain ⟨f, rfl⟩ : ∃ g, f = g + 1 := ⟨f - 1, by omega⟩
    obtain ⟨f', rfl⟩ : ∃ g, f' = g + 1 := ⟨f' - 1, by omega⟩
    simp only [L_Ta_sumOf_16, L_Mo_sumOf_5, ↓reduceIte]
    rw [if_pos (show 10 ≤ nI i from nI_le (a := 10) (by omega) (by omega)), if_pos (show 10 ≤ nI i from nI_le (a := 10) (by omega) (by omega))]
    exact ⟨acc, rfl, rfl⟩
  | succ m ih =>
    intro i f f' acc hi hf hf'
    obtain ⟨f, rfl⟩ : ∃ g, f = g + 1 := ⟨f - 1, by omega⟩
    obtain ⟨f', rfl⟩ : ∃ g, f' = g + 1 := ⟨f' - 1, by omega⟩
    simp only [L_Ta_sumOf_16, L_Mo_sumOf_5, ↓reduceIte]
    rw [if_neg (show ¬ 10 ≤ nI i from nI_ge (b := 10) (by omega) (by omega)), if_neg (show ¬ 10 ≤ nI i from nI_ge (b := 10) (by omega) (by omega)), flod_n (by omega) (by decide), show (30 : Int32) + nI i = nI (30 + i) from nI_add 30 i, flod_n (by omega) (by decide), hC.1.2.2.2 i (by omega), nI_1]
    exact ih (i + 1) f f' _ (by omega) (by omega) (by omega)
theorem sum_46 (hC : GCo t h Y N) : ∀ m i f f' acc, i + m = 12 → m < f → m < f' → ∃ r, L_Ta_sumOf_46 t 2 Y f acc (nI i) = some r ∧ L_Mo_sumOf_5 18 12 N f' acc (nI i) = some r := by
  intro m
  induction m with
  | zero =>
    intro i f f' acc hi hf hf'
    obtain ⟨f, rfl⟩ : ∃ g, f = g + 1 := ⟨f - 1, by omega⟩
    obtain ⟨f', rfl⟩ : ∃ g, f' = g + 1 := ⟨f' - 1, by omega⟩
    simp only [L_Ta_sumOf_46, L_Mo_sumOf_5, ↓reduceIte]
    rw [if_pos (show 12 ≤ nI i from nI_le (a := 12) (by omega) (by omega)), if_pos (show 12 ≤ nI i from nI_le (a := 12) (by omega) (by omega))]
    exact ⟨acc, rfl, rfl⟩
  | succ m ih =>
    intro i f f' acc hi hf hf'
    obtain ⟨f, rfl⟩ : ∃ g, f = g + 1 := ⟨f - 1, by omega⟩
    obtain ⟨f', rfl⟩ : ∃ g, f' = g + 1 := ⟨f' - 1, by omega⟩
    simp only [L_Ta_sumOf_46, L_Mo_sumOf_5, ↓reduceIte]
    rw [if_neg (show ¬ 12 ≤ nI i from nI_ge (b := 12) (by omega) (by omega)), if_neg (show ¬ 12 ≤ nI i from nI_ge (b := 12) (by omega) (by omega)), (co_rs hC (show i < 12 by omega)).2.2, fbd_s, k18, flod_n (by omega) (by decide), nI_1]
    exact ih (i + 1) f f' _ (by omega) (by omega) (by omega)
theorem sum_74 (hC : GCo t h Y N) {n : Nat} (hn : n ≤ 8) (e : Y t 5 = nI n) : ∀ m i f f' acc, i + m = n → m < f → m < f' → ∃ r, L_Ta_sumOf_74 t 3 Y f acc (nI i) = some r ∧ L_Mo_sumOf_5 64 (nI n) N f' acc (nI i) = some r := by
  intro m
  induction m with
  | zero =>
    intro i f f' acc hi hf hf'
    obtain ⟨f, rfl⟩ : ∃ g, f = g + 1 := ⟨f - 1, by omega⟩
    obtain ⟨f', rfl⟩ : ∃ g, f' = g + 1 := ⟨f' - 1, by omega⟩
    simp only [L_Ta_sumOf_74, L_Mo_sumOf_5, ↓reduceIte]
    rw [e, if_pos (nI_le (by omega) (by omega)), if_pos (nI_le (by omega) (by omega))]
    exact ⟨acc, rfl, rfl⟩
  | succ m ih =>
    intro i f f' acc hi hf hf'
    obtain ⟨f, rfl⟩ : ∃ g, f = g + 1 := ⟨f - 1, by omega⟩
    obtain ⟨f', rfl⟩ : ∃ g, f' = g + 1 := ⟨f' - 1, by omega⟩
    simp only [L_Ta_sumOf_74, L_Mo_sumOf_5, ↓reduceIte]
    rw [e, if_neg (nI_ge (by omega) (by omega)), if_neg (nI_ge (by omega) (by omega)), (co_rd hC (show i < 8 by omega)).2.2.2.2.1, fbd_s, k64, flod_n (by omega) (by decide), nI_1]
    exact ih (i + 1) f f' _ (by omega) (by omega) (by omega)
theorem sum_nof (x : Int32) (acc : Int32) (f : Nat) (hf : 0 < f) : (¬ x = 0 → L_Ta_sumOf_16 t x Y f acc 0 = some acc) ∧ (¬ x = 2 → L_Ta_sumOf_46 t x Y f acc 0 = some acc) ∧ (¬ x = 3 → L_Ta_sumOf_74 t x Y f acc 0 = some acc) := by
  obtain ⟨f, rfl⟩ : ∃ g, f = g + 1 := ⟨f - 1, by omega⟩
  refine ⟨fun q => ?_, fun q => ?_, fun q => ?_⟩
  · simp only [L_Ta_sumOf_16]
    rw [if_neg q]
  · simp only [L_Ta_sumOf_46]
    rw [if_neg q]
  · simp only [L_Ta_sumOf_74]
    rw [if_neg q]
theorem sum_no (x : Int32) (acc : Int32) : (¬ x = 0 → L_Ta_sumOf_16 t x Y 5000 acc 0 = some acc) ∧ (¬ x = 2 → L_Ta_sumOf_46 t x Y 5000 acc 0 = some acc) ∧ (¬ x = 3 → L_Ta_sumOf_74 t x Y 5000 acc 0 = some acc) := sum_nof x acc 5000 (by omega)
end SUMS
theorem sim_goes : S_goes GInv := by
  intro x1 x2 IX IM h
  have h9 := ginv_told (v := 0) h
  generalize hI : mw IM 0 0 0 = I1 at h9
  simp only [F_Mo_goes, fstf_d, hI, isIn_within _ _ _ I1 IX, F_Gb_goes]
  by_cases c1 : F_Gb_within x1 1 60 IX = 0
  · exact ⟨-1, IX, I1, by rw [if_pos c1], by rw [if_pos c1], h9⟩
  rw [if_neg c1, if_neg c1]
  by_cases c2 : F_Gb_within x2 0 3 IX = 0
  · exact ⟨-1, IX, I1, by rw [if_pos c2], by rw [if_pos c2], h9⟩
  rw [if_neg c2, if_neg c2]
  obtain ⟨n, rfl, -, hn⟩ := wi_rng 1 60 c1 rfl rfl (by decide) (by decide)
  obtain ⟨w, rfl, hw⟩ := wi_num (m := 3) c2 (by decide)
  obtain ⟨JX, JM, k1, k2, hC, -, hE⟩ := thought_go h9
  rw [k1, k2, fbd_s, fbd_s]
  obtain ⟨Z, O, u1, u2, u3⟩ := go_l (x2 := nI w) hn n 0 5000 5000 JX JM ⟨hC, GFr.same⟩ (by omega) (by omega) (by omega)
  rw [show L_Gb_goes_37 (nI n) (nI w) 5000 0 JX = some Z from u1, show L_Mo_goes_34 (nI n) (nI w) 5000 0 JM = some O from u2, fbd_s, fbd_s]
  obtain ⟨O2, e1, e2⟩ := hE Z O u3
  have hZ := u3.1
  have hc : w = 0 ∨ w = 1 ∨ w = 2 ∨ w = 3 := by omega
  unfold F_Ta_sumOf J_Ta_sumOf_13 J_Ta_sumOf_44 J_Ta_sumOf_72 J_Mo_goes_105 F_Mo_sumOf
  rcases hc with rfl | rfl | rfl | rfl
  · obtain ⟨r, s1, s2⟩ := sum_16 hZ 10 0 5000 5000 0 (by omega) (by omega) (by omega)
    refine ⟨r, Z, O2, ?_, ?_, e2⟩
    · rw [if_neg (by decide), show L_Ta_sumOf_16 96 (nI 0) Z 5000 0 0 = some r from s1, fbd_s, (sum_no (nI 0) r).2.1 (by decide), fbd_s, (sum_no (nI 0) r).2.2 (by decide), fbd_s, fbd_s]
    · rw [if_pos (show nI 0 = 0 from rfl), show L_Mo_sumOf_5 30 10 O 5000 0 0 = some r from s2, fbd_s, fbd_s, e1, fbd_s]
  · refine ⟨Z 96 1, Z, O2, ?_, ?_, e2⟩
    · rw [if_pos (show nI 1 = 1 from rfl), (sum_no (nI 1) (Z 96 1)).1 (by decide), fbd_s, (sum_no (nI 1) (Z 96 1)).2.1 (by decide), fbd_s, (sum_no (nI 1) (Z 96 1)).2.2 (by decide), fbd_s, fbd_s]
    · rw [if_neg (by decide), if_pos (show nI 1 = 1 from rfl), e1, fbd_s, show Z 96 1 = O 1 3 from hZ.1.1.2.1]
  · obtain ⟨r, s1, s2⟩ := sum_46 hZ 12 0 5000 5000 0 (by omega) (by omega) (by omega)
    refine ⟨r, Z, O2, ?_, ?_, e2⟩
    · rw [if_neg (by decide), (sum_no (nI 2) 0).1 (by decide), fbd_s, show L_Ta_sumOf_46 96 (nI 2) Z 5000 0 0 = some r from s1, fbd_s, (sum_no (nI 2) r).2.2 (by decide), fbd_s, fbd_s]
    · rw [if_neg (by decide), if_neg (by decide), if_pos (show nI 2 = 2 from rfl), show L_Mo_sumOf_5 18 12 O 5000 0 0 = some r from s2, fbd_s, fbd_s, e1, fbd_s]
  · obtain ⟨nb, eb, hb, -⟩ := gIn_n hZ.2.1.1
    have e5 : Z 96 5 = nI nb := hZ.1.1.2.2.2.2.2.trans eb
    obtain ⟨r, s1, s2⟩ := sum_74 hZ (n := nb) (by omega) e5 nb 0 5000 5000 0 (by omega) (by omega) (by omega)
    refine ⟨r, Z, O2, ?_, ?_, e2⟩
    · rw [if_neg (by decide), (sum_no (nI 3) 0).1 (by decide), fbd_s, (sum_no (nI 3) 0).2.1 (by decide), fbd_s, show L_Ta_sumOf_74 96 (nI 3) Z 5000 0 0 = some r from s1, fbd_s, fbd_s]
    · rw [if_neg (by decide), if_neg (by decide), if_neg (by decide), eb, show L_Mo_sumOf_5 64 (nI nb) O 5000 0 0 = some r from s2, fbd_s, fbd_s, e1, fbd_s]
theorem add1_ne (x : Int32) : ¬ x + 1 = x := by
  intro q
  have h1 : -x + (x + 1) = -x + x := by rw [q]
  rw [← Int32.add_assoc, Int32.add_left_neg, Int32.zero_add] at h1
  exact absurd h1 (by decide)
theorem br_l {b w : Nat} {X M : gb_Mem} (hb : b < 8) (hw : w ≤ 1) : ∀ m i f f' Y N, GSt 96 102 X M Y N → N 1 (72 + b) = M 1 (72 + b) → i + m = 60 → m < f → m + 1 < f' →
    (∃ Z O, L_Gb_brings_58 (nI b) (nI w) (M 1 (72 + b)) f (nI (i + 1)) Y = some (.inl Z) ∧ L_Mo_brings_34 (nI b) (nI w) f' (-1) (nI i) N = some (-1, nI 60, O) ∧ GSt 96 102 X M Z O) ∨
    (∃ q k Z O, q < 2 ^ 31 ∧ L_Gb_brings_58 (nI b) (nI w) (M 1 (72 + b)) f (nI (i + 1)) Y = some (.inr (if w = 0 then nI q else nI k, Z)) ∧ L_Mo_brings_34 (nI b) (nI w) f' (-1) (nI i) N = some (nI q, nI k, O) ∧ GSt 96 102 X M Z O) := by
  intro m
  induction m with
  | zero =>
    intro i f f' Y N hS hL hi hf hf'
    obtain ⟨f, rfl⟩ : ∃ g, f = g + 1 := ⟨f - 1, by omega⟩
    obtain ⟨f', rfl⟩ : ∃ g, f' = g + 1 := ⟨f' - 1, by omega⟩
    left
    simp only [L_Gb_brings_58, L_Mo_brings_34, ↓reduceIte]
    rw [if_pos (show 60 < nI (i + 1) from nI_lt (a := 60) (by omega) (by omega)), if_pos (show 60 ≤ nI i from nI_le (a := 60) (by omega) (by omega))]
    refine ⟨Y, N, rfl, ?_, hS⟩
    rw [show i = 60 by omega]
  | succ m ih =>
    intro i f f' Y N hS hL hi hf hf'
    obtain ⟨f, rfl⟩ : ∃ g, f = g + 1 := ⟨f - 1, by omega⟩
    obtain ⟨f', rfl⟩ : ∃ g, f' = g + 1 := ⟨f' - 1, by omega⟩
    simp only [L_Gb_brings_58, L_Mo_brings_34, ↓reduceIte]
    rw [if_neg (show ¬ 60 < nI (i + 1) from nI_nlt (b := i + 1) (a := 60) (by omega) (by decide)), if_neg (show ¬ 60 ≤ nI i from nI_ge (b := 60) (by omega) (by omega))]
    obtain ⟨r, Z, O, u1, -, u3, u4⟩ := gst_min (Or.inr ⟨rfl, rfl⟩) hS.1 (bb := b) hb
    have g : GSt 96 102 X M Z O := ⟨u3.1, hS.2.trans u3.2⟩
    have e5 := (co_rd g.1 hb).2.2.2.2.2
    rw [u1]
    simp only [fbd_s]
    rw [e5]
    simp only [fbd_s]
    rcases u4 with ⟨v1, v2⟩ | ⟨v2, q, hq, v3, v1⟩
    · rw [v1]
      simp only [fbd_s]
      rw [if_pos (v2.trans hL), nI_1, nI_1]
      exact ih (i + 1) f f' Z O g (v2.trans hL) (by omega) (by omega) (by omega)
    · right
      rw [v1]
      simp only [fbd_s]
      rw [if_neg (show ¬ O 1 (72 + b) = M 1 (72 + b) by rw [v2, hL]; exact add1_ne _), nI_1]
      obtain ⟨f', rfl⟩ : ∃ g, f' = g + 1 := ⟨f' - 1, by omega⟩
      refine ⟨q, i + 1, Z, O, hq, ?_, ?_, g⟩
      · have hc : w = 0 ∨ w = 1 := by omega
        rcases hc with rfl | rfl
        · rw [if_pos (show nI 0 = 0 from rfl), if_pos rfl]
          unfold F_Co_broughtBy
          rw [show F_Gb_within (nI b) 0 7 Z = 1 from within_n (lo := 0) (hi := 7) (by omega) (by omega) (by decide), if_neg (by decide), flod_n hb (by decide), fbd_s, v3]
        · rw [if_neg (by decide), if_neg (by decide)]
      · simp only [L_Mo_brings_34]
        rw [if_neg (nI_nm1 hq)]
theorem sim_brings : S_brings GInv := by
  intro x1 x2 IX IM h
  have h9 := ginv_told (v := 0) h
  generalize hI : mw IM 0 0 0 = I1 at h9
  have hT := h9.2.2.1.1
  have hR := h9.2.2.1.2.1
  obtain ⟨n, en, hn, -⟩ := gIn_n hR.1
  have e5 : IX 2 5 = nI n := hT.1.2.2.2.2.2.trans en
  simp only [F_Mo_brings, fstf_d, hI, isBoat_w I1 IX en (show n ≤ 8 by omega), isIn_within _ _ _ I1 IX, F_Gb_brings, e5]
  by_cases c1 : F_Gb_within x1 0 (nI n - 1) IX = 0
  · exact ⟨-1, IX, I1, by rw [if_pos c1], by rw [if_pos c1], h9⟩
  rw [if_neg c1, if_neg c1]
  by_cases c2 : F_Gb_within x2 0 1 IX = 0
  · exact ⟨-1, IX, I1, by rw [if_pos c2], by rw [if_pos c2], h9⟩
  rw [if_neg c2, if_neg c2]
  obtain ⟨b, rfl, hb⟩ : ∃ b, x1 = nI b ∧ b < 8 := by
    cases n with
    | zero =>
      exfalso
      have := within_in c1
      unfold gIn at this
      rw [show (nI 0 - 1 : Int32).toInt = -1 from rfl, show (0 : Int32).toInt = 0 from rfl] at this
      omega
    | succ n =>
      rw [nI_pred] at c1
      obtain ⟨s, e, hs⟩ := wi_num c1 (by omega)
      exact ⟨s, e, by omega⟩
  obtain ⟨w, rfl, hw⟩ := wi_num (m := 1) c2 (by decide)
  obtain ⟨JX, JM, k1, k2, hC, -, hE⟩ := thought_go h9
  have e5 := (co_rd hC hb).2.2.2.2.2
  rw [k1, k2, fbd_s, fbd_s, e5, fbd_s]
  rcases br_l (X := JX) (M := JM) hb hw 60 0 5000 5000 JX JM ⟨hC, GFr.same⟩ rfl (by omega) (by omega) (by omega) with ⟨Z, O, u1, u2, u3⟩ | ⟨q, k, Z, O, hq, u1, u2, u3⟩
  · obtain ⟨O2, e1, e2⟩ := hE Z O u3
    rw [show L_Gb_brings_58 (nI b) (nI w) (JM 1 (72 + b)) 5000 1 JX = some (.inl Z) from u1, show L_Mo_brings_34 (nI b) (nI w) 5000 (-1) 0 JM = some (-1, nI 60, O) from u2]
    refine ⟨-1, Z, O2, rfl, ?_, e2⟩
    simp only [fbd_s, J_Mo_brings_61, J_Mo_brings_74, ↓reduceIte]
    rw [e1, fbd_s]
  · obtain ⟨O2, e1, e2⟩ := hE Z O u3
    rw [show L_Gb_brings_58 (nI b) (nI w) (JM 1 (72 + b)) 5000 1 JX = some (.inr (if w = 0 then nI q else nI k, Z)) from u1, show L_Mo_brings_34 (nI b) (nI w) 5000 (-1) 0 JM = some (nI q, nI k, O) from u2]
    refine ⟨_, Z, O2, rfl, ?_, e2⟩
    simp only [fbd_s, J_Mo_brings_61, J_Mo_brings_74]
    rw [e1, fbd_s, if_neg (nI_nm1 hq)]
    have hc : w = 0 ∨ w = 1 := by omega
    rcases hc with rfl | rfl
    · rw [if_pos (show nI 0 = 0 from rfl), if_pos rfl]
    · rw [if_neg (by decide), if_neg (by decide)]
