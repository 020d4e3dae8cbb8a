/-! Which seats a hand reaches; seat. -/
theorem mx_n {a b : Nat} (ha : a < 2 ^ 31) (hb : b < 2 ^ 31) : mx (nI a) (nI b) = nI (max a b) := by
  unfold mx
  by_cases h : a < b
  · rw [if_pos (nI_lt h hb), Nat.max_eq_right (by omega)]
  · rw [if_neg (nI_nlt (by omega) ha), Nat.max_eq_left (by omega)]
theorem mn_n {a b : Nat} (ha : a < 2 ^ 31) (hb : b < 2 ^ 31) : mn (nI a) (nI b) = nI (min a b) := by
  unfold mn
  by_cases h : b < a
  · rw [if_pos (nI_lt h ha), Nat.min_eq_right (by omega)]
  · rw [if_neg (nI_nlt (by omega) hb), Nat.min_eq_left (by omega)]
theorem mx_sub {a b : Nat} (ha : a < 2 ^ 30) (hb : b < 2 ^ 30) : mx 0 (nI a - nI b) = nI (a - b) := by
  by_cases h : b ≤ a
  · rw [pk_sub h, show (0 : Int32) = nI 0 from rfl, mx_n (by omega) (by omega), Nat.max_eq_right (by omega)]
  · have q := pk_sneg (a := a) (b := b) hb (by omega)
    unfold mx
    rw [if_neg (fun z => Int32.lt_irrefl (Int32.lt_trans q z)), show a - b = 0 by omega]; rfl
theorem around_l {s r : Nat} {I : gb_Mem} (hs : s < 12) (hr : r < 12) : ∀ m i f acc, i + m = 12 → m < f → ∃ v, L_Se_around_10 (nI s) (nI r) I f acc (nI i) = some v ∧ ∀ j, tb v j = (tb acc j || decide (i ≤ j ∧ j < 12 ∧ j ≤ s + r)) := by
  intro m
  induction m with
  | zero =>
    intro i f acc hi hf
    obtain ⟨f, rfl⟩ : ∃ g, f = g + 1 := ⟨f - 1, by omega⟩
    refine ⟨acc, ?_, fun j => ?_⟩
    · simp only [L_Se_around_10]
      rw [show (12 : Int32) = nI 12 from rfl, if_pos (nI_le (by omega) (by omega))]
    · rw [decide_eq_false (by omega), Bool.or_false]
  | succ m ih =>
    intro i f acc hi hf
    obtain ⟨f, rfl⟩ : ∃ g, f = g + 1 := ⟨f - 1, by omega⟩
    simp only [L_Se_around_10]
    rw [show (12 : Int32) = nI 12 from rfl, if_neg (nI_ge (by omega) (by omega)), nI_add]
    by_cases h : s + r < i
    · refine ⟨acc, ?_, fun j => ?_⟩
      · rw [if_pos (nI_lt h (by omega))]
      · rw [decide_eq_false (by omega), Bool.or_false]
    · rw [if_neg (nI_nlt (by omega) (by omega)), flt_d, nI_1]
      obtain ⟨v, hv, hb⟩ := ih (i + 1) f (acc ||| (1 <<< (nI i &&& 31))) (by omega) (by omega)
      refine ⟨v, hv, fun j => ?_⟩
      rw [hb, tb_or, tb_one j (by omega), Bool.or_assoc]
      congr 1
      by_cases q : j = i
      · subst q
        rw [decide_eq_true rfl, Bool.true_or, decide_eq_true (by omega)]
      · rw [decide_eq_false q, Bool.false_or]
        apply decide_eq_decide.mpr
        omega
theorem around_n {s r : Nat} {I : gb_Mem} (hs : s < 12) (hr : r < 12) : ∃ v, F_Se_around (nI s) (nI r) I = some v ∧ ∀ j, tb v j = decide (j < 12 ∧ s ≤ j + r ∧ j ≤ s + r) := by
  unfold F_Se_around
  rw [mx_sub (by omega) (by omega)]
  obtain ⟨v, hv, hb⟩ := around_l (I := I) hs hr (12 - (s - r)) (s - r) 5000 0 (by omega) (by omega)
  refine ⟨v, by rw [hv]; rfl, fun j => ?_⟩
  rw [hb, tb_0, Bool.false_or]
  apply decide_eq_decide.mpr
  omega
theorem tb_m1 (j : Nat) (h : j < 32) : tb (-1) j = true := by
  unfold tb
  rw [show (-1 : Int32).toBitVec = BitVec.allOnes 32 from rfl, BitVec.getLsbD_allOnes]
  exact decide_eq_true h
theorem tb_not (x : Int32) (j : Nat) (h : j < 32) : tb (x ^^^ (-1)) j = !tb x j := by
  rw [tb_xor, tb_m1 j h, Bool.xor_true]
theorem tb_lt {n : Nat} {x : Int32} (h : x.toBitVec.toNat < 2 ^ n) {j : Nat} (hj : n ≤ j) : tb x j = false := by
  unfold tb
  show x.toBitVec.toNat.testBit j = false
  exact Nat.testBit_lt_two_pow (Nat.lt_of_lt_of_le h (Nat.pow_le_pow_right (by decide) hj))
theorem tb_4095 (j : Nat) : tb 4095 j = decide (j < 12) := by
  rw [show (4095 : Int32) = nI (2 ^ 12 - 1) from rfl, tb_nI j (by decide), Nat.testBit_two_pow_sub_one]
theorem nI_eqb {a b : Nat} (ha : a < 2 ^ 31) (hb : b < 2 ^ 31) : (nI a == nI b) = decide (a = b) := by
  by_cases h : a = b
  · subst h; rw [decide_eq_true rfl]; exact beq_self_eq_true _
  · rw [decide_eq_false h]
    exact beq_false_of_ne (fun q => h ((nI_eq ha hb).mp q))
theorem reach_l {IX : gb_Mem} {k s : Nat} (hk : k ≤ 16) (eX : IX 15 2 = nI k) (hR : ∀ i, i < k → gIn (IX 16 (4 * i)) 0 11 ∧ gIn (IX 16 (4 * i + 1)) 0 11) (hs : s < 12) (base : Int32) : ∀ m i f acc, i + m = k → m < f →
    (∀ j, j < 32 → tb acc j = (tb base j || gPair (IX 16) (nI s) (nI j) i || gPair (IX 16) (nI j) (nI s) i)) →
    ∃ v, L_Se_reachedFrom_23 (nI s) IX f acc (nI i) = some v ∧ ∀ j, j < 32 → tb v j = (tb base j || gPair (IX 16) (nI s) (nI j) k || gPair (IX 16) (nI j) (nI s) k) := by
  intro m
  induction m with
  | zero =>
    intro i f acc hi hf hacc
    obtain ⟨f, rfl⟩ : ∃ g, f = g + 1 := ⟨f - 1, by omega⟩
    refine ⟨acc, ?_, fun j hj => ?_⟩
    · simp only [L_Se_reachedFrom_23, eX]
      rw [if_pos (nI_le (by omega) (by omega))]
    · have : i = k := by omega
      subst this; exact hacc j hj
  | succ m ih =>
    intro i f acc hi hf hacc
    obtain ⟨f, rfl⟩ : ∃ g, f = g + 1 := ⟨f - 1, by omega⟩
    obtain ⟨r1, r2⟩ := hR i (by omega)
    obtain ⟨a, ea, ha, ha2⟩ := gIn_n r1
    obtain ⟨b, eb, hb, hb2⟩ := gIn_n r2
    simp only [L_Se_reachedFrom_23, eX]
    rw [if_neg (nI_ge (by omega) (by omega)), show F_Ro_cell 15 64 (nI i) 0 IX = some (nI a) from (cell_n (j := 0) eX (by omega) (by omega) (by omega) (by decide)).trans (congrArg some ea), fbd_s, show F_Ro_cell 15 64 (nI i) 1 IX = some (nI b) from (cell_n (j := 1) eX (by omega) (by omega) (by omega) (by decide)).trans (congrArg some eb), fbd_s]
    have step : ∀ acc2 : Int32, (∀ j, j < 32 → tb acc2 j = (tb acc j || decide (a = s ∧ b = j) || decide (a = j ∧ b = s))) → ∃ v, L_Se_reachedFrom_23 (nI s) IX f acc2 (nI (i + 1)) = some v ∧ ∀ j, j < 32 → tb v j = (tb base j || gPair (IX 16) (nI s) (nI j) k || gPair (IX 16) (nI j) (nI s) k) := by
      intro acc2 h2
      refine ih (i + 1) f acc2 (by omega) (by omega) (fun j hj => ?_)
      rw [h2 j hj, hacc j hj]
      simp only [gPair, ea, eb]
      rw [nI_eqb (by omega) (by omega), nI_eqb (by omega) (by omega), nI_eqb (by omega) (by omega), nI_eqb (by omega) (by omega)]
      cases tb base j <;> cases gPair (IX 16) (nI s) (nI j) i <;> cases gPair (IX 16) (nI j) (nI s) i <;> simp
    unfold J_Se_reachedFrom_79
    rw [nI_1]
    by_cases c1 : a = s
    · rw [if_pos (by rw [c1]), flt_d]
      refine step _ (fun j hj => ?_)
      rw [tb_or, tb_one j (by omega)]
      subst c1
      by_cases q : j = b
      · subst q; simp
      · simp [q, Ne.symm q]
        intro q1 q2
        omega
    · rw [if_neg (fun q => c1 ((nI_eq (by omega) (by omega)).mp q))]
      by_cases c2 : b = s
      · rw [if_pos (by rw [c2]), flt_d]
        refine step _ (fun j hj => ?_)
        rw [tb_or, tb_one j (by omega)]
        subst c2
        simp [c1, eq_comm]
      · rw [if_neg (fun q => c2 ((nI_eq (by omega) (by omega)).mp q))]
        refine step _ (fun j hj => ?_)
        simp [c1, c2]
theorem reach_eq {IX I1 : gb_Mem} {s : Nat} (hR : GRea (IX 15 2) (IX 16) (I1 0 39) (I1 21)) (hs : s < 12) : ∃ v, F_Se_reachedFrom (nI s) IX = some v ∧ F_Mo_reachOf (nI s) I1 = some v ∧ ∀ j, 12 ≤ j → tb v j = false := by
  obtain ⟨e1, k, hk, e2, hr, hb⟩ := hR
  obtain ⟨v0, hv0, hb0⟩ := around_n (s := s) (r := 1) (I := IX) hs (by decide)
  obtain ⟨v, hv, hbv⟩ := reach_l (s := s) hk (e1.trans e2) hr hs (v0 &&& ((1 <<< (nI s &&& 31)) ^^^ (-1))) k 0 5000 (v0 &&& ((1 <<< (nI s &&& 31)) ^^^ (-1))) (by omega) (by omega) (fun j hj => by simp only [gPair, Bool.or_false])
  have hX : F_Se_reachedFrom (nI s) IX = some v := by
    unfold F_Se_reachedFrom
    rw [show (1 : Int32) = nI 1 from rfl, hv0, fbd_s, flt_d, show (0 : Int32) = nI 0 from rfl]
    rw [show (nI 1 : Int32) = 1 from rfl, hv]; rfl
  have h12 : ∀ j, 12 ≤ j → j < 32 → ∀ i, i ≤ k → gPair (IX 16) (nI s) (nI j) i = false ∧ gPair (IX 16) (nI j) (nI s) i = false := by
    intro j hj hj2 i
    induction i with
    | zero => intro _; exact ⟨rfl, rfl⟩
    | succ i ih =>
      intro hi
      obtain ⟨a, ea, ha, ha2⟩ := gIn_n (hr i (by omega)).1
      obtain ⟨b, eb, hb, hb2⟩ := gIn_n (hr i (by omega)).2
      obtain ⟨g1, g2⟩ := ih (by omega)
      simp only [gPair, g1, g2, ea, eb, Bool.or_false]
      rw [nI_eqb (a := b) (b := j) (by omega) (by omega), nI_eqb (a := a) (b := j) (by omega) (by omega), decide_eq_false (by omega), decide_eq_false (by omega)]
      simp
  obtain ⟨hlt, hbit⟩ := hb s hs
  have hv2 : ∀ j, j < 32 → tb v j = decide (j < 12 ∧ (j + 1 = s ∨ j = s + 1 ∨ tb (I1 21 s) j = true)) := by
    intro j hj
    rw [hbv j hj, tb_and, hb0, tb_not _ j hj, tb_one j (by omega)]
    by_cases h : j < 12
    · have := hbit j h
      have e : tb (I1 21 s) j = (gPair (IX 16) (nI s) (nI j) k || gPair (IX 16) (nI j) (nI s) k) := this
      rw [e]
      cases gPair (IX 16) (nI s) (nI j) k <;> cases gPair (IX 16) (nI j) (nI s) k <;> (apply Bool.eq_iff_iff.mpr; simp only [Bool.or_eq_true, Bool.and_eq_true, Bool.not_eq_true', Bool.not_eq_false', decide_eq_true_eq, decide_eq_false_iff_not, Bool.false_eq_true, Bool.true_eq_false, or_false, false_or, and_true, true_and, and_false, false_and, or_true, true_or, reduceCtorEq, ne_eq, not_false_eq_true, not_true_eq_false, eq_self, true_iff, iff_true, false_iff, iff_false, Bool.or_self, Bool.and_self, Bool.or_false, Bool.false_or, Bool.true_or, Bool.or_true] <;> omega)
    · obtain ⟨g1, g2⟩ := h12 j (by omega) hj k (Nat.le_refl k)
      rw [g1, g2]
      simp [h]
  refine ⟨v, hX, ?_, fun j hj => ?_⟩
  · unfold F_Mo_reachOf J_Mo_reachOf_25
    rw [flod_n (by omega) (by decide)]
    have fin : ∀ y : Int32, (∀ j, j < 32 → tb y j = decide (s ≠ 0 ∧ j + 1 = s)) → (I1 21 s ||| (1 <<< ((nI s + 1) &&& 31)) ||| y) &&& 4095 = v := by
      intro y hy
      apply tb_ext
      intro j hj
      rw [tb_and, tb_or, tb_or, nI_1, tb_one j (by omega), tb_4095, hy j hj, hv2 j hj]
      cases tb (I1 21 s) j <;> (apply Bool.eq_iff_iff.mpr; simp only [Bool.or_eq_true, Bool.and_eq_true, Bool.not_eq_true', Bool.not_eq_false', decide_eq_true_eq, decide_eq_false_iff_not, Bool.false_eq_true, Bool.true_eq_false, or_false, false_or, and_true, true_and, and_false, false_and, or_true, true_or, reduceCtorEq, ne_eq, not_false_eq_true, not_true_eq_false, eq_self, true_iff, iff_true, false_iff, iff_false, Bool.or_self, Bool.and_self, Bool.or_false, Bool.false_or, Bool.true_or, Bool.or_true] <;> omega)
    by_cases h0 : s = 0
    · rw [if_pos (by rw [h0]; rfl)]
      rw [fin 0 (fun j hj => by rw [tb_0]; symm; apply decide_eq_false; omega)]
    · rw [if_neg (nI_ne0 (by omega) (by omega)), show nI s - 1 = nI (s - 1) from pk_sub (b := 1) (by omega)]
      rw [fin _ (fun j hj => by rw [tb_one j (by omega)]; apply decide_eq_decide.mpr; omega)]
  · by_cases h : j < 32
    · rw [hv2 j h]; apply decide_eq_false; omega
    · exact tb_ge (by omega)
theorem sim_seat : S_seat GInv := by
  intro x1 x2 IX IM h
  have h9 := ginv_told (v := 0) h
  generalize hI : mw IM 0 0 0 = I1 at h9
  have hs := h9.2.2.1.1.2.1
  simp only [F_Mo_seat, fstf_d, hI, isSeat_w _ I1 IX, F_Gb_seat]
  by_cases c0 : F_Gb_within x1 0 11 IX = 0
  · exact ⟨-100, IX, I1, ⟨by rw [if_pos c0], rfl⟩, by rw [if_pos c0], h9⟩
  rw [if_neg c0, if_neg c0]
  obtain ⟨s, rfl, hs9⟩ := wi_num (m := 11) c0 (by decide)
  obtain ⟨a1, a2, a3, a4, a5⟩ := hs s (by omega)
  obtain ⟨v, rX, rM, -⟩ := reach_eq (s := s) h9.2.2.1.2.2.2.2.2.2.1 (by omega)
  by_cases c1 : F_Gb_within x2 0 5 IX = 0
  · refine ⟨-100, IX, I1, ⟨by rw [if_pos c1], rfl⟩, ?_, h9⟩
    have n : ∀ k : Nat, k ≤ 5 → ¬ x2 = nI k := by
      intro k hk q
      subst q
      rw [show F_Gb_within (nI k) 0 5 IX = 1 from within_n (lo := 0) (hi := 5) (by omega) hk (by decide)] at c1
      exact absurd c1 (by decide)
    rw [show (0 : Int32) = nI 0 from rfl, show (1 : Int32) = nI 1 from rfl, show (2 : Int32) = nI 2 from rfl, show (3 : Int32) = nI 3 from rfl, show (4 : Int32) = nI 4 from rfl, show (5 : Int32) = nI 5 from rfl, if_neg (n 0 (by decide)), if_neg (n 1 (by decide)), if_neg (n 2 (by decide)), if_neg (n 3 (by decide)), if_neg (n 4 (by decide)), if_neg (n 5 (by decide))]
  · rw [if_neg c1]
    obtain ⟨w, rfl, hw⟩ := wi_num (m := 5) c1 (by decide)
    have n : ∀ k : Nat, k ≤ 5 → (nI w = nI k ↔ w = k) := fun k hk => nI_eq (by omega) (by omega)
    rw [show (0 : Int32) = nI 0 from rfl, show (1 : Int32) = nI 1 from rfl, show (2 : Int32) = nI 2 from rfl, show (3 : Int32) = nI 3 from rfl, show (4 : Int32) = nI 4 from rfl, show (5 : Int32) = nI 5 from rfl]
    have hc : w = 0 ∨ w = 1 ∨ w = 2 ∨ w = 3 ∨ w = 4 ∨ w = 5 := by omega
    rcases hc with rfl | rfl | rfl | rfl | rfl | rfl
    · refine ⟨_, IX, I1, ⟨by rw [if_neg (by decide), ofSeat_n (by omega) (by omega), fbd_s], rfl⟩, ?_, h9⟩
      rw [if_pos rfl]
      unfold F_Mo_steady
      rw [flod_n (by omega) (by decide), fbd_s]
      show _ = some (IX 3 (12 * 0 + s), I1)
      rw [show 12 * 0 + s = s by omega, a1]
    · refine ⟨_, IX, I1, ⟨by rw [if_neg (by decide), ofSeat_n (by omega) (by omega), fbd_s], rfl⟩, ?_, h9⟩
      rw [if_neg (by decide), if_pos rfl, flod_n (by omega) (by decide)]
      show _ = some (IX 3 (12 + s), I1)
      rw [a2]
    · refine ⟨_, IX, I1, ⟨by rw [if_neg (by decide), ofSeat_n (by omega) (by omega), fbd_s], rfl⟩, ?_, h9⟩
      rw [if_neg (by decide), if_neg (by decide), if_pos rfl, show (6 : Int32) + nI s = nI (6 + s) from nI_add 6 s, flod_n (by omega) (by decide)]
      show _ = some (IX 3 (24 + s), I1)
      rw [a3]
    · refine ⟨_, IX, I1, ⟨by rw [if_neg (by decide), ofSeat_n (by omega) (by omega), fbd_s], rfl⟩, ?_, h9⟩
      rw [if_neg (by decide), if_neg (by decide), if_neg (by decide), if_pos rfl, flod_n (by omega) (by decide)]
      show _ = some (IX 3 (36 + s), I1)
      rw [a4]
    · refine ⟨_, IX, I1, ⟨by rw [if_neg (by decide), ofSeat_n (by omega) (by omega), fbd_s], rfl⟩, ?_, h9⟩
      rw [if_neg (by decide), if_neg (by decide), if_neg (by decide), if_neg (by decide), if_pos rfl, show (18 : Int32) + nI s = nI (18 + s) from nI_add 18 s, flod_n (by omega) (by decide)]
      show _ = some (IX 3 (48 + s), I1)
      rw [a5]
    · refine ⟨v, IX, I1, ⟨by rw [if_pos rfl, rX, fbd_s], rfl⟩, ?_, h9⟩
      rw [if_neg (by decide), if_neg (by decide), if_neg (by decide), if_neg (by decide), if_neg (by decide), if_pos rfl, rM, fbd_s]
