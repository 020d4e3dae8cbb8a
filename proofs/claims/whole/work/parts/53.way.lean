/-! way. -/
theorem gp_iff {c : Nat → Int32} {a j : Int32} : ∀ k, gPair c a j k = true ↔ ∃ i, i < k ∧ c (4 * i) = a ∧ c (4 * i + 1) = j := by
  intro k
  induction k with
  | zero => exact ⟨fun h => absurd (show false = true from h) (by decide), fun ⟨i, h, _⟩ => absurd h (Nat.not_lt_zero i)⟩
  | succ k ih =>
    simp only [gPair, Bool.or_eq_true, Bool.and_eq_true, beq_iff_eq]
    rw [ih]
    constructor
    · rintro (⟨h1, h2⟩ | ⟨i, h0, h1, h2⟩)
      · exact ⟨k, by omega, h1, h2⟩
      · exact ⟨i, by omega, h1, h2⟩
    · rintro ⟨i, h0, h1, h2⟩
      by_cases q : i = k
      · subst q; exact Or.inl ⟨h1, h2⟩
      · exact Or.inr ⟨i, by omega, h1, h2⟩
theorem tb_oneT {k j : Nat} (hk : k < 32) : tb (1 <<< (nI k &&& 31)) j = true ↔ j = k := by rw [tb_one j hk]; exact decide_eq_true_iff
theorem tb_orT {x y : Int32} {j : Nat} : tb (x ||| y) j = true ↔ tb x j = true ∨ tb y j = true := by rw [tb_or, Bool.or_eq_true]
theorem tb_andT {x y : Int32} {j : Nat} : tb (x &&& y) j = true ↔ tb x j = true ∧ tb y j = true := by rw [tb_and, Bool.and_eq_true]
theorem tb_extT {x y : Int32} (h : ∀ j, j < 32 → (tb x j = true ↔ tb y j = true)) : x = y := tb_ext (fun j hj => Bool.eq_iff_iff.mpr (h j hj))
theorem has_0 {x : Int32} {k : Nat} {I : gb_Mem} (hk : k < 32) : F_Mo_has x (nI k) I = 0 ↔ ¬ tb x k = true := by
  rw [has_n hk]
  by_cases h : tb x k = true
  · rw [if_pos h]; exact ⟨fun q => absurd q (by decide), fun q => absurd h q⟩
  · rw [if_neg h]; exact ⟨fun _ => h, fun _ => rfl⟩
theorem fo_l {IX : gb_Mem} {k : Nat} {A B : Nat → Nat} (hk : k ≤ 16) (eX : IX 27 2 = nI k) (hA : ∀ i, i < k → IX 28 (4 * i) = nI (A i) ∧ IX 28 (4 * i + 1) = nI (B i) ∧ A i < 8 ∧ B i < 8) : ∀ m i f x y, i + m = k → m < f → ∃ u v, L_Re_firstOnes_7 27 64 IX f x y (nI i) = some (u, v) ∧ ∀ j, (tb u j = true ↔ tb x j = true ∨ ∃ p, i ≤ p ∧ p < k ∧ A p = j) ∧ (tb v j = true ↔ tb y j = true ∨ ∃ p, i ≤ p ∧ p < k ∧ B p = j) := by
  intro m
  induction m with
  | zero =>
    intro i f x y hi hf
    obtain ⟨f, rfl⟩ : ∃ g, f = g + 1 := ⟨f - 1, by omega⟩
    refine ⟨x, y, ?_, fun j => ⟨⟨Or.inl, ?_⟩, ⟨Or.inl, ?_⟩⟩⟩
    · simp only [L_Re_firstOnes_7, eX]
      rw [if_pos (nI_le (by omega) (by omega))]
    · rintro (h | ⟨p, h1, h2, _⟩)
      · exact h
      · omega
    · rintro (h | ⟨p, h1, h2, _⟩)
      · exact h
      · omega
  | succ m ih =>
    intro i f x y hi hf
    obtain ⟨f, rfl⟩ : ∃ g, f = g + 1 := ⟨f - 1, by omega⟩
    obtain ⟨a1, a2, a3, a4⟩ := hA i (by omega)
    simp only [L_Re_firstOnes_7, eX, flt_d]
    rw [if_neg (nI_ge (by omega) (by omega)), cell_n0 eX (by omega) (by omega) (by decide), fbd_s, cell_n1 eX (by omega) (by omega) (by decide), fbd_s, show IX (27 + 1) (4 * i) = _ from a1, show IX (27 + 1) (4 * i + 1) = _ from a2, nI_1]
    obtain ⟨u, v, g1, g2⟩ := ih (i + 1) f (x ||| (1 <<< (nI (A i) &&& 31))) (y ||| (1 <<< (nI (B i) &&& 31))) (by omega) (by omega)
    refine ⟨u, v, g1, fun j => ?_⟩
    obtain ⟨q1, q2⟩ := g2 j
    rw [q1, q2, tb_orT, tb_orT, tb_oneT (by omega), tb_oneT (by omega)]
    constructor
    · constructor
      · rintro ((h | h) | ⟨p, h1, h2, h3⟩)
        · exact Or.inl h
        · exact Or.inr ⟨i, by omega, by omega, h.symm⟩
        · exact Or.inr ⟨p, by omega, h2, h3⟩
      · rintro (h | ⟨p, h1, h2, h3⟩)
        · exact Or.inl (Or.inl h)
        · by_cases q : p = i
          · subst q; exact Or.inl (Or.inr h3.symm)
          · exact Or.inr ⟨p, by omega, h2, h3⟩
    · constructor
      · rintro ((h | h) | ⟨p, h1, h2, h3⟩)
        · exact Or.inl h
        · exact Or.inr ⟨i, by omega, by omega, h.symm⟩
        · exact Or.inr ⟨p, by omega, h2, h3⟩
      · rintro (h | ⟨p, h1, h2, h3⟩)
        · exact Or.inl (Or.inl h)
        · by_cases q : p = i
          · subst q; exact Or.inl (Or.inr h3.symm)
          · exact Or.inr ⟨p, by omega, h2, h3⟩
theorem rg_l {IX : gb_Mem} {k : Nat} {A B : Nat → Nat} (hk : k ≤ 16) (eX : IX 27 2 = nI k) (hA : ∀ i, i < k → IX 28 (4 * i) = nI (A i) ∧ IX 28 (4 * i + 1) = nI (B i) ∧ A i < 8 ∧ B i < 8) (x2 x3 x5 s : Int32) : ∀ m i f x, i + m = k → m < f → ∃ u, L_Re_roundGoers_41 27 64 x2 x3 x5 s IX f x (nI i) = some u ∧ ∀ j, (tb u j = true ↔ tb x j = true ∨ ∃ p, i ≤ p ∧ p < k ∧ tb s (A p) = true ∧ B p = j) := by
  intro m
  induction m with
  | zero =>
    intro i f x hi hf
    obtain ⟨f, rfl⟩ : ∃ g, f = g + 1 := ⟨f - 1, by omega⟩
    refine ⟨x, ?_, fun j => ⟨Or.inl, ?_⟩⟩
    · simp only [L_Re_roundGoers_41, eX]
      rw [if_pos (nI_le (by omega) (by omega))]
    · rintro (h | ⟨p, h1, h2, _⟩)
      · exact h
      · omega
  | succ m ih =>
    intro i f x hi hf
    obtain ⟨f, rfl⟩ : ∃ g, f = g + 1 := ⟨f - 1, by omega⟩
    obtain ⟨a1, a2, a3, a4⟩ := hA i (by omega)
    simp only [L_Re_roundGoers_41, eX, J_Re_roundGoers_81]
    rw [if_neg (nI_ge (by omega) (by omega)), cell_n0 eX (by omega) (by omega) (by decide), fbd_s, cell_n1 eX (by omega) (by omega) (by decide), fbd_s, show IX (27 + 1) (4 * i) = _ from a1, show IX (27 + 1) (4 * i + 1) = _ from a2, nI_1, Int32.or_zero]
    by_cases c : tb s (A i) = true
    · rw [if_pos ((tb_shr (by omega)).mpr c)]
      obtain ⟨u, g1, g2⟩ := ih (i + 1) f (x ||| (1 <<< (nI (B i) &&& 31))) (by omega) (by omega)
      refine ⟨u, g1, fun j => ?_⟩
      rw [g2 j, tb_orT, tb_oneT (by omega)]
      constructor
      · rintro ((h | h) | ⟨p, h1, h2, h3⟩)
        · exact Or.inl h
        · exact Or.inr ⟨i, by omega, by omega, c, h.symm⟩
        · exact Or.inr ⟨p, by omega, h2, h3⟩
      · rintro (h | ⟨p, h1, h2, h3, h4⟩)
        · exact Or.inl (Or.inl h)
        · by_cases q : p = i
          · subst q; exact Or.inl (Or.inr h4.symm)
          · exact Or.inr ⟨p, by omega, h2, h3, h4⟩
    · rw [if_neg (fun q => c ((tb_shr (by omega)).mp q))]
      obtain ⟨u, g1, g2⟩ := ih (i + 1) f x (by omega) (by omega)
      refine ⟨u, g1, fun j => ?_⟩
      rw [g2 j]
      constructor
      · rintro (h | ⟨p, h1, h2, h3⟩)
        · exact Or.inl h
        · exact Or.inr ⟨p, by omega, h2, h3⟩
      · rintro (h | ⟨p, h1, h2, h3, h4⟩)
        · exact Or.inl h
        · by_cases q : p = i
          · subst q; exact absurd h3 c
          · exact Or.inr ⟨p, by omega, h2, h3, h4⟩
theorem gb_l {I1 : gb_Mem} (s : Int32) : ∀ m a f x, a + m = 8 → m < f → ∃ u, L_Mo_givenBy_4 s I1 f x (nI a) = some u ∧ ∀ j, (tb u j = true ↔ tb x j = true ∨ ∃ p, a ≤ p ∧ p < 8 ∧ tb s p = true ∧ tb (I1 34 p) j = true) := by
  intro m
  induction m with
  | zero =>
    intro i f x hi hf
    obtain ⟨f, rfl⟩ : ∃ g, f = g + 1 := ⟨f - 1, by omega⟩
    refine ⟨x, ?_, fun j => ⟨Or.inl, ?_⟩⟩
    · simp only [L_Mo_givenBy_4]
      rw [show (8 : Int32) = nI 8 from rfl, if_pos (nI_le (by omega) (by omega))]
    · rintro (h | ⟨p, h1, h2, _⟩)
      · exact h
      · omega
  | succ m ih =>
    intro i f x hi hf
    obtain ⟨f, rfl⟩ : ∃ g, f = g + 1 := ⟨f - 1, by omega⟩
    simp only [L_Mo_givenBy_4, J_Mo_givenBy_28]
    rw [if_neg (show ¬ 8 ≤ nI i from nI_ge (b := 8) (by omega) (by omega)), flod_n (by omega) (by decide), nI_1]
    by_cases c : tb s i = true
    · rw [if_neg (fun q => (has_0 (by omega)).mp q c)]
      obtain ⟨u, g1, g2⟩ := ih (i + 1) f (x ||| I1 34 i) (by omega) (by omega)
      refine ⟨u, g1, fun j => ?_⟩
      rw [g2 j, tb_orT]
      constructor
      · rintro ((h | h) | ⟨p, h1, h2, h3⟩)
        · exact Or.inl h
        · exact Or.inr ⟨i, by omega, by omega, c, h⟩
        · exact Or.inr ⟨p, by omega, h2, h3⟩
      · rintro (h | ⟨p, h1, h2, h3, h4⟩)
        · exact Or.inl (Or.inl h)
        · by_cases q : p = i
          · subst q; exact Or.inl (Or.inr h4)
          · exact Or.inr ⟨p, by omega, h2, h3, h4⟩
    · rw [if_pos ((has_0 (by omega)).mpr c)]
      obtain ⟨u, g1, g2⟩ := ih (i + 1) f x (by omega) (by omega)
      refine ⟨u, g1, fun j => ?_⟩
      rw [g2 j]
      constructor
      · rintro (h | ⟨p, h1, h2, h3⟩)
        · exact Or.inl h
        · exact Or.inr ⟨p, by omega, h2, h3⟩
      · rintro (h | ⟨p, h1, h2, h3, h4⟩)
        · exact Or.inl h
        · by_cases q : p = i
          · subst q; exact absurd h3 c
          · exact Or.inr ⟨p, by omega, h2, h3, h4⟩
def gb8 (I1 : gb_Mem) (s : Int32) : Int32 := (F_Mo_givenBy s I1).getD 0
theorem gb8_n {I1 : gb_Mem} (s : Int32) : F_Mo_givenBy s I1 = some (gb8 I1 s) ∧ ∀ j, (tb (gb8 I1 s) j = true ↔ ∃ p, p < 8 ∧ tb s p = true ∧ tb (I1 34 p) j = true) := by
  obtain ⟨u, g1, g2⟩ := gb_l (I1 := I1) s 8 0 5000 0 (by omega) (by omega)
  have e : F_Mo_givenBy s I1 = some u := by
    unfold F_Mo_givenBy
    rw [fbd_i]; exact g1
  have e2 : gb8 I1 s = u := by unfold gb8; rw [e]; rfl
  rw [e2]
  refine ⟨e, fun j => ?_⟩
  rw [g2 j, tb_0]
  constructor
  · rintro (h | ⟨p, _, h2, h3⟩)
    · exact absurd h (by decide)
    · exact ⟨p, h2, h3⟩
  · rintro ⟨p, h2, h3⟩
    exact Or.inr ⟨p, Nat.zero_le _, h2, h3⟩
def iT (I1 : gb_Mem) (a : Nat) : Nat → Int32
  | 0 => I1 34 a
  | n + 1 => iT I1 a n ||| gb8 I1 (iT I1 a n)
theorem cnt_mono {p q : Nat → Bool} : ∀ k, (∀ j, j < k → p j = true → q j = true) → cnt p k ≤ cnt q k := by
  intro k
  induction k with
  | zero => intro _; exact Nat.le_refl _
  | succ k ih =>
    intro h
    have h1 := ih (fun j hj => h j (by omega))
    have h2 := h k (by omega)
    show cnt p k + (if p k = true then 1 else 0) ≤ cnt q k + (if q k = true then 1 else 0)
    by_cases c : p k = true
    · rw [if_pos c, if_pos (h2 c)]; omega
    · rw [if_neg c]; omega
theorem cnt_lt {p q : Nat → Bool} : ∀ k, (∀ j, j < k → p j = true → q j = true) → (∃ j, j < k ∧ q j = true ∧ ¬ p j = true) → cnt p k < cnt q k := by
  intro k
  induction k with
  | zero => rintro _ ⟨j, h, _⟩; exact absurd h (Nat.not_lt_zero j)
  | succ k ih =>
    rintro h ⟨j, hj, h1, h2⟩
    have h3 := cnt_mono k (fun j hj => h j (by omega))
    show cnt p k + (if p k = true then 1 else 0) < cnt q k + (if q k = true then 1 else 0)
    by_cases c : j = k
    · subst c
      rw [if_pos h1, if_neg h2]; omega
    · have h4 := ih (fun j hj => h j (by omega)) ⟨j, by omega, h1, h2⟩
      have h5 := h k (by omega)
      by_cases c : p k = true
      · rw [if_pos c, if_pos (h5 c)]; omega
      · rw [if_neg c]; omega
theorem iT_hi {I1 : gb_Mem} {a : Nat} (ha : a < 8) (hd : ∀ p, p < 8 → ∀ j, 8 ≤ j → ¬ tb (I1 34 p) j = true) : ∀ n j, 8 ≤ j → ¬ tb (iT I1 a n) j = true := by
  intro n
  induction n with
  | zero => exact hd a ha
  | succ n ih =>
    intro j hj h
    rcases tb_orT.mp (show tb (iT I1 a n ||| gb8 I1 (iT I1 a n)) j = true from h) with h | h
    · exact ih j hj h
    · obtain ⟨p, h1, _, h3⟩ := ((gb8_n (iT I1 a n)).2 j).mp h
      exact hd p h1 j hj h3
theorem iT_grow {I1 : gb_Mem} {a : Nat} (ha : a < 8) (hd : ∀ p, p < 8 → ∀ j, 8 ≤ j → ¬ tb (I1 34 p) j = true) : ∀ n, iT I1 a (n + 1) = iT I1 a n ∨ n + 2 ≤ cnt (tb (iT I1 a (n + 1))) 8 := by
  have up : ∀ n j, tb (iT I1 a n) j = true → tb (iT I1 a (n + 1)) j = true := fun n j h => tb_orT.mpr (Or.inl h)
  have neq : ∀ n, ¬ iT I1 a (n + 1) = iT I1 a n → cnt (tb (iT I1 a n)) 8 < cnt (tb (iT I1 a (n + 1))) 8 := by
    intro n h
    refine cnt_lt 8 (fun j _ => up n j) (Classical.byContradiction fun q => h (tb_extT (fun j _ => ⟨fun g => Classical.byContradiction fun z => ?_, up n j⟩)))
    by_cases c : j < 8
    · exact q ⟨j, c, g, z⟩
    · exact iT_hi ha hd (n + 1) j (by omega) g
  intro n
  induction n with
  | zero =>
    by_cases c : iT I1 a (0 + 1) = iT I1 a 0
    · exact Or.inl c
    · refine Or.inr ?_
      have h1 := neq 0 c
      have h2 : 0 < cnt (tb (iT I1 a 0)) 8 := by
        refine Nat.pos_of_ne_zero (fun z => c ?_)
        have e : ∀ j, j < 8 → ¬ tb (iT I1 a 0) j = true := by
          intro j hj g
          have := cnt_lt (p := fun _ => false) (q := tb (iT I1 a 0)) 8 (fun _ _ q => absurd q (by decide)) ⟨j, hj, g, by decide⟩
          omega
        refine tb_extT (fun j _ => ⟨fun g => ?_, up 0 j⟩)
        rcases tb_orT.mp (show tb (iT I1 a 0 ||| gb8 I1 (iT I1 a 0)) j = true from g) with g | g
        · exact g
        · obtain ⟨p, g1, g2, _⟩ := ((gb8_n (iT I1 a 0)).2 j).mp g
          exact absurd g2 (e p g1)
      omega
  | succ n ih =>
    rcases ih with h | h
    · refine Or.inl ?_
      show iT I1 a (n + 1) ||| gb8 I1 (iT I1 a (n + 1)) = iT I1 a (n + 1)
      rw [h]; exact h
    · by_cases c : iT I1 a (n + 1 + 1) = iT I1 a (n + 1)
      · exact Or.inl c
      · have := neq (n + 1) c
        exact Or.inr (by omega)
theorem iT_8 {I1 : gb_Mem} {a : Nat} (ha : a < 8) (hd : ∀ p, p < 8 → ∀ j, 8 ≤ j → ¬ tb (I1 34 p) j = true) : iT I1 a 8 = iT I1 a 7 := by
  rcases iT_grow ha hd 7 with h | h
  · exact h
  · have := cnt_le (tb (iT I1 a (7 + 1))) 8
    omega
theorem cr_l {I1 : gb_Mem} {a : Nat} (x1 : Int32) : ∀ m n f, n + m = 8 → m < f → L_Mo_comesRound_9 x1 I1 f (iT I1 a n) (nI n) = some (iT I1 a 8) := by
  intro m
  induction m with
  | zero =>
    intro n f hi hf
    obtain ⟨f, rfl⟩ : ∃ g, f = g + 1 := ⟨f - 1, by omega⟩
    have : n = 8 := by omega
    subst this
    simp only [L_Mo_comesRound_9]
    rw [show (8 : Int32) = nI 8 from rfl, if_pos (nI_le (by omega) (by omega))]
  | succ m ih =>
    intro n f hi hf
    obtain ⟨f, rfl⟩ : ∃ g, f = g + 1 := ⟨f - 1, by omega⟩
    simp only [L_Mo_comesRound_9]
    rw [if_neg (show ¬ 8 ≤ nI n from nI_ge (b := 8) (by omega) (by omega)), (gb8_n (iT I1 a n)).1, fbd_s, nI_1]
    exact ih (n + 1) f (by omega) (by omega)
theorem sim_way : S_way GInv := by
  intro x1 IX IM h
  have h9 := ginv_told (v := 0) h
  generalize hI : mw IM 0 0 0 = I1 at h9
  obtain ⟨hT, hR, hBk, hLw, hVo, hDi, hRe, hNe, hFa, hCo, hFl, hGi, hSp, hRp, hJa⟩ := h9.2.2.1
  obtain ⟨e1, k, hk, e2, hr, hb⟩ := hGi
  have eX := e1.trans e2
  obtain ⟨A, B, hA⟩ : ∃ A B : Nat → Nat, ∀ i, i < k → IX 28 (4 * i) = nI (A i) ∧ IX 28 (4 * i + 1) = nI (B i) ∧ A i < 8 ∧ B i < 8 := by
    refine ⟨fun i => (IX 28 (4 * i)).toNatClampNeg, fun i => (IX 28 (4 * i + 1)).toNatClampNeg, fun i hi => ?_⟩
    obtain ⟨r1, r2, _⟩ := hr i hi
    obtain ⟨p, ep, hp, hp2⟩ := gIn_n r1
    obtain ⟨q, eq, hq, hq2⟩ := gIn_n r2
    dsimp only
    rw [ep, eq, nI_clamp hp2, nI_clamp hq2]
    exact ⟨rfl, rfl, by omega, by omega⟩
  have hE : ∀ a, a < 8 → ∀ j, (tb (I1 34 a) j = true ↔ ∃ i, i < k ∧ A i = a ∧ B i = j) := by
    intro a ha j
    obtain ⟨b1, b2⟩ := hb a ha
    by_cases hj : j < 8
    · rw [show tb (I1 34 a) j = (I1 34 a).toBitVec.toNat.testBit j from rfl, b2 j hj, gp_iff]
      constructor
      · rintro ⟨i, h0, h1, h2⟩
        obtain ⟨g1, g2, g3, g4⟩ := hA i h0
        rw [g1] at h1
        rw [g2] at h2
        exact ⟨i, h0, (nI_eq (by omega) (by omega)).mp h1, (nI_eq (by omega) (by omega)).mp h2⟩
      · rintro ⟨i, h0, rfl, rfl⟩
        obtain ⟨g1, g2, _⟩ := hA i h0
        exact ⟨i, h0, g1, g2⟩
    · rw [tb_lt (n := 8) b1 (by omega)]
      refine ⟨fun q => absurd q (by decide), ?_⟩
      rintro ⟨i, h0, _, h2⟩
      obtain ⟨_, _, _, g4⟩ := hA i h0
      omega
  have hd : ∀ p, p < 8 → ∀ j, 8 ≤ j → ¬ tb (I1 34 p) j = true := by
    intro p hp j hj q
    obtain ⟨i, h0, _, h2⟩ := (hE p hp j).mp q
    obtain ⟨_, _, _, g4⟩ := hA i h0
    omega
  simp only [F_Mo_way, fstf_d, hI, isIn_within _ _ _ I1 IX, F_Gb_way, fbd_i]
  by_cases c1 : F_Gb_within x1 0 1 IX = 0
  · exact ⟨-1, IX, I1, ⟨by rw [if_pos c1], rfl⟩, by rw [if_pos c1], h9⟩
  rw [if_neg c1, if_neg c1]
  obtain ⟨w, rfl, -, hw⟩ := wi_rng 0 1 c1 rfl rfl (by decide) (by decide)
  rw [(gb8_n 255).1, fbd_s]
  have hw2 : w = 0 ∨ w = 1 := by omega
  rcases hw2 with rfl | rfl
  · rw [if_pos (show nI 0 = 0 from rfl)]
    obtain ⟨u, v, g1, g2⟩ := fo_l hk eX hA k 0 5000 0 0 (by omega) (by omega)
    have lp : ∀ m i f acc, i + m = 8 → m < f → ∃ r, L_Mo_way_30 (nI 0) (gb8 I1 255) I1 f acc (nI i) = some r ∧ ∀ j, (tb r j = true ↔ tb acc j = true ∨ (i ≤ j ∧ j < 8 ∧ tb (v &&& (u ^^^ (-1))) j = true)) := by
      intro m
      induction m with
      | zero =>
        intro i f acc hi hf
        obtain ⟨f, rfl⟩ : ∃ g, f = g + 1 := ⟨f - 1, by omega⟩
        refine ⟨acc, ?_, fun j => ⟨Or.inl, ?_⟩⟩
        · simp only [L_Mo_way_30]
          rw [show (8 : Int32) = nI 8 from rfl, if_pos (nI_le (by omega) (by omega))]
        · rintro (h | ⟨h1, h2, _⟩)
          · exact h
          · omega
      | succ m ih =>
        intro i f acc hi hf
        obtain ⟨f, rfl⟩ : ∃ g, f = g + 1 := ⟨f - 1, by omega⟩
        simp only [L_Mo_way_30, J_Mo_way_73, J_Mo_way_80, flt_d]
        rw [if_neg (show ¬ 8 ≤ nI i from nI_ge (b := 8) (by omega) (by omega)), if_pos (show nI 0 = 0 from rfl), flod_n (by omega) (by decide), nI_1]
        have hu : tb u i = true ↔ ¬ I1 34 i = 0 := by
          rw [(g2 i).1, tb_0]
          constructor
          · rintro (q | ⟨p, _, h2, h3⟩) z
            · exact absurd q (by decide)
            · have := (hE i (by omega) (B p)).mpr ⟨p, h2, h3, rfl⟩
              rw [z, tb_0] at this
              exact absurd this (by decide)
          · intro z
            refine Classical.byContradiction fun q => z (tb_extT (fun j _ => ?_))
            rw [tb_0, hE i (by omega) j]
            refine ⟨?_, fun q => absurd q (by decide)⟩
            rintro ⟨p, h1, h2, _⟩
            exact absurd (Or.inr ⟨p, Nat.zero_le _, h1, h2⟩) q
        have hv : tb v i = true ↔ tb (gb8 I1 255) i = true := by
          rw [(g2 i).2, (gb8_n 255).2 i, tb_0]
          constructor
          · rintro (q | ⟨p, _, h2, h3⟩)
            · exact absurd q (by decide)
            · obtain ⟨_, _, a3, _⟩ := hA p h2
              refine ⟨A p, a3, ?_, (hE (A p) a3 i).mpr ⟨p, h2, rfl, h3⟩⟩
              rw [show (255 : Int32) = nI (2 ^ 8 - 1) from rfl, tb_nI _ (by decide), Nat.testBit_two_pow_sub_one]
              exact decide_eq_true a3
          · rintro ⟨p, h1, _, h3⟩
            obtain ⟨q, h4, _, h6⟩ := (hE p h1 i).mp h3
            exact Or.inr ⟨q, Nat.zero_le _, h4, h6⟩
        have hbit : tb (v &&& (u ^^^ (-1))) i = true ↔ (tb v i = true ∧ ¬ tb u i = true) := by
          rw [tb_andT, tb_not u i (by omega)]
          cases tb u i <;> simp
        have goT : (tb v i = true ∧ ¬ tb u i = true) → ∃ r, L_Mo_way_30 (nI 0) (gb8 I1 255) I1 f (acc ||| (1 <<< (nI i &&& 31))) (nI (i + 1)) = some r ∧ ∀ j, (tb r j = true ↔ tb acc j = true ∨ (i ≤ j ∧ j < 8 ∧ tb (v &&& (u ^^^ (-1))) j = true)) := by
          intro hh
          obtain ⟨r, q1, q2⟩ := ih (i + 1) f (acc ||| (1 <<< (nI i &&& 31))) (by omega) (by omega)
          refine ⟨r, q1, fun j => ?_⟩
          rw [q2 j, tb_orT, tb_oneT (by omega)]
          constructor
          · rintro ((h | rfl) | ⟨h1, h2, h3⟩)
            · exact Or.inl h
            · exact Or.inr ⟨Nat.le_refl _, by omega, hbit.mpr hh⟩
            · exact Or.inr ⟨by omega, h2, h3⟩
          · rintro (h | ⟨h1, h2, h3⟩)
            · exact Or.inl (Or.inl h)
            · by_cases q : j = i
              · exact Or.inl (Or.inr q)
              · exact Or.inr ⟨by omega, h2, h3⟩
        have goF : ¬ (tb v i = true ∧ ¬ tb u i = true) → ∃ r, L_Mo_way_30 (nI 0) (gb8 I1 255) I1 f acc (nI (i + 1)) = some r ∧ ∀ j, (tb r j = true ↔ tb acc j = true ∨ (i ≤ j ∧ j < 8 ∧ tb (v &&& (u ^^^ (-1))) j = true)) := by
          intro hh
          obtain ⟨r, q1, q2⟩ := ih (i + 1) f acc (by omega) (by omega)
          refine ⟨r, q1, fun j => ?_⟩
          rw [q2 j]
          constructor
          · rintro (h | ⟨h1, h2, h3⟩)
            · exact Or.inl h
            · exact Or.inr ⟨by omega, h2, h3⟩
          · rintro (h | ⟨h1, h2, h3⟩)
            · exact Or.inl h
            · by_cases q : j = i
              · subst q; exact absurd (hbit.mp h3) hh
              · exact Or.inr ⟨by omega, h2, h3⟩
        by_cases d1 : I1 34 i = 0
        · rw [if_pos d1]
          by_cases d2 : tb (gb8 I1 255) i = true
          · rw [if_neg (fun q => (has_0 (by omega)).mp q d2)]
            exact goT ⟨hv.mpr d2, fun q => hu.mp q d1⟩
          · rw [if_pos ((has_0 (by omega)).mpr d2)]
            exact goF (fun q => d2 (hv.mp q.1))
        · rw [if_neg d1]
          exact goF (fun q => q.2 (hu.mpr d1))
    obtain ⟨r, q1, q2⟩ := lp 8 0 5000 0 (by omega) (by omega)
    have er : r = v &&& (u ^^^ (-1)) := by
      refine tb_extT (fun j hj => ?_)
      rw [q2 j, tb_0]
      constructor
      · rintro (h | ⟨_, _, h⟩)
        · exact absurd h (by decide)
        · exact h
      · intro h
        refine Or.inr ⟨Nat.zero_le _, ?_, h⟩
        rcases (g2 j).2.mp (tb_andT.mp h).1 with z | ⟨p, _, h2, h3⟩
        · rw [tb_0] at z; exact absurd z (by decide)
        · obtain ⟨_, _, _, a4⟩ := hA p h2
          omega
    refine ⟨r, IX, I1, ⟨?_, rfl⟩, ?_, h9⟩
    · unfold F_Re_firstOnes
      rw [show L_Re_firstOnes_7 27 64 IX 5000 0 0 0 = _ from g1, er]; rfl
    · rw [show L_Mo_way_30 (nI 0) (gb8 I1 255) I1 5000 0 0 = _ from q1]; rfl
  · rw [if_neg (show ¬ nI 1 = 0 by decide)]
    have pass : ∀ (x2 x3 x5 s x : Int32), ∃ u, L_Re_roundGoers_41 27 64 x2 x3 x5 s IX 5000 x 0 = some u ∧ ∀ j, (tb u j = true ↔ tb x j = true ∨ ∃ p, p < 8 ∧ tb s p = true ∧ tb (I1 34 p) j = true) := by
      intro x2 x3 x5 s x
      obtain ⟨u, g1, g2⟩ := rg_l hk eX hA x2 x3 x5 s k 0 5000 x (by omega) (by omega)
      refine ⟨u, g1, fun j => ?_⟩
      rw [g2 j]
      constructor
      · rintro (h | ⟨p, _, h2, h3, h4⟩)
        · exact Or.inl h
        · obtain ⟨_, _, a3, _⟩ := hA p h2
          exact Or.inr ⟨A p, a3, h3, (hE (A p) a3 j).mpr ⟨p, h2, rfl, h4⟩⟩
      · rintro (h | ⟨p, h1, h2, h3⟩)
        · exact Or.inl h
        · obtain ⟨i, h4, h5, h6⟩ := (hE p h1 j).mp h3
          exact Or.inr ⟨i, Nat.zero_le _, h4, by rw [h5]; exact h2, h6⟩
    have inner : ∀ (x2 : Int32) (a : Nat), a < 8 → L_Re_roundGoers_16 27 64 x2 (nI a) IX 5000 0 0 = some (iT I1 a 7) := by
      intro x2 a ha
      have lp : ∀ m s f, s + m = 7 → m < f → L_Re_roundGoers_16 27 64 x2 (nI a) IX f (iT I1 a s) (nI (s + 1)) = some (iT I1 a 7) := by
        intro m
        induction m with
        | zero =>
          intro s f hi hf
          obtain ⟨f, rfl⟩ : ∃ g, f = g + 1 := ⟨f - 1, by omega⟩
          have : s = 7 := by omega
          subst this
          simp only [L_Re_roundGoers_16]
          rw [show (8 : Int32) = nI 8 from rfl, if_pos (nI_le (by omega) (by omega))]
        | succ m ih =>
          intro s f hi hf
          obtain ⟨f, rfl⟩ : ∃ g, f = g + 1 := ⟨f - 1, by omega⟩
          simp only [L_Re_roundGoers_16, J_Re_roundGoers_36]
          rw [if_neg (show ¬ 8 ≤ nI (s + 1) from nI_ge (b := 8) (by omega) (by omega)), if_neg (nI_ne0 (by omega) (by omega))]
          obtain ⟨u, g1, g2⟩ := pass x2 (nI a) (nI (s + 1)) (iT I1 a s) (iT I1 a s)
          have eu : u = iT I1 a (s + 1) := by
            refine tb_extT (fun j _ => ?_)
            rw [g2 j]
            show _ ↔ tb (iT I1 a s ||| gb8 I1 (iT I1 a s)) j = true
            rw [tb_orT, (gb8_n (iT I1 a s)).2 j]
          rw [g1, fbd_s, eu, nI_1]
          exact ih (s + 1) f (by omega) (by omega)
      show L_Re_roundGoers_16 27 64 x2 (nI a) IX (4999 + 1) 0 0 = _
      rw [L_Re_roundGoers_16]
      unfold J_Re_roundGoers_36
      rw [if_neg (by decide), if_pos rfl]
      obtain ⟨u, g1, g2⟩ := pass x2 (nI a) 0 (1 <<< (nI a &&& 31)) 0
      have eu : u = iT I1 a 0 := by
        refine tb_extT (fun j _ => ?_)
        rw [g2 j, tb_0]
        show _ ↔ tb (I1 34 a) j = true
        constructor
        · rintro (h | ⟨p, h1, h2, h3⟩)
          · exact absurd h (by decide)
          · rw [tb_oneT (by omega)] at h2
            rw [← h2]; exact h3
        · intro h
          exact Or.inr ⟨a, ha, (tb_oneT (by omega)).mpr rfl, h⟩
      rw [g1, fbd_s, eu]
      exact lp 7 0 4999 (by omega) (by omega)
    have cr : ∀ a, a < 8 → F_Mo_comesRound (nI a) I1 = some (if tb (iT I1 a 7) a = true then 1 else 0) := by
      intro a ha
      unfold F_Mo_comesRound
      rw [flod_n ha (by decide), show L_Mo_comesRound_9 (nI a) I1 5000 (I1 34 a) 0 = some (iT I1 a 8) from cr_l (nI a) 8 0 5000 (by omega) (by omega), fbd_s, iT_8 ha hd, has_n (by omega)]
    have lp : ∀ m i fX fM acc, i + m = 8 → m < fX → m < fM → ∃ r, L_Re_roundGoers_4 27 64 IX fX acc (nI i) = some r ∧ L_Mo_way_30 (nI 1) (gb8 I1 255) I1 fM acc (nI i) = some r := by
      intro m
      induction m with
      | zero =>
        intro i fX fM acc hi h1 h2
        obtain ⟨fX, rfl⟩ : ∃ g, fX = g + 1 := ⟨fX - 1, by omega⟩
        obtain ⟨fM, rfl⟩ : ∃ g, fM = g + 1 := ⟨fM - 1, by omega⟩
        refine ⟨acc, ?_, ?_⟩
        · simp only [L_Re_roundGoers_4]
          rw [show (8 : Int32) = nI 8 from rfl, if_pos (nI_le (by omega) (by omega))]
        · simp only [L_Mo_way_30]
          rw [show (8 : Int32) = nI 8 from rfl, if_pos (nI_le (by omega) (by omega))]
      | succ m ih =>
        intro i fX fM acc hi h1 h2
        obtain ⟨fX, rfl⟩ : ∃ g, fX = g + 1 := ⟨fX - 1, by omega⟩
        obtain ⟨fM, rfl⟩ : ∃ g, fM = g + 1 := ⟨fM - 1, by omega⟩
        simp only [L_Re_roundGoers_4, L_Mo_way_30, J_Mo_way_73, J_Mo_way_80, flt_d]
        rw [if_neg (show ¬ 8 ≤ nI i from nI_ge (b := 8) (by omega) (by omega)), if_neg (show ¬ 8 ≤ nI i from nI_ge (b := 8) (by omega) (by omega)), if_neg (show ¬ nI 1 = 0 by decide), inner _ i (by omega), cr i (by omega), fbd_s, fbd_s, nI_1]
        by_cases c : tb (iT I1 i 7) i = true
        · rw [if_pos c, if_neg (by decide), show iT I1 i 7 &&& (1 <<< (nI i &&& 31)) = 1 <<< (nI i &&& 31) from tb_extT (fun j _ => by
            rw [tb_andT, tb_oneT (by omega)]
            exact ⟨fun q => q.2, fun q => ⟨by rw [q]; exact c, q⟩⟩)]
          exact ih (i + 1) fX fM _ (by omega) (by omega) (by omega)
        · rw [if_neg c, if_pos rfl, show acc ||| (iT I1 i 7 &&& (1 <<< (nI i &&& 31))) = acc from tb_extT (fun j _ => by
            rw [tb_orT, tb_andT, tb_oneT (by omega)]
            refine ⟨?_, Or.inl⟩
            rintro (q | ⟨q1, rfl⟩)
            · exact q
            · exact absurd q1 c)]
          exact ih (i + 1) fX fM _ (by omega) (by omega) (by omega)
    obtain ⟨r, q1, q2⟩ := lp 8 0 5000 5000 0 (by omega) (by omega) (by omega)
    refine ⟨r, IX, I1, ⟨?_, rfl⟩, ?_, h9⟩
    · unfold F_Re_roundGoers
      rw [show L_Re_roundGoers_4 27 64 IX 5000 0 0 = _ from q1]; rfl
    · rw [show L_Mo_way_30 (nI 1) (gb8 I1 255) I1 5000 0 0 = _ from q2]; rfl
