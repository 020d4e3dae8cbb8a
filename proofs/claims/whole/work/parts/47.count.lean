/-! Counting; free, sprouts. -/
def cnt (p : Nat → Bool) : Nat → Nat
  | 0 => 0
  | k + 1 => cnt p k + (if p k = true then 1 else 0)
theorem cnt_le (p : Nat → Bool) : ∀ k, cnt p k ≤ k := by
  intro k
  induction k with
  | zero => exact Nat.le_refl _
  | succ k ih =>
    show cnt p k + (if p k = true then 1 else 0) ≤ k + 1
    split <;> omega
theorem cnt_t {p : Nat → Bool} {k : Nat} (h : p k = true) : cnt p (k + 1) = cnt p k + 1 := by show cnt p k + (if p k = true then 1 else 0) = _; rw [if_pos h]
theorem cnt_f {p : Nat → Bool} {k : Nat} (h : p k = false) : cnt p (k + 1) = cnt p k := by show cnt p k + (if p k = true then 1 else 0) = _; rw [if_neg (by rw [h]; decide)]; rfl
theorem nI_z (a : Nat) : nI a + 0 = nI a := nI_add a 0
theorem cell_n0 {h n k i : Nat} {I : gb_Mem} (hs : I h 2 = nI k) (hi : i < k) (hn : 4 * k ≤ n) (hn2 : n < 10000) : F_Ro_cell h n (nI i) 0 I = some (I (h + 1) (4 * i)) := cell_n (j := 0) hs hi (by decide) hn hn2
theorem cell_n1 {h n k i : Nat} {I : gb_Mem} (hs : I h 2 = nI k) (hi : i < k) (hn : 4 * k ≤ n) (hn2 : n < 10000) : F_Ro_cell h n (nI i) 1 I = some (I (h + 1) (4 * i + 1)) := cell_n (j := 1) hs hi (by decide) hn hn2
theorem wi_rng {x lo hi : Int32} {I : gb_Mem} (a b : Nat) (h : ¬ F_Gb_within x lo hi I = 0) (ea : lo = nI a) (eb : hi = nI b) (hab : a ≤ b) (hb : b < 2 ^ 31) : ∃ k : Nat, x = nI k ∧ a ≤ k ∧ k ≤ b := by
  subst ea eb
  obtain ⟨h1, h2⟩ := within_in h
  rw [nI_toInt hb] at h2
  rw [nI_toInt (by omega)] at h1
  obtain ⟨k, rfl, hk, hk2⟩ := gIn_n (x := x) (hi := b) ⟨by omega, h2⟩
  rw [nI_toInt hk2] at h1
  exact ⟨k, rfl, by omega, by omega⟩
theorem lesser_n {a b : Nat} {I : gb_Mem} (ha : a < 2 ^ 31) (hb : b < 2 ^ 31) : F_Mo_lesser (nI a) (nI b) I = nI (min a b) := by
  unfold F_Mo_lesser
  by_cases h : b ≤ a
  · rw [if_pos (nI_le h ha), Nat.min_eq_right h]
  · rw [if_neg (nI_ge (by omega) hb), Nat.min_eq_left (by omega)]
theorem greater_n {a b : Nat} {I : gb_Mem} (ha : a < 2 ^ 31) (hb : b < 2 ^ 31) : F_Mo_greater (nI a) (nI b) I = nI (max a b) := by
  unfold F_Mo_greater
  by_cases h : a ≤ b
  · rw [if_pos (nI_le h hb), Nat.max_eq_right h]
  · rw [if_neg (nI_ge (by omega) ha), Nat.max_eq_left (by omega)]
def pSp (c : Nat → Int32) (a b : Int32) (i : Nat) : Bool := decide (¬ b ≤ c (4 * i)) && decide (¬ c (4 * i + 1) ≤ a)
theorem itw_l {IX : gb_Mem} {k : Nat} (hk : k ≤ 9) (eX : IX 29 2 = nI k) (x n : Int32) : ∀ m i f, i + m = k → m < f → L_Re_inTheWay_6 29 36 x n IX f (nI (cnt (pSp (IX 30) x (x + n)) i)) (nI i) = some (nI (cnt (pSp (IX 30) x (x + n)) k)) := by
  intro m
  induction m with
  | zero =>
    intro i f hi hf
    obtain ⟨f, rfl⟩ : ∃ g, f = g + 1 := ⟨f - 1, by omega⟩
    have : i = k := by omega
    subst this
    simp only [L_Re_inTheWay_6, eX]
    rw [if_pos (nI_le (by omega) (by omega))]
  | succ m ih =>
    intro i f hi hf
    obtain ⟨f, rfl⟩ : ∃ g, f = g + 1 := ⟨f - 1, by omega⟩
    have hx := ih (i + 1) f (by omega) (by omega)
    simp only [L_Re_inTheWay_6, eX, J_Re_inTheWay_45, J_Re_inTheWay_46]
    rw [if_neg (nI_ge (by omega) (by omega)), cell_n0 eX (by omega) (by omega) (by decide), fbd_s, cell_n1 eX (by omega) (by omega) (by decide), fbd_s, nI_1, nI_1, nI_z]
    by_cases c1 : x + n ≤ IX (29 + 1) (4 * i)
    · rw [if_pos c1]
      rw [cnt_f (show pSp (IX 30) x (x + n) i = false by unfold pSp; rw [decide_eq_false (fun q => q c1)]; rfl)] at hx
      exact hx
    · rw [if_neg c1]
      by_cases c2 : IX (29 + 1) (4 * i + 1) ≤ x
      · rw [if_pos c2]
        rw [cnt_f (show pSp (IX 30) x (x + n) i = false by unfold pSp; rw [decide_eq_false (p := ¬ IX 30 (4 * i + 1) ≤ x) (fun q => q c2), Bool.and_false])] at hx
        exact hx
      · rw [if_neg c2]
        rw [cnt_t (show pSp (IX 30) x (x + n) i = true by unfold pSp; rw [decide_eq_true c1, decide_eq_true c2]; rfl)] at hx
        exact hx
theorem spo_l {IX I1 : gb_Mem} {k : Nat} (hk : k ≤ 9) (eM : I1 0 58 = nI k) (h3 : ∀ i, i < k → IX 30 (4 * i) = I1 35 i ∧ IX 30 (4 * i + 1) = I1 36 i) (x y : Int32) : ∀ m i f, i + m = k → m < f → L_Mo_spansOver_5 x y I1 f (nI (cnt (pSp (IX 30) x y) i)) (nI i) = some (nI (cnt (pSp (IX 30) x y) k)) := by
  intro m
  induction m with
  | zero =>
    intro i f hi hf
    obtain ⟨f, rfl⟩ : ∃ g, f = g + 1 := ⟨f - 1, by omega⟩
    have : i = k := by omega
    subst this
    simp only [L_Mo_spansOver_5, eM]
    rw [if_pos (nI_le (by omega) (by omega))]
  | succ m ih =>
    intro i f hi hf
    obtain ⟨f, rfl⟩ : ∃ g, f = g + 1 := ⟨f - 1, by omega⟩
    have hx := ih (i + 1) f (by omega) (by omega)
    obtain ⟨g1, g2⟩ := h3 i (by omega)
    simp only [L_Mo_spansOver_5, eM, J_Mo_spansOver_40]
    rw [if_neg (nI_ge (by omega) (by omega)), flod_n (by omega) (by decide), flod_n (by omega) (by decide), ← g1, ← g2, nI_1, nI_1]
    by_cases c1 : y ≤ IX 30 (4 * i)
    · rw [if_pos c1]
      rw [cnt_f (show pSp (IX 30) x y i = false by unfold pSp; rw [decide_eq_false (fun q => q c1)]; rfl)] at hx
      exact hx
    · rw [if_neg c1]
      by_cases c2 : IX 30 (4 * i + 1) ≤ x
      · rw [if_pos c2]
        rw [cnt_f (show pSp (IX 30) x y i = false by unfold pSp; rw [decide_eq_false (p := ¬ IX 30 (4 * i + 1) ≤ x) (fun q => q c2), Bool.and_false])] at hx
        exact hx
      · rw [if_neg c2]
        rw [cnt_t (show pSp (IX 30) x y i = true by unfold pSp; rw [decide_eq_true c1, decide_eq_true c2]; rfl)] at hx
        exact hx
theorem span_n {IX I1 : gb_Mem} {k : Nat} (hk : k ≤ 9) (eX : IX 29 2 = nI k) (eM : I1 0 58 = nI k) (h3 : ∀ i, i < k → IX 30 (4 * i) = I1 35 i ∧ IX 30 (4 * i + 1) = I1 36 i) (x n : Int32) : ∃ c, c ≤ k ∧ F_Re_inTheWay 29 36 x n IX = some (nI c) ∧ F_Mo_spansOver x (x + n) I1 = some (nI c) := by
  refine ⟨_, cnt_le (pSp (IX 30) x (x + n)) k, ?_, ?_⟩
  · unfold F_Re_inTheWay
    rw [fbd_i]; exact itw_l hk eX x n k 0 5000 (by omega) (by omega)
  · unfold F_Mo_spansOver
    rw [fbd_i]; exact spo_l hk eM h3 x (x + n) k 0 5000 (by omega) (by omega)
theorem free_0 {IX I1 : gb_Mem} {k n : Nat} (hn : n ≤ 99) (hk : k ≤ 9) (eX : IX 29 2 = nI k) (eM : I1 0 58 = nI k) (h3 : ∀ i, i < k → IX 30 (4 * i) = I1 35 i ∧ IX 30 (4 * i + 1) = I1 36 i) : ∀ m h fX fM acc, h + n + m = 101 → m < fX → m < fM →
    (L_Re_freeHour_2 29 36 (nI n) IX fX (nI h) = some (.inl ()) ∧ ∃ a, L_Mo_free_35 (nI n) 0 I1 fM acc (nI h) = some (.inl a)) ∨ ∃ q, L_Re_freeHour_2 29 36 (nI n) IX fX (nI h) = some (.inr q) ∧ L_Mo_free_35 (nI n) 0 I1 fM acc (nI h) = some (.inr (q, I1)) := by
  intro m
  induction m with
  | zero =>
    intro h fX fM acc hh h1 h2
    obtain ⟨fX, rfl⟩ : ∃ g, fX = g + 1 := ⟨fX - 1, by omega⟩
    obtain ⟨fM, rfl⟩ : ∃ g, fM = g + 1 := ⟨fM - 1, by omega⟩
    refine Or.inl ⟨?_, acc, ?_⟩
    · simp only [L_Re_freeHour_2]
      rw [nI_add, show (100 : Int32) = nI 100 from rfl, if_pos (nI_lt (by omega) (by omega))]
    · simp only [L_Mo_free_35]
      rw [nI_add, show (100 : Int32) = nI 100 from rfl, if_pos (nI_lt (by omega) (by omega))]
  | succ m ih =>
    intro h fX fM acc hh h1 h2
    obtain ⟨fX, rfl⟩ : ∃ g, fX = g + 1 := ⟨fX - 1, by omega⟩
    obtain ⟨fM, rfl⟩ : ∃ g, fM = g + 1 := ⟨fM - 1, by omega⟩
    obtain ⟨c, hc, q1, q2⟩ := span_n hk eX eM h3 (nI h) (nI n)
    simp only [L_Re_freeHour_2, L_Mo_free_35]
    rw [q1, q2, fbd_s, fbd_s, nI_add, show (100 : Int32) = nI 100 from rfl, if_neg (nI_nlt (by omega) (by omega)), if_neg (nI_nlt (by omega) (by omega)), if_pos True.intro, nI_1]
    by_cases c0 : nI c = 0
    · rw [if_pos c0, if_pos c0]
      exact Or.inr ⟨_, rfl, rfl⟩
    · rw [if_neg c0, if_neg c0]
      simp only [J_Mo_free_68, flt_d]
      rw [nI_1]
      exact ih (h + 1) fX fM _ (by omega) (by omega) (by omega)
theorem free_1 {IX I1 : gb_Mem} {k n : Nat} (hn : n ≤ 99) (hk : k ≤ 9) (eX : IX 29 2 = nI k) (eM : I1 0 58 = nI k) (h3 : ∀ i, i < k → IX 30 (4 * i) = I1 35 i ∧ IX 30 (4 * i + 1) = I1 36 i) : ∀ m h fX fM b, h + n + m = 101 → m < fX → m < fM → b < 2 ^ 31 →
    ∃ b2, L_Re_fewestGivenUp_8 29 36 (nI n) IX fX (nI (min k b)) (nI h) = some (nI (min k b2)) ∧ L_Mo_free_35 (nI n) 1 I1 fM (nI b) (nI h) = some (.inl (nI b2)) ∧ (0 < m → b2 ≤ k) ∧ b2 ≤ b := by
  intro m
  induction m with
  | zero =>
    intro h fX fM b hh h1 h2 hb
    obtain ⟨fX, rfl⟩ : ∃ g, fX = g + 1 := ⟨fX - 1, by omega⟩
    obtain ⟨fM, rfl⟩ : ∃ g, fM = g + 1 := ⟨fM - 1, by omega⟩
    refine ⟨b, ?_, ?_, fun q => absurd q (Nat.lt_irrefl _), Nat.le_refl _⟩
    · simp only [L_Re_fewestGivenUp_8]
      rw [nI_add, show (100 : Int32) = nI 100 from rfl, if_pos (nI_lt (by omega) (by omega))]
    · simp only [L_Mo_free_35]
      rw [nI_add, show (100 : Int32) = nI 100 from rfl, if_pos (nI_lt (by omega) (by omega))]
  | succ m ih =>
    intro h fX fM b hh h1 h2 hb
    obtain ⟨fX, rfl⟩ : ∃ g, fX = g + 1 := ⟨fX - 1, by omega⟩
    obtain ⟨fM, rfl⟩ : ∃ g, fM = g + 1 := ⟨fM - 1, by omega⟩
    obtain ⟨c, hc, q1, q2⟩ := span_n hk eX eM h3 (nI h) (nI n)
    simp only [L_Re_fewestGivenUp_8, L_Mo_free_35]
    rw [q1, q2, fbd_s, fbd_s, nI_add, show (100 : Int32) = nI 100 from rfl, if_neg (nI_nlt (by omega) (by omega)), if_neg (nI_nlt (by omega) (by omega)), if_neg (by decide), nI_1]
    simp only [J_Mo_free_68, flt_d]
    rw [nI_1, lesser_n hb (by omega), mn_n (by omega) (by omega), show min (min k b) c = min k (min b c) by omega]
    obtain ⟨b2, g1, g2, g3, g4⟩ := ih (h + 1) fX fM (min b c) (by omega) (by omega) (by omega) (by omega)
    exact ⟨b2, g1, g2, fun _ => by omega, by omega⟩
theorem sim_free : S_free GInv := by
  intro x1 x2 IX IM h
  have h9 := ginv_told (v := 0) h
  generalize hI : mw IM 0 0 0 = I1 at h9
  obtain ⟨hT, hR, hBk, hLw, hVo, hDi, hRe, hNe, hFa, hCo, hFl, hGi, hSp, hRp, hJa⟩ := h9.2.2.1
  obtain ⟨e1, k, hk, e2, h3⟩ := hSp
  have h4 : ∀ i, i < k → IX 30 (4 * i) = I1 35 i ∧ IX 30 (4 * i + 1) = I1 36 i := fun i hi => ⟨(h3 i hi).1, (h3 i hi).2.1⟩
  simp only [F_Mo_free, fstf_d, hI, isIn_within _ _ _ I1 IX, F_Gb_free]
  by_cases c1 : F_Gb_within x1 1 99 IX = 0
  · exact ⟨-1, IX, I1, ⟨by rw [if_pos c1], rfl⟩, by rw [if_pos c1], h9⟩
  rw [if_neg c1, if_neg c1]
  by_cases c2 : F_Gb_within x2 0 1 IX = 0
  · exact ⟨-1, IX, I1, ⟨by rw [if_pos c2], rfl⟩, by rw [if_pos c2], h9⟩
  rw [if_neg c2, if_neg c2]
  obtain ⟨n, rfl, hn1, hn2⟩ := wi_rng 1 99 c1 rfl rfl (by decide) (by decide)
  obtain ⟨w, rfl, -, hw⟩ := wi_rng 0 1 c2 rfl rfl (by decide) (by decide)
  have hw2 : w = 0 ∨ w = 1 := by omega
  rcases hw2 with rfl | rfl
  · rw [if_pos (show nI 0 = 0 from rfl), fbd_i]
    unfold F_Re_freeHour
    rcases free_0 hn2 hk (e1.trans e2) e2 h4 (101 - n) 0 5000 5000 100000000 (by omega) (by omega) (by omega) with ⟨q1, a, q2⟩ | ⟨q, q1, q2⟩
    · refine ⟨-1, IX, I1, ⟨?_, rfl⟩, ?_, h9⟩
      · rw [show L_Re_freeHour_2 29 36 (nI n) IX 5000 0 = _ from q1]; rfl
      · rw [show L_Mo_free_35 (nI n) (nI 0) I1 5000 100000000 0 = _ from q2]; rfl
    · refine ⟨q, IX, I1, ⟨?_, rfl⟩, ?_, h9⟩
      · rw [show L_Re_freeHour_2 29 36 (nI n) IX 5000 0 = _ from q1]; rfl
      · rw [show L_Mo_free_35 (nI n) (nI 0) I1 5000 100000000 0 = _ from q2]; rfl
  · rw [if_neg (show ¬ nI 1 = 0 by decide), fbd_i]
    unfold F_Re_fewestGivenUp
    rw [fbd_i]
    obtain ⟨b2, q1, q2, q3, q4⟩ := free_1 hn2 hk (e1.trans e2) e2 h4 (101 - n) 0 5000 5000 100000000 (by omega) (by omega) (by omega) (by decide)
    have q5 := q3 (by omega)
    refine ⟨nI b2, IX, I1, ⟨?_, rfl⟩, ?_, h9⟩
    · rw [e1.trans e2]
      rw [Nat.min_eq_left (by omega), Nat.min_eq_right q5] at q1
      exact q1
    · rw [show L_Mo_free_35 (nI n) (nI 1) I1 5000 100000000 0 = _ from q2]; rfl
/-- how many say that v can be -/
def pRp (c : Nat → Int32) (v : Int32) (i : Nat) : Bool := decide (c (4 * i) ≤ v) && decide (v ≤ c (4 * i + 1))
theorem bel_l {IX : gb_Mem} {k : Nat} (hk : k ≤ 8) (eX : IX 31 2 = nI k) (x2 x3 x4 v : Int32) : ∀ m i f, i + m = k → m < f → L_Re_believed_21 31 32 x2 x3 x4 v IX f (nI (cnt (pRp (IX 32) v) i)) (nI i) = some (nI (cnt (pRp (IX 32) v) k)) := by
  intro m
  induction m with
  | zero =>
    intro i f hi hf
    obtain ⟨f, rfl⟩ : ∃ g, f = g + 1 := ⟨f - 1, by omega⟩
    have : i = k := by omega
    subst this
    simp only [L_Re_believed_21, eX]
    rw [if_pos (nI_le (by omega) (by omega))]
  | succ m ih =>
    intro i f hi hf
    obtain ⟨f, rfl⟩ : ∃ g, f = g + 1 := ⟨f - 1, by omega⟩
    have hx := ih (i + 1) f (by omega) (by omega)
    simp only [L_Re_believed_21, eX, J_Re_believed_59]
    rw [if_neg (nI_ge (by omega) (by omega)), cell_n0 eX (by omega) (by omega) (by decide), fbd_s, cell_n1 eX (by omega) (by omega) (by decide), fbd_s, nI_1, nI_1, nI_z]
    by_cases c1 : F_Gb_within v (IX (31 + 1) (4 * i)) (IX (31 + 1) (4 * i + 1)) IX = 0
    · rw [if_pos c1]
      have c2 := within_0.mp c1
      rw [cnt_f (show pRp (IX 32) v i = false by unfold pRp; rw [← Bool.decide_and]; exact decide_eq_false c2)] at hx
      exact hx
    · rw [if_neg c1]
      have c2 := within_1.mp c1
      rw [cnt_t (show pRp (IX 32) v i = true by unfold pRp; rw [← Bool.decide_and]; exact decide_eq_true c2)] at hx
      exact hx
theorem say_l {IX I1 : gb_Mem} {k : Nat} (hk : k ≤ 8) (eM : I1 0 61 = nI k) (h3 : ∀ i, i < k → IX 32 (4 * i) = I1 37 i ∧ IX 32 (4 * i + 1) = I1 38 i) (v : Int32) : ∀ m i f, i + m = k → m < f → L_Mo_sayingOf_4 v I1 f (nI (cnt (pRp (IX 32) v) i)) (nI i) = some (nI (cnt (pRp (IX 32) v) k)) := by
  intro m
  induction m with
  | zero =>
    intro i f hi hf
    obtain ⟨f, rfl⟩ : ∃ g, f = g + 1 := ⟨f - 1, by omega⟩
    have : i = k := by omega
    subst this
    simp only [L_Mo_sayingOf_4, eM]
    rw [if_pos (nI_le (by omega) (by omega))]
  | succ m ih =>
    intro i f hi hf
    obtain ⟨f, rfl⟩ : ∃ g, f = g + 1 := ⟨f - 1, by omega⟩
    have hx := ih (i + 1) f (by omega) (by omega)
    obtain ⟨g1, g2⟩ := h3 i (by omega)
    simp only [L_Mo_sayingOf_4, eM, J_Mo_sayingOf_36]
    rw [if_neg (nI_ge (by omega) (by omega)), flod_n (by omega) (by decide), flod_n (by omega) (by decide), ← g1, ← g2, nI_1, nI_1, isIn_within _ _ _ I1 IX]
    by_cases c1 : F_Gb_within v (IX 32 (4 * i)) (IX 32 (4 * i + 1)) IX = 0
    · rw [if_pos c1]
      have c2 := within_0.mp c1
      rw [cnt_f (show pRp (IX 32) v i = false by unfold pRp; rw [← Bool.decide_and]; exact decide_eq_false c2)] at hx
      exact hx
    · rw [if_neg c1]
      have c2 := within_1.mp c1
      rw [cnt_t (show pRp (IX 32) v i = true by unfold pRp; rw [← Bool.decide_and]; exact decide_eq_true c2)] at hx
      exact hx
theorem spr_l {IX I1 : gb_Mem} {k : Nat} (hk : k ≤ 8) (eX : IX 31 2 = nI k) (eM : I1 0 61 = nI k) (h3 : ∀ i, i < k → IX 32 (4 * i) = I1 37 i ∧ IX 32 (4 * i + 1) = I1 38 i) (x2 x1 : Int32) : ∀ m v fX fM b, v + m = 100 → m < fX → m < fM →
    ∃ b2 : Nat, L_Re_believed_8 31 32 x2 IX fX (nI (cnt (pRp (IX 32) (nI b)) k)) (nI b) (nI v) = some (nI (cnt (pRp (IX 32) (nI b2)) k), nI b2) ∧ L_Mo_sprouts_21 x1 I1 fM (nI b) (nI v) = some (nI b2) := by
  have S : ∀ v, F_Mo_sayingOf v I1 = some (nI (cnt (pRp (IX 32) v) k)) := by
    intro v
    unfold F_Mo_sayingOf
    rw [fbd_i]; exact say_l hk eM h3 v k 0 5000 (by omega) (by omega)
  have B : ∀ x3 x4 v, L_Re_believed_21 31 32 x2 x3 x4 v IX 5000 0 0 = some (nI (cnt (pRp (IX 32) v) k)) := by
    intro x3 x4 v
    exact bel_l hk eX x2 x3 x4 v k 0 5000 (by omega) (by omega)
  intro m
  induction m with
  | zero =>
    intro v fX fM b hh h1 h2
    obtain ⟨fX, rfl⟩ : ∃ g, fX = g + 1 := ⟨fX - 1, by omega⟩
    obtain ⟨fM, rfl⟩ : ∃ g, fM = g + 1 := ⟨fM - 1, by omega⟩
    refine ⟨b, ?_, ?_⟩
    · simp only [L_Re_believed_8]
      rw [show (100 : Int32) = nI 100 from rfl, if_pos (nI_le (by omega) (by omega))]
    · simp only [L_Mo_sprouts_21]
      rw [show (99 : Int32) = nI 99 from rfl, if_pos (nI_lt (by omega) (by omega))]
  | succ m ih =>
    intro v fX fM b hh h1 h2
    obtain ⟨fX, rfl⟩ : ∃ g, fX = g + 1 := ⟨fX - 1, by omega⟩
    obtain ⟨fM, rfl⟩ : ∃ g, fM = g + 1 := ⟨fM - 1, by omega⟩
    simp only [L_Re_believed_8, L_Mo_sprouts_21, J_Re_believed_81, J_Mo_sprouts_42]
    rw [B, S, S, fbd_s, fbd_s, fbd_s, show (100 : Int32) = nI 100 from rfl, if_neg (nI_ge (by omega) (by omega)), show (99 : Int32) = nI 99 from rfl, if_neg (nI_nlt (by omega) (by omega)), nI_1]
    by_cases c : nI (cnt (pRp (IX 32) (nI v)) k) ≤ nI (cnt (pRp (IX 32) (nI b)) k)
    · rw [if_pos c, if_pos c]
      exact ih (v + 1) fX fM b (by omega) (by omega) (by omega)
    · rw [if_neg c, if_neg c]
      exact ih (v + 1) fX fM v (by omega) (by omega) (by omega)
theorem sim_sprouts : S_sprouts GInv := by
  intro x1 IX IM h
  have h9 := ginv_told (v := 0) h
  generalize hI : mw IM 0 0 0 = I1 at h9
  obtain ⟨hT, hR, hBk, hLw, hVo, hDi, hRe, hNe, hFa, hCo, hFl, hGi, hSp, hRp, hJa⟩ := h9.2.2.1
  obtain ⟨e1, k, hk, e2, h3⟩ := hRp
  have h4 : ∀ i, i < k → IX 32 (4 * i) = I1 37 i ∧ IX 32 (4 * i + 1) = I1 38 i := fun i hi => ⟨(h3 i hi).1, (h3 i hi).2.1⟩
  simp only [F_Mo_sprouts, fstf_d, hI, isIn_within _ _ _ I1 IX, F_Gb_sprouts, J_Gb_sprouts_30]
  by_cases c1 : F_Gb_within x1 0 1 IX = 0
  · exact ⟨-1, IX, I1, ⟨by rw [if_pos c1], rfl⟩, by rw [if_pos c1], h9⟩
  rw [if_neg c1, if_neg c1]
  have S : ∀ v, F_Mo_sayingOf v I1 = some (nI (cnt (pRp (IX 32) v) k)) := by
    intro v
    unfold F_Mo_sayingOf
    rw [fbd_i]; exact say_l hk e2 h4 v k 0 5000 (by omega) (by omega)
  have B : ∀ x2, ∃ b2 : Nat, L_Re_believed_8 31 32 x2 IX 5000 0 0 0 = some (nI (cnt (pRp (IX 32) (nI b2)) k), nI b2) ∧ L_Mo_sprouts_21 x1 I1 5000 0 1 = some (nI b2) := by
    intro x2
    obtain ⟨b2, q1, q2⟩ := spr_l hk (e1.trans e2) e2 h4 x2 x1 99 1 4999 5000 0 (by omega) (by omega) (by omega)
    refine ⟨b2, ?_, q2⟩
    rw [← q1]
    show L_Re_believed_8 31 32 x2 IX (4999 + 1) 0 0 0 = _
    rw [L_Re_believed_8]
    unfold J_Re_believed_81
    rw [if_neg (by decide), show L_Re_believed_21 31 32 x2 0 0 0 IX 5000 0 0 = some (nI (cnt (pRp (IX 32) (nI 0)) k)) from bel_l hk (e1.trans e2) x2 0 0 0 k 0 5000 (by omega) (by omega), fbd_s]
    have hc := cnt_le (pRp (IX 32) (nI 0)) k
    by_cases c : nI (cnt (pRp (IX 32) (nI 0)) k) ≤ 0
    · rw [if_pos c]
      have c2 : cnt (pRp (IX 32) (nI 0)) k = 0 := by
        have := (nI_leI (b := 0) (by omega) (by decide)).mp c
        omega
      rw [c2]; rfl
    · rw [if_neg c]; rfl
  obtain ⟨w, rfl, -, hw⟩ := wi_rng 0 1 c1 rfl rfl (by decide) (by decide)
  have hw2 : w = 0 ∨ w = 1 := by omega
  rcases hw2 with rfl | rfl
  · rw [if_neg (show ¬ nI 0 = 1 by decide)]
    unfold F_Re_believed
    obtain ⟨b2, q1, q2⟩ := B 0
    exact ⟨nI b2, IX, I1, ⟨by rw [q1]; rfl, rfl⟩, by rw [q2]; rfl, h9⟩
  · rw [if_pos (show nI 1 = 1 from rfl)]
    unfold F_Re_believed
    obtain ⟨b2, q1, q2⟩ := B 1
    refine ⟨_, IX, I1, ⟨by rw [q1]; rfl, rfl⟩, ?_, h9⟩
    rw [q2, fbd_s, if_neg (show ¬ nI 1 = 0 by decide), S]; rfl
