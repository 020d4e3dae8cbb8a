/-! meets, game. -/
theorem nI_nm1 {d : Nat} (h : d < 2 ^ 31) : ¬ nI d = -1 := fun q => by
  have := congrArg Int32.toInt q
  rw [nI_toInt h, show (-1 : Int32).toInt = -1 from rfl] at this
  omega
theorem nsub_le {a b : Nat} (ha : a < 2 ^ 30) (hb : b < 2 ^ 30) : nI a - nI b ≤ 0 ↔ a ≤ b := by
  rw [Int32.le_iff_toInt_le, pk_sub_toInt ha hb, show (0 : Int32).toInt = 0 from rfl]; omega
def mRel (c : Nat) (x y : Int32) : Prop := (c = 0 ∧ x = -1 ∧ y = 100000000) ∨ (0 < c ∧ ∃ d : Nat, d ≤ 99 ∧ x = nI d ∧ y = nI d)
theorem meet_1 {IX I1 : gb_Mem} {k a : Nat} (hk : k ≤ 8) (eX : IX 23 2 = nI k) (eM : I1 0 50 = nI k) (h3 : ∀ i, i < k → IX 24 (4 * i) = I1 30 i ∧ IX 24 (4 * i + 1) = I1 31 i ∧ gIn (I1 30 i) 0 99) (ha : a < k) (x1 x2 : Int32) : ∀ m j fX fM c x y, j + m = k → m < fX → m < fM → mRel c x y →
    ∃ c2 x2' y2, L_Re_meetings_20 23 32 x2 (nI a) IX fX (nI c) x (nI j) = some (nI c2, x2') ∧ L_Mo_meets_38 x1 (nI a) I1 fM (nI c) y (nI j) = some (nI c2, y2) ∧ mRel c2 x2' y2 ∧ c2 ≤ c + m := by
  intro m
  induction m with
  | zero =>
    intro j fX fM c x y hj h1 h2 hr
    obtain ⟨fX, rfl⟩ : ∃ g, fX = g + 1 := ⟨fX - 1, by omega⟩
    obtain ⟨fM, rfl⟩ : ∃ g, fM = g + 1 := ⟨fM - 1, by omega⟩
    refine ⟨c, x, y, ?_, ?_, hr, by omega⟩
    · simp only [L_Re_meetings_20, eX]
      rw [if_pos (nI_le (by omega) (by omega))]
    · simp only [L_Mo_meets_38, eM]
      rw [if_pos (nI_le (by omega) (by omega))]
  | succ m ih =>
    intro j fX fM c x y hj h1 h2 hr
    obtain ⟨fX, rfl⟩ : ∃ g, fX = g + 1 := ⟨fX - 1, by omega⟩
    obtain ⟨fM, rfl⟩ : ∃ g, fM = g + 1 := ⟨fM - 1, by omega⟩
    obtain ⟨a1, a2, a3⟩ := h3 a ha
    obtain ⟨b1, b2, b3⟩ := h3 j (by omega)
    obtain ⟨p, ep, hp, -⟩ := gIn_n a3
    obtain ⟨q, eq, hq, -⟩ := gIn_n b3
    simp only [L_Re_meetings_20, L_Mo_meets_38, eX, eM, J_Re_meetings_95, J_Re_meetings_93, J_Mo_meets_113, flt_d]
    rw [if_neg (nI_ge (by omega) (by omega)), if_neg (nI_ge (by omega) (by omega))]
    rw [cell_n0 eX (by omega) (by omega) (by decide), fbd_s, cell_n0 eX ha (by omega) (by decide), fbd_s, cell_n1 eX ha (by omega) (by decide), fbd_s, cell_n1 eX (by omega) (by omega) (by decide), fbd_s]
    simp only [flod_n (show a < 8 by omega) (show 8 < 2 ^ 31 by decide), flod_n (show j < 8 by omega) (show 8 < 2 ^ 31 by decide)]
    rw [show IX (23 + 1) (4 * j) = nI q from b1.trans eq, show IX (23 + 1) (4 * a) = nI p from a1.trans ep, show IX (23 + 1) (4 * a + 1) = I1 31 a from a2, show IX (23 + 1) (4 * j + 1) = I1 31 j from b2, ep, eq]
    have stay : ∃ c2 x2' y2, L_Re_meetings_20 23 32 x2 (nI a) IX fX (nI c) x (nI j + 1) = some (nI c2, x2') ∧ L_Mo_meets_38 x1 (nI a) I1 fM (nI c) y (nI j + 1) = some (nI c2, y2) ∧ mRel c2 x2' y2 ∧ c2 ≤ c + (m + 1) := by
      rw [nI_1]
      obtain ⟨c2, x3, y3, g1, g2, g3, g4⟩ := ih (j + 1) fX fM c x y (by omega) (by omega) (by omega) hr
      exact ⟨c2, x3, y3, g1, g2, g3, by omega⟩
    by_cases d1 : I1 31 a = 1
    · rw [if_pos d1, if_pos d1]
      by_cases d2 : I1 31 j = 0
      · rw [if_pos d2, if_pos d2]
        by_cases d3 : q ≤ p
        · rw [if_pos ((nsub_le (by omega) (by omega)).mpr d3), if_neg (nI_nlt d3 (by omega))]
          exact stay
        · rw [if_neg (fun z => d3 ((nsub_le (by omega) (by omega)).mp z)), if_pos (nI_lt (by omega) (by omega)), pk_sub (by omega), nI_1, nI_1]
          rcases hr with ⟨rfl, rfl, rfl⟩ | ⟨hc, d, hd, rfl, rfl⟩
          · rw [if_pos rfl, show (100000000 : Int32) = nI 100000000 from rfl, lesser_n (by decide) (by omega), Nat.min_eq_right (by omega)]
            obtain ⟨c2, x3, y3, g1, g2, g3, g4⟩ := ih (j + 1) fX fM (0 + 1) (nI (q - p)) (nI (q - p)) (by omega) (by omega) (by omega) (Or.inr ⟨by omega, q - p, by omega, rfl, rfl⟩)
            exact ⟨c2, x3, y3, g1, g2, g3, by omega⟩
          · rw [if_neg (nI_nm1 (by omega)), lesser_n (by omega) (by omega), mn_n (by omega) (by omega)]
            obtain ⟨c2, x3, y3, g1, g2, g3, g4⟩ := ih (j + 1) fX fM (c + 1) (nI (min d (q - p))) (nI (min d (q - p))) (by omega) (by omega) (by omega) (Or.inr ⟨by omega, min d (q - p), by omega, rfl, rfl⟩)
            exact ⟨c2, x3, y3, g1, g2, g3, by omega⟩
      · rw [if_neg d2, if_neg d2]; exact stay
    · rw [if_neg d1, if_neg d1]; exact stay
theorem meet_2 {IX I1 : gb_Mem} {k : Nat} (hk : k ≤ 8) (eX : IX 23 2 = nI k) (eM : I1 0 50 = nI k) (h3 : ∀ i, i < k → IX 24 (4 * i) = I1 30 i ∧ IX 24 (4 * i + 1) = I1 31 i ∧ gIn (I1 30 i) 0 99) (x1 x2 : Int32) : ∀ m j fX fM c x y, j + m = k → m < fX → m < fM → mRel c x y →
    ∃ c2 x2' y2, L_Re_meetings_8 23 32 x2 IX fX (nI c) x (nI j) = some (nI c2, x2') ∧ L_Mo_meets_26 x1 I1 fM (nI c) y (nI j) = some (nI c2, y2) ∧ mRel c2 x2' y2 ∧ c2 ≤ c + 8 * m := by
  intro m
  induction m with
  | zero =>
    intro j fX fM c x y hj h1 h2 hr
    obtain ⟨fX, rfl⟩ : ∃ g, fX = g + 1 := ⟨fX - 1, by omega⟩
    obtain ⟨fM, rfl⟩ : ∃ g, fM = g + 1 := ⟨fM - 1, by omega⟩
    refine ⟨c, x, y, ?_, ?_, hr, by omega⟩
    · simp only [L_Re_meetings_8, eX]
      rw [if_pos (nI_le (by omega) (by omega))]
    · simp only [L_Mo_meets_26, eM]
      rw [if_pos (nI_le (by omega) (by omega))]
  | succ m ih =>
    intro j fX fM c x y hj h1 h2 hr
    obtain ⟨fX, rfl⟩ : ∃ g, fX = g + 1 := ⟨fX - 1, by omega⟩
    obtain ⟨fM, rfl⟩ : ∃ g, fM = g + 1 := ⟨fM - 1, by omega⟩
    obtain ⟨c2, x3, y3, g1, g2, g3, g4⟩ := meet_1 hk eX eM h3 (show j < k by omega) x1 x2 k 0 5000 5000 c x y (by omega) (by omega) (by omega) hr
    simp only [L_Re_meetings_8, L_Mo_meets_26, eX, eM]
    rw [if_neg (nI_ge (by omega) (by omega)), if_neg (nI_ge (by omega) (by omega))]
    rw [show L_Re_meetings_20 23 32 x2 (nI j) IX 5000 (nI c) x 0 = _ from g1, show L_Mo_meets_38 x1 (nI j) I1 5000 (nI c) y 0 = _ from g2, fbd_s, fbd_s, nI_1]
    obtain ⟨c4, x4, y4, f1, f2, f3, f4⟩ := ih (j + 1) fX fM c2 x3 y3 (by omega) (by omega) (by omega) g3
    exact ⟨c4, x4, y4, f1, f2, f3, by omega⟩
theorem sim_meets : S_meets GInv := by
  intro x1 IX IM h
  have h9 := ginv_told (v := 0) h
  generalize hI : mw IM 0 0 0 = I1 at h9
  obtain ⟨hT, hR, hBk, hLw, hVo, hDi, hRe, hNe, hFa, hCo, hFl, hGi, hSp, hRp, hJa⟩ := h9.2.2.1
  obtain ⟨e1, k, hk, e2, h3⟩ := hCo
  have h4 : ∀ i, i < k → IX 24 (4 * i) = I1 30 i ∧ IX 24 (4 * i + 1) = I1 31 i ∧ gIn (I1 30 i) 0 99 := fun i hi => ⟨(h3 i hi).1, (h3 i hi).2.1, (h3 i hi).2.2.1⟩
  simp only [F_Mo_meets, fstf_d, hI, isIn_within _ _ _ I1 IX, F_Gb_meets, J_Gb_meets_30]
  by_cases c1 : F_Gb_within x1 0 1 IX = 0
  · exact ⟨-1, IX, I1, ⟨by rw [if_pos c1], rfl⟩, by rw [if_pos c1], h9⟩
  rw [if_neg c1, if_neg c1]
  obtain ⟨w, rfl, -, hw⟩ := wi_rng 0 1 c1 rfl rfl (by decide) (by decide)
  obtain ⟨c2, x3, y3, g1, g2, g3, g4⟩ := meet_2 hk (e1.trans e2) e2 h4 (nI w) (nI w) k 0 5000 5000 0 (-1) 100000000 (by omega) (by omega) (by omega) (Or.inl ⟨rfl, rfl, rfl⟩)
  have hw2 : w = 0 ∨ w = 1 := by omega
  rcases hw2 with rfl | rfl
  · rw [if_neg (show ¬ nI 0 = 1 by decide)]
    unfold F_Re_meetings
    refine ⟨nI c2, IX, I1, ⟨?_, rfl⟩, ?_, h9⟩
    · rw [show L_Re_meetings_8 23 32 0 IX 5000 0 (-1) 0 = _ from g1]; rfl
    · rw [show L_Mo_meets_26 (nI 0) I1 5000 0 100000000 0 = _ from g2]; rfl
  · rw [if_pos (show nI 1 = 1 from rfl)]
    unfold F_Re_meetings
    refine ⟨x3, IX, I1, ⟨?_, rfl⟩, ?_, h9⟩
    · rw [show L_Re_meetings_8 23 32 1 IX 5000 0 (-1) 0 = _ from g1]; rfl
    · rw [show L_Mo_meets_26 (nI 1) I1 5000 0 100000000 0 = _ from g2, fbd_s]
      simp only []
      rw [if_neg (show ¬ nI 1 = 0 by decide)]
      rcases g3 with ⟨rfl, rfl, rfl⟩ | ⟨hc, d, hd, rfl, rfl⟩
      · rfl
      · rw [if_neg (nI_ne0 hc (by omega))]
/-- the game -/
def gNb (n : Nat) : Int32 := if n = 0 then 0 else if n % 2 = 1 then 1 else 2
theorem nimX {n : Nat} {I : gb_Mem} (hn : n < 2 ^ 31) : F_Se_nimberOf (nI n) I = gNb n := by
  unfold F_Se_nimberOf gNb
  by_cases h : n = 0
  · subst h; rfl
  · rw [if_pos (show (0 : Int32) < nI n from nI_lt (a := 0) (by omega) hn), if_neg h, pk_andN (by omega) 1 (by decide)]
    by_cases h1 : n % 2 = 1
    · rw [if_pos h1, show n % 2 ^ 1 = 1 from h1]; rfl
    · rw [if_neg h1, show n % 2 ^ 1 = 0 by omega]; rfl
theorem nimM {n : Nat} {I : gb_Mem} (hn : n < 2 ^ 31) : F_Mo_nimber (nI n) I = some (gNb n) := by
  unfold F_Mo_nimber gNb
  by_cases h : n = 0
  · subst h; rfl
  · rw [if_neg (nI_ne0 (by omega) hn), if_neg h, show nI n - nI n / 2 * 2 = nI (n % 2) from pk_rem hn (by decide) (by decide)]
    by_cases h1 : n % 2 = 1
    · rw [if_pos h1, h1]; rfl
    · rw [if_neg h1, show n % 2 = 0 by omega]; rfl
theorem gNb_ne {n : Nat} : ¬ gNb n = gNb (n + 1) ∧ ¬ gNb (n + 1) = 0 := by
  unfold gNb
  by_cases h1 : n % 2 = 1
  · rw [if_neg (by omega), if_pos h1, if_neg (by omega), if_neg (by omega)]; decide
  · rw [if_neg (show ¬ n + 1 = 0 by omega), if_pos (show (n + 1) % 2 = 1 by omega)]
    split
    · decide
    · decide
theorem game_1 {IX I1 : gb_Mem} (h : ∀ s, s < 12 → IX 3 (48 + s) = I1 1 (18 + s) ∧ gIn (I1 1 (18 + s)) 0 999) (x1 y1 : Int32) : ∀ m i fX fM acc, i + m = 12 → m < fX → m < fM → ∃ v, L_Se_ladling_4 x1 IX fX acc (nI i) = some v ∧ L_Mo_game_21 y1 I1 fM acc (nI i) = some v := by
  intro m
  induction m with
  | zero =>
    intro i fX fM acc hi h1 h2
    obtain ⟨fX, rfl⟩ : ∃ g, fX = g + 1 := ⟨fX - 1, by omega⟩
    obtain ⟨fM, rfl⟩ : ∃ g, fM = g + 1 := ⟨fM - 1, by omega⟩
    refine ⟨acc, ?_, ?_⟩
    · simp only [L_Se_ladling_4]
      rw [show (12 : Int32) = nI 12 from rfl, if_pos (nI_le (by omega) (by omega))]
    · simp only [L_Mo_game_21]
      rw [show (12 : Int32) = nI 12 from rfl, if_pos (nI_le (by omega) (by omega))]
  | succ m ih =>
    intro i fX fM acc hi h1 h2
    obtain ⟨fX, rfl⟩ : ∃ g, fX = g + 1 := ⟨fX - 1, by omega⟩
    obtain ⟨fM, rfl⟩ : ∃ g, fM = g + 1 := ⟨fM - 1, by omega⟩
    obtain ⟨a1, a2⟩ := h i (by omega)
    obtain ⟨n, en, hn, -⟩ := gIn_n a2
    simp only [L_Se_ladling_4, L_Mo_game_21, flt_d]
    rw [show (12 : Int32) = nI 12 from rfl, if_neg (nI_ge (by omega) (by omega)), if_neg (nI_ge (by omega) (by omega))]
    rw [show F_Ta_ofSeat 2 4 (nI i) IX = some (nI n) from (ofSeat_n (w := 4) (by decide) (by omega)).trans (congrArg some (a1.trans en)), fbd_s, show (18 : Int32) + nI i = nI (18 + i) from nI_add 18 i, flod_n (by omega) (by decide), en, nimM (by omega), fbd_s, nimX (by omega), nI_1]
    exact ih (i + 1) fX fM _ (by omega) (by omega) (by omega)
theorem game_0 {I1 : gb_Mem} (h : ∀ s, s < 12 → gIn (I1 1 (18 + s)) 0 999) (x1 : Int32) : ∀ m i f, i + m = 12 → m < f → L_Mo_game_51 x1 0 I1 f (nI i) = some (.inl ()) := by
  intro m
  induction m with
  | zero =>
    intro i f hi hf
    obtain ⟨f, rfl⟩ : ∃ g, f = g + 1 := ⟨f - 1, by omega⟩
    simp only [L_Mo_game_51]
    rw [show (12 : Int32) = nI 12 from rfl, if_pos (nI_le (by omega) (by omega))]
  | succ m ih =>
    intro i f hi hf
    obtain ⟨f, rfl⟩ : ∃ g, f = g + 1 := ⟨f - 1, by omega⟩
    obtain ⟨n, en, hn, -⟩ := gIn_n (h i (by omega))
    have hx := ih (i + 1) f (by omega) (by omega)
    simp only [L_Mo_game_51, J_Mo_game_106, J_Mo_game_127]
    rw [show (12 : Int32) = nI 12 from rfl, if_neg (nI_ge (by omega) (by omega)), show (18 : Int32) + nI i = nI (18 + i) from nI_add 18 i, flod_n (by omega) (by decide), en, nimM (by omega), fbd_s, nI_1, Int32.zero_xor]
    cases n with
    | zero => rw [if_pos (show nI 0 ≤ 0 by decide)]; exact hx
    | succ n =>
      rw [if_neg (nI_nle (by omega) (by omega)), if_neg (nI_nle (by omega) (by omega)), nI_pred, nimM (by omega), fbd_s, if_neg gNb_ne.1, if_neg gNb_ne.2]
      exact hx
theorem game_2 {IX I1 : gb_Mem} (h : ∀ s, s < 12 → IX 3 (48 + s) = I1 1 (18 + s) ∧ gIn (I1 1 (18 + s)) 0 999) (x1 o : Int32) (ho : ¬ o = 0) : ∀ m i fX fM, i + m = 12 → m < fX → m < fM → (L_Se_ladling_36 x1 o IX fX (nI i) = some (.inl ()) ∧ L_Mo_game_51 x1 o I1 fM (nI i) = some (.inl ())) ∨ ∃ q, L_Se_ladling_36 x1 o IX fX (nI i) = some (.inr q) ∧ L_Mo_game_51 x1 o I1 fM (nI i) = some (.inr (q, I1)) := by
  intro m
  induction m with
  | zero =>
    intro i fX fM hi h1 h2
    obtain ⟨fX, rfl⟩ : ∃ g, fX = g + 1 := ⟨fX - 1, by omega⟩
    obtain ⟨fM, rfl⟩ : ∃ g, fM = g + 1 := ⟨fM - 1, by omega⟩
    refine Or.inl ⟨?_, ?_⟩
    · simp only [L_Se_ladling_36]
      rw [show (12 : Int32) = nI 12 from rfl, if_neg ho, if_pos (nI_le (by omega) (by omega))]
    · simp only [L_Mo_game_51]
      rw [show (12 : Int32) = nI 12 from rfl, if_pos (nI_le (by omega) (by omega))]
  | succ m ih =>
    intro i fX fM hi h1 h2
    obtain ⟨fX, rfl⟩ : ∃ g, fX = g + 1 := ⟨fX - 1, by omega⟩
    obtain ⟨fM, rfl⟩ : ∃ g, fM = g + 1 := ⟨fM - 1, by omega⟩
    obtain ⟨a1, a2⟩ := h i (by omega)
    obtain ⟨n, en, hn, -⟩ := gIn_n a2
    have hx := ih (i + 1) fX fM (by omega) (by omega) (by omega)
    simp only [L_Se_ladling_36, L_Mo_game_51, flt_d, J_Mo_game_106, J_Mo_game_127, J_Se_ladling_96, J_Se_ladling_117]
    rw [show (12 : Int32) = nI 12 from rfl, if_neg ho, if_neg (nI_ge (by omega) (by omega)), if_neg (nI_ge (by omega) (by omega))]
    rw [show F_Ta_ofSeat 2 4 (nI i) IX = some (nI n) from (ofSeat_n (w := 4) (by decide) (by omega)).trans (congrArg some (a1.trans en)), fbd_s, show (18 : Int32) + nI i = nI (18 + i) from nI_add 18 i, flod_n (by omega) (by decide), en, nimM (by omega), fbd_s, nimX (by omega), nI_1]
    cases n with
    | zero => rw [if_pos (show nI 0 ≤ 0 by decide), if_pos (show nI 0 ≤ 0 by decide), if_pos (show nI 0 ≤ 0 by decide), if_pos (show nI 0 ≤ 0 by decide)]; exact hx
    | succ n =>
      rw [if_neg (nI_nle (by omega) (by omega)), if_neg (nI_nle (by omega) (by omega)), if_neg (nI_nle (by omega) (by omega)), if_neg (nI_nle (by omega) (by omega)), nI_pred, nimM (by omega), fbd_s, nimX (by omega)]
      by_cases c1 : gNb n = o ^^^ gNb (n + 1)
      · rw [if_pos c1, if_pos c1]
        by_cases c2 : x1 = 0
        · rw [if_pos c2, if_pos c2]; exact Or.inr ⟨_, rfl, rfl⟩
        · rw [if_neg c2, if_neg c2]; exact Or.inr ⟨_, rfl, rfl⟩
      · rw [if_neg c1, if_neg c1]
        by_cases c3 : o ^^^ gNb (n + 1) = 0
        · rw [if_pos c3, if_pos c3]
          by_cases c2 : x1 = 0
          · rw [if_pos c2, if_pos c2]; exact Or.inr ⟨_, rfl, rfl⟩
          · rw [if_neg c2, if_neg c2]; exact Or.inr ⟨_, rfl, rfl⟩
        · rw [if_neg c3, if_neg c3]; exact hx
theorem sim_game : S_game GInv := by
  intro x1 IX IM h
  have h9 := ginv_told (v := 0) h
  generalize hI : mw IM 0 0 0 = I1 at h9
  obtain ⟨hT, hR, hBk, hLw, hVo, hDi, hRe, hNe, hFa, hCo, hFl, hGi, hSp, hRp, hJa⟩ := h9.2.2.1
  have hs : ∀ s, s < 12 → IX 3 (48 + s) = I1 1 (18 + s) ∧ gIn (I1 1 (18 + s)) 0 999 := fun s hs => ⟨(hT.2.1 s hs).2.2.2.2, (hR.2.1 s hs).2.2⟩
  simp only [F_Mo_game, fstf_d, hI, isIn_within _ _ _ I1 IX, F_Gb_game, J_Gb_game_23]
  by_cases c1 : F_Gb_within x1 0 1 IX = 0
  · exact ⟨-1, IX, I1, ⟨by rw [if_pos c1], rfl⟩, by rw [if_pos c1], h9⟩
  rw [if_neg c1, if_neg c1]
  obtain ⟨w, rfl, -, hw⟩ := wi_rng 0 1 c1 rfl rfl (by decide) (by decide)
  have key : ∀ x1 : Int32, ∃ r, F_Se_ladling x1 IX = some r ∧ (fbd (L_Mo_game_21 x1 I1 5000 0 0) fun o4 => fbr (L_Mo_game_51 x1 o4 I1 5000 0) (fun _ => some (-1, I1)) (fun (q8, I9) => some (q8, I9))) = some (r, I1) := by
    intro x1
    obtain ⟨v, g1, g2⟩ := game_1 hs x1 x1 12 0 5000 5000 0 (by omega) (by omega) (by omega)
    unfold F_Se_ladling
    rw [show L_Se_ladling_4 x1 IX 5000 0 0 = _ from g1, show L_Mo_game_21 x1 I1 5000 0 0 = _ from g2, fbd_s, fbd_s]
    by_cases hv : v = 0
    · subst hv
      refine ⟨-1, ?_, ?_⟩
      · show fbr (L_Se_ladling_36 x1 0 IX (4999 + 1) 0) _ _ = _
        rw [L_Se_ladling_36]
        rfl
      · rw [show L_Mo_game_51 x1 0 I1 5000 0 = _ from game_0 (fun s hs9 => (hs s hs9).2) x1 12 0 5000 (by omega) (by omega)]; rfl
    · rcases game_2 hs x1 v hv 12 0 5000 5000 (by omega) (by omega) (by omega) with ⟨q1, q2⟩ | ⟨q, q1, q2⟩
      · exact ⟨-1, by rw [show L_Se_ladling_36 x1 v IX 5000 0 = _ from q1]; rfl, by rw [show L_Mo_game_51 x1 v I1 5000 0 = _ from q2]; rfl⟩
      · exact ⟨q, by rw [show L_Se_ladling_36 x1 v IX 5000 0 = _ from q1]; rfl, by rw [show L_Mo_game_51 x1 v I1 5000 0 = _ from q2]; rfl⟩
  have hw2 : w = 0 ∨ w = 1 := by omega
  rcases hw2 with rfl | rfl
  · rw [if_neg (show ¬ nI 0 = 1 by decide), fbd_i]
    obtain ⟨r, q1, q2⟩ := key 0
    exact ⟨r, IX, I1, ⟨q1, rfl⟩, q2, h9⟩
  · rw [if_pos (show nI 1 = 1 from rfl), fbd_i]
    obtain ⟨r, q1, q2⟩ := key 1
    exact ⟨r, IX, I1, ⟨q1, rfl⟩, q2, h9⟩
