/-! treaty. -/
theorem lu_initX {x1 x2 x3 : Int32} : ∀ m i f (I : gb_Mem), i + m = 169 → m < f → (∀ j, j < i → I 107 j = nI (if j = 0 then 1 else 0)) → ∃ J, L_Re_lumpings_3 x1 x2 x3 f (nI i) I = some J ∧ (∀ c, c ≠ 107 → J c = I c) ∧ ∀ j, j < 169 → J 107 j = nI (if j = 0 then 1 else 0) := by
  intro m
  induction m with
  | zero =>
    intro i f I hi hf hI
    obtain ⟨f, rfl⟩ : ∃ g, f = g + 1 := ⟨f - 1, by omega⟩
    refine ⟨I, ?_, fun _ _ => rfl, fun j hj => hI j (by omega)⟩
    simp only [L_Re_lumpings_3]
    rw [show (169 : Int32) = nI 169 from rfl, if_pos (nI_le (by omega) (by omega))]
  | succ m ih =>
    intro i f I hi hf hI
    obtain ⟨f, rfl⟩ : ∃ g, f = g + 1 := ⟨f - 1, by omega⟩
    simp only [L_Re_lumpings_3, J_Re_lumpings_29]
    rw [if_neg (show ¬ 169 ≤ nI i from nI_ge (b := 169) (by omega) (by omega)), fsto_n (by omega) (by decide), fsto_n (by omega) (by decide), nI_1]
    have key : ∀ v : Int32, v = nI (if i = 0 then 1 else 0) → ∃ J, L_Re_lumpings_3 x1 x2 x3 f (nI (i + 1)) (mw I 107 i v) = some J ∧ (∀ c, c ≠ 107 → J c = I c) ∧ ∀ j, j < 169 → J 107 j = nI (if j = 0 then 1 else 0) := by
      intro v hv
      obtain ⟨J, g1, g2, g3⟩ := ih (i + 1) f (mw I 107 i v) (by omega) (by omega) (by
        intro j hj
        rw [mw_eq, upd_ap]
        by_cases c : j = i
        · subst c; rw [if_pos rfl]; exact hv
        · rw [if_neg c]; exact hI j (by omega))
      exact ⟨J, g1, fun c hc => by rw [g2 c hc, mw_ne hc], g3⟩
    by_cases c : i = 0
    · subst c
      rw [if_pos (show nI 0 = 0 from rfl)]; exact key 1 rfl
    · rw [if_neg (nI_ne0 (by omega) (by omega))]; exact key 0 (by rw [if_neg c]; rfl)
theorem lu_initM {x1 x2 x3 : Int32} : ∀ m i f (I : gb_Mem), i + m = 41 → m < f → (∀ j, j < i → I 33 j = nI (if j = 0 then 1 else 0)) → ∃ J, L_Mo_treaty_42 x1 x2 x3 f (nI i) I = some J ∧ (∀ c, c ≠ 33 → J c = I c) ∧ ∀ j, j < 41 → J 33 j = nI (if j = 0 then 1 else 0) := by
  intro m
  induction m with
  | zero =>
    intro i f I hi hf hI
    obtain ⟨f, rfl⟩ : ∃ g, f = g + 1 := ⟨f - 1, by omega⟩
    refine ⟨I, ?_, fun _ _ => rfl, fun j hj => hI j (by omega)⟩
    simp only [L_Mo_treaty_42]
    rw [show (41 : Int32) = nI 41 from rfl, if_pos (nI_le (by omega) (by omega))]
  | succ m ih =>
    intro i f I hi hf hI
    obtain ⟨f, rfl⟩ : ∃ g, f = g + 1 := ⟨f - 1, by omega⟩
    simp only [L_Mo_treaty_42, J_Mo_treaty_65]
    rw [if_neg (show ¬ 41 ≤ nI i from nI_ge (b := 41) (by omega) (by omega)), fsto_n (by omega) (by decide), fsto_n (by omega) (by decide), nI_1]
    have key : ∀ v : Int32, v = nI (if i = 0 then 1 else 0) → ∃ J, L_Mo_treaty_42 x1 x2 x3 f (nI (i + 1)) (mw I 33 i v) = some J ∧ (∀ c, c ≠ 33 → J c = I c) ∧ ∀ j, j < 41 → J 33 j = nI (if j = 0 then 1 else 0) := by
      intro v hv
      obtain ⟨J, g1, g2, g3⟩ := ih (i + 1) f (mw I 33 i v) (by omega) (by omega) (by
        intro j hj
        rw [mw_eq, upd_ap]
        by_cases c : j = i
        · subst c; rw [if_pos rfl]; exact hv
        · rw [if_neg c]; exact hI j (by omega))
      exact ⟨J, g1, fun c hc => by rw [g2 c hc, mw_ne hc], g3⟩
    by_cases c : i = 0
    · subst c
      rw [if_pos (show nI 0 = 0 from rfl)]; exact key 1 rfl
    · rw [if_neg (nI_ne0 (by omega) (by omega))]; exact key 0 (by rw [if_neg c]; rfl)
theorem added_n {a b : Nat} {I : gb_Mem} (ha : a < 1000000007) (hb : b < 1000000007) : F_Mo_added (nI a) (nI b) I = nI ((a + b) % 1000000007) := by
  unfold F_Mo_added
  rw [show (1000000007 : Int32) = nI 1000000007 from rfl, pk_sub (by omega)]
  by_cases c : a < 1000000007 - b
  · rw [if_pos (nI_lt c (by omega)), nI_add, Nat.mod_eq_of_lt (by omega)]
  · rw [if_neg (nI_nlt (by omega) (by omega)), pk_sub (by omega)]
    congr 1
    omega
theorem addX_n {a b : Nat} (ha : a < 1000000007) (hb : b < 1000000007) : (nI a + nI b) - (nI a + nI b) / 1000000007 * 1000000007 = nI ((a + b) % 1000000007) := by
  rw [nI_add]; exact pk_rem (by omega) (by decide) (by decide)
def luR (g l : Nat → Int32) : Prop := ∀ j, j ≤ 40 → g j = l j ∧ ∃ v : Nat, v < 1000000007 ∧ l j = nI v
theorem luR.put {g l : Nat → Int32} (h : luR g l) {k v : Nat} (hv : v < 1000000007) : luR (upd g k (nI v)) (upd l k (nI v)) := by
  intro j hj
  rw [upd_ap, upd_ap]
  by_cases c : j = k
  · rw [if_pos c, if_pos c]; exact ⟨rfl, v, hv, rfl⟩
  · rw [if_neg c, if_neg c]; exact h j hj
/-- one lump: upwards -/
theorem lu_up {n l : Nat} (hn : n ≤ 40) (hl : 1 ≤ l) (x2 : Int32) : ∀ m v fX fM (IX IM : gb_Mem), v + m = n + 1 → l ≤ v → m < fX → m < fM → luR (IX 107) (IM 33) →
    ∃ JX JM, L_Re_lumpings_49 (nI n) x2 0 (nI l) fX (nI v) IX = some JX ∧ L_Mo_treaty_85 (nI n) x2 0 (nI l) fM (nI v) IM = some JM ∧ luR (JX 107) (JM 33) ∧ (∀ c, c ≠ 107 → JX c = IX c) ∧ (∀ c, c ≠ 33 → JM c = IM c) := by
  intro m
  induction m with
  | zero =>
    intro v fX fM IX IM hv hl2 h1 h2 hr
    obtain ⟨fX, rfl⟩ : ∃ g, fX = g + 1 := ⟨fX - 1, by omega⟩
    obtain ⟨fM, rfl⟩ : ∃ g, fM = g + 1 := ⟨fM - 1, by omega⟩
    refine ⟨IX, IM, ?_, ?_, hr, fun _ _ => rfl, fun _ _ => rfl⟩
    · simp only [L_Re_lumpings_49]
      rw [if_pos (nI_lt (by omega) (by omega))]
    · simp only [L_Mo_treaty_85]
      rw [if_pos (nI_lt (by omega) (by omega))]
  | succ m ih =>
    intro v fX fM IX IM hv hl2 h1 h2 hr
    obtain ⟨fX, rfl⟩ : ∃ g, fX = g + 1 := ⟨fX - 1, by omega⟩
    obtain ⟨fM, rfl⟩ : ∃ g, fM = g + 1 := ⟨fM - 1, by omega⟩
    obtain ⟨a1, a, ha, ea⟩ := hr v (by omega)
    obtain ⟨b1, b, hb, eb⟩ := hr (v - l) (by omega)
    simp only [L_Re_lumpings_49, L_Mo_treaty_85, J_Re_lumpings_71, J_Re_lumpings_118]
    rw [if_neg (nI_nlt (by omega) (by omega)), if_neg (nI_nlt (by omega) (by omega)), if_pos True.intro, if_pos True.intro, if_neg (by rw [show (169 - 1 : Int32) = nI 168 from rfl, within_n (by omega) (by omega) (by omega)]; decide)]
    rw [pk_sub hl2]
    rw [flod_n (by omega) (by decide), flod_n (by omega) (by decide), flod_n (by omega) (by decide), flod_n (by omega) (by decide), fsto_n (by omega) (by decide), fsto_n (by omega) (by decide), a1, b1, ea, eb, addX_n ha hb, added_n ha hb, nI_1]
    obtain ⟨JX, JM, g1, g2, g3, g4, g5⟩ := ih (v + 1) fX fM (mw IX 107 v (nI ((a + b) % 1000000007))) (mw IM 33 v (nI ((a + b) % 1000000007))) (by omega) (by omega) (by omega) (by omega) (by rw [mw_eq, mw_eq]; exact hr.put (Nat.mod_lt _ (by decide)))
    exact ⟨JX, JM, g1, g2, g3, fun c hc => by rw [g4 c hc, mw_ne hc], fun c hc => by rw [g5 c hc, mw_ne hc]⟩
theorem lu_dn {n l : Nat} (hn : n ≤ 40) (hl : 1 ≤ l) (x2 : Int32) : ∀ m v fX fM (IX IM : gb_Mem), v + m = n + 1 → l ≤ v → m < fX → m < fM → luR (IX 107) (IM 33) →
    ∃ JX JM, L_Re_lumpings_49 (nI n) x2 1 (nI l) fX (nI v) IX = some JX ∧ L_Mo_treaty_132 (nI n) x2 1 (nI l) fM (nI (n + l - v)) IM = some JM ∧ luR (JX 107) (JM 33) ∧ (∀ c, c ≠ 107 → JX c = IX c) ∧ (∀ c, c ≠ 33 → JM c = IM c) := by
  intro m
  induction m with
  | zero =>
    intro v fX fM IX IM hv hl2 h1 h2 hr
    obtain ⟨fX, rfl⟩ : ∃ g, fX = g + 1 := ⟨fX - 1, by omega⟩
    obtain ⟨fM, rfl⟩ : ∃ g, fM = g + 1 := ⟨fM - 1, by omega⟩
    refine ⟨IX, IM, ?_, ?_, hr, fun _ _ => rfl, fun _ _ => rfl⟩
    · simp only [L_Re_lumpings_49]
      rw [if_pos (nI_lt (by omega) (by omega))]
    · simp only [L_Mo_treaty_132]
      rw [if_pos (nI_lt (by omega) (by omega))]
  | succ m ih =>
    intro v fX fM IX IM hv hl2 h1 h2 hr
    obtain ⟨fX, rfl⟩ : ∃ g, fX = g + 1 := ⟨fX - 1, by omega⟩
    obtain ⟨fM, rfl⟩ : ∃ g, fM = g + 1 := ⟨fM - 1, by omega⟩
    obtain ⟨a1, a, ha, ea⟩ := hr (n + l - v) (by omega)
    obtain ⟨b1, b, hb, eb⟩ := hr (n + l - v - l) (by omega)
    simp only [L_Re_lumpings_49, L_Mo_treaty_132, J_Re_lumpings_71, J_Re_lumpings_118]
    rw [if_neg (nI_nlt (by omega) (by omega)), if_neg (nI_nlt (by omega) (by omega)), if_neg (by decide), if_pos True.intro, nI_add, pk_sub (show v ≤ n + l by omega), if_neg (by rw [show (169 - 1 : Int32) = nI 168 from rfl, within_n (by omega) (by omega) (by omega)]; decide)]
    rw [pk_sub (show l ≤ n + l - v by omega)]
    rw [flod_n (by omega) (by decide), flod_n (by omega) (by decide), flod_n (by omega) (by decide), flod_n (by omega) (by decide), fsto_n (by omega) (by decide), fsto_n (by omega) (by decide), a1, b1, ea, eb, addX_n ha hb, added_n ha hb, nI_1]
    rw [show nI (n + l - v) + -1 = nI (n + l - (v + 1)) by rw [show n + l - v = n + l - (v + 1) + 1 by omega]; exact pk_m1 _]
    obtain ⟨JX, JM, g1, g2, g3, g4, g5⟩ := ih (v + 1) fX fM (mw IX 107 (n + l - v) (nI ((a + b) % 1000000007))) (mw IM 33 (n + l - v) (nI ((a + b) % 1000000007))) (by omega) (by omega) (by omega) (by omega) (by rw [mw_eq, mw_eq]; exact hr.put (Nat.mod_lt _ (by decide)))
    exact ⟨JX, JM, g1, g2, g3, fun c hc => by rw [g4 c hc, mw_ne hc], fun c hc => by rw [g5 c hc, mw_ne hc]⟩
theorem lu_all {n k w : Nat} (hn1 : 1 ≤ n) (hn : n ≤ 40) (hk : k ≤ 9) (hw : w = 0 ∨ w = 1) : ∀ m l fX fM (IX IM : gb_Mem), l + m = k + 1 → 1 ≤ l → m < fX → m < fM → luR (IX 107) (IM 33) →
    ∃ JX JM, L_Re_lumpings_39 (nI n) (nI k) (nI w) fX (nI l) IX = some JX ∧ L_Mo_treaty_75 (nI n) (nI k) (nI w) fM (nI l) IM = some JM ∧ luR (JX 107) (JM 33) ∧ (∀ c, c ≠ 107 → JX c = IX c) ∧ (∀ c, c ≠ 33 → JM c = IM c) := by
  intro m
  induction m with
  | zero =>
    intro l fX fM IX IM hv hl2 h1 h2 hr
    obtain ⟨fX, rfl⟩ : ∃ g, fX = g + 1 := ⟨fX - 1, by omega⟩
    obtain ⟨fM, rfl⟩ : ∃ g, fM = g + 1 := ⟨fM - 1, by omega⟩
    refine ⟨IX, IM, ?_, ?_, hr, fun _ _ => rfl, fun _ _ => rfl⟩
    · simp only [L_Re_lumpings_39]
      rw [if_pos (nI_lt (by omega) (by omega))]
    · simp only [L_Mo_treaty_75]
      rw [if_pos (nI_lt (by omega) (by omega))]
  | succ m ih =>
    intro l fX fM IX IM hv hl2 h1 h2 hr
    obtain ⟨fX, rfl⟩ : ∃ g, fX = g + 1 := ⟨fX - 1, by omega⟩
    obtain ⟨fM, rfl⟩ : ∃ g, fM = g + 1 := ⟨fM - 1, by omega⟩
    have step : ∃ JX JM, L_Re_lumpings_49 (nI n) (nI k) (nI w) (nI l) 5000 (nI l) IX = some JX ∧ (fbd (L_Mo_treaty_85 (nI n) (nI k) (nI w) (nI l) 5000 (nI l) IM) fun I7 => L_Mo_treaty_132 (nI n) (nI k) (nI w) (nI l) 5000 (nI n) I7) = some JM ∧ luR (JX 107) (JM 33) ∧ (∀ c, c ≠ 107 → JX c = IX c) ∧ (∀ c, c ≠ 33 → JM c = IM c) := by
      by_cases hln : l ≤ n
      · rcases hw with rfl | rfl
        · obtain ⟨JX, JM, g1, g2, g3⟩ := lu_up hn hl2 (nI k) (n + 1 - l) l 5000 5000 IX IM (by omega) (Nat.le_refl _) (by omega) (by omega) hr
          refine ⟨JX, JM, g1, ?_, g3⟩
          rw [show L_Mo_treaty_85 (nI n) (nI k) (nI 0) (nI l) 5000 (nI l) IM = _ from g2, fbd_s]
          show L_Mo_treaty_132 (nI n) (nI k) (nI 0) (nI l) (4999 + 1) (nI n) JM = _
          rw [L_Mo_treaty_132]
          rw [if_neg (nI_nlt hln (by omega)), if_neg (by decide)]
        · obtain ⟨JX, JM, g1, g2, g3⟩ := lu_dn hn hl2 (nI k) (n + 1 - l) l 5000 5000 IX IM (by omega) (Nat.le_refl _) (by omega) (by omega) hr
          refine ⟨JX, JM, g1, ?_, g3⟩
          rw [show L_Mo_treaty_85 (nI n) (nI k) (nI 1) (nI l) 5000 (nI l) IM = some IM by
            show L_Mo_treaty_85 (nI n) (nI k) (nI 1) (nI l) (4999 + 1) (nI l) IM = some IM
            rw [L_Mo_treaty_85]
            rw [if_neg (nI_nlt hln (by omega)), if_neg (by decide)], fbd_s]
          rw [show n + l - l = n by omega] at g2
          exact g2
      · refine ⟨IX, IM, ?_, ?_, hr, fun _ _ => rfl, fun _ _ => rfl⟩
        · show L_Re_lumpings_49 (nI n) (nI k) (nI w) (nI l) (4999 + 1) (nI l) IX = some IX
          rw [L_Re_lumpings_49]
          rw [if_pos (nI_lt (by omega) (by omega))]
        · rw [show L_Mo_treaty_85 (nI n) (nI k) (nI w) (nI l) 5000 (nI l) IM = some IM by
            show L_Mo_treaty_85 (nI n) (nI k) (nI w) (nI l) (4999 + 1) (nI l) IM = some IM
            rw [L_Mo_treaty_85]
            rw [if_pos (nI_lt (by omega) (by omega))], fbd_s]
          show L_Mo_treaty_132 (nI n) (nI k) (nI w) (nI l) (4999 + 1) (nI n) IM = _
          rw [L_Mo_treaty_132]
          rw [if_pos (nI_lt (by omega) (by omega))]
    obtain ⟨JX, JM, g1, g2, g3, g4, g5⟩ := step
    obtain ⟨KX, KM, f1, f2, f3, f4, f5⟩ := ih (l + 1) fX fM JX JM (by omega) (by omega) (by omega) (by omega) g3
    refine ⟨KX, KM, ?_, ?_, f3, fun c hc => by rw [f4 c hc, g4 c hc], fun c hc => by rw [f5 c hc, g5 c hc]⟩
    · simp only [L_Re_lumpings_39]
      rw [if_neg (nI_nlt (by omega) (by omega)), g1, fbd_s, nI_1]; exact f1
    · simp only [L_Mo_treaty_75, J_Mo_treaty_129, J_Mo_treaty_178]
      rw [if_neg (nI_nlt (by omega) (by omega)), nI_1]
      cases hq : L_Mo_treaty_85 (nI n) (nI k) (nI w) (nI l) 5000 (nI l) IM with
      | none => rw [hq] at g2; cases g2
      | some K =>
        rw [hq, fbd_s] at g2
        rw [fbd_s, g2, fbd_s]; exact f2
theorem sim_treaty : S_treaty GInv := by
  intro x1 x2 x3 IX IM h
  have h9 := ginv_told (v := 0) h
  generalize hI : mw IM 0 0 0 = I1 at h9
  obtain ⟨hT, hR, hBk, hLw, hVo, hDi, hRe, hNe, hFa, hCo, hFl, hGi, hSp, hRp, hJa⟩ := h9.2.2.1
  simp only [F_Mo_treaty, fstf_d, hI, isIn_within _ _ _ I1 IX, F_Gb_treaty, J_Gb_treaty_47, fbd_p]
  by_cases c1 : F_Gb_within x1 1 40 IX = 0
  · exact ⟨-1, IX, I1, by rw [if_pos c1], by rw [if_pos c1], h9⟩
  rw [if_neg c1, if_neg c1]
  by_cases c2 : F_Gb_within x2 1 9 IX = 0
  · exact ⟨-1, IX, I1, by rw [if_pos c2], by rw [if_pos c2], h9⟩
  rw [if_neg c2, if_neg c2]
  by_cases c3 : F_Gb_within x3 0 1 IX = 0
  · exact ⟨-1, IX, I1, by rw [if_pos c3], by rw [if_pos c3], h9⟩
  rw [if_neg c3, if_neg c3]
  obtain ⟨n, rfl, hn1, hn2⟩ := wi_rng 1 40 c1 rfl rfl (by decide) (by decide)
  obtain ⟨k, rfl, hk1, hk2⟩ := wi_rng 1 9 c2 rfl rfl (by decide) (by decide)
  obtain ⟨w, rfl, -, hw⟩ := wi_rng 0 1 c3 rfl rfl (by decide) (by decide)
  have hw2 : w = 0 ∨ w = 1 := by omega
  have eX : (if nI w = 1 then F_Re_lumpings (nI n) (nI k) 1 IX else F_Re_lumpings (nI n) (nI k) 0 IX) = F_Re_lumpings (nI n) (nI k) (nI w) IX := by
    rcases hw2 with rfl | rfl
    · rw [if_neg (by decide)]; rfl
    · rw [if_pos (by decide)]; rfl
  rw [eX]
  obtain ⟨JX, p1, p2, p3⟩ := lu_initX (x1 := nI n) (x2 := nI k) (x3 := nI w) 169 0 5000 IX (by omega) (by omega) (fun j hj => absurd hj (Nat.not_lt_zero j))
  obtain ⟨JM, r1, r2, r3⟩ := lu_initM (x1 := nI n) (x2 := nI k) (x3 := nI w) 41 0 5000 I1 (by omega) (by omega) (fun j hj => absurd hj (Nat.not_lt_zero j))
  have hr : luR (JX 107) (JM 33) := by
    intro j hj
    rw [p3 j (by omega), r3 j (by omega)]
    refine ⟨rfl, _, ?_, rfl⟩
    split <;> decide
  obtain ⟨KX, KM, f1, f2, f3, f4, f5⟩ := lu_all hn1 hn2 hk2 hw2 k 1 5000 5000 JX JM (by omega) (by omega) (by omega) (by omega) hr
  obtain ⟨q1, v, hv, q2⟩ := f3 n (by omega)
  refine ⟨nI v, KX, KM, ?_, ?_, ?_⟩
  · unfold F_Re_lumpings
    rw [show L_Re_lumpings_3 (nI n) (nI k) (nI w) 5000 0 IX = _ from p1, fbd_s, show L_Re_lumpings_39 (nI n) (nI k) (nI w) 5000 1 JX = _ from f1, fbd_s, if_neg (by rw [show (169 - 1 : Int32) = nI 168 from rfl, show (0 : Int32) = nI 0 from rfl, within_n (by omega) (by omega) (by omega)]; decide), flod_n (by omega) (by decide), q1, q2]
  · rw [show L_Mo_treaty_42 (nI n) (nI k) (nI w) 5000 0 I1 = _ from r1, fbd_s, show L_Mo_treaty_75 (nI n) (nI k) (nI w) 5000 1 JM = _ from f2, fbd_s, flod_n (by omega) (by decide), q2]
  · refine ginv_scr h9 (fun c hc => ?_) ?_ (fun c hc => ?_) (fun j hj => ?_)
    · unfold xUse at hc
      rw [f4 c (by omega), p2 c (by omega)]
    · rw [f4 6 (by decide), p2 6 (by decide)]
    · unfold mUse at hc
      rw [f5 c (by omega), r2 c (by omega)]
    · rw [f5 0 (by decide), r2 0 (by decide)]
