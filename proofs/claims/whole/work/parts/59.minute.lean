/-! DINNER's lines, all boats, a minute. -/
section MINUTE
variable {t h b s k w : Nat} {X M Y N Z O : gb_Mem} {v x1 x2 x3 : Int32}
theorem gst_salt (ht : gTH t h) (hS : GSt t h X M Y N) (hs : s < 12) : ∃ Z O, F_Co_salt h t (nI s) Y = some Z ∧ F_Mo_salts (nI s) N = some O ∧ GSt t h X M Z O ∧ Z (h + 1) = Y (h + 1) ∧ (∀ j, 30 ≤ j → O 1 j = N 1 j) := by
  have ht2 := ht
  unfold gTH at ht2
  obtain ⟨s2, s3, s4⟩ := co_rs hS.1 hs
  obtain ⟨Z, O, z1, z2, z3, z4, z5, z6⟩ := gst_note ht hS 4 (nI s) (N 1 (18 + s))
  refine ⟨_, _, ?_, ?_, gst_stain (v := 0) ht z3 hs ⟨by decide, by decide⟩, ?_, fun j hj => ?_⟩
  · unfold F_Co_salt
    rw [s4, fbd_s, z1, fbd_s, ps_4 hs, fbd_s]
  · unfold F_Mo_salts
    rw [k18, flod_n (by omega) (by decide), z2, fbd_s, fsto_n (by omega) (by decide)]
  · rw [mw_ne (by omega)]; exact z4 (h + 1) (by omega) (by omega)
  · rw [mw_eq, pk_un (by omega)]; exact z6 j (by omega)
theorem gst_turn (ht : gTH t h) (hS : GSt t h X M Y N) (hb : b < 8) : ∃ Z O, F_Ta_turn t (nI b) Y = some Z ∧ (flod N 1 80 (56 + nI b) fun v3 => fsto N 1 80 (56 + nI b) (1 - v3) fun I4 => some I4) = some O ∧ GSt t h X M Z O ∧ Z (h + 1) = Y (h + 1) ∧ (∀ j, 64 ≤ j → O 1 j = N 1 j) := by
  have ht2 := ht
  unfold gTH at ht2
  obtain ⟨d0, d1, d2, d3, d4, d5⟩ := co_rd hS.1 hb
  obtain ⟨hd, eh, hh, -⟩ := gIn_n (hS.1.2.1.2.2 b hb).2.2.1
  have r1 : gIn (1 - N 1 (56 + b)) 0 1 := by
    rw [eh]
    have hc : hd = 0 ∨ hd = 1 := by omega
    rcases hc with rfl | rfl
    · exact ⟨by decide, by decide⟩
    · exact ⟨by decide, by decide⟩
  refine ⟨_, _, ?_, ?_, gst_head ht hS hb r1, mw_ne (by omega), fun j hj => ?_⟩
  · unfold F_Ta_turn
    rw [d3, fbd_s, pb_3 hb, fbd_s]
  · rw [k56, flod_n (by omega) (by decide), fsto_n (by omega) (by decide)]
  · rw [mw_eq, pk_un (by omega)]
theorem gst_does (ht : gTH t h) (hS : GSt t h X M Y N) {i : Nat} (hi : i < 16) {c1 c2 c3 : Int32} (e1 : N 20 (4 * i + 1) = gDeed c1) (e2 : N 20 (4 * i + 2) = c2) (e3 : N 20 (4 * i + 3) = c3) (h1 : c1 = 212 ∨ gIn c1 222 225) (h2 : c1 = 223 → gIn c2 0 11) (h3 : c1 = 224 ∨ c1 = 225 → gIn c2 0 7) (h4 : c1 = 224 → gIn c3 0 99) :
    ∃ Z O, F_Co_serveLine h t c1 c2 c3 Y = some Z ∧ F_Mo_does (nI (4 * i)) N = some O ∧ GSt t h X M Z O ∧ Z (h + 1) = Y (h + 1) ∧ (∀ j, 72 ≤ j → O 1 j = N 1 j) := by
  have ht2 := ht
  unfold gTH at ht2
  have hD : F_Mo_does (nI (4 * i)) N = if gDeed c1 = 0 then fstf N 1 5 c2 fun I10 => J_Mo_does_29 (nI (4 * i)) (gDeed c1) c2 I10 else J_Mo_does_29 (nI (4 * i)) (gDeed c1) c2 N := by
    unfold F_Mo_does
    rw [show nI (4 * i) + 1 = nI (4 * i + 1) from nI_1 _, flod_n (by omega) (by decide), show nI (4 * i) + 2 = nI (4 * i + 2) from nI_add _ 2, flod_n (by omega) (by decide), e1, e2]
  rw [hD]
  have hc : c1 = 212 ∨ c1 = 222 ∨ c1 = 223 ∨ c1 = 224 ∨ c1 = 225 := by
    rcases h1 with q | q
    · exact Or.inl q
    · obtain ⟨n, rfl, hn, hn2⟩ := gIn_n (x := c1) (hi := 225) ⟨Int.le_trans (by decide) q.1, q.2⟩
      have := ((gIn_nI hn2).mp q).1
      have hc : n = 222 ∨ n = 223 ∨ n = 224 ∨ n = 225 := by omega
      rcases hc with rfl | rfl | rfl | rfl
      · exact Or.inr (Or.inl rfl)
      · exact Or.inr (Or.inr (Or.inl rfl))
      · exact Or.inr (Or.inr (Or.inr (Or.inl rfl)))
      · exact Or.inr (Or.inr (Or.inr (Or.inr rfl)))
  unfold F_Co_serveLine
  rcases hc with rfl | rfl | rfl | rfl | rfl
  · have g := gst_num ht hS (k := 3) (w := 5) (v := c2) (by omega)
    refine ⟨_, _, ?_, ?_, g, mw_ne (by omega), fun j hj => by rw [mw_eq, pk_un (by omega)]⟩
    · rw [if_pos rfl, fstf_d]
    · rw [show gDeed 212 = 0 from rfl, if_pos rfl, fstf_d]
      simp only [J_Mo_does_29, J_Mo_does_41, J_Mo_does_51, J_Mo_does_83]
      rw [if_neg (by decide), if_neg (by decide), if_neg (by decide), if_neg (by decide)]
  · have g := gst_num ht hS (k := 2) (w := 4) (v := c2) (by omega)
    refine ⟨_, _, ?_, ?_, g, mw_ne (by omega), fun j hj => by rw [mw_eq, pk_un (by omega)]⟩
    · rw [if_neg (by decide), if_pos rfl, fstf_d]
    · rw [show gDeed 222 = 1 from rfl, if_neg (by decide)]
      simp only [J_Mo_does_29, J_Mo_does_41, J_Mo_does_51, J_Mo_does_83]
      rw [if_pos True.intro, fstf_d, if_neg (by decide), if_neg (by decide), if_neg (by decide)]
  · obtain ⟨s, rfl, hs, -⟩ := gIn_n (h2 rfl)
    obtain ⟨Z, O, z1, z2, z3, z4, z5⟩ := gst_salt ht hS (show s < 12 by omega)
    refine ⟨Z, O, ?_, ?_, z3, z4, fun j hj => z5 j (by omega)⟩
    · rw [if_neg (by decide), if_neg (by decide), if_pos rfl, z1, fbd_s]
    · rw [show gDeed 223 = 2 from rfl, if_neg (by decide)]
      simp only [J_Mo_does_29, J_Mo_does_41, J_Mo_does_51, J_Mo_does_83]
      rw [if_neg (by decide), if_pos True.intro, z2, fbd_s, if_neg (by decide), if_neg (by decide)]
  · obtain ⟨b, rfl, hb, -⟩ := gIn_n (h3 (Or.inl rfl))
    have hb8 : b < 8 := by omega
    have g := gst_skin0 (v := 0) ht (gst_full ht hS hb8 (h4 rfl)) hb8
    refine ⟨_, _, ?_, ?_, g, ?_, fun j hj => by rw [mw_eq, pk_un (by omega), mw_eq, pk_un (by omega)]⟩
    · rw [if_neg (by decide), if_neg (by decide), if_neg (by decide), if_pos rfl, pb_1 hb8, fbd_s, pb_4 hb8, fbd_s]
    · rw [show gDeed 224 = 3 from rfl, if_neg (by decide)]
      simp only [J_Mo_does_29, J_Mo_does_41, J_Mo_does_51, J_Mo_does_83]
      rw [if_neg (by decide), if_neg (by decide), if_pos True.intro, show nI (4 * i) + 3 = nI (4 * i + 3) from nI_add _ 3, flod_n (by omega) (by decide), e3, k40, fsto_n (by omega) (by decide), k64, fsto_n (by omega) (by decide), if_neg (by decide)]
    · rw [mw_ne (by omega), mw_ne (by omega)]
  · obtain ⟨b, rfl, hb, -⟩ := gIn_n (h3 (Or.inr rfl))
    obtain ⟨Z, O, z1, z2, z3, z4, z5⟩ := gst_turn ht hS (show b < 8 by omega)
    refine ⟨Z, O, ?_, ?_, z3, z4, fun j hj => z5 j (by omega)⟩
    · rw [if_neg (by decide), if_neg (by decide), if_neg (by decide), if_neg (by decide), z1, fbd_s]
    · rw [show gDeed 225 = 4 from rfl, if_neg (by decide)]
      simp only [J_Mo_does_29, J_Mo_does_41, J_Mo_does_51, J_Mo_does_83]
      rw [if_neg (by decide), if_neg (by decide), if_neg (by decide), if_pos True.intro]
      exact z2
theorem serve_l (ht : gTH t h) (hD : GDin (X 13 2) (X 14) (M 0 37) (M 20)) {K : Nat} (eK : M 0 37 = nI K) (hK : K ≤ 16) : ∀ m i f f' Y N, GSt t h X M Y N → i + m = K → m < f → m < f' → ∃ Z O, L_Co_serve_10 h t f (nI i) Y = some Z ∧ L_Mo_goesBy_2 f' (nI (4 * i)) N = some O ∧ GSt t h X M Z O ∧ Z (h + 1) = Y (h + 1) ∧ (∀ j, 72 ≤ j → O 1 j = N 1 j) := by
  have ht2 := ht
  unfold gTH at ht2
  obtain ⟨d1, K2, d2, d3, d4⟩ := hD
  have : K = K2 := (nI_eq (by omega) (by omega)).mp (eK.symm.trans d3)
  subst this
  intro m
  induction m with
  | zero =>
    intro i f f' Y N hS hi hf hf'
    obtain ⟨f, rfl⟩ : ∃ g, f = g + 1 := ⟨f - 1, by omega⟩
    obtain ⟨f', rfl⟩ : ∃ g, f' = g + 1 := ⟨f' - 1, by omega⟩
    have y13 : Y 13 = X 13 := hS.2.1 13 (by omega) (by decide) (by decide) (by decide) (by decide) (by omega)
    have n37 : N 0 37 = nI K := by rw [hS.2.2.2.2.2.1 37 (by decide)]; exact eK
    refine ⟨Y, N, ?_, ?_, hS, rfl, fun _ _ => rfl⟩
    · simp only [L_Co_serve_10]
      rw [y13, d1, eK, if_pos (nI_le (by omega) (by omega))]
    · simp only [L_Mo_goesBy_2]
      rw [n37, show (4 : Int32) * nI K = nI (4 * K) from pk_mul 4 K, if_pos (nI_le (by omega) (by omega))]
  | succ m ih =>
    intro i f f' Y N hS hi hf hf'
    obtain ⟨f, rfl⟩ : ∃ g, f = g + 1 := ⟨f - 1, by omega⟩
    obtain ⟨f', rfl⟩ : ∃ g, f' = g + 1 := ⟨f' - 1, by omega⟩
    have y13 : Y 13 = X 13 := hS.2.1 13 (by omega) (by decide) (by decide) (by decide) (by decide) (by omega)
    have y14 : Y 14 = X 14 := hS.2.1 14 (by omega) (by decide) (by decide) (by decide) (by decide) (by omega)
    have n37 : N 0 37 = nI K := by rw [hS.2.2.2.2.2.1 37 (by decide)]; exact eK
    have n20 : N 20 = M 20 := hS.2.2.2.2.1 20 (by decide) (by decide) (by decide) (by decide) (by decide)
    have eY : Y 13 2 = nI K := by rw [y13, d1]; exact eK
    have e4 : Y t 4 = N 1 0 := hS.1.1.1.2.2.2.2.1
    obtain ⟨a0, a1, a2, a3, a4, a5, a6, a7⟩ := d4 i (by omega)
    simp only [L_Co_serve_10, L_Mo_goesBy_2, J_Co_serve_56, J_Mo_goesBy_32]
    rw [eY, if_neg (nI_ge (by omega) (by omega)), n37, show (4 : Int32) * nI K = nI (4 * K) from pk_mul 4 K, if_neg (nI_ge (by omega) (by omega)), flod_n (by omega) (by decide), show F_Ro_cell 13 64 (nI i) 0 Y = some (Y 14 (4 * i)) from cell_n (j := 0) eY (by omega) (by decide) (by omega) (by decide), fbd_s, show F_Ro_cell 13 64 (nI i) 1 Y = some (Y 14 (4 * i + 1)) from cell_n (j := 1) eY (by omega) (by decide) (by omega) (by decide), fbd_s, show F_Ro_cell 13 64 (nI i) 2 Y = some (Y 14 (4 * i + 2)) from cell_n (j := 2) eY (by omega) (by decide) (by omega) (by decide), fbd_s, show F_Ro_cell 13 64 (nI i) 3 Y = some (Y 14 (4 * i + 3)) from cell_n (j := 3) eY (by omega) (by decide) (by omega) (by decide), fbd_s, nI_1, show nI (4 * i) + 4 = nI (4 * (i + 1)) from nI_add (4 * i) 4, y14, n20, a0, e4]
    by_cases c : X 14 (4 * i) = N 1 0
    · rw [if_pos c, if_pos c]
      obtain ⟨Z, O, z1, z2, z3, z4, z5⟩ := gst_does ht hS (show i < 16 by omega) (by rw [n20]; exact a1) (by rw [n20]; exact a2) (by rw [n20]; exact a3) a4 a5 a6 a7
      rw [z1, z2, fbd_s, fbd_s]
      obtain ⟨Z2, O2, u1, u2, u3, u4, u5⟩ := ih (i + 1) f f' Z O z3 (by omega) (by omega) (by omega)
      exact ⟨Z2, O2, u1, u2, u3, u4.trans z4, fun j hj => (u5 j hj).trans (z5 j hj)⟩
    · rw [if_neg c, if_neg c]
      exact ih (i + 1) f f' Y N hS (by omega) (by omega) (by omega)
theorem lands_2 (x1 : Int32) : ∀ f x I, L_Mo_landsIn_2 x1 f x I = L_Mo_goesBy_2 f x I := by
  intro f
  induction f with
  | zero => intro x I; rfl
  | succ f ih =>
    intro x I
    simp only [L_Mo_landsIn_2, L_Mo_goesBy_2, J_Mo_landsIn_32, J_Mo_goesBy_32, ih]
theorem st_boats (hS : GSt t h X M Y N) {n : Nat} (en : M 0 6 = nI n) : N 0 6 = nI n ∧ Y t 5 = nI n := by
  have e : N 0 6 = nI n := by rw [hS.2.2.2.2.2.1 6 (by decide)]; exact en
  exact ⟨e, hS.1.1.1.2.2.2.2.2.trans e⟩
theorem skin_l (ht : gTH t h) {n : Nat} (en : M 0 6 = nI n) (hn : n ≤ 8) (x1 : Int32) : ∀ m i f f' Y N, GSt t h X M Y N → i + m = n → m < f → m < f' → ∃ Z O, L_Co_listen_15 h t f (nI i) Y = some Z ∧ (∀ acc, L_Mo_goesBy_76 1 f' acc (nI i) N = some (acc, O)) ∧ (∀ acc, L_Mo_landsIn_77 x1 1 f' acc (nI i) N = some (acc, O)) ∧ GSt t h X M Z O ∧ Z (h + 1) = Y (h + 1) ∧ (∀ j, 72 ≤ j → O 1 j = N 1 j) := by
  intro m
  induction m with
  | zero =>
    intro i f f' Y N hS hi hf hf'
    obtain ⟨f, rfl⟩ : ∃ g, f = g + 1 := ⟨f - 1, by omega⟩
    obtain ⟨f', rfl⟩ : ∃ g, f' = g + 1 := ⟨f' - 1, by omega⟩
    obtain ⟨eN, eY⟩ := st_boats hS en
    refine ⟨Y, N, ?_, fun acc => ?_, fun acc => ?_, hS, rfl, fun _ _ => rfl⟩
    · simp only [L_Co_listen_15]
      rw [eY, if_pos (nI_le (by omega) (by omega))]
    · simp only [L_Mo_goesBy_76]
      rw [eN, if_pos (nI_le (by omega) (by omega))]
    · simp only [L_Mo_landsIn_77]
      rw [eN, if_pos (nI_le (by omega) (by omega))]
  | succ m ih =>
    intro i f f' Y N hS hi hf hf'
    obtain ⟨f, rfl⟩ : ∃ g, f = g + 1 := ⟨f - 1, by omega⟩
    obtain ⟨f', rfl⟩ : ∃ g, f' = g + 1 := ⟨f' - 1, by omega⟩
    obtain ⟨eN, eY⟩ := st_boats hS en
    obtain ⟨Z, O, z1, z2, z3, z4, z5, z6⟩ := gst_skin ht hS (show i < 8 by omega)
    obtain ⟨Z2, O2, u1, u2, u3, u4, u5, u6⟩ := ih (i + 1) f f' Z O z3 (by omega) (by omega) (by omega)
    refine ⟨Z2, O2, ?_, fun acc => ?_, fun acc => ?_, u4, u5.trans z4, fun j hj => (u6 j hj).trans (z6 j (by omega))⟩
    · simp only [L_Co_listen_15]
      rw [eY, if_neg (nI_ge (by omega) (by omega)), z1, fbd_s, nI_1]; exact u1
    · simp only [L_Mo_goesBy_76, J_Mo_goesBy_116]
      rw [eN, if_neg (nI_ge (by omega) (by omega)), if_neg (by decide), z2, fbd_s, nI_1]; exact u2 acc
    · simp only [L_Mo_landsIn_77, J_Mo_landsIn_128]
      rw [eN, if_neg (nI_ge (by omega) (by omega)), if_neg (by decide), z2, fbd_s, nI_1]; exact u3 acc
theorem sail_l (ht : gTH t h) {n bb : Nat} (en : M 0 6 = nI n) (hn : n ≤ 8) (hbb : bb < 8) : ∀ m i f f' Y N acc, GSt t h X M Y N → i + m = n → m < f → m < f' → ∃ r Z O, L_Co_goByOne_25 h t f acc (nI i) Y = some (r, Z) ∧ L_Mo_goesBy_76 0 f' acc (nI i) N = some (r, O) ∧ GSt t h X M Z O ∧
    ((∀ x, L_Mo_landsIn_77 (nI bb) 0 f' x (nI i) N = some (x, O)) ∧ O 1 (72 + bb) = N 1 (72 + bb) ∧ Z (h + 1) bb = Y (h + 1) bb ∨ i ≤ bb ∧ O 1 (72 + bb) = N 1 (72 + bb) + 1 ∧ ∃ q, q < 2 ^ 31 ∧ Z (h + 1) bb = nI q ∧ ∀ x, L_Mo_landsIn_77 (nI bb) 0 f' x (nI i) N = some (nI q, O)) := by
  intro m
  induction m with
  | zero =>
    intro i f f' Y N acc hS hi hf hf'
    obtain ⟨f, rfl⟩ : ∃ g, f = g + 1 := ⟨f - 1, by omega⟩
    obtain ⟨f', rfl⟩ : ∃ g, f' = g + 1 := ⟨f' - 1, by omega⟩
    obtain ⟨eN, eY⟩ := st_boats hS en
    refine ⟨acc, Y, N, ?_, ?_, hS, Or.inl ⟨fun x => ?_, rfl, rfl⟩⟩
    · simp only [L_Co_goByOne_25]
      rw [eY, if_pos (nI_le (by omega) (by omega))]
    · simp only [L_Mo_goesBy_76]
      rw [eN, if_pos (nI_le (by omega) (by omega))]
    · simp only [L_Mo_landsIn_77]
      rw [eN, if_pos (nI_le (by omega) (by omega))]
  | succ m ih =>
    intro i f f' Y N acc hS hi hf hf'
    obtain ⟨f, rfl⟩ : ∃ g, f = g + 1 := ⟨f - 1, by omega⟩
    obtain ⟨f', rfl⟩ : ∃ g, f' = g + 1 := ⟨f' - 1, by omega⟩
    obtain ⟨eN, eY⟩ := st_boats hS en
    have hi8 : i < 8 := by omega
    simp only [L_Co_goByOne_25, L_Mo_goesBy_76, L_Mo_landsIn_77, J_Co_goByOne_57, J_Mo_goesBy_116, J_Mo_landsIn_128]
    rw [eY, if_neg (nI_ge (by omega) (by omega)), eN, if_neg (nI_ge (by omega) (by omega)), nI_1]
    simp only [show ¬ nI n ≤ nI i from nI_ge (by omega) (by omega), ↓reduceIte]
    by_cases c : gAsh N i
    · obtain ⟨a1, a2⟩ := (co_ash hS.1 hi8).1 c
      rw [a1, a2]
      simp only [fbd_s, show ¬ (1 : Int32) = 0 by decide, ↓reduceIte, Int32.add_zero]
      obtain ⟨r, Z, O, u1, u2, u3, u4⟩ := ih (i + 1) f f' Y N acc hS (by omega) (by omega) (by omega)
      refine ⟨r, Z, O, u1, u2, u3, ?_⟩
      rcases u4 with q | ⟨q1, q2⟩
      · exact Or.inl q
      · exact Or.inr ⟨by omega, q2⟩
    · obtain ⟨a1, a2⟩ := (co_ash hS.1 hi8).2 c
      rw [a1, a2]
      simp only [fbd_s, ↓reduceIte]
      obtain ⟨r4, Z1, O1, s1, s2, g1, s3⟩ := gst_sail ht hS hi8 c
      rw [s1, s2]
      simp only [fbd_s]
      rcases s3 with ⟨rfl, s4, s5⟩ | ⟨rfl, ⟨q, hq, s4, s6⟩, s5⟩
      · simp only [↓reduceIte, Int32.add_zero]
        obtain ⟨r, Z, O, u1, u2, u3, u4⟩ := ih (i + 1) f f' Z1 O1 acc g1 (by omega) (by omega) (by omega)
        refine ⟨r, Z, O, u1, u2, u3, ?_⟩
        rw [s5 (72 + bb) (by omega), s4] at u4
        rcases u4 with q | ⟨q1, q2⟩
        · exact Or.inl q
        · exact Or.inr ⟨by omega, q2⟩
      · simp only [show ¬ (1 : Int32) = 0 by decide, ↓reduceIte]
        obtain ⟨r, Z, O, u1, u2, u3, u4⟩ := ih (i + 1) f f' Z1 O1 (acc + 1) g1 (by omega) (by omega) (by omega)
        refine ⟨r, Z, O, u1, u2, u3, ?_⟩
        rw [s5 (72 + bb) (by omega), s4, upd_ap] at u4
        by_cases d : bb = i
        · right
          rcases u4 with ⟨w1, w2, w3⟩ | ⟨w1, -⟩
          · refine ⟨by omega, ?_, q, hq, ?_, fun x => ?_⟩
            · rw [w2, if_pos (by omega)]
            · rw [w3, if_pos d]
            · rw [if_pos (by rw [d]), s6]; exact w1 _
          · omega
        · rw [if_neg (by omega), if_neg d] at u4
          have nd : ¬ nI i = nI bb := fun z => d ((nI_eq (by omega) (by omega)).mp z).symm
          simp only [nd, ↓reduceIte]
          rcases u4 with q | ⟨q1, q2⟩
          · exact Or.inl q
          · exact Or.inr ⟨by omega, q2⟩
theorem gst_min (ht : gTH t h) (hC : GCo t h Y N) {bb : Nat} (hbb : bb < 8) : ∃ r Z O, F_Co_goByOne h t Y = some (r, Z) ∧ F_Mo_goesBy N = some (r, O) ∧ GSt t h Y N Z O ∧
    (F_Mo_landsIn (nI bb) N = some (-1, O) ∧ O 1 (72 + bb) = N 1 (72 + bb) ∨ O 1 (72 + bb) = N 1 (72 + bb) + 1 ∧ ∃ q, q < 2 ^ 31 ∧ Z (h + 1) bb = nI q ∧ F_Mo_landsIn (nI bb) N = some (nI q, O)) := by
  obtain ⟨n, en, hn, -⟩ := gIn_n hC.2.1.1
  obtain ⟨K, hK, eK, -⟩ := hC.2.2.2.2.1.2
  obtain ⟨Y1, N1, s1, s2, g1, s3, s4⟩ := serve_l ht hC.2.2.2.2.1 eK hK K 0 5000 5000 Y N ⟨hC, GFr.same⟩ (by omega) (by omega) (by omega)
  have e2 : Y1 t 2 = N1 1 4 := g1.1.1.1.2.2.1
  unfold F_Co_goByOne F_Co_serve F_Mo_goesBy F_Mo_landsIn
  simp only [lands_2]
  rw [show L_Co_serve_10 h t 5000 0 Y = some Y1 from s1, show L_Mo_goesBy_2 5000 0 N = some N1 from s2]
  simp only [fbd_s, e2]
  by_cases c : N1 1 4 ≤ 0
  · simp only [c, ↓reduceIte]
    obtain ⟨r, Z, O, u1, u2, g2, u3⟩ := sail_l ht (bb := bb) en (by omega) hbb n 0 5000 5000 Y1 N1 0 g1 (by omega) (by omega) (by omega)
    have e4 : Z t 4 = O 1 0 := g2.1.1.1.2.2.2.2.1
    have g3 := gst_num ht g2 (k := 4) (w := 0) (v := O 1 0 + 1) (by omega)
    simp only [J_Mo_goesBy_55, J_Mo_goesBy_74, J_Mo_landsIn_55, J_Mo_landsIn_74, J_Co_goByOne_65, ↓reduceIte]
    rw [show L_Co_goByOne_25 h t 5000 0 0 Y1 = some (r, Z) from u1, show L_Mo_goesBy_76 0 5000 0 0 N1 = some (r, O) from u2]
    simp only [fbd_s, fstf_d, e4]
    have e72 : mw O 1 0 (O 1 0 + 1) 1 (72 + bb) = O 1 (72 + bb) := by rw [mw_eq, pk_un (by omega)]
    have ezh : mw Z t 4 (O 1 0 + 1) (h + 1) = Z (h + 1) := mw_ne (by unfold gTH at ht; omega)
    refine ⟨r, _, _, rfl, rfl, g3, ?_⟩
    rw [e72, ezh]
    rcases u3 with ⟨w1, w2, w3⟩ | ⟨-, w2, q, hq, w3, w1⟩
    · left
      rw [show L_Mo_landsIn_77 (nI bb) 0 5000 (-1) 0 N1 = some (-1, O) from w1 (-1)]
      exact ⟨rfl, w2.trans (s4 _ (by omega))⟩
    · right
      rw [show L_Mo_landsIn_77 (nI bb) 0 5000 (-1) 0 N1 = some (nI q, O) from w1 (-1)]
      exact ⟨by rw [w2, s4 _ (by omega)], q, hq, w3, rfl⟩
  · simp only [c, ↓reduceIte]
    have gT := gst_num ht g1 (k := 2) (w := 4) (v := N1 1 4 - 1) (by omega)
    obtain ⟨Z, O, u1, u2, u2b, g2, u3, u4⟩ := skin_l ht en (by omega) (nI bb) n 0 5000 5000 _ _ gT (by omega) (by omega) (by omega)
    have e4 : Z t 4 = O 1 0 := g2.1.1.1.2.2.2.2.1
    have g3 := gst_num ht g2 (k := 4) (w := 0) (v := O 1 0 + 1) (by omega)
    simp only [J_Mo_goesBy_55, J_Mo_goesBy_74, J_Mo_landsIn_55, J_Mo_landsIn_74, J_Co_goByOne_65, F_Co_listen, show ¬ (1 : Int32) = 0 by decide, ↓reduceIte, fstf_d, e2]
    rw [show L_Co_listen_15 h t 5000 0 (mw Y1 t 2 (N1 1 4 - 1)) = some Z from u1, show L_Mo_goesBy_76 1 5000 0 0 (mw N1 1 4 (N1 1 4 - 1)) = some (0, O) from u2 0, show L_Mo_landsIn_77 (nI bb) 1 5000 (-1) 0 (mw N1 1 4 (N1 1 4 - 1)) = some (-1, O) from u2b (-1)]
    simp only [fbd_s, e4]
    refine ⟨0, _, _, rfl, rfl, g3, Or.inl ⟨rfl, ?_⟩⟩
    rw [mw_eq, pk_un (by omega), u4 _ (by omega), mw_eq, pk_un (by omega)]; exact s4 _ (by omega)
end MINUTE
