/-! TEXT, whole. -/
theorem fbd_pp {α β : Type} (o : Option (α × β)) : (fbd o fun (r, I) => some (r, I)) = o := by
  cases o with
  | none => rfl
  | some q => rfl
theorem rv_2 : ∀ m x f I, x + m = 8 → m < f → ∃ K, L_Mo_readVoyages_2 f (nI x) I = some K ∧ (∀ c, c ≠ 19 → K c = I c) ∧ (∀ j, x ≤ j → j < 8 → K 19 (8 + j) = 0) ∧ (∀ j, j < 8 + x → K 19 j = I 19 j) := by
  intro m
  induction m with
  | zero =>
    intro x f I hm hf
    obtain ⟨f, rfl⟩ : ∃ g, f = g + 1 := ⟨f - 1, by omega⟩
    refine ⟨I, ?_, fun _ _ => rfl, fun j a b => by omega, fun _ _ => rfl⟩
    simp only [L_Mo_readVoyages_2]
    rw [if_pos (show 8 ≤ nI x from nI_le (a := 8) (by omega) (by omega))]
  | succ m ih =>
    intro x f I hm hf
    obtain ⟨f, rfl⟩ : ∃ g, f = g + 1 := ⟨f - 1, by omega⟩
    obtain ⟨K, k1, k2, k3, k4⟩ := ih (x + 1) f (mw I 19 (8 + x) 0) (by omega) (by omega)
    refine ⟨K, ?_, fun c hc => by rw [k2 c hc, mw_ne hc], fun j a b => ?_, fun j hj => ?_⟩
    · simp only [L_Mo_readVoyages_2]
      rw [if_neg (show ¬ 8 ≤ nI x from nI_ge (b := 8) (by omega) (by decide)), show (8 : Int32) + nI x = nI (8 + x) from nI_add 8 x, fsto_n (by omega) (by decide), nI_1]; exact k1
    · by_cases e : j = x
      · subst e; rw [k4 (8 + j) (by omega), mw_eq, pk_us]
      · exact k3 j (by omega) b
    · rw [k4 j (by omega), mw_eq, pk_un (by omega)]
theorem rr_2 : ∀ m x f I, x + m = 12 → m < f → ∃ K, L_Mo_readReaches_2 f (nI x) I = some K ∧ (∀ c, c ≠ 21 → K c = I c) ∧ (∀ j, x ≤ j → j < 12 → K 21 (12 + j) = 0) ∧ (∀ j, j < 12 + x → K 21 j = I 21 j) := by
  intro m
  induction m with
  | zero =>
    intro x f I hm hf
    obtain ⟨f, rfl⟩ : ∃ g, f = g + 1 := ⟨f - 1, by omega⟩
    refine ⟨I, ?_, fun _ _ => rfl, fun j a b => by omega, fun _ _ => rfl⟩
    simp only [L_Mo_readReaches_2]
    rw [if_pos (show 12 ≤ nI x from nI_le (a := 12) (by omega) (by omega))]
  | succ m ih =>
    intro x f I hm hf
    obtain ⟨f, rfl⟩ : ∃ g, f = g + 1 := ⟨f - 1, by omega⟩
    obtain ⟨K, k1, k2, k3, k4⟩ := ih (x + 1) f (mw I 21 (12 + x) 0) (by omega) (by omega)
    refine ⟨K, ?_, fun c hc => by rw [k2 c hc, mw_ne hc], fun j a b => ?_, fun j hj => ?_⟩
    · simp only [L_Mo_readReaches_2]
      rw [if_neg (show ¬ 12 ≤ nI x from nI_ge (b := 12) (by omega) (by decide)), show (12 : Int32) + nI x = nI (12 + x) from nI_add 12 x, fsto_n (by omega) (by decide), nI_1]; exact k1
    · by_cases e : j = x
      · subst e; rw [k4 (12 + j) (by omega), mw_eq, pk_us]
      · exact k3 j (by omega) b
    · rw [k4 j (by omega), mw_eq, pk_un (by omega)]
/-- the reference's rest behind a reading -/
def TXR (x : Int32) (om : Option (Int32 × gb_Mem)) : Option (Int32 × gb_Mem) := fbd om fun (r11, I10) => if r11 = (-1) then fstf I10 0 33 (I10 0 31) fun I12 => fstf I12 0 34 (I12 0 32) fun I13 => J_Mo_text_69 x r11 I13 else J_Mo_text_69 x r11 I10
def tkM (x v : Int32) (N : gb_Mem) : Option gb_Mem := if x = 0 then F_Mo_takesLaw v N else F_Mo_takesOther x v N
theorem tk_0 (v : Int32) (N : gb_Mem) : tkM 0 v N = F_Mo_takesLaw v N := by unfold tkM; rw [if_pos rfl]
theorem tk_1 (v : Int32) (N : gb_Mem) : tkM 1 v N = F_Mo_takesOther 1 v N := by unfold tkM; rw [if_neg (by decide)]
theorem tk_2 (v : Int32) (N : gb_Mem) : tkM 2 v N = F_Mo_takesOther 2 v N := by unfold tkM; rw [if_neg (by decide)]
theorem tk_3 (v : Int32) (N : gb_Mem) : tkM 3 v N = F_Mo_takesOther 3 v N := by unfold tkM; rw [if_neg (by decide)]
theorem text_f {IX IM X0 M0 : gb_Mem} (h : GInv IX IM) (hX : TX IX X0) (hM : TM IM M0) (z33 : M0 0 33 = 0) (z34 : M0 0 34 = -1) (z26 : M0 0 26 = 0) {G : gb_Mem → gb_Mem → Int32 → Prop} {oc : Option gb_Mem} {om : Option (Int32 × gb_Mem)} (x : Int32) (hL : LO X0 M0 G oc om) (hG : ∀ Y N v, G Y N v → G Y (mw N 0 13 0) v)
    (hT : ∀ Y N k, GInv Y N → k ≤ 16 → G Y N (nI k) → N 0 26 = 0 → ∃ Y2 N2, F_Gb_takeText x Y = some (nI k, Y2) ∧ tkM x (nI k) N = some N2 ∧ GInv Y2 N2) :
    ∃ r IX2 IM2, (fbd oc fun I => J_Gb_text_64 x I) = some (r, IX2) ∧ TXR x om = some (r, IM2) ∧ GInv IX2 IM2 := by
  have tx : ∀ Y, XF X0 Y → TX IX Y := fun Y hF => by
    obtain ⟨f1, f2, f3, f4, f5, f6⟩ := hF
    obtain ⟨x1, x2, x3, x4, x5⟩ := hX
    exact ⟨fun c hc => (f1 c hc.2).trans (x1 c hc), fun j hj => by rw [f1 0 (by decide)]; exact x2 j hj, by rw [f1 0 (by decide)]; exact x3, f5.trans x4, f6.trans x5⟩
  have tm : ∀ N N2 : gb_Mem, MF M0 N → (∀ c, c ≠ 0 → N2 c = N c) → (∀ j, j ≠ 13 → j ≠ 33 → j ≠ 34 → N2 0 j = N 0 j) → TM IM N2 := fun N N2 hF hc h0 => by
    obtain ⟨f1, f2, f3, f4, f5, f6, f7⟩ := hF
    obtain ⟨m1, m2, m3, m4, m5, m6, m7⟩ := hM
    refine ⟨fun c hd => by rw [hc c hd.1, f1 c hd.1 hd.2]; exact m1 c hd, fun j hj => ?_, fun c j a b d => by rw [hc c (by omega), f3 c j a b d]; exact m3 c j a b d, fun c j a b d => by rw [hc c (by omega), f4 c j a b d]; exact m4 c j a b d, fun j hj => by rw [hc 19 (by decide), f5 j hj]; exact m5 j hj, fun j hj => by rw [hc 20 (by decide), f6 j hj]; exact m6 j hj, fun j hj => by rw [hc 21 (by decide), f7 j hj]; exact m7 j hj⟩
    rw [h0 j (by omega) (by omega) (by omega), f2 j (by omega) (by omega) (by omega) (by omega) (by omega) (by omega)]
    exact m2 j hj
  rcases hL with ⟨Y, N, k, hk, e1, e2, hF, hMF, h7, h8, g⟩ | ⟨Y, N, k, p, e1, e2, hE, hME⟩
  · have h33 : N 0 33 = 0 := (hMF.2.1 33 (by decide) (by decide) (by decide) (by decide) (by decide) (by decide)).trans z33
    have h34 : N 0 34 = -1 := (hMF.2.1 34 (by decide) (by decide) (by decide) (by decide) (by decide) (by decide)).trans z34
    have h26 : N 0 26 = 0 := (hMF.2.1 26 (by decide) (by decide) (by decide) (by decide) (by decide) (by decide)).trans z26
    have hI : GInv Y (mw N 0 13 0) := ginv_rd h (tx Y hF) (tm N _ hMF (fun c hc => mw_ne hc) (fun j a b c => by rw [mw_eq, pk_un a])) (by rw [mw_eq, pk_us]) (by rw [mw_eq, pk_un (by decide), h33]; exact h7) (by rw [mw_eq, pk_un (by decide), h34]; exact h8)
    obtain ⟨Y2, N2, t1, t2, t3⟩ := hT Y _ k hI hk (hG Y N _ g) (by rw [mw_eq, pk_un (by decide)]; exact h26)
    refine ⟨nI k, Y2, N2, ?_, ?_, t3⟩
    · rw [e1, fbd_s]
      unfold J_Gb_text_64
      rw [if_pos h7, t1]; rfl
    · unfold tkM at t2
      rw [e2]
      unfold TXR J_Mo_text_69
      simp only [fbd_s, fstf_d]
      rw [if_neg (nI_nm1 (by omega)), if_neg (nI_nm1 (by omega))]
      by_cases c : x = 0
      · rw [if_pos c] at t2 ⊢
        rw [t2, fbd_s]
      · rw [if_neg c] at t2 ⊢
        rw [t2, fbd_s]
  · refine ⟨-1, Y, mw (mw (mw N 0 33 (N 0 31)) 0 34 (N 0 32)) 0 13 0, ?_, ?_, ?_⟩
    · rw [e1, fbd_s]
      unfold J_Gb_text_64
      rw [if_neg hE.f]
    · rw [e2]
      unfold TXR J_Mo_text_69
      simp only [fbd_s, fstf_d]
      rw [if_pos True.intro, if_pos True.intro, show mw N 0 33 (N 0 31) 0 32 = N 0 32 by rw [mw_eq, pk_un (by decide)]]
    · obtain ⟨g1, g2, g3⟩ := hME
      obtain ⟨gF, -, -, g4, g5⟩ := hE
      refine ginv_rd h (tx Y gF) (tm N _ g1 (fun c hc => by rw [mw_ne hc, mw_ne hc, mw_ne hc]) (fun j a b c => by rw [mw_eq, pk_un a, mw_eq, pk_un c, mw_eq, pk_un b])) (by rw [mw_eq, pk_us]) ?_ ?_
      · rw [mw_eq, pk_un (by decide), mw_eq, pk_un (by decide), mw_eq, pk_us, g2]; exact g4
      · rw [mw_eq, pk_un (by decide), mw_eq, pk_us, g3]; exact g5
theorem sim_text : S_text GInv := by
  intro x1 IX IM h
  obtain ⟨hF, h5, hW, hPa, ⟨et, n, hn, en, ht⟩, hFt, hIm⟩ := id h
  obtain ⟨T, hTd⟩ : ∃ T : Nat → Nat, T = fun j => (IM 9 j).toInt.toNat := ⟨_, rfl⟩
  have hT : ∀ j, j < n → IM 9 j = nI (T j) ∧ T j < 256 := fun j hj => by
    obtain ⟨-, g⟩ := ht j hj
    obtain ⟨v, v1, v2, v3⟩ := gIn_n g
    have : T j = v := by
      rw [hTd]
      show (IM 9 j).toInt.toNat = v
      rw [v1, nI_toInt v3]; rfl
    rw [this]
    exact ⟨v1, by omega⟩
  -- the class's start
  obtain ⟨X2, hX2⟩ : ∃ Z, Z = mw (mw (mw (mw (mw IX 0 10 0) 111 1 (nI n)) 111 2 (IX 2 5)) 111 7 0) 111 8 (-1) := ⟨_, rfl⟩
  have eS : F_Rd_start (IX 0 10) (mw IX 0 10 0 2 5) (mw IX 0 10 0) = some X2 := by
    unfold F_Rd_start
    rw [fstf_d, fstf_d, fstf_d, fstf_d, et, en, show mn (nI n) 400 = nI n from (mn_n (b := 400) (by omega) (by decide)).trans (congrArg nI (Nat.min_eq_left hn)), mw_ne (show 2 ≠ 0 by decide), hX2]
  have xc : ∀ c, c ≠ 0 → c ≠ 111 → X2 c = IX c := fun c a b => by rw [hX2, mw_ne b, mw_ne b, mw_ne b, mw_ne b, mw_ne a]
  have x0 : X2 0 = upd (IX 0) 10 0 := by rw [hX2, mw_ne (by decide), mw_ne (by decide), mw_ne (by decide), mw_ne (by decide), mw_eq]
  have x111 : X2 111 1 = nI n ∧ X2 111 2 = IX 2 5 ∧ X2 111 7 = 0 ∧ X2 111 8 = -1 := by
    rw [hX2, mw_eq, mw_eq, mw_eq, mw_eq]
    exact ⟨rfl, rfl, rfl, rfl⟩
  have TX2 : TX IX X2 := ⟨fun c hc => xc c hc.1 (by omega), fun j hj => by rw [x0, pk_un hj], by rw [x0, pk_us], by rw [xc 117 (by decide) (by decide)], by rw [xc 119 (by decide) (by decide)]⟩
  -- the reference's
  obtain ⟨M1, hM1⟩ : ∃ Z, Z = mw (mw (mw (mw (mw (mw IM 0 0 0) 0 33 0) 0 34 (-1)) 0 14 0) 0 27 0) 0 28 0 := ⟨_, rfl⟩
  have mc : ∀ c, c ≠ 0 → M1 c = IM c := fun c a => by rw [hM1, mw_ne a, mw_ne a, mw_ne a, mw_ne a, mw_ne a, mw_ne a]
  have m0 : ∀ j, j ≠ 0 → j ≠ 33 → j ≠ 34 → j ≠ 14 → j ≠ 27 → j ≠ 28 → M1 0 j = IM 0 j := fun j a b c d e f => by rw [hM1, mw_eq, pk_un f, mw_eq, pk_un e, mw_eq, pk_un d, mw_eq, pk_un c, mw_eq, pk_un b, mw_eq, pk_un a]
  have mz : M1 0 33 = 0 ∧ M1 0 34 = -1 ∧ M1 0 14 = 0 ∧ M1 0 27 = 0 ∧ M1 0 28 = 0 := by
    rw [hM1, mw_eq, mw_eq, mw_eq, mw_eq, mw_eq, mw_eq]
    exact ⟨rfl, rfl, rfl, rfl, rfl⟩
  have TM1 : ∀ N : gb_Mem, (∀ c, c ≠ 0 → N c = M1 c) → (∀ j, j ≠ 26 → j ≠ 13 → N 0 j = M1 0 j) → TM IM N := fun N hc h0 => ⟨fun c hd => by rw [hc c hd.1, mc c hd.1], fun j hj => by rw [h0 j (by omega) (by omega), m0 j (by omega) (by omega) (by omega) (by omega) (by omega) (by omega)], fun c j a b d => by rw [hc c (by omega), mc c (by omega)], fun c j a b d => by rw [hc c (by omega), mc c (by omega)], fun j _ => by rw [hc 19 (by decide), mc 19 (by decide)], fun j _ => by rw [hc 20 (by decide), mc 20 (by decide)], fun j _ => by rw [hc 21 (by decide), mc 21 (by decide)]⟩
  by_cases c : F_Gb_within x1 0 3 IX = 0
  · -- no such text
    have c1 := within_0.mp c
    have hx0 : ¬ x1 = 0 := fun z => c1 (by rw [z]; exact ⟨by decide, by decide⟩)
    have hw : F_Gb_within x1 1 3 X2 = 0 := within_0.mpr (fun z => c1 ⟨by have a := Int32.le_iff_toInt_le.mp z.1; have e1 : (1 : Int32).toInt = 1 := rfl; refine Int32.le_iff_toInt_le.mpr ?_; have e0 : (0 : Int32).toInt = 0 := rfl; omega, z.2⟩)
    refine ⟨-1, X2, mw M1 0 13 0, ?_, ?_, ?_⟩
    · unfold F_Gb_text
      rw [fstf_d, eS, fbd_s, if_neg hx0, if_pos hw]
    · unfold F_Mo_text J_Mo_text_69
      simp only [fstf_d]
      rw [← hM1, if_pos (show F_Mo_isIn x1 0 3 M1 = 0 from c), if_pos True.intro]
    · exact ginv_rd h TX2 (TM1 _ (fun c hc => mw_ne hc) (fun j a b => by rw [mw_eq, pk_un b])) (by rw [mw_eq, pk_us]) (by rw [mw_eq, pk_un (by decide), mz.1]; exact x111.2.2.1) (by rw [mw_eq, pk_un (by decide), mz.2.1]; exact x111.2.2.2)
  · -- the tokens
    obtain ⟨M2, hM2⟩ : ∃ Z, Z = mw M1 0 26 0 := ⟨_, rfl⟩
    have m2c : ∀ c, c ≠ 0 → M2 c = M1 c := fun c hc => by rw [hM2, mw_ne hc]
    have m20 : ∀ j, j ≠ 26 → M2 0 j = M1 0 j := fun j hj => by rw [hM2, mw_eq, pk_un hj]
    have TM2 : TM IM M2 := TM1 M2 m2c (fun j a _ => m20 j a)
    have hXT : XT (mw (mw X2 111 5 0) 111 6 0) T n := ⟨hn, by rw [mw_eq, pk_un (by decide), mw_eq, pk_un (by decide)]; exact x111.1, fun j hj => ⟨by rw [mw_ne (by decide), mw_ne (by decide), xc 110 (by decide) (by decide), (ht j hj).1]; exact (hT j hj).1, (hT j hj).2⟩⟩
    obtain ⟨Yc, c1, c2, c3, -, c5, c6⟩ := cut_l n 0 (mw (mw X2 111 5 0) 111 6 0) 5000 0 hXT (by omega) (by omega) (by rw [mw_eq, pk_un (by decide), mw_eq, pk_us]; rfl) (Nat.le_refl _) (Nat.zero_le _)
    have eC : F_Rd_cutTokens X2 = some Yc := by
      unfold F_Rd_cutTokens
      rw [fstf_d, fstf_d, show L_Rd_cutTokens_14 5000 0 (mw (mw X2 111 5 0) 111 6 0) = some Yc from c1, fbd_s]
    obtain ⟨L, hLd⟩ : ∃ L, L = lxs T n 0 := ⟨_, rfl⟩
    rw [← hLd] at c2 c3
    have yc : ∀ c, c ≠ 0 → (c < 111 ∨ 113 < c) → Yc c = IX c := fun c a b => by rw [c5 c (by omega) (by omega) (by omega), mw_ne (by omega), mw_ne (by omega), xc c a (by omega)]
    have yc0 : Yc 0 = upd (IX 0) 10 0 := by rw [c5 0 (by decide) (by decide) (by decide), mw_ne (by decide), mw_ne (by decide), x0]
    have y111 : ∀ j, j ≠ 5 → j ≠ 6 → Yc 111 j = X2 111 j := fun j a b => by rw [c6 j a, mw_eq, pk_un b, mw_eq, pk_un a]
    have y6 : Yc 111 6 = nI 0 := by rw [c6 6 (by decide), mw_eq, pk_us]; rfl
    have TXc : TX IX Yc := ⟨fun c hc => yc c hc.1 (by omega), fun j hj => by rw [yc0, pk_un hj], by rw [yc0, pk_us], by rw [yc 117 (by decide) (by decide)], by rw [yc 119 (by decide) (by decide)]⟩
    have hP : PC T n L Yc M2 := by
      refine ⟨?_, by rw [c2, Nat.zero_add], by rw [y111 1 (by decide) (by decide)]; exact x111.1, fun i hi => ?_, by rw [yc 119 (by decide) (by decide)]; exact hF.1.2.2.2.2.2.2.2.2.2.2.2.2, ⟨hn, ?_, fun j hj => ?_, fun j hj => ?_⟩, ?_, ?_⟩
      · rw [hLd]
        have := lx_len (T := T) (len := n) (n - 0) 0
        show (lx T n (n - 0) 0).length ≤ 400
        omega
      · have hx : L[i]? = some (L[i]) := List.getElem?_eq_getElem hi
        obtain ⟨z1, z2⟩ := cd_some (len := n) hx
        have := c3 i (L[i]).1 (L[i]).2 hx
        rw [Nat.zero_add] at this
        rw [z1, z2]; exact this
      · rw [m20 13 (by decide), m0 13 (by decide) (by decide) (by decide) (by decide) (by decide) (by decide)]; exact en
      · rw [m2c 9 (by decide), mc 9 (by decide)]; exact hT j hj
      · rw [m2c 10 (by decide), mc 10 (by decide)]; exact hF.2.2.2.1 j hj
      · rw [y111 2 (by decide) (by decide), x111.2.1, m20 6 (by decide), m0 6 (by decide) (by decide) (by decide) (by decide) (by decide) (by decide)]
        exact hW.1.1.2.2.2.2.2
      · rw [m20 6 (by decide), m0 6 (by decide) (by decide) (by decide) (by decide) (by decide) (by decide)]; exact hW.2.1.1
    obtain ⟨N0, r1, r2, r3, r4⟩ := rd_n (i := 0) hP MF.same (Nat.zero_le n) (show M2 0 14 = nI 0 by rw [m20 14 (by decide), mz.2.2.1]; rfl) (by rw [List.drop_zero, hLd]) (Nat.zero_le _)
    have z33 : M2 0 33 = 0 := (m20 33 (by decide)).trans mz.1
    have z34 : M2 0 34 = -1 := (m20 34 (by decide)).trans mz.2.1
    have z26 : M2 0 26 = 0 := by rw [hM2, mw_eq, pk_us]
    have y7 : Yc 111 7 = 0 := (y111 7 (by decide) (by decide)).trans x111.2.2.1
    have y8 : Yc 111 8 = -1 := (y111 8 (by decide) (by decide)).trans x111.2.2.2
    -- both begin
    have eM : F_Mo_text x1 IM = TXR x1 (F_Mo_readsText x1 M1) := by
      unfold F_Mo_text TXR
      rw [fstf_d, fstf_d, fstf_d, fstf_d, fstf_d, fstf_d, ← hM1, if_neg (show ¬ F_Mo_isIn x1 0 3 M1 = 0 from c)]
    obtain ⟨Xl, hXl⟩ : ∃ Z, Z = mw Yc 119 2 0 := ⟨_, rfl⟩
    have xl0 : Xl 119 2 = nI 0 := by rw [hXl, mw_eq, pk_us]; rfl
    have Fl : XF Yc Xl := by
      rw [hXl]
      exact XF.same.d (fun c hc => mw_ne (by omega)) (by rw [mw_ne (by decide)]) (by rw [mw_eq, pk_un (by decide)])
    have l111 : Xl 111 = Yc 111 := by rw [hXl, mw_ne (by decide)]
    have PSl : ∀ N, PM T n L M2 0 N → PS T n L Yc M2 0 Xl N := fun N hN => ⟨Fl, Nat.zero_le _, by rw [l111]; exact y6, ⟨by rw [l111]; exact y7, by rw [l111]; exact y8⟩, hN⟩
    obtain ⟨k, hk1, hk2, hk3⟩ := gIn_n (x := x1) (hi := 3) (by
      have q : 0 ≤ x1 ∧ x1 ≤ 3 := Classical.byContradiction fun z => c (within_0.mpr z)
      exact ⟨Int32.le_iff_toInt_le.mp q.1, Int32.le_iff_toInt_le.mp q.2⟩)
    have hk4 : k = 0 ∨ k = 1 ∨ k = 2 ∨ k = 3 := by omega
    rw [eM]
    unfold F_Gb_text F_Mo_readsText
    rw [fstf_d, eS, fbd_s]
    rcases hk4 with rfl | rfl | rfl | rfl
    · -- THE LAW
      have hx : x1 = 0 := hk1
      subst hx
      rw [if_pos rfl]
      have e1 : (fstf M1 0 26 0 fun I1 => fbd (F_Mo_reads I1) fun I2 => if (0 : Int32) = 1 then fbd (F_Mo_readVoyages I2) fun (r10, I9) => some (r10, I9) else if (0 : Int32) = 2 then fbd (F_Mo_readDinner I2) fun (r8, I7) => some (r8, I7) else if (0 : Int32) = 3 then fbd (F_Mo_readReaches I2) fun (r6, I5) => some (r6, I5) else fbd (F_Mo_readLaw I2) fun (r4, I3) => some (r4, I3)) = F_Mo_readLaw N0 := by rw [fstf_d, ← hM2, r1, fbd_s, if_neg (by decide), if_neg (by decide), if_neg (by decide), fbd_pp]
      rw [e1]
      obtain ⟨Xw, hXw⟩ : ∃ Z, Z = mw (mw Yc 114 1 0) 114 4 0 := ⟨_, rfl⟩
      have Fw : XF Yc Xw := by
        rw [hXw]
        exact XF.same.d (fun c hc => by rw [mw_ne (by omega), mw_ne (by omega)]) (by rw [mw_ne (by decide), mw_ne (by decide)]) (by rw [mw_ne (by decide), mw_ne (by decide)])
      have w111 : Xw 111 = Yc 111 := by rw [hXw, mw_ne (by decide), mw_ne (by decide)]
      have PSw : PS T n L Yc M2 0 Xw N0 := ⟨Fw, Nat.zero_le _, by rw [w111]; exact y6, ⟨by rw [w111]; exact y7, by rw [w111]; exact y8⟩, r2⟩
      have e2 : F_Rd_readLaw X2 = L_Rd_readLaw_13 5000 (nI 0) Xw := by
        unfold F_Rd_readLaw F_La_clear
        rw [eC, fbd_s, fstf_d, fstf_d, fbd_s, ← hXw, fbd_i, show nI 0 = (0 : Int32) from rfl]
      have e3 : F_Mo_readLaw N0 = RLf 5000 (nI 0) N0 := by unfold F_Mo_readLaw RLf; rw [show nI 0 = (0 : Int32) from rfl]
      rw [e2, e3]
      have hE : EX [] Xw := ⟨by rw [hXw, mw_eq, pk_un (by decide), mw_eq, pk_us]; rfl, True.intro⟩
      have hEM : EM (gMl []) N0 := ⟨by rw [r4 27 (by decide) (by decide) (by decide) (by decide), m20 27 (by decide), mz.2.2.2.1]; rfl, True.intro⟩
      exact text_f h TXc TM2 z33 z34 z26 0 (law_l hP 16 0 5000 5000 0 [] Xw N0 PSw hE hEM (Nat.le_refl _) (by rw [r4 28 (by decide) (by decide) (by decide) (by decide), m20 28 (by decide), mz.2.2.2.2]; rfl) (by rw [hXw, mw_eq, pk_us]; rfl) (by rw [hXw, mw_ne (by decide), mw_ne (by decide), yc 117 (by decide) (by decide)]; exact hF.2.2.2.2.2.2) (fun l hl => absurd hl (Nat.not_lt_zero _)) (by decide) (by decide) (by decide)) (fun Y N v ⟨k, P, g1, g2, g3, g4, g5, g6, g7⟩ => ⟨k, P, g1, g2, g3, g4, ⟨by rw [mw_eq, pk_un (by decide)]; exact g5.1, by rw [mw_ne (by decide), mw_ne (by decide)]; exact g5.2⟩, g6, fun l hl => by rw [mw_ne (show 12 ≠ 0 by decide), mw_ne (show 13 ≠ 0 by decide), mw_ne (show 14 ≠ 0 by decide), mw_ne (show 15 ≠ 0 by decide)]; exact g7 l hl⟩) (fun Y N k a b d e => by rw [tk_0]; exact take_0 a b d e)
    · have hx : x1 = 1 := hk1
      subst hx
      rw [if_neg (by decide), if_neg (show ¬ F_Gb_within 1 1 3 X2 = 0 from fun z => within_0.mp z ⟨by decide, by decide⟩)]
      have e1 : (fstf M1 0 26 0 fun I1 => fbd (F_Mo_reads I1) fun I2 => if (1 : Int32) = 1 then fbd (F_Mo_readVoyages I2) fun (r10, I9) => some (r10, I9) else if (1 : Int32) = 2 then fbd (F_Mo_readDinner I2) fun (r8, I7) => some (r8, I7) else if (1 : Int32) = 3 then fbd (F_Mo_readReaches I2) fun (r6, I5) => some (r6, I5) else fbd (F_Mo_readLaw I2) fun (r4, I3) => some (r4, I3)) = F_Mo_readVoyages N0 := by rw [fstf_d, ← hM2, r1, fbd_s, if_pos rfl, fbd_pp]
      rw [e1]
      obtain ⟨N1, v1, v2, v3, v4⟩ := rv_2 8 0 5000 N0 (by decide) (by decide)
      have e3 : F_Mo_readVoyages N0 = RVf 5000 (nI 0) N1 := by
        unfold F_Mo_readVoyages RVf
        rw [show L_Mo_readVoyages_2 5000 0 N0 = some N1 from v1, fbd_s, show nI 0 = (0 : Int32) from rfl]
      have e2 : F_Rd_readLines 1 X2 = L_Rd_readLines_40 1 219 5000 (nI 0) Xl := by
        unfold F_Rd_readLines J_Rd_readLines_37
        rw [eC, fbd_s, fstf_d, if_pos rfl, ← hXl, fbd_i, show nI 0 = (0 : Int32) from rfl]
      rw [e2, e3]
      have F1 : MF M2 N1 := by
        obtain ⟨g1, g2, g3, g4, g5, g6, g7⟩ := r2.1
        exact ⟨fun c a b => by rw [v2 c (by omega)]; exact g1 c a b, fun j a1 a2 a3 a4 a5 a6 => by rw [v2 0 (by decide)]; exact g2 j a1 a2 a3 a4 a5 a6, fun c j a b d => by rw [v2 c (by omega)]; exact g3 c j a b d, fun c j a b d => by rw [v2 c (by omega)]; exact g4 c j a b d, fun j hj => by rw [v4 j (by omega)]; exact g5 j hj, fun j hj => by rw [v2 20 (by decide)]; exact g6 j hj, fun j hj => by rw [v2 21 (by decide)]; exact g7 j hj⟩
      have PM1 : PM T n L M2 0 N1 := ⟨F1, by rw [v2 0 (by decide)]; exact r2.2⟩
      have g0 : GV Xl N1 (nI 0) := by
        unfold GV
        rw [xl0]
        exact ⟨rfl, 0, by omega, rfl, fun i hi => absurd hi (Nat.not_lt_zero _), fun b hb => v3 b (Nat.zero_le _) hb⟩
      exact text_f h TXc TM2 z33 z34 z26 1 (voy_l2 hP 16 0 5000 5000 0 Xl N1 (PSl N1 PM1) (by decide) (by decide) (by decide) g0 xl0) (fun Y N v g => by unfold GV at g ⊢; rw [mw_ne (by decide)]; exact g) (fun Y N k a b d _ => by rw [tk_1]; exact take_1 a b d)
    · have hx : x1 = 2 := hk1
      subst hx
      rw [if_neg (by decide), if_neg (show ¬ F_Gb_within 2 1 3 X2 = 0 from fun z => within_0.mp z ⟨by decide, by decide⟩)]
      have e1 : (fstf M1 0 26 0 fun I1 => fbd (F_Mo_reads I1) fun I2 => if (2 : Int32) = 1 then fbd (F_Mo_readVoyages I2) fun (r10, I9) => some (r10, I9) else if (2 : Int32) = 2 then fbd (F_Mo_readDinner I2) fun (r8, I7) => some (r8, I7) else if (2 : Int32) = 3 then fbd (F_Mo_readReaches I2) fun (r6, I5) => some (r6, I5) else fbd (F_Mo_readLaw I2) fun (r4, I3) => some (r4, I3)) = F_Mo_readDinner N0 := by rw [fstf_d, ← hM2, r1, fbd_s, if_neg (by decide), if_pos rfl, fbd_pp]
      rw [e1]
      have e3 : F_Mo_readDinner N0 = RDf 5000 (nI 0) N0 := by unfold F_Mo_readDinner RDf; rw [show nI 0 = (0 : Int32) from rfl]
      have e2 : F_Rd_readLines 2 X2 = L_Rd_readLines_40 2 221 5000 (nI 0) Xl := by
        unfold F_Rd_readLines J_Rd_readLines_37
        rw [eC, fbd_s, fstf_d, if_neg (by decide), if_pos rfl, ← hXl, fbd_i, show nI 0 = (0 : Int32) from rfl]
      rw [e2, e3]
      have g0 : GD Xl N0 (nI 0) := by
        unfold GD
        rw [xl0]
        exact ⟨rfl, 0, by omega, rfl, fun i hi => absurd hi (Nat.not_lt_zero _)⟩
      exact text_f h TXc TM2 z33 z34 z26 2 (din_l2 hP 16 0 5000 5000 0 Xl N0 (PSl N0 r2) (by decide) (by decide) (by decide) g0 xl0) (fun Y N v g => by unfold GD at g ⊢; rw [mw_ne (by decide)]; exact g) (fun Y N k a b d _ => by rw [tk_2]; exact take_2 a b d)
    · have hx : x1 = 3 := hk1
      subst hx
      rw [if_neg (by decide), if_neg (show ¬ F_Gb_within 3 1 3 X2 = 0 from fun z => within_0.mp z ⟨by decide, by decide⟩)]
      have e1 : (fstf M1 0 26 0 fun I1 => fbd (F_Mo_reads I1) fun I2 => if (3 : Int32) = 1 then fbd (F_Mo_readVoyages I2) fun (r10, I9) => some (r10, I9) else if (3 : Int32) = 2 then fbd (F_Mo_readDinner I2) fun (r8, I7) => some (r8, I7) else if (3 : Int32) = 3 then fbd (F_Mo_readReaches I2) fun (r6, I5) => some (r6, I5) else fbd (F_Mo_readLaw I2) fun (r4, I3) => some (r4, I3)) = F_Mo_readReaches N0 := by rw [fstf_d, ← hM2, r1, fbd_s, if_neg (by decide), if_neg (by decide), if_pos rfl, fbd_pp]
      rw [e1]
      obtain ⟨N1, v1, v2, v3, v4⟩ := rr_2 12 0 5000 N0 (by decide) (by decide)
      have e3 : F_Mo_readReaches N0 = RRf 5000 (nI 0) N1 := by
        unfold F_Mo_readReaches RRf
        rw [show L_Mo_readReaches_2 5000 0 N0 = some N1 from v1, fbd_s, show nI 0 = (0 : Int32) from rfl]
      have e2 : F_Rd_readLines 3 X2 = L_Rd_readLines_40 3 210 5000 (nI 0) Xl := by
        unfold F_Rd_readLines J_Rd_readLines_37
        rw [eC, fbd_s, fstf_d, if_neg (by decide), if_neg (by decide), ← hXl, fbd_i, show nI 0 = (0 : Int32) from rfl]
      rw [e2, e3]
      have F1 : MF M2 N1 := by
        obtain ⟨g1, g2, g3, g4, g5, g6, g7⟩ := r2.1
        exact ⟨fun c a b => by rw [v2 c (by omega)]; exact g1 c a b, fun j a1 a2 a3 a4 a5 a6 => by rw [v2 0 (by decide)]; exact g2 j a1 a2 a3 a4 a5 a6, fun c j a b d => by rw [v2 c (by omega)]; exact g3 c j a b d, fun c j a b d => by rw [v2 c (by omega)]; exact g4 c j a b d, fun j hj => by rw [v2 19 (by decide)]; exact g5 j hj, fun j hj => by rw [v2 20 (by decide)]; exact g6 j hj, fun j hj => by rw [v4 j (by omega)]; exact g7 j hj⟩
      have PM1 : PM T n L M2 0 N1 := ⟨F1, by rw [v2 0 (by decide)]; exact r2.2⟩
      have g0 : GR Xl N1 (nI 0) := by
        unfold GR
        rw [xl0]
        refine ⟨rfl, 0, by omega, rfl, fun i hi => absurd hi (Nat.not_lt_zero _), fun a ha => ?_⟩
        dsimp only
        rw [v3 a (Nat.zero_le _) ha]
        exact ⟨by decide, fun j hj => Nat.zero_testBit j⟩
      exact text_f h TXc TM2 z33 z34 z26 3 (rea_l2 hP 16 0 5000 5000 0 Xl N1 (PSl N1 PM1) (by decide) (by decide) (by decide) g0 xl0) (fun Y N v g => by unfold GR at g ⊢; rw [mw_ne (by decide)]; exact g) (fun Y N k a b d _ => by rw [tk_3]; exact take_3 a b d)
