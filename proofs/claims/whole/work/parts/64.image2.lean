/-! image. -/
theorem wSh_0 {I : gb_Mem} : wSh I 0 = I := by
  funext c
  show I (0 + c) = I c
  rw [Nat.zero_add]
theorem vx_sh {I : gb_Mem} {c : Nat} (h : 1 ≤ c ∧ c ≤ 34) : vX (xP I 35 34) c = wSh I 34 c := by
  show xP I 35 34 (c - 1) = I (34 + c)
  rw [xP_in (by omega), show 35 + (c - 1) = 34 + c by omega]
theorem vx_world {I M : gb_Mem} : GWorld (vX (xP I 35 34)) M ↔ GWorld (wSh I 34) M := by
  unfold GWorld
  simp (disch := decide) only [vx_sh]
theorem gw_size {A M : gb_Mem} (h : GWorld A M) : ∀ i, i < 12 → ∃ k lim, A (11 + 2 * i) 2 = nI k ∧ k ≤ lim ∧ lim ≤ 150 ∧ gLims[i]? = some (4 * lim) := by
  obtain ⟨t1, t2, t3, t4, t5, t6, t7, t8, t9, t10, t11, t12, t13, t14, t15⟩ := h
  intro i hi
  have hc : i = 0 ∨ i = 1 ∨ i = 2 ∨ i = 3 ∨ i = 4 ∨ i = 5 ∨ i = 6 ∨ i = 7 ∨ i = 8 ∨ i = 9 ∨ i = 10 ∨ i = 11 := by omega
  rcases hc with rfl | rfl | rfl | rfl | rfl | rfl | rfl | rfl | rfl | rfl | rfl | rfl
  · obtain ⟨e1, k, hk, e2, -⟩ := t5; exact ⟨k, 16, e1.trans e2, hk, by decide, rfl⟩
  · obtain ⟨e1, k, hk, e2, -⟩ := t6; exact ⟨k, 16, e1.trans e2, hk, by decide, rfl⟩
  · obtain ⟨e1, k, hk, e2, -⟩ := t7; exact ⟨k, 16, e1.trans e2, hk, by decide, rfl⟩
  · obtain ⟨e1, k, hk, e2, -⟩ := t3; exact ⟨k, 150, e1.trans e2, hk, by decide, rfl⟩
  · obtain ⟨e1, k, hk, e2, -⟩ := t8; exact ⟨k, 12, e1.trans e2, hk, by decide, rfl⟩
  · obtain ⟨e1, k, hk, e2, -⟩ := t9; exact ⟨k, 12, e1.trans e2, hk, by decide, rfl⟩
  · obtain ⟨e1, k, hk, e2, -⟩ := t10; exact ⟨k, 8, e1.trans e2, hk, by decide, rfl⟩
  · obtain ⟨e1, k, hk, e2, -⟩ := t11; exact ⟨k, 10, e1.trans e2, hk, by decide, rfl⟩
  · obtain ⟨e1, k, hk, e2, -⟩ := t12; exact ⟨k, 16, e1.trans e2, hk, by decide, rfl⟩
  · obtain ⟨e1, k, hk, e2, -⟩ := t13; exact ⟨k, 9, e1.trans e2, hk, by decide, rfl⟩
  · obtain ⟨e1, k, hk, e2, -⟩ := t14; exact ⟨k, 8, e1.trans e2, hk, by decide, rfl⟩
  · obtain ⟨e1, k, hk, e2, -⟩ := t15; exact ⟨k, 9, e1.trans e2, hk, by decide, rfl⟩
theorem gf_lim {IX : gb_Mem} {wd : Nat → Int32} (h : GFix IX wd) : ∀ i, i < 12 → ∃ lim, IX (11 + 2 * i) 0 = nI lim ∧ IX (34 + 11 + 2 * i) 0 = nI lim ∧ gLims[i]? = some (4 * lim) := by
  obtain ⟨⟨a1, a2, a3, a4, a5, a6, a7, a8, a9, a10, a11, a12, -⟩, ⟨b1, b2, b3, b4, b5, b6, b7, b8, b9, b10, b11, b12⟩, -⟩ := h
  intro i hi
  have hc : i = 0 ∨ i = 1 ∨ i = 2 ∨ i = 3 ∨ i = 4 ∨ i = 5 ∨ i = 6 ∨ i = 7 ∨ i = 8 ∨ i = 9 ∨ i = 10 ∨ i = 11 := by omega
  rcases hc with rfl | rfl | rfl | rfl | rfl | rfl | rfl | rfl | rfl | rfl | rfl | rfl
  · exact ⟨16, a1, b1, rfl⟩
  · exact ⟨16, a2, b2, rfl⟩
  · exact ⟨16, a3, b3, rfl⟩
  · exact ⟨150, a4, b4, rfl⟩
  · exact ⟨12, a5, b5, rfl⟩
  · exact ⟨12, a6, b6, rfl⟩
  · exact ⟨8, a7, b7, rfl⟩
  · exact ⟨10, a8, b8, rfl⟩
  · exact ⟨16, a9, b9, rfl⟩
  · exact ⟨9, a10, b10, rfl⟩
  · exact ⟨8, a11, b11, rfl⟩
  · exact ⟨9, a12, b12, rfl⟩
theorem im_size {IX A M : gb_Mem} {wd : Nat → Int32} (hF : GFix IX wd) (hW : GWorld A M) (o0 o1 : Nat) (hd : (o0 = 0 ∧ o1 = 34) ∨ (o0 = 34 ∧ o1 = 0)) (hA : ∀ i, i < 12 → A (11 + 2 * i) 2 = IX (o1 + 11 + 2 * i) 2) : ∀ i n, gLims[i]? = some n → ∃ k lim, IX (o1 + 11 + 2 * i) 2 = nI k ∧ IX (o0 + 11 + 2 * i) 0 = nI lim ∧ k ≤ lim ∧ lim ≤ 150 ∧ n = 4 * lim := by
  intro i n hi
  have hi12 : i < 12 := (List.getElem?_eq_some_iff.mp hi).1
  obtain ⟨k, lim, e1, hk, hl, e2⟩ := gw_size hW i hi12
  obtain ⟨lim2, f1, f2, f3⟩ := gf_lim hF i hi12
  have h1 : some n = some (4 * lim) := hi.symm.trans e2
  have h2 : some n = some (4 * lim2) := hi.symm.trans f3
  have h3 : n = 4 * lim := by injection h1
  have h4 : n = 4 * lim2 := by injection h2
  have h5 : lim2 = lim := by omega
  subst h5
  refine ⟨k, lim2, (hA i hi12).symm.trans e1, ?_, hk, hl, h3⟩
  rcases hd with ⟨rfl, rfl⟩ | ⟨rfl, rfl⟩
  · rw [Nat.zero_add]; exact f1
  · exact f2
theorem sim_image : S_image GInv := by
  intro x1 IX IM hx h
  have h9 := ginv_told (v := 0) h
  generalize hI : mw IM 0 0 0 = I1 at h9
  have hF := h9.1
  have hW := h9.2.2.1
  obtain ⟨ei, hi⟩ := h9.2.2.2.2.2.2
  obtain ⟨I4, hI4⟩ : ∃ K, K = mw (mw (mw I1 0 67 x1) 0 68 1) 0 69 0 := ⟨_, rfl⟩
  have e4c : ∀ c, c ≠ 0 → I4 c = I1 c := fun c hc => by rw [hI4, mw_ne hc, mw_ne hc, mw_ne hc]
  have e40 : ∀ j, j ≠ 67 → j ≠ 68 → j ≠ 69 → I4 0 j = I1 0 j := fun j h1 h2 h3 => by rw [hI4, mw_eq, pk_un h3, mw_eq, pk_un h2, mw_eq, pk_un h1]
  have e467 : I4 0 67 = x1 := by rw [hI4, mw_eq, pk_un (by decide), mw_eq, pk_un (by decide), mw_eq, pk_us]
  have e468 : I4 0 68 = 1 := by rw [hI4, mw_eq, pk_un (by decide), mw_eq, pk_us]
  have e469 : I4 0 69 = nI 0 := by rw [hI4, mw_eq, pk_us]; rfl
  obtain ⟨J, j1, j2, j3, j4, j5, j6, j7, j8⟩ := img_ref (I := I4) x1 e469
  have hM : J_Mo_image_18 x1 I1 = if x1 = 0 then some (1, mw J 0 3 0) else some (1, J) := by
    unfold J_Mo_image_18
    rw [fgd_01 hx]
    simp only [fstf_d]
    rw [← hI4]
    have : ∀ (o : Option gb_Mem) (k : gb_Mem → Option (Int32 × gb_Mem)), fbd o k = fbd (fbd o fun I => some I) k := fun o k => by cases o <;> rfl
    revert j1
    cases L_Mo_image_35 x1 5000 0 I4 with
    | none => intro j1; exact absurd j1 (by intro q; cases q)
    | some a =>
      simp only [fbd_s]
      cases F_Mo_keepsMany a with
      | none => intro j1; exact absurd j1 (by intro q; cases q)
      | some b =>
        simp only [fbd_s]
        cases F_Mo_keepsTold b with
        | none => intro j1; exact absurd j1 (by intro q; cases q)
        | some c =>
          simp only [fbd_s]
          cases L_Mo_image_73 x1 5000 0 c with
          | none => intro j1; exact absurd j1 (by intro q; cases q)
          | some d =>
            simp only [fbd_s]
            intro j1
            rw [fbd_i] at j1
            rw [j1, fbd_s]
  rcases hx with rfl | rfl
  · -- gone back to
    by_cases c : IX 0 2 = 0
    · refine ⟨0, IX, I1, ?_, ?_, h9⟩
      · unfold F_Gb_image
        rw [if_pos rfl, if_pos c]
      · simp only [F_Mo_image, fstf_d, hI, ↓reduceIte]
        rw [if_pos (ei.symm.trans c)]
    · obtain ⟨q1, q2⟩ := hi.resolve_left c
      have c2 : ¬ I1 0 68 = 0 := fun q => c (ei.trans q)
      have hK : GWorld (wSh IX 34) (vM (I1 41)) := vx_world.mp q2
      obtain ⟨K, k1, k2, k3, k4⟩ := wo_copy (I := IX) (o0 := 0) (o1 := 34) (Or.inl ⟨rfl, rfl⟩) (im_size hF hK 0 34 (Or.inl ⟨rfl, rfl⟩) (fun i _ => by
        show IX (34 + (11 + 2 * i)) 2 = _
        rw [← Nat.add_assoc]))
      refine ⟨1, mw K 69 3 0, mw J 0 3 0, ?_, ?_, ?_⟩
      · unfold F_Gb_image F_Pa_forget
        rw [if_pos rfl, if_neg c, show F_Wo_copyFrom 1 35 IX = some K from k1, fbd_s, fstf_d, fbd_s]
      · simp only [F_Mo_image, fstf_d, hI, ↓reduceIte]
        rw [if_neg c2, hM, if_pos rfl]
      · have e41 : J 41 = I1 41 := (j3 e467).trans (e4c 41 (by decide))
        rw [e41] at j2
        rw [wSh_0] at k4
        have hW2 : GWorld K J := gworld_eqs hK k4 j2
        have hX : ∀ c, c < 2 ∨ 34 < c → K c = IX c := fun c hc => k2 c (by omega)
        have x1 : xP K 72 24 = xP IX 72 24 := xP_congr (fun c h1 h2 => hX c (by omega))
        have x2 : xP K 35 34 = xP IX 35 34 := xP_congr (fun c h1 h2 => hX c (by omega))
        have z5 : J 0 5 = I1 0 5 := (j5 5 (by decide) (by decide) (by decide) (by decide) (by decide) (by decide) (by decide) (by decide) (by decide) (by decide) (by decide)).trans (e40 5 (by decide) (by decide) (by decide))
        have z13 : J 0 13 = I1 0 13 := (j5 13 (by decide) (by decide) (by decide) (by decide) (by decide) (by decide) (by decide) (by decide) (by decide) (by decide) (by decide)).trans (e40 13 (by decide) (by decide) (by decide))
        have z33 : J 0 33 = I1 0 33 := (j5 33 (by decide) (by decide) (by decide) (by decide) (by decide) (by decide) (by decide) (by decide) (by decide) (by decide) (by decide)).trans (e40 33 (by decide) (by decide) (by decide))
        have z34 : J 0 34 = I1 0 34 := (j5 34 (by decide) (by decide) (by decide) (by decide) (by decide) (by decide) (by decide) (by decide) (by decide) (by decide) (by decide)).trans (e40 34 (by decide) (by decide) (by decide))
        have z68 : J 0 68 = I1 0 68 := ((j5 68 (by decide) (by decide) (by decide) (by decide) (by decide) (by decide) (by decide) (by decide) (by decide) (by decide) (by decide)).trans e468).trans (ei.symm.trans q1).symm
        have y9 : J 9 = I1 9 := j7.trans (e4c 9 (by decide))
        have y10 : J 10 = I1 10 := j8.trans (e4c 10 (by decide))
        have L : ∀ i, i < 12 → K (11 + 2 * i) 0 = IX (11 + 2 * i) 0 := fun i hi => by
          have := k3 i hi
          rw [Nat.zero_add] at this; exact this
        have l11 : K 11 0 = IX 11 0 := L 0 (by decide)
        have l13 : K 13 0 = IX 13 0 := L 1 (by decide)
        have l15 : K 15 0 = IX 15 0 := L 2 (by decide)
        have l17 : K 17 0 = IX 17 0 := L 3 (by decide)
        have l19 : K 19 0 = IX 19 0 := L 4 (by decide)
        have l21 : K 21 0 = IX 21 0 := L 5 (by decide)
        have l23 : K 23 0 = IX 23 0 := L 6 (by decide)
        have l25 : K 25 0 = IX 25 0 := L 7 (by decide)
        have l27 : K 27 0 = IX 27 0 := L 8 (by decide)
        have l29 : K 29 0 = IX 29 0 := L 9 (by decide)
        have l31 : K 31 0 = IX 31 0 := L 10 (by decide)
        have l33 : K 33 0 = IX 33 0 := L 11 (by decide)
        clear k1 k2 k3 k4 L hW q2 hK hM j1 j2 j4 j5
        obtain ⟨hF, h5, -, hPa, hTp, hFt, hIm⟩ := h9
        have hW3 : GWorld (mw K 69 3 0) (mw J 0 3 0) := by
          unfold GWorld at *
          simp +decide (disch := decide) only [mw_ne, mw_eq, upd_ap, ↓reduceIte]
          exact hW2
        refine ⟨?_, ?_, hW3, ?_, ?_, ?_, ?_⟩
        · unfold GFix at *
          simp +decide (disch := decide) only [mw_ne, l11, l13, l15, l17, l19, l21, l23, l25, l27, l29, l31, l33, hX, y10]
          exact hF
        · rw [mw_eq, pk_un (by decide), z5]; exact h5
        · rw [xP_mw (by decide), x1, mw_eq, pk_un (by decide), pk_us, hX 69 (by omega), mw_ne (show 71 ≠ 69 by decide), hX 71 (by omega), show mw J 0 3 0 0 3 = 0 by rw [mw_eq, pk_us]]
          exact hPa.none
        · rw [mw_ne (show 0 ≠ 69 by decide), hX 0 (by omega), mw_ne (show 110 ≠ 69 by decide), hX 110 (by omega), mw_ne (show 9 ≠ 0 by decide), y9, mw_eq, pk_un (by decide), z13]
          exact hTp
        · rw [mw_ne (show 111 ≠ 69 by decide), hX 111 (by omega), mw_eq, pk_un (by decide), pk_un (by decide), z33, z34]
          exact hFt
        · rw [xP_mw (by decide), x2, mw_ne (show 0 ≠ 69 by decide), hX 0 (by omega), mw_ne (show 41 ≠ 0 by decide), e41, mw_eq, pk_un (by decide), z68]
          exact hIm
  · -- taken
    obtain ⟨K, k1, k2, k3, k4⟩ := wo_copy (I := IX) (o0 := 34) (o1 := 0) (Or.inr ⟨rfl, rfl⟩) (im_size hF hW 34 0 (Or.inr ⟨rfl, rfl⟩) (fun i _ => by rw [Nat.zero_add]))
    refine ⟨1, mw K 0 2 1, J, ?_, ?_, ?_⟩
    · unfold F_Gb_image
      rw [if_neg (by decide), show F_Wo_copyFrom 35 1 IX = some K from k1, fbd_s, fstf_d]
    · simp only [F_Mo_image, fstf_d, hI]
      rw [if_neg (by decide), hM, if_neg (by decide)]
    · rw [wSh_0] at k4
      have j4' := j4 (by rw [e467]; decide)
      have hMc : ∀ c, c ≠ 0 ∧ c ≠ 41 → J c = I1 c := fun c hc => by
        funext j
        rw [j4' c j hc.2 (fun z => hc.1 z.1), e4c c hc.1]
      have hM0 : ∀ j, j ≠ 67 ∧ j ≠ 68 ∧ j ≠ 69 → J 0 j = I1 0 j := fun j hj => by
        rw [j4' 0 j (by decide) (fun z => hj.2.2 z.2), e40 j hj.1 hj.2.1 hj.2.2]
      have z68 : J 0 68 = 1 := by rw [j4' 0 68 (by decide) (by decide), e468]
      have hW2 : GWorld IX J := by
        unfold GWorld at *
        simp +decide (disch := decide) only [hMc, hM0]
        exact hW
      have hK : GWorld (vX (xP K 35 34)) (vM (J 41)) := vx_world.mpr (gworld_eqs hW2 k4 j2.symm)
      have hX : ∀ c, c < 36 ∨ 68 < c → K c = IX c := fun c hc => k2 c (by omega)
      have x1 : xP K 72 24 = xP IX 72 24 := xP_congr (fun c h1 h2 => hX c (by omega))
      have l45 : K 45 0 = IX 45 0 := k3 0 (by decide)
      have l47 : K 47 0 = IX 47 0 := k3 1 (by decide)
      have l49 : K 49 0 = IX 49 0 := k3 2 (by decide)
      have l51 : K 51 0 = IX 51 0 := k3 3 (by decide)
      have l53 : K 53 0 = IX 53 0 := k3 4 (by decide)
      have l55 : K 55 0 = IX 55 0 := k3 5 (by decide)
      have l57 : K 57 0 = IX 57 0 := k3 6 (by decide)
      have l59 : K 59 0 = IX 59 0 := k3 7 (by decide)
      have l61 : K 61 0 = IX 61 0 := k3 8 (by decide)
      have l63 : K 63 0 = IX 63 0 := k3 9 (by decide)
      have l65 : K 65 0 = IX 65 0 := k3 10 (by decide)
      have l67 : K 67 0 = IX 67 0 := k3 11 (by decide)
      have hW3 : GWorld (mw K 0 2 1) J := by
        clear hW hK
        unfold GWorld at *
        simp +decide (disch := decide) only [mw_ne, hX]
        exact hW2
      clear k1 k2 k3 k4 hW hW2 hM j1 j2 j4 j5
      obtain ⟨hF, h5, -, hPa, hTp, hFt, hIm⟩ := h9
      refine ⟨?_, ?_, hW3, ?_, ?_, ?_, ?_⟩
      · unfold GFix at *
        simp +decide (disch := decide) only [mw_ne, l45, l47, l49, l51, l53, l55, l57, l59, l61, l63, l65, l67, hX, hMc]
        exact hF
      · rw [hM0 5 (by decide)]; exact h5
      · rw [xP_mw (by decide), x1, mw_ne (show 69 ≠ 0 by decide), hX 69 (by omega), mw_ne (show 71 ≠ 0 by decide), hX 71 (by omega), hMc 1 (by decide), hMc 2 (by decide), hMc 4 (by decide), hMc 5 (by decide), hMc 6 (by decide), hMc 7 (by decide), hM0 3 (by decide), hM0 6 (by decide)]
        exact hPa
      · rw [mw_ne (show 110 ≠ 0 by decide), hX 110 (by omega), mw_eq, pk_un (by decide), hX 0 (by omega), hMc 9 (by decide), hM0 13 (by decide)]
        exact hTp
      · rw [mw_ne (show 111 ≠ 0 by decide), hX 111 (by omega), hM0 33 (by decide), hM0 34 (by decide)]
        exact hFt
      · rw [xP_mw (by decide), mw_eq, pk_us, z68]
        exact ⟨rfl, Or.inr ⟨rfl, hK⟩⟩
