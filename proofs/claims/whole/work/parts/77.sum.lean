/-! T, E. -/
theorem TyN.le {d e : Nat} {p : List (Nat × Nat)} (h : TyN d p) (he : e ≤ d) : TyN e p := fun t ht => h t (by omega)
theorem sgv {c : Nat} {t v : Int32} (h : TR c t v) (hc : isSg c = true) : t = 4 ∧ v = nI c := by
  have hs := sg_lt hc
  rcases h with ⟨rfl, -⟩ | ⟨rfl, -⟩ | ⟨w, w1, rfl, -⟩ | ⟨n, n1, rfl, -⟩ | ⟨g, t, v⟩
  · omega
  · omega
  · omega
  · omega
  · exact ⟨t, v⟩
section SUM
variable {T : Nat → Nat} {len : Nat} {L : List (Nat × Nat)} {X0 M0 X M Y N Xb Mb : gb_Mem} {i k p i0 : Nat} {P P0 Q : List (Nat × Nat)}
theorem tnX_f1 (hP : PC T len L X0 M0) (h : PS T len L X0 M0 i X M) (lo hi : Int32) (c : ¬ 1000 ≤ cdA L i) : ∃ Y, F_Rd_takeNumber lo hi X = some (0, Y) ∧ XE X0 1 (plA L len i) Y := by
  obtain ⟨Y, y1, y2, y3⟩ := ref_n (k := 1) hP h (by decide) (by decide)
  refine ⟨Y, ?_, y2⟩
  unfold F_Rd_takeNumber
  rw [now_n hP h, fbd_s, if_neg (fun z => by
    have z2 := pk_sneg (a := cdA L i) (b := 1000) (by decide) (by omega)
    exact Int32.lt_irrefl (Int32.lt_of_lt_of_le z2 z)), show F_Rd_refuse 1 X = some Y from y1, fbd_s]
theorem tnX_f2 (hP : PC T len L X0 M0) (h : PS T len L X0 M0 i X M) {lo hi : Int32} {v : Nat} (hv : v < 10000) (c : cdA L i = 1000 + v) (d : F_Gb_within (nI v) lo hi X = 0) : ∃ Y, F_Rd_takeNumber lo hi X = some (nI v, Y) ∧ XE X0 2 (plA L len i) Y := by
  obtain ⟨Y, y1, y2, y3⟩ := ref_n (k := 2) hP h (by decide) (by decide)
  refine ⟨Y, ?_, y2⟩
  unfold F_Rd_takeNumber J_Rd_takeNumber_34
  rw [now_n hP h, fbd_s, c, show nI (1000 + v) - 1000 = nI v by rw [show (1000 : Int32) = nI 1000 from rfl, pk_sub (by omega)]; exact congrArg nI (by omega), if_pos (nI_pos' (by omega)), if_pos d, show F_Rd_refuse 2 X = some Y from y1, fbd_s, if_neg y2.f]
theorem tnX_t (hP : PC T len L X0 M0) (h : PS T len L X0 M0 i X M) {lo hi : Int32} {v : Nat} (hv : v < 10000) (c : cdA L i = 1000 + v) (d : ¬ F_Gb_within (nI v) lo hi X = 0) : F_Rd_takeNumber lo hi X = some (nI v, mw X 111 6 (nI (i + 1))) := by
  unfold F_Rd_takeNumber J_Rd_takeNumber_34
  rw [now_n hP h, fbd_s, c, show nI (1000 + v) - 1000 = nI v by rw [show (1000 : Int32) = nI 1000 from rfl, pk_sub (by omega)]; exact congrArg nI (by omega), if_pos (nI_pos' (by omega)), if_neg d, if_pos h.2.2.2.1.1, fstf_d, h.2.2.1, nI_1]
theorem pl_e {f : Nat} (hf : 0 < f) (x : Int32) (h : XE X0 k p X) : L_Rd_readProduct_6 f x X = some X := by
  obtain ⟨f, rfl⟩ : ∃ g, f = g + 1 := ⟨f - 1, by omega⟩
  simp only [L_Rd_readProduct_6]
  rw [if_neg h.f, ite_self]
theorem sl_e {f : Nat} (hf : 0 < f) (x : Int32) (h : XE X0 k p X) : L_Rd_readSum_6 f x X = some X := by
  obtain ⟨f, rfl⟩ : ∃ g, f = g + 1 := ⟨f - 1, by omega⟩
  simp only [L_Rd_readSum_6]
  rw [if_neg h.f, ite_self]
theorem prod_e (hP : PC T len L X0 M0) (h : XE X0 k p X) : F_Rd_readProduct X = some X := by
  unfold F_Rd_readProduct
  rw [unit_e hP h, fbd_s, pl_e (by omega) _ h, fbd_s]
theorem sum_e (hP : PC T len L X0 M0) (h : XE X0 k p X) : F_Rd_readSum X = some X := by
  unfold F_Rd_readSum
  rw [prod_e hP h, fbd_s, sl_e (by omega) _ h, fbd_s]
/-- two numbers into one -/
theorem ty_op {d : Nat} {acc q : List (Nat × Nat)} {o : Nat} (ho : o = 2 ∨ o = 3 ∨ o = 4) (hd : d ≤ 58) (ha : TyN d acc) (hq : TyN (d + 1) q) : TyN d (acc ++ q ++ [(o, 0)]) := by
  intro t ht
  rw [List.append_assoc, gTy_app (ha t ht), gTy_app (hq (false :: t) (by rw [List.length_cons]; omega))]
  refine gTy_s ?_ (by rw [List.length_cons]; omega)
  rcases ho with rfl | rfl | rfl <;> rfl
theorem prod_l (hP : PC T len L X0 M0) (hP0 : (gMl P0).length ≤ i0) : ∀ m i x f f' X M acc, L.length ≤ i + m → PS T len L X0 M0 i X M → EX (P0 ++ acc) X → EM (gMl (P0 ++ acc)) M → i0 < i → (gMl acc).length ≤ i - i0 → 2 * x ≤ i → m + 1 < f → m + 1 < f' → TyN 58 acc → XQ Xb X → MQu Mb M → EO T len L X0 M0 i0 P0 Xb Mb 58 (L_Rd_readProduct_6 f (nI x) X) (fbr (L_Mo_readProduct_10 f' M) (fun I12 => some (0, I12)) (fun (q13, I14) => some (q13, I14))) := by
  have hn := hP.1
  intro m
  induction m with
  | zero =>
    intro i x f f' X M acc hm h hX hM h0 ha hx hf hf' hty hXQ hMQ
    obtain ⟨f, rfl⟩ : ∃ g, f = g + 1 := ⟨f - 1, by omega⟩
    obtain ⟨f', rfl⟩ : ∃ g, f' = g + 1 := ⟨f' - 1, by omega⟩
    have hT := h.2.2.2.2.2.2.2
    have hi : i = L.length := by have := h.2.1; omega
    have hc : cdA L i = 0 := (cd_none (len := len) (by omega)).1
    have s42 : F_Mo_isSign 42 M = if cdA L i = 42 then 1 else 0 := sign_n (s := 42) hT (by decide)
    have s47 : F_Mo_isSign 47 M = if cdA L i = 47 then 1 else 0 := sign_n (s := 47) hT (by decide)
    simp only [L_Rd_readProduct_6, L_Mo_readProduct_10]
    rw [if_neg (show ¬ 400 ≤ nI x from nI_ge (b := 400) (by omega) (by decide)), if_pos h.2.2.2.1.1, now_n hP h, fbd_s, fbd_s, s42, s47, hc, if_neg (by decide), if_neg (by decide), if_pos (by decide), if_pos (by decide)]
    exact Or.inl ⟨i, acc, X, M, rfl, rfl, h, hX, hM, h0, ha, hXQ, hMQ, hty⟩
  | succ m ih =>
    intro i x f f' X M acc hm h hX hM h0 ha hx hf hf' hty hXQ hMQ
    obtain ⟨f, rfl⟩ : ∃ g, f = g + 1 := ⟨f - 1, by omega⟩
    obtain ⟨f', rfl⟩ : ∃ g, f' = g + 1 := ⟨f' - 1, by omega⟩
    have hT := h.2.2.2.2.2.2.2
    have hb := hT.b
    have hil := h.2.1
    have n42 : nI (cdA L i) = 42 ↔ cdA L i = 42 := nI_eq (b := 42) (by omega) (by decide)
    have n47 : nI (cdA L i) = 47 ↔ cdA L i = 47 := nI_eq (b := 47) (by omega) (by decide)
    have s42 : F_Mo_isSign 42 M = if cdA L i = 42 then 1 else 0 := sign_n (s := 42) hT (by decide)
    have s47 : F_Mo_isSign 47 M = if cdA L i = 47 then 1 else 0 := sign_n (s := 47) hT (by decide)
    have hgl : (gMl (P0 ++ acc)).length ≤ i := by rw [gMl_app, List.length_append]; omega
    have hpl := gMl_len (P0 ++ acc)
    simp only [L_Rd_readProduct_6, L_Mo_readProduct_10, J_Rd_readProduct_38, J_Rd_readProduct_52, J_Rd_readProduct_100, J_Mo_readProduct_28, J_Mo_readProduct_57, J_Mo_readProduct_74, J_Mo_readProduct_94, flt_d, fstf_d]
    rw [if_neg (show ¬ 400 ≤ nI x from nI_ge (b := 400) (by omega) (by decide)), if_pos h.2.2.2.1.1, now_n hP h, fbd_s, fbd_s, fbd_s, s42, s47, h.2.2.1, nI_1, nI_1]
    by_cases c1 : cdA L i = 42
    · rw [if_pos (n42.mpr c1), if_pos (n42.mpr c1), if_neg (show ¬ (1 : Int32) = 0 by decide)]
      simp only [c1, ↓reduceIte, show ¬ (1 : Int32) = 0 by decide]
      obtain ⟨N1, a1, a2, a3, a4⟩ := adv_n hP h (cd_pos (by omega))
      rw [a1, fbd_s]
      have hu := unit_n hP a2 hX.r (hM.t a3 a4) (by omega)
      rcases hu with ⟨i', q, Y, N2, u1, u2, u3, u4, u5, u6, u7, u8, u9, u10⟩ | ⟨Y, N2, k, p, u1, u2, u3, u4⟩
      · have hi' := u3.2.1
        have hql := gMl_len (P0 ++ acc ++ q)
        have hgq : (gMl (P0 ++ acc ++ q)).length ≤ i' - 1 := by rw [gMl_app, List.length_append]; omega
        obtain ⟨Y2, y1, y2, y3, y4, y5⟩ := emitX u4 u3.1 (by omega) (4, 0) (by decide) (by decide)
        obtain ⟨N3, n1, n2, n3, n4, n5⟩ := emitM u5 u3.2.2.2.2.1 (by omega) 4 0
        rw [u1, u2]
        simp only [fbd_s]
        rw [show F_La_emit 114 6 0 Y = some Y2 from y1, fbd_s, if_neg (show ¬ (0 : Int32) = -1 by decide), show F_Mo_emits 4 0 N2 = some N3 from n1, fbd_s]
        refine ih i' (x + 1) f f' Y2 N3 (acc ++ q ++ [(4, 0)]) (by omega) ((u3.eX y3 y4).eM n3 n4) ?_ ?_ (by omega) ?_ (by omega) (by omega) (by omega) (ty_op (Or.inr (Or.inr rfl)) (by decide) hty u10) ((hXQ.trans (XQ.same.r.trans u8)).trans y5) ((((hMQ.t a3 a4).trans u9)).trans (MQu.e n4 n5))
        · rw [← List.append_assoc, ← List.append_assoc]; exact y2
        · rw [← List.append_assoc, ← List.append_assoc, gMl_app]; exact n2
        · rw [gMl_app, gMl_app, List.length_append, List.length_append]
          show _ + _ + 1 ≤ _
          omega
      · obtain ⟨Y2, y1, y2⟩ := emit_e hP u3 6 0
        rw [u1, u2]
        simp only [fbd_s]
        rw [y1, fbd_s, pl_e (by omega) _ y2]
        exact Or.inr ⟨Y2, N2, k, p, rfl, rfl, y2, u4⟩
    · by_cases c2 : cdA L i = 47
      · rw [if_neg (fun z => c1 (n42.mp z)), if_pos (n47.mpr c2), if_neg (fun z => c1 (n42.mp z)), if_pos True.intro]
        simp only [c2, ↓reduceIte, show ¬ (47 : Nat) = 42 by decide, show ¬ (1 : Int32) = 0 by decide]
        obtain ⟨N1, a1, a2, a3, a4⟩ := adv_n hP h (cd_pos (by omega))
        rw [a1, fbd_s]
        have hT1 := a2.2.2.2.2.2.2.2
        have hb1 := hT1.b
        obtain ⟨X1, hX1⟩ : ∃ Z, Z = mw X 111 6 (nI (i + 1)) := ⟨_, rfl⟩
        rw [← hX1] at a2 ⊢
        have eX1 : EX (P0 ++ acc) X1 := by rw [hX1]; exact hX.r
        have qX1 : XQ X X1 := by rw [hX1]; exact XQ.same.r
        by_cases c3 : 1000 ≤ cdA L (i + 1)
        · obtain ⟨t, v, v1, v2, v3⟩ := num_y hT1 c3
          have hi1 : i + 1 < L.length := cd_pos (by omega)
          have w9 : F_Gb_within (nI v) 1 9999 X1 = if 1 ≤ v ∧ v ≤ 9999 then 1 else 0 := wi_if (a := 1) (b := 9999) (by omega) (by decide) (by decide)
          rw [if_pos t, v3]
          by_cases c4 : v = 0
          · obtain ⟨Y, y1, y2⟩ := tnX_f2 (lo := 1) (hi := 9999) hP a2 v1 v2 (by rw [w9, if_neg (by omega)])
            obtain ⟨N2, e1, e2⟩ := err_n (k := 2) a2.2.2.2.2
            obtain ⟨Y2, z1, z2⟩ := emit_e hP y2 2 (nI v)
            rw [y1]
            simp only [fbd_s]
            rw [z1, fbd_s, pl_e (by omega) _ z2, if_pos (show nI v = 0 by rw [c4]; rfl), show F_Mo_errs 2 N1 = some (-1, N2) from e1]
            exact Or.inr ⟨Y2, N2, _, _, rfl, rfl, z2, e2⟩
          · obtain ⟨X2, hX2⟩ : ∃ Z, Z = mw X1 111 6 (nI (i + 1 + 1)) := ⟨_, rfl⟩
            have y1 : F_Rd_takeNumber 1 9999 X1 = some (nI v, X2) := by rw [hX2]; exact tnX_t (lo := 1) (hi := 9999) hP a2 v1 v2 (by rw [w9, if_pos (by omega)]; decide)
            obtain ⟨N2, n1, n2, n3, n4, n5⟩ := emitM (hM.t a3 a4) a2.2.2.2.2.1 (by omega) 0 v
            obtain ⟨N3, r1, r2, r3, r4⟩ := adv_n hP (a2.eM n3 n4) hi1
            rw [← hX2] at r2
            have eX2 : EX (P0 ++ acc) X2 := by rw [hX2]; exact eX1.r
            obtain ⟨Y2, z1, z2, z3, z4, z5⟩ := emitX eX2 r2.1 (by omega) (5, v) (show gSt 5 < 12 by decide) (by show v < 16384; omega)
            obtain ⟨N4, m1, m2, m3, m4, m5⟩ := emitM (n2.t r3 r4) r2.2.2.2.2.1 (by rw [List.length_append]; show _ + 1 < 400; omega) 5 0
            have eu : F_Mo_readUnit N1 = some (0, N3) := by
              unfold F_Mo_readUnit J_Mo_readUnit_23 J_Mo_readUnit_24 J_Mo_readUnit_43 J_Mo_readUnit_53 J_Mo_readUnit_71
              rw [if_neg (by rw [t]; decide), if_pos rfl, if_pos t, if_pos rfl, if_pos rfl, v3, show F_Mo_emits 0 (nI v) N1 = some N2 from n1, fbd_s, r1, fbd_s]
            rw [y1, if_neg (nI_ne0 (by omega) (by omega)), eu]
            simp only [fbd_s]
            rw [show F_La_emit 114 2 (nI v) X2 = some Y2 from z1, fbd_s, if_neg (show ¬ (0 : Int32) = -1 by decide), show F_Mo_emits 5 0 N3 = some N4 from m1, fbd_s]
            have hi2 := r2.2.1
            have eg : gMl [(5, v)] = [(0, v)] ++ [(5, 0)] := rfl
            refine ih (i + 1 + 1) (x + 1) f f' Y2 N4 (acc ++ [(5, v)]) (by omega) ((r2.eX z3 z4).eM m3 m4) ?_ ?_ (by omega) ?_ (by omega) (by omega) (by omega) ?_ (((hXQ.trans qX1).trans (by rw [hX2]; exact XQ.same.r)).trans z5) ((((hMQ.t a3 a4).trans (MQu.e n4 n5)).t r3 r4).trans (MQu.e m4 m5))
            · rw [← List.append_assoc]; exact z2
            · rw [← List.append_assoc, gMl_app, eg, ← List.append_assoc]; exact m2
            · rw [gMl_app, eg, List.length_append]
              show _ + 2 ≤ _
              omega
            · intro t9 ht
              rw [gTy_app (hty t9 ht)]
              refine gTy_s ?_ (by rw [List.length_cons]; omega)
              show (if 0 < v ∧ v < 10000 ∧ false = false then some (false :: t9) else none) = _
              rw [if_pos ⟨by omega, v1, rfl⟩]
        · obtain ⟨Y, y1, y2⟩ := tnX_f1 hP a2 1 9999 c3
          obtain ⟨N2, e1, e2⟩ := err_n (k := 1) a2.2.2.2.2
          obtain ⟨Y2, z1, z2⟩ := emit_e hP y2 2 0
          rw [y1, if_neg (num_no hT1 c3), show F_Mo_errs 1 N1 = some (-1, N2) from e1]
          simp only [fbd_s]
          rw [z1, fbd_s, pl_e (by omega) _ z2]
          exact Or.inr ⟨Y2, N2, _, _, rfl, rfl, z2, e2⟩
      · rw [if_neg (fun z => c1 (n42.mp z)), if_neg (fun z => c2 (n47.mp z)), if_neg c1, if_pos rfl, if_neg c2, if_pos rfl]
        exact Or.inl ⟨i, acc, X, M, rfl, rfl, h, hX, hM, h0, ha, hXQ, hMQ, hty⟩
theorem prod_n (hP : PC T len L X0 M0) (h : PS T len L X0 M0 i X M) (hX : EX P X) (hM : EM (gMl P) M) (hl : (gMl P).length ≤ i) : EO T len L X0 M0 i P X M 58 (F_Rd_readProduct X) (F_Mo_readProduct M) := by
  have hn := hP.1
  unfold F_Rd_readProduct F_Mo_readProduct
  rcases unit_n hP h hX hM hl with ⟨i', q, Y, N2, u1, u2, u3, u4, u5, u6, u7, u8, u9, u10⟩ | ⟨Y, N2, k, p, u1, u2, u3, u4⟩
  · have hi' := u3.2.1
    rw [u1, u2, fbd_s]
    simp only [fbd_s]
    rw [if_neg (show ¬ (0 : Int32) = -1 by decide), fbd_i]
    exact prod_l hP hl (L.length - i') i' 0 5000 5000 Y N2 q (by omega) u3 u4 u5 u6 u7 (by omega) (by omega) (by omega) (u10.le (by decide)) u8 u9
  · rw [u1, u2, fbd_s]
    simp only [fbd_s]
    rw [if_pos True.intro, pl_e (by omega) _ u3]
    exact Or.inr ⟨Y, N2, k, p, rfl, rfl, u3, u4⟩
theorem sum_l (hP : PC T len L X0 M0) (hP0 : (gMl P0).length ≤ i0) : ∀ m i x f f' X M acc, L.length ≤ i + m → PS T len L X0 M0 i X M → EX (P0 ++ acc) X → EM (gMl (P0 ++ acc)) M → i0 < i → (gMl acc).length ≤ i - i0 → 2 * x ≤ i → m + 1 < f → m + 1 < f' → TyN 57 acc → XQ Xb X → MQu Mb M → EO T len L X0 M0 i0 P0 Xb Mb 57 (L_Rd_readSum_6 f (nI x) X) (fbr (L_Mo_readSum_10 f' M) (fun I7 => some (0, I7)) (fun (q8, I9) => some (q8, I9))) := by
  have hn := hP.1
  intro m
  induction m with
  | zero =>
    intro i x f f' X M acc hm h hX hM h0 ha hx hf hf' hty hXQ hMQ
    obtain ⟨f, rfl⟩ : ∃ g, f = g + 1 := ⟨f - 1, by omega⟩
    obtain ⟨f', rfl⟩ : ∃ g, f' = g + 1 := ⟨f' - 1, by omega⟩
    have hT := h.2.2.2.2.2.2.2
    have hi : i = L.length := by have := h.2.1; omega
    have hc : cdA L i = 0 := (cd_none (len := len) (by omega)).1
    have s43 : F_Mo_isSign 43 M = if cdA L i = 43 then 1 else 0 := sign_n (s := 43) hT (by decide)
    have s45 : F_Mo_isSign 45 M = if cdA L i = 45 then 1 else 0 := sign_n (s := 45) hT (by decide)
    simp only [L_Rd_readSum_6, L_Mo_readSum_10]
    rw [if_neg (show ¬ 400 ≤ nI x from nI_ge (b := 400) (by omega) (by decide)), if_pos h.2.2.2.1.1, now_n hP h, fbd_s, fbd_s, s43, s45, hc, if_neg (by decide), if_neg (by decide), if_pos (by decide), if_pos (by decide)]
    exact Or.inl ⟨i, acc, X, M, rfl, rfl, h, hX, hM, h0, ha, hXQ, hMQ, hty⟩
  | succ m ih =>
    intro i x f f' X M acc hm h hX hM h0 ha hx hf hf' hty hXQ hMQ
    obtain ⟨f, rfl⟩ : ∃ g, f = g + 1 := ⟨f - 1, by omega⟩
    obtain ⟨f', rfl⟩ : ∃ g, f' = g + 1 := ⟨f' - 1, by omega⟩
    have hT := h.2.2.2.2.2.2.2
    have hb := hT.b
    have hil := h.2.1
    have n43 : nI (cdA L i) = 43 ↔ cdA L i = 43 := nI_eq (b := 43) (by omega) (by decide)
    have n45 : nI (cdA L i) = 45 ↔ cdA L i = 45 := nI_eq (b := 45) (by omega) (by decide)
    have s43 : F_Mo_isSign 43 M = if cdA L i = 43 then 1 else 0 := sign_n (s := 43) hT (by decide)
    have s45 : F_Mo_isSign 45 M = if cdA L i = 45 then 1 else 0 := sign_n (s := 45) hT (by decide)
    have hgl : (gMl (P0 ++ acc)).length ≤ i := by rw [gMl_app, List.length_append]; omega
    have hpl := gMl_len (P0 ++ acc)
    -- one more T, and its sign
    have more : ∀ o : Nat, o = 2 ∨ o = 3 → ¬ cdA L i = 0 → EO T len L X0 M0 i0 P0 Xb Mb 57 (fbd (F_Rd_readProduct (mw X 111 6 (nI (i + 1)))) fun I5 => fbd (F_La_emit 114 (nI (gSt o)) 0 I5) fun I6 => L_Rd_readSum_6 f (nI (x + 1)) I6) (fbr (J_Mo_readSum_42 (L_Mo_readSum_10 f') (nI o) M) (fun I7 => some (0, I7)) (fun (q8, I9) => some (q8, I9))) := by
      intro o ho hc
      unfold J_Mo_readSum_42
      obtain ⟨N1, a1, a2, a3, a4⟩ := adv_n hP h (cd_pos hc)
      rw [a1, fbd_s]
      rcases prod_n hP a2 hX.r (hM.t a3 a4) (by omega) with ⟨i', q, Y, N2, u1, u2, u3, u4, u5, u6, u7, u8, u9, u10⟩ | ⟨Y, N2, k, p, u1, u2, u3, u4⟩
      · have hi' := u3.2.1
        have hql := gMl_len (P0 ++ acc ++ q)
        have hgq : (gMl (P0 ++ acc ++ q)).length ≤ i' - 1 := by rw [gMl_app, List.length_append]; omega
        have ho2 : o = 2 ∨ o = 3 ∨ o = 4 := by omega
        obtain ⟨Y2, y1, y2, y3, y4, y5⟩ := emitX u4 u3.1 (by omega) (o, 0) (by rcases ho with rfl | rfl <;> decide) (by show 0 < 16384; decide)
        obtain ⟨N3, n1, n2, n3, n4, n5⟩ := emitM u5 u3.2.2.2.2.1 (by omega) o 0
        rw [u1, u2]
        simp only [fbd_s]
        rw [show F_La_emit 114 (nI (gSt o)) 0 Y = some Y2 from y1, fbd_s, if_neg (show ¬ (0 : Int32) = -1 by decide), show F_Mo_emits (nI o) 0 N2 = some N3 from n1, fbd_s]
        have egs : gMs (o, 0) = [(o, 0)] := by rcases ho with rfl | rfl <;> rfl
        have eg : gMl [(o, 0)] = [(o, 0)] := by show gMs (o, 0) ++ [] = _; rw [egs]; rfl
        refine ih i' (x + 1) f f' Y2 N3 (acc ++ q ++ [(o, 0)]) (by omega) ((u3.eX y3 y4).eM n3 n4) ?_ ?_ (by omega) ?_ (by omega) (by omega) (by omega) (ty_op ho2 (by decide) hty u10) ((hXQ.trans (XQ.same.r.trans u8)).trans y5) ((((hMQ.t a3 a4).trans u9)).trans (MQu.e n4 n5))
        · rw [← List.append_assoc, ← List.append_assoc]; exact y2
        · rw [← List.append_assoc, ← List.append_assoc, gMl_app, eg]; exact n2
        · rw [gMl_app, gMl_app, List.length_append, List.length_append, eg]
          show _ + _ + 1 ≤ _
          omega
      · obtain ⟨Y2, y1, y2⟩ := emit_e hP u3 (nI (gSt o)) 0
        rw [u1, u2]
        simp only [fbd_s]
        rw [y1, fbd_s, sl_e (by omega) _ y2]
        exact Or.inr ⟨Y2, N2, k, p, rfl, rfl, y2, u4⟩
    simp only [L_Rd_readSum_6, L_Mo_readSum_10, J_Rd_readSum_38, J_Rd_readSum_52, J_Mo_readSum_28, fstf_d]
    rw [if_neg (show ¬ 400 ≤ nI x from nI_ge (b := 400) (by omega) (by decide)), if_pos h.2.2.2.1.1, now_n hP h, fbd_s, fbd_s, fbd_s, s43, s45, h.2.2.1, nI_1, nI_1]
    by_cases c1 : cdA L i = 43
    · rw [if_pos (n43.mpr c1), if_pos (n43.mpr c1), if_pos c1, if_neg (show ¬ (1 : Int32) = 0 by decide), if_pos (show M 0 17 = 43 from (sgv hT (by rw [c1]; decide)).2.trans (by rw [c1]; rfl))]
      exact more 2 (Or.inl rfl) (by omega)
    · by_cases c2 : cdA L i = 45
      · rw [if_neg (fun z => c1 (n43.mp z)), if_pos (n45.mpr c2), if_neg (fun z => c1 (n43.mp z)), if_neg c1, if_pos rfl, if_pos c2, if_neg (show ¬ (1 : Int32) = 0 by decide), if_neg (show ¬ M 0 17 = 43 by rw [(sgv hT (by rw [c2]; decide)).2, c2]; decide)]
        exact more 3 (Or.inr rfl) (by omega)
      · rw [if_neg (fun z => c1 (n43.mp z)), if_neg (fun z => c2 (n45.mp z)), if_neg c1, if_pos rfl, if_neg c2, if_pos rfl]
        exact Or.inl ⟨i, acc, X, M, rfl, rfl, h, hX, hM, h0, ha, hXQ, hMQ, hty⟩
theorem sum_n (hP : PC T len L X0 M0) (h : PS T len L X0 M0 i X M) (hX : EX P X) (hM : EM (gMl P) M) (hl : (gMl P).length ≤ i) : EO T len L X0 M0 i P X M 57 (F_Rd_readSum X) (F_Mo_readSum M) := by
  have hn := hP.1
  unfold F_Rd_readSum F_Mo_readSum
  rcases prod_n hP h hX hM hl with ⟨i', q, Y, N2, u1, u2, u3, u4, u5, u6, u7, u8, u9, u10⟩ | ⟨Y, N2, k, p, u1, u2, u3, u4⟩
  · have hi' := u3.2.1
    rw [u1, u2, fbd_s]
    simp only [fbd_s]
    rw [if_neg (show ¬ (0 : Int32) = -1 by decide), fbd_i]
    exact sum_l hP hl (L.length - i') i' 0 5000 5000 Y N2 q (by omega) u3 u4 u5 u6 u7 (by omega) (by omega) (by omega) (u10.le (by decide)) u8 u9
  · rw [u1, u2, fbd_s]
    simp only [fbd_s]
    rw [if_pos True.intro, sl_e (by omega) _ u3]
    exact Or.inr ⟨Y, N2, k, p, rfl, rfl, u3, u4⟩
end SUM
