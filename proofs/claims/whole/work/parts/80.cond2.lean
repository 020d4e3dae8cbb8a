/-! A, B: the loop of a condition. -/
section COND2
variable {T : Nat → Nat} {len : Nat} {L : List (Nat × Nat)} {X0 M0 X M Y N : gb_Mem} {i k p o : Nat} {P Q : List (Nat × Nat)} {S : List Nat}
theorem gMl_rep {x : Nat} (hx : x ≠ 5) (m : Nat) : gMl (List.replicate m (x, 0)) = List.replicate m (x, 0) := by
  induction m with
  | zero => rfl
  | succ m ih =>
    rw [List.replicate_succ]
    have e : gMl ((x, 0) :: List.replicate m (x, 0)) = gMs (x, 0) ++ gMl (List.replicate m (x, 0)) := by unfold gMl; exact List.flatMap_cons
    have e2 : gMs (x, 0) = [(x, 0)] := by unfold gMs; rw [if_neg hx]
    rw [e, ih, e2]; rfl
/-- the class emits a step or none -/
theorem opt_e {α : Type} (a x : Nat) (ha : a ≤ 1) (hx : x = 10 ∨ x = 11) (hX : EX P X) (hF : XF X0 X) (hl : P.length + a ≤ 400) : ∃ Y, (∀ K : gb_Mem → Option α, (if nI a ≤ 0 then K X else fbd (F_La_emit 114 (nI x) 0 X) fun I => K I) = K Y) ∧ EX (P ++ List.replicate a (x, 0)) Y ∧ XF X0 Y ∧ Y 111 = X 111 ∧ XQ X Y := by
  have hc : a = 0 ∨ a = 1 := by omega
  rcases hc with rfl | rfl
  · exact ⟨X, fun K => if_pos (by decide), by rw [List.replicate_zero, List.append_nil]; exact hX, hF, rfl, XQ.same⟩
  · have hg : gSt x = x := by rcases hx with rfl | rfl <;> rfl
    obtain ⟨Y, y1, y2, y3, y4, y5⟩ := emitX hX hF (by omega) (x, 0) (by show gSt x < 12; omega) (by show 0 < 16384; decide)
    refine ⟨Y, fun K => ?_, y2, y3, y4, y5⟩
    rw [if_neg (by decide), show F_La_emit 114 (nI x) 0 X = some Y by rw [show (nI x) = nI (gSt x) by rw [hg]]; exact y1, fbd_s]
theorem opt_f (hP : PC T len L X0 M0) {α : Type} (a x : Nat) (h : XE X0 k p X) : ∃ Y, (∀ K : gb_Mem → Option α, (if nI a ≤ 0 then K X else fbd (F_La_emit 114 (nI x) 0 X) fun I => K I) = K Y) ∧ XE X0 k p Y := by
  by_cases c : nI a ≤ 0
  · exact ⟨X, fun K => if_pos c, h⟩
  · obtain ⟨Y, y1, y2⟩ := emit_e hP h (nI x) 0
    exact ⟨Y, fun K => by rw [if_neg c, y1, fbd_s], y2⟩
theorem rep_ne {S : List Nat} {m x y : Nat} (hm : m ≤ 1) (hxy : x ≠ y) (hS : S.getLast? ≠ some y) : (S ++ List.replicate m x).getLast? ≠ some y := by
  have hc : m = 0 ∨ m = 1 := by omega
  rcases hc with rfl | rfl
  · rw [List.replicate_zero, List.append_nil]; exact hS
  · rw [rep_last (by decide)]
    intro z
    injection z with z
    exact hxy z
theorem ty_and {d n a : Nat} {acc q : List (Nat × Nat)} (ha : a ≤ 1) (hn : n ≤ 1) (hd : d ≤ 56) (h : ∀ t : List Bool, t.length ≤ d → gTy acc t = some (List.replicate (n + a) true ++ t)) (hq : TyB (d + 2) q) : ∀ t : List Bool, t.length ≤ d → gTy (acc ++ q ++ List.replicate a (10, 0)) t = some (List.replicate (n + 1) true ++ t) := by
  intro t ht
  have h1 : gTy (acc ++ q) t = some (true :: (List.replicate (n + a) true ++ t)) := by
    rw [gTy_app (h t ht)]
    exact hq _ (by rw [List.length_append, List.length_replicate]; omega)
  rw [gTy_app h1]
  have hc : a = 0 ∨ a = 1 := by omega
  rcases hc with rfl | rfl
  · rw [List.replicate_zero]; rfl
  · refine gTy_s ?_ (by rw [List.length_append, List.length_replicate]; omega)
    have hc2 : n = 0 ∨ n = 1 := by omega
    rcases hc2 with rfl | rfl <;> rfl
theorem ty_or {d n : Nat} {acc : List (Nat × Nat)} (hn : n ≤ 1) (hd : d ≤ 56) (h : ∀ t : List Bool, t.length ≤ d → gTy acc t = some (List.replicate (n + 1) true ++ t)) : ∀ t : List Bool, t.length ≤ d → gTy (acc ++ List.replicate n (11, 0)) t = some (true :: t) := by
  intro t ht
  rw [gTy_app (h t ht)]
  have hc : n = 0 ∨ n = 1 := by omega
  rcases hc with rfl | rfl
  · rfl
  · exact gTy_s rfl (by rw [List.length_cons]; omega)
theorem PS.w (h : PS T len L X0 M0 i X M) (hF : MF M0 N) (hw : ∀ j, j ≠ 30 → N 0 j = M 0 j) : PS T len L X0 M0 i X N := by
  obtain ⟨a1, a2, a3, a4, a5, a6, a7, a8⟩ := h
  exact ⟨a1, a2, a3, a4, hF, by rw [hw 14 (by decide)]; exact a6, by rw [hw 15 (by decide)]; exact a7, by rw [hw 16 (by decide), hw 17 (by decide)]; exact a8⟩
theorem EM.w {Q : List (Nat × Nat)} (h : EM Q M) (hw : ∀ j, j ≠ 30 → N 0 j = M 0 j) (hc : ∀ c, c ≠ 0 → c ≠ 18 → N c = M c) : EM Q N := ⟨by rw [hw 27 (by decide)]; exact h.1, by rw [hc 16 (by decide) (by decide), hc 17 (by decide) (by decide)]; exact h.2⟩
theorem cn_l (hP : PC T len L X0 M0) (ho : o ≤ 8) (hSg : SgS T len L X0 M0 o) {r b i0 : Nat} {Xb Mb : gb_Mem} {P0 : List (Nat × Nat)} (hr : 2 * (8 - o) + 1 ≤ r) (hb : b ≤ o) (hSl : S.length ≤ 3 * o) (h9 : S.getLast? ≠ some 9) (h10 : S.getLast? ≠ some 10) (h11 : S.getLast? ≠ some 11) (hP0 : (gMl P0).length ≤ i0) :
    ∀ m i x f fM n a acc X M, L.length ≤ i + m → n ≤ 1 → a ≤ 1 → CIn T len L X0 M0 o (S ++ List.replicate n 11 ++ List.replicate a 10) (P0 ++ acc) i X M → i0 ≤ i → (gMl acc).length + n + a ≤ i - i0 → 2 * x ≤ i → m + 1 < f → L.length + 2 ≤ fM + i → (∀ t : List Bool, t.length ≤ 38 + 2 * o → gTy acc t = some (List.replicate (n + a) true ++ t)) → XQ Xb X → MQc Mb M →
    (∃ i' q Y N f', fbr (L_Rd_readCondition_7 (F_Rd_rec r true) (F_Rd_rec r false) (nI o) f (nI n) (nI a) (nI x) X) (fun I8 => some I8) (fun I10 => some I10) = some Y ∧ L_Mo_readAny_9 fM (nI b) 1 M = RK f' (nI b) N ∧ CIn T len L X0 M0 o S (P0 ++ q) i' Y N ∧ i0 < i' ∧ (gMl q).length ≤ i' - i0 ∧ L.length + 1 ≤ f' + i' ∧ XQ Xb Y ∧ MQc Mb N ∧ TyB (38 + 2 * o) q) ∨ (∃ Y N k p, fbr (L_Rd_readCondition_7 (F_Rd_rec r true) (F_Rd_rec r false) (nI o) f (nI n) (nI a) (nI x) X) (fun I8 => some I8) (fun I10 => some I10) = some Y ∧ L_Mo_readAny_9 fM (nI b) 1 M = some (.inr (-1, N)) ∧ XE X0 k p Y ∧ ME M0 k p N) := by
  have hn4 := hP.1
  intro m
  induction m with
  | zero =>
    intro i x f fM n a acc X M hm hn ha hC hi0 hac hx hf hfM hty hXQ hMQ
    have hil := hC.1.2.1
    have hSl2 : (S ++ List.replicate n 11 ++ List.replicate a 10).length ≤ 3 * o + 2 := by simp; omega
    have hlast : (S ++ List.replicate n 11 ++ List.replicate a 10).getLast? ≠ some 9 := rep_ne ha (by decide) (rep_ne hn (by decide) h9)
    rcases hSg r fM b i _ _ X M hr hC hSl2 hlast hfM hb with ⟨i1, q, Y, N1, f1, u1, u2, u3, u4, u5, u6, u7, u8, u9⟩ | ⟨Y, N1, k, p, u1, u2, u3, u4⟩
    · have := u3.1.2.1; omega
    · obtain ⟨f, rfl⟩ : ∃ g, f = g + 1 := ⟨f - 1, by omega⟩
      right
      have h7 := hC.1.2.2.2.1.1
      obtain ⟨Y2, y1, y2⟩ := opt_f (α := gb_Mem ⊕ gb_Mem) hP a 10 u3
      obtain ⟨Y3, z1, z2⟩ := opt_f (α := gb_Mem ⊕ gb_Mem) hP n 11 y2
      refine ⟨Y3, N1, k, p, ?_, u2, z2, u4⟩
      simp only [L_Rd_readCondition_7]
      rw [if_neg (show ¬ 400 ≤ nI x from nI_ge (b := 400) (by omega) (by decide)), if_pos h7, u1, fbd_s]
      rw [show (10 : Int32) = nI 10 from rfl, y1 (fun I => J_Rd_readCondition_41 (F_Rd_rec r true) (F_Rd_rec r false) (L_Rd_readCondition_7 (F_Rd_rec r true) (F_Rd_rec r false) (nI o) f) (nI o) (nI n) (nI x) I)]
      unfold J_Rd_readCondition_41 J_Rd_readCondition_73
      rw [if_neg y2.f, show (11 : Int32) = nI 11 from rfl, z1 (fun I => J_Rd_readCondition_87 (F_Rd_rec r true) (F_Rd_rec r false) (L_Rd_readCondition_7 (F_Rd_rec r true) (F_Rd_rec r false) (nI o) f) (nI o) (nI x) I)]
      unfold J_Rd_readCondition_87
      rw [if_neg z2.f]
      rfl
  | succ m ih =>
    intro i x f fM n a acc X M hm hn ha hC hi0 hac hx hf hfM hty hXQ hMQ
    obtain ⟨f, rfl⟩ : ∃ g, f = g + 1 := ⟨f - 1, by omega⟩
    have hil := hC.1.2.1
    have h7 := hC.1.2.2.2.1.1
    have hSl2 : (S ++ List.replicate n 11 ++ List.replicate a 10).length ≤ 3 * o + 2 := by simp; omega
    have hlast : (S ++ List.replicate n 11 ++ List.replicate a 10).getLast? ≠ some 9 := rep_ne ha (by decide) (rep_ne hn (by decide) h9)
    have hSn : (S ++ List.replicate n 11).length = S.length + n := by simp
    simp only [L_Rd_readCondition_7]
    rw [if_neg (show ¬ 400 ≤ nI x from nI_ge (b := 400) (by omega) (by decide)), if_pos h7, show (10 : Int32) = nI 10 from rfl]
    rcases hSg r fM b i _ _ X M hr hC hSl2 hlast hfM hb with ⟨i1, q, Y, N1, f1, u1, u2, u3, u4, u5, u6, u7, u8, u9⟩ | ⟨Y, N1, k, p, u1, u2, u3, u4⟩
    · obtain ⟨k1, k2, k3, k4, k5, k6⟩ := u3
      have hil1 := k1.2.1
      have hT := k1.2.2.2.2.2.2.2
      have hbc := hT.b
      have n217 : nI (cdA L i1) = 217 ↔ cdA L i1 = 217 := nI_eq (b := 217) (by omega) (by decide)
      have n216 : nI (cdA L i1) = 216 ↔ cdA L i1 = 216 := nI_eq (b := 216) (by omega) (by decide)
      have w5 : F_Mo_isWord 5 N1 = if cdA L i1 = 217 then 1 else 0 := word_n (w := 5) hT (by decide)
      have w4 : F_Mo_isWord 4 N1 = if cdA L i1 = 216 then 1 else 0 := word_n (w := 4) hT (by decide)
      have hg1 : (gMl (P0 ++ acc ++ q)).length + n + a ≤ i1 := by rw [gMl_app, gMl_app, List.length_append, List.length_append]; omega
      have hp1 := gMl_len (P0 ++ acc ++ q)
      obtain ⟨f1, rfl⟩ : ∃ g, f1 = g + 1 := ⟨f1 - 1, by omega⟩
      -- and, on both sides
      obtain ⟨Y1, y1, y2, y3, y4, y5⟩ := opt_e (α := gb_Mem ⊕ gb_Mem) a 10 ha (Or.inl rfl) k2 k1.1 (by omega)
      obtain ⟨N2, s1, s2, s3, s4, s5, s6⟩ := settle_n (M0 := M0) 10 a (Or.inr (Or.inl rfl)) (rep_ne hn (by decide) h10) k1.2.2.2.2.1 k5 k3 (by omega) (by rw [hSn]; omega) k6 (fun z => absurd z (by decide))
      rw [if_neg (show ¬ (10 : Nat) = 9 by decide)] at s5
      have PSa : PS T len L X0 M0 i1 Y1 N2 := (k1.eX y3 y4).s s2 s6
      have tyA := ty_and ha hn (by omega) hty (fun t ht => u9 t (by omega) : TyB (38 + 2 * o + 2) q)
      have ega : gMl (acc ++ q ++ List.replicate a (10, 0)) = gMl acc ++ gMl q ++ List.replicate a (10, 0) := by rw [gMl_app, gMl_app, gMl_rep (by decide)]
      have egl : (gMl (acc ++ q ++ List.replicate a (10, 0))).length = (gMl acc).length + (gMl q).length + a := by rw [ega, List.length_append, List.length_append, List.length_replicate]
      have EXa : EX (P0 ++ (acc ++ q ++ List.replicate a (10, 0))) Y1 := by rw [← List.append_assoc, ← List.append_assoc]; exact y2
      have EMa : EM (gMl (P0 ++ (acc ++ q ++ List.replicate a (10, 0)))) N2 := by
        rw [← List.append_assoc, ← List.append_assoc, gMl_app, gMl_rep (by decide)]; exact s4
      have hgla : (gMl (P0 ++ (acc ++ q ++ List.replicate a (10, 0)))).length = (gMl P0).length + ((gMl acc).length + (gMl q).length + a) := by rw [gMl_app, List.length_append, egl]
      rw [u1, fbd_s, u2, y1 (fun I => J_Rd_readCondition_41 (F_Rd_rec r true) (F_Rd_rec r false) (L_Rd_readCondition_7 (F_Rd_rec r true) (F_Rd_rec r false) (nI o) f) (nI o) (nI n) (nI x) I)]
      unfold J_Rd_readCondition_41 J_Rd_readCondition_119
      rw [if_pos PSa.2.2.2.1.1, now_n hP PSa, fbd_s]
      simp only [L_Mo_readAny_9]
      rw [if_pos True.intro, w5]
      by_cases c1 : cdA L i1 = 217
      · obtain ⟨N3, n1, n2, n3, n4, n5⟩ := waits_n s3 (by rw [hSn]; omega) s2 10 (by decide)
        have PS3 := PSa.w n3 n4
        obtain ⟨N4, r1, r2, r3, r4⟩ := adv_n hP PS3 (cd_pos (by omega))
        rw [if_pos c1, if_neg (show ¬ (1 : Int32) = 0 by decide), if_pos (n217.mpr c1), fstf_d, PSa.2.2.1, nI_1, nI_1, show F_Mo_settles 10 N1 = some N2 from s1, fbd_s, show F_Mo_waits 10 N2 = some N3 from n1, fbd_s, r1, fbd_s]
        have E3 : EM (gMl (P0 ++ (acc ++ q ++ List.replicate a (10, 0)))) N3 := EMa.w n4 n5
        refine ih (i1 + 1) (x + 1) f f1 n 1 (acc ++ q ++ List.replicate a (10, 0)) _ N4 (by omega) hn (by omega) ⟨r2, EXa.r, E3.t r3 r4, by rw [hgla]; omega, n2.of (r3 18 (by decide)) (r4 30 (by decide) (by decide) (by decide) (by decide)), ?_⟩ (by omega) (by rw [egl]; omega) (by omega) (by omega) (by omega) tyA (((hXQ.trans u7).trans y5).trans XQ.same.r) ((((hMQ.trans u8).trans s6.q).trans (MQc.of (fun c c0 c1 c2 c3 => n5 c c0 c3))).trans (MQc.r r3))
        rw [r4 28 (by decide) (by decide) (by decide) (by decide), n4 28 (by decide)]; exact s5
      · -- or, on both sides
        have tyO := ty_or hn (by omega) tyA
        obtain ⟨Y2, z1, z2, z3, z4, z5⟩ := opt_e (α := gb_Mem ⊕ gb_Mem) n 11 hn (Or.inr rfl) EXa PSa.1 (by have := gMl_len (P0 ++ (acc ++ q ++ List.replicate a (10, 0))); omega)
        obtain ⟨N3, t1, t2, t3, t4, t5, t6⟩ := settle_n (M0 := M0) 11 n (Or.inr (Or.inr rfl)) h11 s2 s3 EMa (by omega) (by omega) s5 (fun z => absurd z (by decide))
        rw [if_neg (show ¬ (11 : Nat) = 9 by decide)] at t5
        have PSb : PS T len L X0 M0 i1 Y2 N3 := (PSa.eX z3 z4).s t2 t6
        have EXb : EX (P0 ++ (acc ++ q ++ List.replicate a (10, 0) ++ List.replicate n (11, 0))) Y2 := by rw [← List.append_assoc]; exact z2
        have EMb : EM (gMl (P0 ++ (acc ++ q ++ List.replicate a (10, 0) ++ List.replicate n (11, 0)))) N3 := by
          rw [← List.append_assoc, gMl_app, gMl_rep (by decide)]; exact t4
        have eglb : (gMl (acc ++ q ++ List.replicate a (10, 0) ++ List.replicate n (11, 0))).length = (gMl acc).length + (gMl q).length + a + n := by rw [gMl_app, List.length_append, egl, gMl_rep (by decide), List.length_replicate]
        have hglb : (gMl (P0 ++ (acc ++ q ++ List.replicate a (10, 0) ++ List.replicate n (11, 0)))).length = (gMl P0).length + ((gMl acc).length + (gMl q).length + a + n) := by rw [gMl_app, List.length_append, eglb]
        rw [if_neg c1, if_pos rfl, if_neg (fun z => c1 (n217.mp z)), w4]
        unfold J_Rd_readCondition_73
        rw [show (11 : Int32) = nI 11 from rfl, z1 (fun I => J_Rd_readCondition_87 (F_Rd_rec r true) (F_Rd_rec r false) (L_Rd_readCondition_7 (F_Rd_rec r true) (F_Rd_rec r false) (nI o) f) (nI o) (nI x) I)]
        unfold J_Rd_readCondition_87 J_Rd_readCondition_119
        rw [if_pos PSb.2.2.2.1.1, now_n hP PSb, fbd_s]
        by_cases c2 : cdA L i1 = 216
        · obtain ⟨N4, n1, n2, n3, n4, n5⟩ := waits_n t3 (by omega) t2 11 (by decide)
          have PS3 := PSb.w n3 n4
          obtain ⟨N5, r1, r2, r3, r4⟩ := adv_n hP PS3 (cd_pos (by omega))
          rw [if_pos c2, if_neg (show ¬ (1 : Int32) = 0 by decide), if_pos (n216.mpr c2), fstf_d, PSb.2.2.1, nI_1, nI_1, show F_Mo_settles 10 N1 = some N2 from s1, fbd_s, show F_Mo_settles (nI 11) N2 = some N3 from t1, fbd_s, show F_Mo_waits (nI 11) N3 = some N4 from n1, fbd_s, r1, fbd_s]
          have E3 : EM (gMl (P0 ++ (acc ++ q ++ List.replicate a (10, 0) ++ List.replicate n (11, 0)))) N4 := EMb.w n4 n5
          refine ih (i1 + 1) (x + 1) f f1 1 0 (acc ++ q ++ List.replicate a (10, 0) ++ List.replicate n (11, 0)) _ N5 (by omega) (by omega) (by omega) ⟨r2, EXb.r, E3.t r3 r4, by rw [hglb]; omega, ?_, ?_⟩ (by omega) (by rw [eglb]; omega) (by omega) (by omega) (by omega) tyO ((((hXQ.trans u7).trans y5).trans z5).trans XQ.same.r) (((((hMQ.trans u8).trans s6.q).trans t6.q).trans (MQc.of (fun c c0 c1 c2 c3 => n5 c c0 c3))).trans (MQc.r r3))
          · rw [List.replicate_zero, List.append_nil]
            exact n2.of (r3 18 (by decide)) (r4 30 (by decide) (by decide) (by decide) (by decide))
          · rw [r4 28 (by decide) (by decide) (by decide) (by decide), n4 28 (by decide)]; exact t5
        · left
          rw [if_neg c2, if_pos rfl, if_neg (fun z => c2 (n216.mp z)), show F_Mo_settles 10 N1 = some N2 from s1, fbd_s, show F_Mo_settles (nI 11) N2 = some N3 from t1, fbd_s]
          exact ⟨i1, acc ++ q ++ List.replicate a (10, 0) ++ List.replicate n (11, 0), Y2, N3, f1, rfl, rfl, ⟨PSb, EXb, EMb, by rw [hglb]; omega, t3, t5⟩, by omega, by rw [eglb]; omega, by omega, ((hXQ.trans u7).trans y5).trans z5, ((hMQ.trans u8).trans s6.q).trans t6.q, tyO⟩
    · right
      obtain ⟨Y2, y1, y2⟩ := opt_f (α := gb_Mem ⊕ gb_Mem) hP a 10 u3
      obtain ⟨Y3, z1, z2⟩ := opt_f (α := gb_Mem ⊕ gb_Mem) hP n 11 y2
      refine ⟨Y3, N1, k, p, ?_, u2, z2, u4⟩
      rw [u1, fbd_s, y1 (fun I => J_Rd_readCondition_41 (F_Rd_rec r true) (F_Rd_rec r false) (L_Rd_readCondition_7 (F_Rd_rec r true) (F_Rd_rec r false) (nI o) f) (nI o) (nI n) (nI x) I)]
      unfold J_Rd_readCondition_41 J_Rd_readCondition_73
      rw [if_neg y2.f, show (11 : Int32) = nI 11 from rfl, z1 (fun I => J_Rd_readCondition_87 (F_Rd_rec r true) (F_Rd_rec r false) (L_Rd_readCondition_7 (F_Rd_rec r true) (F_Rd_rec r false) (nI o) f) (nI o) (nI x) I)]
      unfold J_Rd_readCondition_87
      rw [if_neg z2.f]
      rfl
theorem cn_n (hP : PC T len L X0 M0) (ho : o ≤ 8) (hSg : SgS T len L X0 M0 o) : CnS T len L X0 M0 o := by
  intro r f b i S P X M hr hC hS h9 h10 h11 hf hb
  obtain ⟨r, rfl⟩ : ∃ q, r = q + 1 := ⟨r - 1, by omega⟩
  have hil := hC.1.2.1
  have hn4 := hP.1
  have hC0 : CIn T len L X0 M0 o (S ++ List.replicate 0 11 ++ List.replicate 0 10) (P ++ []) i X M := by
    rw [List.replicate_zero, List.replicate_zero, List.append_nil, List.append_nil, List.append_nil]; exact hC
  exact cn_l hP ho hSg (by omega) hb hS h9 h10 h11 hC.2.2.2.1 (L.length - i) i 0 5000 f 0 0 [] X M (by omega) (by omega) (by omega) hC0 (Nat.le_refl _) (by show 0 + 0 + 0 ≤ _; omega) (by omega) (by omega) hf (fun t _ => rfl) XQ.same MQc.same
theorem cond_all (hP : PC T len L X0 M0) : ∀ m o, o + m = 8 → ∀ o', o ≤ o' → o' ≤ 8 → CnS T len L X0 M0 o' := by
  intro m
  induction m with
  | zero =>
    intro o hm o' h1 h2
    exact cn_n hP h2 (sgl_n hP h2 (fun o2 a b => by omega))
  | succ m ih =>
    intro o hm o' h1 h2
    by_cases c : o < o'
    · exact ih (o + 1) (by omega) o' (by omega) h2
    · have e : o' = o := by omega
      subst e
      exact cn_n hP h2 (sgl_n hP h2 (fun o2 a b => ih (o' + 1) (by omega) o2 (by omega) b))
end COND2
