/-! C, A, B. -/
def cmpT (fC fS : Int32 → gb_Mem → Option gb_Mem) (x2 : Int32) (I13 : gb_Mem) : Option gb_Mem := fbd (F_Rd_now I13) fun r14 => if r14 = 60 then J_Rd_readSingle_77 fC fS x2 r14 I13 else if r14 = 62 then J_Rd_readSingle_77 fC fS x2 r14 I13 else J_Rd_readSingle_83 fC fS x2 r14 61 I13
section COND
variable {T : Nat → Nat} {len : Nat} {L : List (Nat × Nat)} {X0 M0 X M Y N : gb_Mem} {i k p o : Nat} {P Q : List (Nat × Nat)} {S : List Nat}
theorem j83_e (hP : PC T len L X0 M0) {fC fS : Int32 → gb_Mem → Option gb_Mem} {nt : Nat} (hn : nt ≤ 8) (h : XE X0 k p X) (x3 s0 : Int32) : ∃ Y, J_Rd_readSingle_83 fC fS (nI nt) x3 s0 X = some Y ∧ XE X0 k p Y := by
  have j118 : ∀ s : Int32, ∃ Y, J_Rd_readSingle_118 fC fS (nI nt) s X = some Y ∧ XE X0 k p Y := by
    intro s
    obtain ⟨Y, y1, y2⟩ := emit_e hP h s 0
    obtain ⟨Z, z1, z2⟩ := ng_e (fC := fC) (fS := fS) hP hn y2
    refine ⟨Z, ?_, z2⟩
    unfold J_Rd_readSingle_118
    rw [y1, fbd_s, z1]
  unfold J_Rd_readSingle_83
  rw [take_e hP h, fbd_s, sum_e hP h, fbd_s]
  by_cases c : x3 = 60
  · rw [if_pos c]; exact j118 7
  · rw [if_neg c]
    by_cases d : x3 = 62
    · rw [if_pos d]; exact j118 9
    · rw [if_neg d]; exact j118 8
theorem cmpT_e (hP : PC T len L X0 M0) {fC fS : Int32 → gb_Mem → Option gb_Mem} {nt : Nat} (hn : nt ≤ 8) (h : XE X0 k p X) : ∃ Y, cmpT fC fS (nI nt) X = some Y ∧ XE X0 k p Y := by
  obtain ⟨r, hr⟩ := now_e hP h
  unfold cmpT J_Rd_readSingle_77
  rw [hr, fbd_s]
  by_cases c : r = 60
  · rw [if_pos c]; exact j83_e hP hn h _ _
  · rw [if_neg c]
    by_cases d : r = 62
    · rw [if_pos d]; exact j83_e hP hn h _ _
    · rw [if_neg d]; exact j83_e hP hn h _ _
theorem cmp_n (hP : PC T len L X0 M0) {fC fS : Int32 → gb_Mem → Option gb_Mem} {nt : Nat} (hn8 : nt ≤ 8) (h : PS T len L X0 M0 i X M) (hX : EX P X) (hM : EM (gMl P) M) (hl : (gMl P).length ≤ i) :
    (∃ i' q Y N, (fbd (F_Rd_readSum X) fun I13 => cmpT fC fS (nI nt) I13) = J_Rd_readSingle_166 fC fS (nI nt) Y ∧ F_Mo_readCompared M = some (0, N) ∧ PS T len L X0 M0 i' Y N ∧ EX (P ++ q) Y ∧ EM (gMl (P ++ q)) N ∧ i < i' ∧ (gMl q).length ≤ i' - i ∧ XQ X Y ∧ MQu M N ∧ TyB 56 q) ∨ (∃ Y N k p, (fbd (F_Rd_readSum X) fun I13 => cmpT fC fS (nI nt) I13) = some Y ∧ F_Mo_readCompared M = some (-1, N) ∧ XE X0 k p Y ∧ ME M0 k p N) := by
  have hn := hP.1
  unfold F_Mo_readCompared
  rcases sum_n hP h hX hM hl with ⟨i1, q1, Y1, N1, u1, u2, u3, u4, u5, u6, u7, u8, u9, u10⟩ | ⟨Y1, N1, k, p, u1, u2, u3, u4⟩
  · have hi1 := u3.2.1
    have hT := u3.2.2.2.2.2.2.2
    have hb := hT.b
    have n60 : nI (cdA L i1) = 60 ↔ cdA L i1 = 60 := nI_eq (b := 60) (by omega) (by decide)
    have n62 : nI (cdA L i1) = 62 ↔ cdA L i1 = 62 := nI_eq (b := 62) (by omega) (by decide)
    have s60 : F_Mo_isSign 60 N1 = if cdA L i1 = 60 then 1 else 0 := sign_n (s := 60) hT (by decide)
    have s61 : F_Mo_isSign 61 N1 = if cdA L i1 = 61 then 1 else 0 := sign_n (s := 61) hT (by decide)
    have s62 : F_Mo_isSign 62 N1 = if cdA L i1 = 62 then 1 else 0 := sign_n (s := 62) hT (by decide)
    have hgl : (gMl (P ++ q1)).length ≤ i1 := by rw [gMl_app, List.length_append]; omega
    -- behind the sign
    have go : ∀ (s o : Nat), (s = 60 ∧ o = 6) ∨ (s = 61 ∧ o = 7) ∨ (s = 62 ∧ o = 8) → cdA L i1 = s →
        (∃ i' q Y N, (fbd (F_Rd_take (nI s) Y1) fun I15 => fbd (F_Rd_readSum I15) fun I16 => if nI (cdA L i1) = 60 then J_Rd_readSingle_118 fC fS (nI nt) 7 I16 else if nI (cdA L i1) = 62 then J_Rd_readSingle_118 fC fS (nI nt) 9 I16 else J_Rd_readSingle_118 fC fS (nI nt) 8 I16) = J_Rd_readSingle_166 fC fS (nI nt) Y ∧ J_Mo_readCompared_73 (nI o) N1 = some (0, N) ∧ PS T len L X0 M0 i' Y N ∧ EX (P ++ q) Y ∧ EM (gMl (P ++ q)) N ∧ i < i' ∧ (gMl q).length ≤ i' - i ∧ XQ X Y ∧ MQu M N ∧ TyB 56 q) ∨ (∃ Y N k p, (fbd (F_Rd_take (nI s) Y1) fun I15 => fbd (F_Rd_readSum I15) fun I16 => if nI (cdA L i1) = 60 then J_Rd_readSingle_118 fC fS (nI nt) 7 I16 else if nI (cdA L i1) = 62 then J_Rd_readSingle_118 fC fS (nI nt) 9 I16 else J_Rd_readSingle_118 fC fS (nI nt) 8 I16) = some Y ∧ J_Mo_readCompared_73 (nI o) N1 = some (-1, N) ∧ XE X0 k p Y ∧ ME M0 k p N) := by
      intro s o hso hc
      obtain ⟨N2, a1, a2, a3, a4⟩ := adv_n hP u3 (cd_pos (by omega))
      unfold J_Mo_readCompared_73
      rw [take_t hP u3 hc, fbd_s, a1, fbd_s]
      have eop : ∀ I16, (if nI (cdA L i1) = 60 then J_Rd_readSingle_118 fC fS (nI nt) 7 I16 else if nI (cdA L i1) = 62 then J_Rd_readSingle_118 fC fS (nI nt) 9 I16 else J_Rd_readSingle_118 fC fS (nI nt) 8 I16) = J_Rd_readSingle_118 fC fS (nI nt) (nI (gSt o)) I16 := by
        intro I16
        rcases hso with ⟨rfl, rfl⟩ | ⟨rfl, rfl⟩ | ⟨rfl, rfl⟩
        · rw [if_pos (n60.mpr hc)]; rfl
        · rw [if_neg (fun z => by have := n60.mp z; omega), if_neg (fun z => by have := n62.mp z; omega)]; rfl
        · rw [if_neg (fun z => by have := n60.mp z; omega), if_pos (n62.mpr hc)]; rfl
      simp only [eop]
      rcases sum_n hP a2 u4.r (u5.t a3 a4) (by omega) with ⟨i2, q2, Y2, N3, v1, v2, v3, v4, v5, v6, v7, v8, v9, v10⟩ | ⟨Y2, N3, k, p, v1, v2, v3, v4⟩
      · left
        have hi2 := v3.2.1
        have hpl := gMl_len (P ++ q1 ++ q2)
        have hg2 : (gMl (P ++ q1 ++ q2)).length ≤ i2 - 1 := by rw [gMl_app, List.length_append]; omega
        have hgs : gSt o < 12 := by rcases hso with ⟨-, rfl⟩ | ⟨-, rfl⟩ | ⟨-, rfl⟩ <;> decide
        obtain ⟨Y3, y1, y2, y3, y4, y5⟩ := emitX v4 v3.1 (by omega) (o, 0) hgs (by show 0 < 16384; decide)
        obtain ⟨N4, n1, n2, n3, n4, n5⟩ := emitM v5 v3.2.2.2.2.1 (by omega) o 0
        have egs : gMs (o, 0) = [(o, 0)] := by rcases hso with ⟨-, rfl⟩ | ⟨-, rfl⟩ | ⟨-, rfl⟩ <;> rfl
        have eg : gMl [(o, 0)] = [(o, 0)] := by show gMs (o, 0) ++ [] = _; rw [egs]; rfl
        rw [v1, v2]
        simp only [fbd_s]
        refine ⟨i2, q1 ++ q2 ++ [(o, 0)], Y3, N4, ?_, ?_, (v3.eX y3 y4).eM n3 n4, ?_, ?_, by omega, ?_, (u8.trans (XQ.same.r.trans v8)).trans y5, (((u9.t a3 a4).trans v9)).trans (MQu.e n4 n5), fun t ht => ?_⟩
        · unfold J_Rd_readSingle_118
          rw [show F_La_emit 114 (nI (gSt o)) 0 Y2 = some Y3 from y1, fbd_s]
        · rw [if_neg (show ¬ (0 : Int32) = -1 by decide), show F_Mo_emits (nI o) 0 N3 = some N4 from n1, fbd_s]
        · rw [← List.append_assoc, ← List.append_assoc]; exact y2
        · rw [← List.append_assoc, ← List.append_assoc, gMl_app, eg]; exact n2
        · rw [gMl_app, gMl_app, List.length_append, List.length_append, eg]
          show _ + _ + 1 ≤ _
          omega
        · rw [List.append_assoc, gTy_app (u10 t (by omega)), gTy_app (v10 (false :: t) (by rw [List.length_cons]; omega))]
          refine gTy_s ?_ (by rw [List.length_cons]; omega)
          rcases hso with ⟨-, rfl⟩ | ⟨-, rfl⟩ | ⟨-, rfl⟩ <;> rfl
      · right
        obtain ⟨Y3, y1, y2⟩ := emit_e hP v3 (nI (gSt o)) 0
        obtain ⟨Z, z1, z2⟩ := ng_e (fC := fC) (fS := fS) hP hn8 y2
        rw [v1, v2]
        simp only [fbd_s]
        refine ⟨Z, N3, k, p, ?_, ?_, z2, v4⟩
        · unfold J_Rd_readSingle_118
          rw [y1, fbd_s, z1]
        · rw [if_pos True.intro]
    rw [u1, u2]
    simp only [fbd_s]
    rw [if_neg (show ¬ (0 : Int32) = -1 by decide), s60, s61, s62]
    unfold cmpT J_Rd_readSingle_77 J_Rd_readSingle_83 J_Mo_readCompared_43
    rw [now_n hP u3, fbd_s]
    by_cases c1 : cdA L i1 = 60
    · rw [if_pos (n60.mpr c1), if_pos c1, if_neg (show ¬ (1 : Int32) = 0 by decide), if_pos (show N1 0 17 = 60 from (sgv hT (by rw [c1]; decide)).2.trans (by rw [c1]; rfl))]
      have := go 60 6 (Or.inl ⟨rfl, rfl⟩) c1
      rw [show nI (cdA L i1) = nI 60 by rw [c1]] at this ⊢
      exact this
    · rw [if_neg (fun z => c1 (n60.mp z)), if_neg c1, if_pos rfl]
      by_cases c2 : cdA L i1 = 62
      · rw [if_pos (n62.mpr c2), if_neg (show ¬ cdA L i1 = 61 by omega), if_pos rfl, if_pos c2, if_neg (show ¬ (1 : Int32) = 0 by decide), if_neg (show ¬ N1 0 17 = 60 by rw [(sgv hT (by rw [c2]; decide)).2, c2]; decide), if_neg (show ¬ N1 0 17 = 61 by rw [(sgv hT (by rw [c2]; decide)).2, c2]; decide)]
        have := go 62 8 (Or.inr (Or.inr ⟨rfl, rfl⟩)) c2
        rw [show nI (cdA L i1) = nI 62 by rw [c2]] at this ⊢
        exact this
      · rw [if_neg (fun z => c2 (n62.mp z))]
        by_cases c3 : cdA L i1 = 61
        · rw [if_pos c3, if_neg (show ¬ (1 : Int32) = 0 by decide), if_neg (show ¬ N1 0 17 = 60 by rw [(sgv hT (by rw [c3]; decide)).2, c3]; decide), if_pos (show N1 0 17 = 61 from (sgv hT (by rw [c3]; decide)).2.trans (by rw [c3]; rfl))]
          exact go 61 7 (Or.inr (Or.inl ⟨rfl, rfl⟩)) c3
        · rw [if_neg c3, if_pos rfl, if_neg c2, if_pos rfl]
          obtain ⟨Y, y1, y2, y3⟩ := take_f (k := 61) hP u3 c3 (by decide)
          obtain ⟨N2, e1, e2⟩ := err_n (k := 1) u3.2.2.2.2
          obtain ⟨Y3, z1, z2⟩ := emit_e hP y2 8 0
          obtain ⟨Z, w1, w2⟩ := ng_e (fC := fC) (fS := fS) hP hn8 z2
          right
          refine ⟨Z, N2, _, _, ?_, ?_, w2, e2⟩
          · rw [show F_Rd_take 61 Y1 = some Y from y1, fbd_s, sum_e hP y2, fbd_s, if_neg (fun z => c1 (n60.mp z)), if_neg (fun z => c2 (n62.mp z))]
            unfold J_Rd_readSingle_118
            rw [z1, fbd_s, w1]
          · rw [show F_Mo_errs 1 N1 = some (-1, N2) from e1]; rfl
  · right
    obtain ⟨Y2, y1, y2⟩ := cmpT_e (fC := fC) (fS := fS) hP hn8 u3
    rw [u1, u2]
    simp only [fbd_s]
    exact ⟨Y2, N1, k, p, y1, by rw [if_pos True.intro], y2, u4⟩
/-- the loop's rest at the end of a condition -/
def RK (f : Nat) (b : Int32) (I3 : gb_Mem) : Option (Unit ⊕ (Int32 × gb_Mem)) := if b = 0 then some (.inr (0, I3)) else if (F_Mo_isSign 41 I3) = 0 then fbd (F_Mo_errs 1 I3) fun (r9, I8) => some (.inr (r9, I8)) else fstf I3 0 30 ((I3 0 30) - 1) fun I4 => fstf I4 0 28 ((I4 0 28) - 1) fun I5 => fbd (F_Mo_settles 9 I5) fun I6 => fbd (F_Mo_reads I6) fun I7 => L_Mo_readAny_9 f (b - 1) 0 I7
def CIn (T : Nat → Nat) (len : Nat) (L : List (Nat × Nat)) (X0 M0 : gb_Mem) (o : Nat) (S : List Nat) (P : List (Nat × Nat)) (i : Nat) (X M : gb_Mem) : Prop := PS T len L X0 M0 i X M ∧ EX P X ∧ EM (gMl P) M ∧ (gMl P).length ≤ i ∧ PN S M ∧ M 0 28 = nI o
def SgS (T : Nat → Nat) (len : Nat) (L : List (Nat × Nat)) (X0 M0 : gb_Mem) (o : Nat) : Prop := ∀ r f b i S P X M, 2 * (8 - o) + 1 ≤ r → CIn T len L X0 M0 o S P i X M → S.length ≤ 3 * o + 2 → S.getLast? ≠ some 9 → L.length + 2 ≤ f + i → b ≤ o →
  (∃ i' q Y N f', F_Rd_rec r false (nI o) X = some Y ∧ L_Mo_readAny_9 f (nI b) 1 M = L_Mo_readAny_9 f' (nI b) 0 N ∧ CIn T len L X0 M0 o S (P ++ q) i' Y N ∧ i < i' ∧ (gMl q).length ≤ i' - i ∧ L.length + 2 ≤ f' + i' ∧ XQ X Y ∧ MQc M N ∧ TyB (40 + 2 * o) q) ∨ (∃ Y N k p, F_Rd_rec r false (nI o) X = some Y ∧ L_Mo_readAny_9 f (nI b) 1 M = some (.inr (-1, N)) ∧ XE X0 k p Y ∧ ME M0 k p N)
def CnS (T : Nat → Nat) (len : Nat) (L : List (Nat × Nat)) (X0 M0 : gb_Mem) (o : Nat) : Prop := ∀ r f b i S P X M, 2 * (9 - o) ≤ r → CIn T len L X0 M0 o S P i X M → S.length ≤ 3 * o → S.getLast? ≠ some 9 → S.getLast? ≠ some 10 → S.getLast? ≠ some 11 → L.length + 2 ≤ f + i → b ≤ o →
  (∃ i' q Y N f', F_Rd_rec r true (nI o) X = some Y ∧ L_Mo_readAny_9 f (nI b) 1 M = RK f' (nI b) N ∧ CIn T len L X0 M0 o S (P ++ q) i' Y N ∧ i < i' ∧ (gMl q).length ≤ i' - i ∧ L.length + 1 ≤ f' + i' ∧ XQ X Y ∧ MQc M N ∧ TyB (38 + 2 * o) q) ∨ (∃ Y N k p, F_Rd_rec r true (nI o) X = some Y ∧ L_Mo_readAny_9 f (nI b) 1 M = some (.inr (-1, N)) ∧ XE X0 k p Y ∧ ME M0 k p N)
theorem MQu.c (h : MQu M N) : MQc M N := h.2.2.2
theorem rep_last {S : List Nat} {m x : Nat} (hm : 0 < m) : (S ++ List.replicate m x).getLast? = some x := by
  obtain ⟨m, rfl⟩ : ∃ q, m = q + 1 := ⟨m - 1, by omega⟩
  rw [List.replicate_succ', ← List.append_assoc, List.getLast?_append]
  rfl
/-- the nots ahead -/
theorem nots_l (hP : PC T len L X0 M0) {fC fS : Int32 → gb_Mem → Option gb_Mem} (ho : o ≤ 8) : ∀ m nt i X M f fM b, o + nt + m = 8 → CIn T len L X0 M0 (o + nt) (S ++ List.replicate nt 9) P i X M → S.length ≤ 3 * o + 2 → m < f → L.length + 2 ≤ fM + i → b < 100 →
    ∃ n2 i' Y N f', L_Rd_readSingle_2 fC fS (nI o) f (nI nt) X = some (nI n2, Y) ∧ L_Mo_readAny_9 fM (nI b) 1 M = L_Mo_readAny_9 f' (nI b) 1 N ∧ CIn T len L X0 M0 (o + n2) (S ++ List.replicate n2 9) P i' Y N ∧ o + n2 ≤ 8 ∧ nt ≤ n2 ∧ i' = i + (n2 - nt) ∧ L.length + 2 ≤ f' + i' ∧ (¬ cdA L i' = 218 ∨ o + n2 = 8) ∧ XQ X Y ∧ MQc M N := by
  intro m
  induction m with
  | zero =>
    intro nt i X M f fM b hm hC hS hf hfM hb
    obtain ⟨f, rfl⟩ : ∃ g, f = g + 1 := ⟨f - 1, by omega⟩
    have h := hC.1
    have hbc := h.2.2.2.2.2.2.2.b
    refine ⟨nt, i, X, M, fM, ?_, rfl, hC, by omega, Nat.le_refl _, by omega, hfM, Or.inr (by omega), XQ.same, MQc.same⟩
    simp only [L_Rd_readSingle_2]
    rw [now_n hP h, fbd_s, nI_add, if_pos (show 8 ≤ nI (o + nt) from nI_le (a := 8) (by omega) (by omega)), ite_self]
  | succ m ih =>
    intro nt i X M f fM b hm hC hS hf hfM hb
    obtain ⟨f, rfl⟩ : ∃ g, f = g + 1 := ⟨f - 1, by omega⟩
    obtain ⟨h, hX, hM, hl, hN, h28⟩ := hC
    have hT := h.2.2.2.2.2.2.2
    have hbc := hT.b
    have hil := h.2.1
    have n218 : nI (cdA L i) = 218 ↔ cdA L i = 218 := nI_eq (b := 218) (by omega) (by decide)
    have w6 : F_Mo_isWord 6 M = if cdA L i = 218 then 1 else 0 := word_n (w := 6) hT (by decide)
    by_cases c : cdA L i = 218
    · obtain ⟨fM, rfl⟩ : ∃ g, fM = g + 1 := ⟨fM - 1, by omega⟩
      have hlen : (S ++ List.replicate nt 9).length = S.length + nt := by simp
      -- the reference
      have F1 : MF M0 (mw M 0 28 (nI (o + nt + 1))) := h.2.2.2.2.1.z (by omega)
      have N1 : PN (S ++ List.replicate nt 9) (mw M 0 28 (nI (o + nt + 1))) := hN.of (mw_ne (by decide)) (by rw [mw_eq, pk_un (by decide)])
      obtain ⟨N2, n1, n2, n3, n4, n5⟩ := waits_n N1 (by omega) F1 9 (by decide)
      have P2 : PS T len L X0 M0 i X N2 := by
        obtain ⟨a1, a2, a3, a4, a5, a6, a7, a8⟩ := h
        exact ⟨a1, a2, a3, a4, n3, by rw [n4 14 (by decide), mw_eq, pk_un (by decide)]; exact a6, by rw [n4 15 (by decide), mw_eq, pk_un (by decide)]; exact a7, by rw [n4 16 (by decide), n4 17 (by decide), mw_eq, pk_un (by decide), pk_un (by decide)]; exact a8⟩
      obtain ⟨N3, r1, r2, r3, r4⟩ := adv_n hP P2 (cd_pos (by omega))
      have e28 : N2 0 28 = nI (o + nt + 1) := by rw [n4 28 (by decide), mw_eq, pk_us]
      have E2 : EM (gMl P) N2 := ⟨by rw [n4 27 (by decide), mw_eq, pk_un (by decide)]; exact hM.1, by rw [n5 16 (by decide) (by decide), n5 17 (by decide) (by decide), mw_ne (by decide), mw_ne (by decide)]; exact hM.2⟩
      have hC2 : CIn T len L X0 M0 (o + (nt + 1)) (S ++ List.replicate (nt + 1) 9) P (i + 1) (mw X 111 6 (nI (i + 1))) N3 := by
        refine ⟨r2, hX.r, E2.t r3 r4, by omega, ?_, by rw [r4 28 (by decide) (by decide) (by decide) (by decide)]; exact e28⟩
        rw [List.replicate_succ', ← List.append_assoc]
        exact n2.of (r3 18 (by decide)) (r4 30 (by decide) (by decide) (by decide) (by decide))
      have hML : L_Mo_readAny_9 (fM + 1) (nI b) 1 M = L_Mo_readAny_9 fM (nI b) 1 N3 := by
        simp only [L_Mo_readAny_9, J_Mo_readAny_33, J_Mo_readAny_66, J_Mo_readAny_78, flt_d, fstf_d]
        rw [if_neg (show ¬ (1 : Int32) = 0 by decide), w6, if_pos c, if_neg (show ¬ (1 : Int32) = 0 by decide), h28, if_neg (fun z => by have := (nI_eq (b := 8) (by omega) (by decide)).mp z; omega), if_neg (show ¬ (1 : Int32) = 0 by decide), if_neg (show ¬ (1 : Int32) = 0 by decide), nI_1, show F_Mo_waits 9 (mw M 0 28 (nI (o + nt + 1))) = some N2 from n1, fbd_s, r1, fbd_s]
      obtain ⟨n9, i', Y, N, f', e1, e2, e3, e4, e5, e6, e7, e8, e9, e10⟩ := ih (nt + 1) (i + 1) _ N3 f fM b (by omega) hC2 hS (by omega) (by omega) hb
      refine ⟨n9, i', Y, N, f', ?_, hML.trans e2, e3, e4, by omega, by omega, e7, e8, XQ.same.r.trans e9, MQc.trans (MQc.of (fun c c0 c1 c2 c3 => by rw [r3 c c0, n5 c c0 c3, mw_ne c0])) e10⟩
      simp only [L_Rd_readSingle_2, fstf_d]
      rw [now_n hP h, fbd_s, if_pos (n218.mpr c), nI_add, if_neg (show ¬ 8 ≤ nI (o + nt) from nI_ge (b := 8) (by omega) (by decide)), h.2.2.1, nI_1, nI_1]
      exact e1
    · refine ⟨nt, i, X, M, fM, ?_, rfl, ⟨h, hX, hM, hl, hN, h28⟩, by omega, Nat.le_refl _, by omega, hfM, Or.inl c, XQ.same, MQc.same⟩
      simp only [L_Rd_readSingle_2]
      rw [now_n hP h, fbd_s, if_neg (fun z => c (n218.mp z))]
theorem MQc.r (h : ∀ c, c ≠ 0 → N c = M c) : MQc M N := fun c a b => h c (by omega)
/-- a single, from the conditions deeper in -/
theorem sgl_n (hP : PC T len L X0 M0) (ho : o ≤ 8) (hD : ∀ o', o < o' → o' ≤ 8 → CnS T len L X0 M0 o') : SgS T len L X0 M0 o := by
  have hn := hP.1
  intro r f b i S P X M hr hC hS hS9 hf hb
  obtain ⟨r, rfl⟩ : ∃ q, r = q + 1 := ⟨r - 1, by omega⟩
  have hC0 : CIn T len L X0 M0 (o + 0) (S ++ List.replicate 0 9) P i X M := by rw [List.replicate_zero, List.append_nil]; exact hC
  obtain ⟨nt, i1, X1, M1, f1, e1, e2, e3, e4, e5, e6, e7, e8, e9, e10⟩ := nots_l (fC := F_Rd_rec r true) (fS := F_Rd_rec r false) hP ho (8 - o) 0 i X M 5000 f b (by omega) hC0 hS (by omega) hf (by omega)
  have hX0 : F_Rd_rec (r + 1) false (nI o) X = J_Rd_readSingle_36 (F_Rd_rec r true) (F_Rd_rec r false) (nI o) (nI nt) X1 := by
    show F_Rd_readSingle_b (F_Rd_rec r true) (F_Rd_rec r false) (nI o) X = _
    unfold F_Rd_readSingle_b
    rw [show L_Rd_readSingle_2 (F_Rd_rec r true) (F_Rd_rec r false) (nI o) 5000 0 X = some (nI nt, X1) from e1]
    rfl
  rw [hX0, e2]
  obtain ⟨h, hX, hM, hl, hN, h28⟩ := e3
  have hT := h.2.2.2.2.2.2.2
  have hbc := hT.b
  have hil := h.2.1
  have hlen : (S ++ List.replicate nt 9).length = S.length + nt := by simp
  have n218 : nI (cdA L i1) = 218 ↔ cdA L i1 = 218 := nI_eq (b := 218) (by omega) (by decide)
  have n40 : nI (cdA L i1) = 40 ↔ cdA L i1 = 40 := nI_eq (b := 40) (by omega) (by decide)
  have w6 : F_Mo_isWord 6 M1 = if cdA L i1 = 218 then 1 else 0 := word_n (w := 6) hT (by decide)
  have s40 : F_Mo_isSign 40 M1 = if cdA L i1 = 40 then 1 else 0 := sign_n (s := 40) hT (by decide)
  obtain ⟨f1, rfl⟩ : ∃ g, f1 = g + 1 := ⟨f1 - 1, by omega⟩
  have hpl := gMl_len P
  -- refused
  have no3 : o + nt = 8 → ∃ Y N k p, J_Rd_readSingle_125 (F_Rd_rec r true) (F_Rd_rec r false) (nI o) (nI nt) X1 = some Y ∧ (∀ x1 x2 x3, J_Mo_readAny_33 (L_Mo_readAny_9 f1) x1 x2 x3 M1 = some (.inr (-1, N))) ∧ XE X0 k p Y ∧ ME M0 k p N := by
    intro h8
    obtain ⟨Y, y1, y2, y3⟩ := ref_n (k := 3) hP h (by decide) (by decide)
    obtain ⟨N, n1, n2⟩ := err_n (k := 3) h.2.2.2.2
    obtain ⟨Z, z1, z2⟩ := ng_e (fC := F_Rd_rec r true) (fS := F_Rd_rec r false) (nt := nt) hP (by omega) y2
    refine ⟨Z, N, _, _, ?_, fun x1 x2 x3 => ?_, z2, n2⟩
    · unfold J_Rd_readSingle_125
      rw [nI_add, if_neg (show ¬ nI (o + nt) < 8 from nI_nlt (b := 8) (by omega) (by omega)), show F_Rd_refuse 3 X1 = some Y from y1, fbd_s, z1]
    · unfold J_Mo_readAny_33
      rw [h28, h8, if_pos (show nI 8 = 8 from rfl), show F_Mo_errs 3 M1 = some (-1, N) from n1]; rfl
  unfold J_Rd_readSingle_36
  rw [now_n hP h, fbd_s, fbd_s]
  simp only [L_Mo_readAny_9, flt_d]
  rw [if_neg (show ¬ (1 : Int32) = 0 by decide), w6, s40]
  by_cases c1 : cdA L i1 = 218
  · have h8 : o + nt = 8 := e8.resolve_left (fun z => z c1)
    obtain ⟨Y, N, k, p, a1, a2, a3, a4⟩ := no3 h8
    rw [if_pos (n218.mpr c1), if_pos c1, if_neg (show ¬ (1 : Int32) = 0 by decide), a1, a2]
    exact Or.inr ⟨Y, N, k, p, rfl, rfl, a3, a4⟩
  · rw [if_neg (fun z => c1 (n218.mp z)), if_neg c1, if_pos rfl]
    by_cases c2 : cdA L i1 = 40
    · rw [if_pos (n40.mpr c2), if_pos c2, if_neg (show ¬ (1 : Int32) = 0 by decide)]
      by_cases h8 : o + nt = 8
      · obtain ⟨Y, N, k, p, a1, a2, a3, a4⟩ := no3 h8
        rw [a1, a2]
        exact Or.inr ⟨Y, N, k, p, rfl, rfl, a3, a4⟩
      · -- a bracket
        have F1 : MF M0 (mw M1 0 28 (nI (o + nt + 1))) := h.2.2.2.2.1.z (by omega)
        have N1 : PN (S ++ List.replicate nt 9) (mw M1 0 28 (nI (o + nt + 1))) := hN.of (mw_ne (by decide)) (by rw [mw_eq, pk_un (by decide)])
        obtain ⟨N2, n1, n2, n3, n4, n5⟩ := waits_n N1 (by omega) F1 12 (by decide)
        have P2 : PS T len L X0 M0 i1 X1 N2 := by
          obtain ⟨a1, a2, a3, a4, a5, a6, a7, a8⟩ := h
          exact ⟨a1, a2, a3, a4, n3, by rw [n4 14 (by decide), mw_eq, pk_un (by decide)]; exact a6, by rw [n4 15 (by decide), mw_eq, pk_un (by decide)]; exact a7, by rw [n4 16 (by decide), n4 17 (by decide), mw_eq, pk_un (by decide), pk_un (by decide)]; exact a8⟩
        obtain ⟨N3, r1, r2, r3, r4⟩ := adv_n hP P2 (cd_pos (by omega))
        have e28 : N2 0 28 = nI (o + nt + 1) := by rw [n4 28 (by decide), mw_eq, pk_us]
        have E2 : EM (gMl P) N2 := ⟨by rw [n4 27 (by decide), mw_eq, pk_un (by decide)]; exact hM.1, by rw [n5 16 (by decide) (by decide), n5 17 (by decide) (by decide), mw_ne (by decide), mw_ne (by decide)]; exact hM.2⟩
        have hC2 : CIn T len L X0 M0 (o + nt + 1) (S ++ List.replicate nt 9 ++ [12]) P (i1 + 1) (mw X1 111 6 (nI (i1 + 1))) N3 := ⟨r2, hX.r, E2.t r3 r4, by omega, n2.of (r3 18 (by decide)) (r4 30 (by decide) (by decide) (by decide) (by decide)), by rw [r4 28 (by decide) (by decide) (by decide) (by decide)]; exact e28⟩
        have hl4 : (S ++ List.replicate nt 9 ++ [12]).length ≤ 3 * (o + nt + 1) := by
          rw [List.length_append, hlen]
          show S.length + nt + 1 ≤ _
          omega
        have hlast : (S ++ List.replicate nt 9 ++ [12]).getLast? = some 12 := by rw [List.getLast?_append]; rfl
        have hMR : J_Mo_readAny_33 (L_Mo_readAny_9 f1) (nI b) 1 0 M1 = L_Mo_readAny_9 f1 (nI (b + 1)) 1 N3 := by
          unfold J_Mo_readAny_33 J_Mo_readAny_66 J_Mo_readAny_78
          rw [h28, if_neg (fun z => by have := (nI_eq (b := 8) (by omega) (by decide)).mp z; omega), fstf_d, if_pos rfl, if_pos rfl, nI_1, nI_1, show F_Mo_waits 12 (mw M1 0 28 (nI (o + nt + 1))) = some N2 from n1, fbd_s, r1, fbd_s]
        rw [hMR]
        unfold J_Rd_readSingle_125
        rw [nI_add, if_pos (show nI (o + nt) < 8 from nI_lt (b := 8) (by omega) (by decide)), fstf_d, h.2.2.1, nI_1, nI_1]
        rcases hD (o + nt + 1) (by omega) (by omega) r f1 (b + 1) (i1 + 1) _ P _ N3 (by omega) hC2 hl4 (by rw [hlast]; simp) (by rw [hlast]; simp) (by rw [hlast]; simp) (by omega) (by omega) with ⟨i2, q, Y, N4, f2, g1, g2, g3, g4, g5, g6, g7, g8, g9⟩ | ⟨Y, N4, k, p, g1, g2, g3, g4⟩
        · obtain ⟨k1, k2, k3, k4, k5, k6⟩ := g3
          have hT4 := k1.2.2.2.2.2.2.2
          have hil2 := k1.2.1
          have s41 : F_Mo_isSign 41 N4 = if cdA L i2 = 41 then 1 else 0 := sign_n (s := 41) hT4 (by decide)
          rw [g1, g2, fbd_s]
          unfold RK
          rw [if_neg (nI_ne0 (by omega) (by omega)), s41]
          by_cases c3 : cdA L i2 = 41
          · rw [show F_Rd_take 41 Y = some (mw Y 111 6 (nI (i2 + 1))) from take_t (k := 41) hP k1 c3, fbd_s, if_pos c3, if_neg (show ¬ (1 : Int32) = 0 by decide), fstf_d, fstf_d]
            have hi2 : i2 < L.length := cd_pos (by omega)
            have hq5 : (gMl (P ++ q)).length + nt ≤ i2 := by
              rw [gMl_app, List.length_append]
              have : (gMl P).length + nt ≤ i1 := by have := hC.2.2.2.1; omega
              omega
            have hpq := gMl_len (P ++ q)
            -- the reference pops
            have e30 : N4 0 30 = nI (S.length + nt + 1) := by rw [k5.1, List.length_append, hlen]; rfl
            have e28b : mw N4 0 30 (N4 0 30 - 1) 0 28 = nI (o + nt + 1) := by rw [mw_eq, pk_un (by decide)]; exact k6
            rw [e28b, e30, nI_pred, nI_pred]
            obtain ⟨N5, hN5⟩ : ∃ Z, Z = mw (mw N4 0 30 (nI (S.length + nt))) 0 28 (nI (o + nt)) := ⟨_, rfl⟩
            rw [← hN5]
            have F5 : MF M0 N5 := by rw [hN5]; exact (k1.2.2.2.2.1.z (by omega)).z (by omega)
            have PN5 : PN (S ++ List.replicate nt 9) N5 := by
              refine ⟨by rw [hN5, mw_eq, pk_un (by decide), mw_eq, pk_us, hlen], fun j y hj => ?_⟩
              rw [hN5, mw_ne (by decide), mw_ne (by decide)]
              refine k5.2 j y ?_
              rw [List.getElem?_append_left (List.getElem?_eq_some_iff.mp hj).1]; exact hj
            have E5 : EM (gMl (P ++ q)) N5 := ⟨by rw [hN5, mw_eq, pk_un (by decide), mw_eq, pk_un (by decide)]; exact k3.1, by rw [hN5, mw_ne (by decide), mw_ne (by decide), mw_ne (by decide), mw_ne (by decide)]; exact k3.2⟩
            have PS5 : PS T len L X0 M0 i2 Y N5 := k1.s F5 ⟨fun j a b c => by rw [hN5, mw_eq, pk_un b, mw_eq, pk_un c], fun c a _ _ => by rw [hN5, mw_ne a, mw_ne a]⟩
            have e285 : N5 0 28 = nI (o + nt) := by rw [hN5, mw_eq, pk_us]
            have mq5 : MQc N4 N5 := MQc.r (fun c hc => by rw [hN5, mw_ne hc, mw_ne hc])
            obtain ⟨N6, m1, m2, m3, m4, m5, m6⟩ := settle_n (M0 := M0) 9 nt (Or.inl rfl) hS9 F5 PN5 E5 (by omega) (by omega) e285 (fun _ => by omega)
            obtain ⟨N7, t1, t2, t3, t4⟩ := adv_n hP (PS5.s m2 m6) hi2
            rw [show F_Mo_settles 9 N5 = some N6 from m1, fbd_s, t1, fbd_s]
            obtain ⟨Y2, y1, y2, y3, y4, y5⟩ := ng_n (fC := F_Rd_rec r true) (fS := F_Rd_rec r false) (nt := nt) (X0 := X0) (X := mw Y 111 6 (nI (i2 + 1))) k2.r t2.1 (by omega)
            rw [y1]
            left
            refine ⟨i2 + 1, q ++ List.replicate nt (9, 0), Y2, N7, f2, rfl, by rw [nI_pred], ⟨t2.eX y3 y4, ?_, ?_, ?_, ?_, ?_⟩, by omega, ?_, by omega, ((e9.trans XQ.same.r).trans (g7.trans XQ.same.r)).trans y5, ?_, ?_⟩
            · rw [← List.append_assoc]; exact y2
            · rw [← List.append_assoc, gMl_app, gMl_nots]; exact m4.t t3 t4
            · rw [← List.append_assoc, gMl_app, gMl_nots, List.length_append, List.length_replicate]; omega
            · exact m3.of (t3 18 (by decide)) (t4 30 (by decide) (by decide) (by decide) (by decide))
            · rw [t4 28 (by decide) (by decide) (by decide) (by decide), m5, if_pos rfl]; exact congrArg nI (by omega)
            · rw [gMl_app, gMl_nots, List.length_append, List.length_replicate]; omega
            · refine ((((e10.trans (MQc.of (fun c c0 c1 c2 c3 => by rw [r3 c c0, n5 c c0 c3, mw_ne c0]))).trans g8).trans mq5).trans m6.q).trans (MQc.r t3)
            · exact ty_nots (by omega) (fun t ht => g9 t (by omega)) nt
          · obtain ⟨Y2, y1, y2, y3⟩ := take_f (k := 41) hP k1 c3 (by decide)
            obtain ⟨N5, z1, z2⟩ := err_n (k := 1) k1.2.2.2.2
            obtain ⟨Z, w1, w2⟩ := ng_e (fC := F_Rd_rec r true) (fS := F_Rd_rec r false) (nt := nt) hP (by omega) y2
            rw [show F_Rd_take 41 Y = some Y2 from y1, fbd_s, w1, if_neg c3, if_pos rfl, show F_Mo_errs 1 N4 = some (-1, N5) from z1]
            exact Or.inr ⟨Z, N5, _, _, rfl, rfl, w2, z2⟩
        · obtain ⟨Z, w1, w2⟩ := ng_e (fC := F_Rd_rec r true) (fS := F_Rd_rec r false) (nt := nt) hP (by omega) g3
          rw [g1, g2, fbd_s, take_e hP g3, fbd_s, w1]
          exact Or.inr ⟨Z, N4, k, p, rfl, rfl, w2, g4⟩
    · rw [if_neg (fun z => c2 (n40.mp z)), if_neg c2, if_pos rfl]
      rcases cmp_n (fC := F_Rd_rec r true) (fS := F_Rd_rec r false) (nt := nt) hP (by omega) h hX hM hl with ⟨i2, q, Y, N2, u1, u2, u3, u4, u5, u6, u7, u8, u9, u10⟩ | ⟨Y, N2, k, p, u1, u2, u3, u4⟩
      · have hil2 := u3.2.1
        have u1' : (fbd (F_Rd_readSum X1) fun I13 => fbd (F_Rd_now I13) fun r14 => if r14 = 60 then J_Rd_readSingle_77 (F_Rd_rec r true) (F_Rd_rec r false) (nI nt) r14 I13 else if r14 = 62 then J_Rd_readSingle_77 (F_Rd_rec r true) (F_Rd_rec r false) (nI nt) r14 I13 else J_Rd_readSingle_83 (F_Rd_rec r true) (F_Rd_rec r false) (nI nt) r14 61 I13) = J_Rd_readSingle_166 (F_Rd_rec r true) (F_Rd_rec r false) (nI nt) Y := u1
        rw [u1', u2]
        simp only [fbd_s]
        rw [if_neg (show ¬ (0 : Int32) = -1 by decide)]
        have hq5 : (gMl (P ++ q)).length + nt ≤ i2 := by
          rw [gMl_app, List.length_append]
          have : (gMl P).length + nt ≤ i1 := by have := hC.2.2.2.1; omega
          omega
        have hpq := gMl_len (P ++ q)
        have PN2 : PN (S ++ List.replicate nt 9) N2 := hN.of u9.1 u9.2.2.1
        obtain ⟨N6, m1, m2, m3, m4, m5, m6⟩ := settle_n (M0 := M0) 9 nt (Or.inl rfl) hS9 u3.2.2.2.2.1 PN2 u5 (by omega) (by omega) (u9.2.1.trans h28) (fun _ => by omega)
        obtain ⟨Y2, y1, y2, y3, y4, y5⟩ := ng_n (fC := F_Rd_rec r true) (fS := F_Rd_rec r false) (nt := nt) (X0 := X0) u4 u3.1 (by omega)
        rw [y1, show F_Mo_settles 9 N2 = some N6 from m1, fbd_s]
        left
        refine ⟨i2, q ++ List.replicate nt (9, 0), Y2, N6, f1, rfl, rfl, ⟨(u3.eX y3 y4).s m2 m6, ?_, ?_, ?_, m3, ?_⟩, by omega, ?_, by omega, (e9.trans u8).trans y5, (e10.trans u9.c).trans m6.q, ?_⟩
        · rw [← List.append_assoc]; exact y2
        · rw [← List.append_assoc, gMl_app, gMl_nots]; exact m4
        · rw [← List.append_assoc, gMl_app, gMl_nots, List.length_append, List.length_replicate]; omega
        · rw [m5, if_pos rfl]; exact congrArg nI (by omega)
        · rw [gMl_app, gMl_nots, List.length_append, List.length_replicate]; omega
        · exact ty_nots (by omega) (fun t ht => u10 t (by omega)) nt
      · have u1' : (fbd (F_Rd_readSum X1) fun I13 => fbd (F_Rd_now I13) fun r14 => if r14 = 60 then J_Rd_readSingle_77 (F_Rd_rec r true) (F_Rd_rec r false) (nI nt) r14 I13 else if r14 = 62 then J_Rd_readSingle_77 (F_Rd_rec r true) (F_Rd_rec r false) (nI nt) r14 I13 else J_Rd_readSingle_83 (F_Rd_rec r true) (F_Rd_rec r false) (nI nt) r14 61 I13) = some Y := u1
        rw [u1', u2]
        simp only [fbd_s]
        rw [if_pos True.intro]
        exact Or.inr ⟨Y, N2, k, p, rfl, rfl, u3, u4⟩
end COND
