/-! THE LAW: what both emit; E, T, U. -/
theorem nI_or {a b : Nat} (ha : a < 2 ^ 32) (hb : b < 2 ^ 32) : nI a ||| nI b = nI (a ||| b) := by
  refine tb_ext (fun j hj => ?_)
  rw [tb_or, tb_nI j ha, tb_nI j hb, tb_nI j (Nat.or_lt_two_pow ha hb), Nat.testBit_or]
theorem cdE_n {s a : Nat} (hs : s < 12) (ha : a < 16384) : (nI s <<< (14 &&& 31)) ||| nI a = nI (16384 * s + a) := by
  have e1 : nI s <<< ((14 : Int32) &&& 31) = nI (s * 2 ^ 14) := pk_shlN _ 14 (by decide) (by omega)
  rw [e1, nI_or (by omega) (by omega)]
  have := Nat.shiftLeft_add_eq_or_of_lt (b := a) (i := 14) (by omega) s
  rw [Nat.shiftLeft_eq] at this
  rw [← this]
  exact congrArg nI (by omega)
theorem gMl_app (p q : List (Nat × Nat)) : gMl (p ++ q) = gMl p ++ gMl q := by unfold gMl; exact List.flatMap_append
theorem gMl_len (p : List (Nat × Nat)) : p.length ≤ (gMl p).length := by
  induction p with
  | nil => exact Nat.le_refl _
  | cons s p ih =>
    have e : gMl (s :: p) = gMs s ++ gMl p := by unfold gMl; exact List.flatMap_cons
    rw [e, List.length_cons, List.length_append]
    have : 1 ≤ (gMs s).length := by
      unfold gMs
      by_cases c : s.1 = 5
      · rw [if_pos c]; show 1 ≤ 2; decide
      · rw [if_neg c]; exact Nat.le_refl _
    omega
theorem cAt_app {c : Nat → Int32} : ∀ p q a, cAt c a (p ++ q) ↔ cAt c a p ∧ cAt c (a + p.length) q := by
  intro p
  induction p with
  | nil => intro q a; exact ⟨fun h => ⟨True.intro, h⟩, fun h => h.2⟩
  | cons s p ih =>
    intro q a
    have e : a + (s :: p).length = a + 1 + p.length := by rw [List.length_cons]; omega
    rw [e]
    show (c a = _ ∧ cAt c (a + 1) (p ++ q)) ↔ (c a = _ ∧ cAt c (a + 1) p) ∧ cAt c (a + 1 + p.length) q
    rw [ih q (a + 1)]
    exact and_assoc.symm
theorem mAt_app {c d : Nat → Int32} : ∀ p q a, mAt c d a (p ++ q) ↔ mAt c d a p ∧ mAt c d (a + p.length) q := by
  intro p
  induction p with
  | nil => intro q a; exact ⟨fun h => ⟨True.intro, h⟩, fun h => h.2⟩
  | cons s p ih =>
    intro q a
    have e : a + (s :: p).length = a + 1 + p.length := by rw [List.length_cons]; omega
    rw [e]
    show (c a = _ ∧ d a = _ ∧ mAt c d (a + 1) (p ++ q)) ↔ (c a = _ ∧ d a = _ ∧ mAt c d (a + 1) p) ∧ mAt c d (a + 1 + p.length) q
    rw [ih q (a + 1)]
    constructor
    · rintro ⟨h1, h2, h3, h4⟩; exact ⟨⟨h1, h2, h3⟩, h4⟩
    · rintro ⟨⟨h1, h2, h3⟩, h4⟩; exact ⟨h1, h2, h3, h4⟩
theorem cAt_c {c c2 : Nat → Int32} : ∀ p a, (∀ j, a ≤ j → j < a + p.length → c2 j = c j) → cAt c a p → cAt c2 a p := by
  intro p
  induction p with
  | nil => intro a _ _; exact True.intro
  | cons s p ih =>
    intro a h h2
    have e : (s :: p).length = p.length + 1 := List.length_cons
    exact ⟨by rw [h a (by omega) (by omega)]; exact h2.1, ih (a + 1) (fun j j1 j2 => h j (by omega) (by omega)) h2.2⟩
theorem mAt_c {c d c2 d2 : Nat → Int32} : ∀ p a, (∀ j, a ≤ j → j < a + p.length → c2 j = c j ∧ d2 j = d j) → mAt c d a p → mAt c2 d2 a p := by
  intro p
  induction p with
  | nil => intro a _ _; exact True.intro
  | cons s p ih =>
    intro a h h2
    have e : (s :: p).length = p.length + 1 := List.length_cons
    exact ⟨by rw [(h a (by omega) (by omega)).1]; exact h2.1, by rw [(h a (by omega) (by omega)).2]; exact h2.2.1, ih (a + 1) (fun j j1 j2 => h j (by omega) (by omega)) h2.2.2⟩
theorem gTy_app {p q : List (Nat × Nat)} {t u : List Bool} (h : gTy p t = some u) : gTy (p ++ q) t = gTy q u := by
  induction p generalizing t with
  | nil =>
    have : t = u := by
      have : some t = some u := h
      injection this
    rw [this]; rfl
  | cons s p ih =>
    simp only [gTy, List.cons_append] at h ⊢
    cases e : gTy1 s t with
    | none => rw [e] at h; cases h
    | some v =>
      rw [e] at h
      dsimp only at h ⊢
      by_cases c : v.length ≤ 60
      · rw [if_pos c] at h ⊢; exact ih h
      · rw [if_neg c] at h; cases h
def TyN (d : Nat) (p : List (Nat × Nat)) : Prop := ∀ t : List Bool, t.length ≤ d → gTy p t = some (false :: t)
theorem gTy_s {s : Nat × Nat} {t u : List Bool} (h : gTy1 s t = some u) (hu : u.length ≤ 60) : gTy [s] t = some u := by
  simp only [gTy]
  rw [h]
  dsimp only
  rw [if_pos hu]
theorem ty_0 {u : Nat} (h : u < 10000) (t : List Bool) : gTy1 (0, u) t = some (false :: t) := by
  unfold gTy1
  rw [if_pos rfl, if_pos h]
theorem ty_1 {u : Nat} (h : u < 12) (t : List Bool) : gTy1 (1, u) t = some (false :: t) := by
  unfold gTy1
  rw [if_neg (show ¬ (1 : Nat) = 0 by decide), if_pos rfl, if_pos h]
/-- what has been emitted -/
def EX (P : List (Nat × Nat)) (X : gb_Mem) : Prop := X 114 1 = nI P.length ∧ cAt (X 115) 0 P
def EM (Q : List (Nat × Nat)) (M : gb_Mem) : Prop := M 0 27 = nI Q.length ∧ mAt (fun j => M 16 (800 + j)) (fun j => M 17 (800 + j)) 0 Q
def XQ (X Y : gb_Mem) : Prop := Y 116 = X 116 ∧ Y 117 = X 117 ∧ (∀ j, j ≠ 1 → Y 114 j = X 114 j)
def MQu (M N : gb_Mem) : Prop := N 18 = M 18 ∧ N 0 28 = M 0 28 ∧ N 0 30 = M 0 30 ∧ (∀ c, 12 ≤ c → c ≤ 15 → N c = M c)
theorem XQ.trans {X Y Z : gb_Mem} (a : XQ X Y) (b : XQ Y Z) : XQ X Z := ⟨b.1.trans a.1, b.2.1.trans a.2.1, fun j hj => (b.2.2 j hj).trans (a.2.2 j hj)⟩
theorem MQu.trans {M N O : gb_Mem} (a : MQu M N) (b : MQu N O) : MQu M O := ⟨b.1.trans a.1, b.2.1.trans a.2.1, b.2.2.1.trans a.2.2.1, fun c h1 h2 => (b.2.2.2 c h1 h2).trans (a.2.2.2 c h1 h2)⟩
theorem XQ.same {X : gb_Mem} : XQ X X := ⟨rfl, rfl, fun _ _ => rfl⟩
theorem MQu.same {M : gb_Mem} : MQu M M := ⟨rfl, rfl, rfl, fun _ _ _ => rfl⟩
theorem XQ.r {X Y : gb_Mem} {j : Nat} {v : Int32} (h : XQ X Y) : XQ X (mw Y 111 j v) := ⟨by rw [mw_ne (by decide)]; exact h.1, by rw [mw_ne (by decide)]; exact h.2.1, fun k hk => by rw [mw_ne (by decide)]; exact h.2.2 k hk⟩
theorem MQu.t {M N O : gb_Mem} (h : MQu M N) (g : ∀ c, c ≠ 0 → O c = N c) (g0 : ∀ j, j ≠ 14 → j ≠ 15 → j ≠ 16 → j ≠ 17 → O 0 j = N 0 j) : MQu M O := ⟨by rw [g 18 (by decide)]; exact h.1, by rw [g0 28 (by decide) (by decide) (by decide) (by decide)]; exact h.2.1, by rw [g0 30 (by decide) (by decide) (by decide) (by decide)]; exact h.2.2.1, fun c h1 h2 => by rw [g c (by omega)]; exact h.2.2.2 c h1 h2⟩
theorem EX.r {P : List (Nat × Nat)} {X : gb_Mem} {j : Nat} {v : Int32} (h : EX P X) : EX P (mw X 111 j v) := ⟨by rw [mw_ne (by decide)]; exact h.1, by rw [mw_ne (by decide)]; exact h.2⟩
theorem EM.t {Q : List (Nat × Nat)} {N O : gb_Mem} (h : EM Q N) (g : ∀ c, c ≠ 0 → O c = N c) (g0 : ∀ j, j ≠ 14 → j ≠ 15 → j ≠ 16 → j ≠ 17 → O 0 j = N 0 j) : EM Q O := by
  refine ⟨by rw [g0 27 (by decide) (by decide) (by decide) (by decide)]; exact h.1, ?_⟩
  rw [g 16 (by decide), g 17 (by decide)]; exact h.2
section EXPR
variable {T : Nat → Nat} {len : Nat} {L : List (Nat × Nat)} {X0 M0 X M Y N : gb_Mem} {i k p : Nat} {P Q : List (Nat × Nat)}
theorem emitX (h : EX P X) (hF : XF X0 X) (hl : P.length < 400) (s : Nat × Nat) (hs : gSt s.1 < 12) (ha : s.2 < 16384) : ∃ Y, F_La_emit 114 (nI (gSt s.1)) (nI s.2) X = some Y ∧ EX (P ++ [s]) Y ∧ XF X0 Y ∧ Y 111 = X 111 ∧ XQ X Y := by
  obtain ⟨h1, h2⟩ := h
  refine ⟨mw (mw X 115 P.length (nI (16384 * gSt s.1 + s.2))) 114 1 (nI (P.length + 1)), ?_, ⟨?_, ?_⟩, ?_, ?_, ?_⟩
  · unfold F_La_emit
    rw [h1, if_neg (nI_pos (by omega)), if_neg (show ¬ 400 ≤ nI P.length from nI_ge (b := 400) hl (by decide)), fsto_n hl (by decide), fstf_d, cdE_n hs ha, show mw X (114 + 1) P.length (nI (16384 * gSt s.1 + s.2)) 114 1 = nI P.length by rw [mw_ne (by decide)]; exact h1, nI_1]
  · rw [mw_eq, pk_us, List.length_append]; rfl
  · rw [mw_ne (by decide), mw_eq, cAt_app]
    refine ⟨cAt_c P 0 (fun j _ j2 => by rw [pk_un (by omega)]) h2, ?_, True.intro⟩
    rw [Nat.zero_add, pk_us]
  · exact hF.d (fun c hc => by rw [mw_ne (by omega), mw_ne (by omega)]) (by rw [mw_ne (by decide), mw_ne (by decide)]) (by rw [mw_ne (by decide), mw_ne (by decide)])
  · rw [mw_ne (by decide), mw_ne (by decide)]
  · exact ⟨by rw [mw_ne (by decide), mw_ne (by decide)], by rw [mw_ne (by decide), mw_ne (by decide)], fun j hj => by rw [mw_eq, pk_un hj, mw_ne (by decide)]⟩
theorem emitM (h : EM Q M) (hF : MF M0 M) (hl : Q.length < 400) (o a : Nat) : ∃ N, F_Mo_emits (nI o) (nI a) M = some N ∧ EM (Q ++ [(o, a)]) N ∧ MF M0 N ∧ (∀ j, j ≠ 27 → N 0 j = M 0 j) ∧ (∀ c, c ≠ 0 → c ≠ 16 → c ≠ 17 → N c = M c) := by
  obtain ⟨h1, h2⟩ := h
  refine ⟨mw (mw (mw M 16 (800 + Q.length) (nI o)) 17 (800 + Q.length) (nI a)) 0 27 (nI (Q.length + 1)), ?_, ⟨?_, ?_⟩, ?_, ?_, ?_⟩
  · unfold F_Mo_emits
    rw [h1, show (800 : Int32) + nI Q.length = nI (800 + Q.length) from nI_add 800 _, fsto_n (by omega) (by decide), show mw M 16 (800 + Q.length) (nI o) 0 27 = nI Q.length by rw [mw_ne (by decide)]; exact h1, show (800 : Int32) + nI Q.length = nI (800 + Q.length) from nI_add 800 _, fsto_n (by omega) (by decide), fstf_d, show mw (mw M 16 (800 + Q.length) (nI o)) 17 (800 + Q.length) (nI a) 0 27 = nI Q.length by rw [mw_ne (by decide), mw_ne (by decide)]; exact h1, nI_1]
  · rw [mw_eq, pk_us, List.length_append]; rfl
  · rw [mAt_app]
    refine ⟨mAt_c Q 0 (fun j _ j2 => ?_) h2, ?_, ?_, True.intro⟩
    · refine ⟨?_, ?_⟩
      · try dsimp only
        rw [mw_ne (by decide), mw_ne (by decide), mw_eq, pk_un (by omega)]
      · try dsimp only
        rw [mw_ne (by decide), mw_eq, pk_un (by omega), mw_ne (by decide)]
    · try dsimp only
      rw [mw_ne (by decide), mw_ne (by decide), mw_eq, Nat.zero_add, pk_us]
    · try dsimp only
      rw [mw_ne (by decide), mw_eq, Nat.zero_add, pk_us]
  · obtain ⟨g1, g2, g3, g4, g5, g6, g7⟩ := hF
    refine ⟨fun c c0 c1 => by rw [mw_ne c0, mw_ne (by omega), mw_ne (by omega)]; exact g1 c c0 c1, fun j a1 a2 a3 a4 a5 a6 => by rw [mw_eq, pk_un a2, mw_ne (by decide), mw_ne (by decide)]; exact g2 j a1 a2 a3 a4 a5 a6, fun c j a1 a2 a3 => by rw [mw_ne (by omega), mw_ne (by omega), mw_ne (by omega)]; exact g3 c j a1 a2 a3, fun c j a1 a2 a3 => ?_, fun j a1 => by rw [mw_ne (by decide), mw_ne (by decide), mw_ne (by decide)]; exact g5 j a1, fun j a1 => by rw [mw_ne (by decide), mw_ne (by decide), mw_ne (by decide)]; exact g6 j a1, fun j a1 => by rw [mw_ne (by decide), mw_ne (by decide), mw_ne (by decide)]; exact g7 j a1⟩
    have hc : c = 16 ∨ c = 17 := by omega
    rcases hc with rfl | rfl
    · rw [mw_ne (by decide), mw_ne (by decide), mw_eq, pk_un (by omega)]; exact g4 16 j a1 a2 a3
    · rw [mw_ne (by decide), mw_eq, pk_un (by omega), mw_ne (by decide)]; exact g4 17 j a1 a2 a3
  · intro j hj
    rw [mw_eq, pk_un hj, mw_ne (by decide), mw_ne (by decide)]
  · intro c c0 c1 c2
    rw [mw_ne c0, mw_ne c2, mw_ne c1]
theorem PS.eX (h : PS T len L X0 M0 i X M) (hF : XF X0 Y) (h1 : Y 111 = X 111) : PS T len L X0 M0 i Y M := by
  obtain ⟨a1, a2, a3, a4, a5⟩ := h
  exact ⟨hF, a2, by rw [h1]; exact a3, by rw [h1]; exact a4, a5⟩
theorem PS.eM (h : PS T len L X0 M0 i X M) (hF : MF M0 N) (h1 : ∀ j, j ≠ 27 → N 0 j = M 0 j) : PS T len L X0 M0 i X N := by
  obtain ⟨a1, a2, a3, a4, a5, a6, a7, a8⟩ := h
  exact ⟨a1, a2, a3, a4, hF, by rw [h1 14 (by decide)]; exact a6, by rw [h1 15 (by decide)]; exact a7, by rw [h1 16 (by decide), h1 17 (by decide)]; exact a8⟩
theorem MQu.e (h1 : ∀ j, j ≠ 27 → N 0 j = M 0 j) (h2 : ∀ c, c ≠ 0 → c ≠ 16 → c ≠ 17 → N c = M c) : MQu M N := ⟨h2 18 (by decide) (by decide) (by decide), h1 28 (by decide), h1 30 (by decide), fun c a b => h2 c (by omega) (by omega) (by omega)⟩
theorem emit_e (hP : PC T len L X0 M0) (h : XE X0 k p X) (x y : Int32) : ∃ Y, F_La_emit 114 x y X = some Y ∧ XE X0 k p Y := by
  unfold F_La_emit
  by_cases c : X 114 1 < 0
  · rw [if_pos c]; exact ⟨X, rfl, h⟩
  · rw [if_neg c]
    by_cases d : 400 ≤ X 114 1
    · rw [if_pos d]; exact ⟨X, rfl, h⟩
    · rw [if_neg d]
      obtain ⟨j, hj, e⟩ := nI_of c
      have hj4 : j < 400 := by
        refine Classical.byContradiction fun z => d ?_
        rw [e]; exact nI_le (a := 400) (by omega) hj
      rw [e, fsto_n hj4 (by decide), fstf_d]
      obtain ⟨h1, h2, h3, h4, h5⟩ := h
      exact ⟨_, rfl, h1.d (fun c hc => by rw [mw_ne (by omega), mw_ne (by omega)]) (by rw [mw_ne (by decide), mw_ne (by decide)]) (by rw [mw_ne (by decide), mw_ne (by decide)]), h2, h3, by rw [mw_ne (by decide), mw_ne (by decide)]; exact h4, by rw [mw_ne (by decide), mw_ne (by decide)]; exact h5⟩
/-- how the reading of a piece comes out -/
def EO (T : Nat → Nat) (len : Nat) (L : List (Nat × Nat)) (X0 M0 : gb_Mem) (i : Nat) (P : List (Nat × Nat)) (X M : gb_Mem) (d : Nat) (oc : Option gb_Mem) (om : Option (Int32 × gb_Mem)) : Prop :=
  (∃ i' q Y N, oc = some Y ∧ om = some (0, N) ∧ PS T len L X0 M0 i' Y N ∧ EX (P ++ q) Y ∧ EM (gMl (P ++ q)) N ∧ i < i' ∧ (gMl q).length ≤ i' - i ∧ XQ X Y ∧ MQu M N ∧ TyN d q) ∨ (∃ Y N k p, oc = some Y ∧ om = some (-1, N) ∧ XE X0 k p Y ∧ ME M0 k p N)
/-- both emit one step, then the next token comes -/
theorem unit_n (hP : PC T len L X0 M0) (h : PS T len L X0 M0 i X M) (hX : EX P X) (hM : EM (gMl P) M) (hl : (gMl P).length ≤ i) : EO T len L X0 M0 i P X M 59 (F_Rd_readUnit X) (F_Mo_readUnit M) := by
  have hT := h.2.2.2.2.2.2.2
  have hb := hT.b
  have hpl := gMl_len P
  have hn := hP.1
  unfold F_Rd_readUnit J_Rd_readUnit_71
  rw [now_n hP h, fbd_s, if_pos h.2.2.2.1.1]
  -- one step
  have step : ∀ s : Nat × Nat, gMs s = [s] → gSt s.1 < 12 → s.2 < 16384 → (∀ t, gTy1 s t = some (false :: t)) → i < L.length → ∃ Y N2 N3, F_La_emit 114 (nI (gSt s.1)) (nI s.2) X = some Y ∧ F_Mo_emits (nI s.1) (nI s.2) M = some N2 ∧ F_Mo_reads N2 = some N3 ∧ Y 111 6 = nI i ∧ EO T len L X0 M0 i P X M 59 (some (mw Y 111 6 (nI (i + 1)))) (some (0, N3)) := by
    intro s hg h1 h2 ht hi
    obtain ⟨Y, y1, y2, y3, y4, y5⟩ := emitX hX h.1 (by omega) s h1 h2
    obtain ⟨N2, n1, n2, n3, n4, n5⟩ := emitM hM h.2.2.2.2.1 (by omega) s.1 s.2
    have h2 : PS T len L X0 M0 i Y N2 := (h.eX y3 y4).eM n3 n4
    obtain ⟨N3, r1, r2, r3, r4⟩ := adv_n hP h2 hi
    refine ⟨Y, N2, N3, y1, n1, r1, by rw [y4]; exact h.2.2.1, Or.inl ⟨i + 1, [s], _, N3, rfl, rfl, r2, y2.r, ?_, by omega, ?_, y5.trans (XQ.same.r), (MQu.e n4 n5).t r3 r4, fun t hl2 => gTy_s (ht t) (by rw [List.length_cons]; omega)⟩⟩
    · have e : gMl (P ++ [s]) = gMl P ++ [s] := by rw [gMl_app]; congr 1; show gMs s ++ [] = [s]; rw [hg]; rfl
      rw [e]; exact n2.t r3 r4
    · have e : gMl [s] = [s] := by show gMs s ++ [] = [s]; rw [hg]; rfl
      rw [e]; show 1 ≤ _; omega
  by_cases c1 : 1000 ≤ cdA L i
  · obtain ⟨t, n, n1, n2, n3⟩ := num_y hT c1
    obtain ⟨Y, N2, N3, e1, e2, e3, e4, e5⟩ := step (0, n) rfl (show gSt 0 < 12 by decide) (by show n < 16384; omega) (ty_0 n1) (cd_pos (by omega))
    have eM : F_Mo_readUnit M = some (0, N3) := by
      unfold F_Mo_readUnit J_Mo_readUnit_23 J_Mo_readUnit_24 J_Mo_readUnit_43 J_Mo_readUnit_53 J_Mo_readUnit_71
      rw [if_neg (by rw [t]; decide), if_pos rfl, if_pos t, if_pos rfl, if_pos rfl, n3, show F_Mo_emits 0 (nI n) M = some N2 from e2, fbd_s, e3, fbd_s]
    rw [eM, if_neg (show ¬ nI (cdA L i) < 1000 from nI_nlt (b := 1000) c1 (by omega)), show nI (cdA L i) - 1000 = nI n by rw [show (1000 : Int32) = nI 1000 from rfl, pk_sub c1]; exact congrArg nI (by omega), show F_La_emit 114 0 (nI n) X = some Y from e1, fbd_s, fstf_d, e4, nI_1]
    exact e5
  · rw [if_pos (show nI (cdA L i) < 1000 from nI_lt (b := 1000) (by omega) (by decide)), show F_Gb_within (nI (cdA L i)) 203 214 X = if 203 ≤ cdA L i ∧ cdA L i ≤ 214 then 1 else 0 from wi_if (a := 203) (b := 214) (by omega) (by decide) (by decide)]
    have cwb : ∀ w, w < 27 → (203 ≤ 200 + cw w ∧ 200 + cw w ≤ 214 ↔ 7 ≤ w ∧ w ≤ 18) ∧ (7 ≤ w → w ≤ 18 → 200 + cw w = 196 + w) := by decide
    by_cases c2 : 203 ≤ cdA L i ∧ cdA L i ≤ 214
    · rcases word_r hT with ⟨t, w, w1, w2, w3⟩ | ⟨t, w2⟩
      · have hw := (cwb w w1).1.mp (by omega)
        have hw2 := (cwb w w1).2 hw.1 hw.2
        obtain ⟨Y, N2, N3, e1, e2, e3, e4, e5⟩ := step (1, cdA L i - 203) rfl (show gSt 1 < 12 by decide) (by show cdA L i - 203 < 16384; omega) (ty_1 (by omega)) (cd_pos (by omega))
        have eM : F_Mo_readUnit M = some (0, N3) := by
          unfold F_Mo_readUnit J_Mo_readUnit_24 J_Mo_readUnit_43 J_Mo_readUnit_53 J_Mo_readUnit_71 F_Mo_canAsk
          rw [if_pos t, w3, isIn_within _ _ _ M M, show F_Gb_within (nI w) 7 18 M = if 7 ≤ w ∧ w ≤ 18 then 1 else 0 from wi_if (a := 7) (b := 18) (by omega) (by decide) (by decide), if_pos hw, if_neg (by decide), if_neg (by decide), if_neg (by decide), if_neg (by decide), show nI w - 7 = nI (w - 7) from pk_sub (b := 7) (by omega), show w - 7 = cdA L i - 203 by omega, show F_Mo_emits 1 (nI (cdA L i - 203)) M = some N2 from e2, fbd_s, e3, fbd_s]
        rw [eM, if_pos c2, if_neg (by decide), show nI (cdA L i) - 203 = nI (cdA L i - 203) from pk_sub (b := 203) (by omega), show F_La_emit 114 1 (nI (cdA L i - 203)) X = some Y from e1, fbd_s, fstf_d, e4, nI_1]
        exact e5
      · omega
    · rw [if_neg c2, if_pos rfl]
      obtain ⟨Y, y1, y2, y3⟩ := ref_n (k := 1) hP h (by decide) (by decide)
      obtain ⟨N, e1, e2⟩ := err_n (k := 1) h.2.2.2.2
      have eM : F_Mo_readUnit M = some (-1, N) := by
        have j23 : J_Mo_readUnit_23 M = some (-1, N) := by
          unfold J_Mo_readUnit_23 J_Mo_readUnit_24
          rw [if_pos rfl, if_neg (num_no hT c1), show F_Mo_errs 1 M = some (-1, N) from e1]; rfl
        unfold F_Mo_readUnit
        rw [j23]
        rcases word_r hT with ⟨t, w, w1, w2, w3⟩ | ⟨t, w2⟩
        · unfold F_Mo_canAsk
          rw [if_pos t, w3, isIn_within _ _ _ M M, show F_Gb_within (nI w) 7 18 M = if 7 ≤ w ∧ w ≤ 18 then 1 else 0 from wi_if (a := 7) (b := 18) (by omega) (by decide) (by decide), if_neg (show ¬ (7 ≤ w ∧ w ≤ 18) from fun z => c2 (by rw [w2]; exact (cwb w w1).1.mpr z)), if_pos rfl]
        · rw [if_neg t]
      rw [eM, show F_Rd_refuse 1 X = some Y from y1, fbd_s]
      exact Or.inr ⟨Y, N, _, _, rfl, rfl, y2, e2⟩
end EXPR
