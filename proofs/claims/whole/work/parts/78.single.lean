/-! C: what waits, not, brackets. -/
/-- what waits -/
def PN (S : List Nat) (M : gb_Mem) : Prop := M 0 30 = nI S.length ∧ ∀ j x, S[j]? = some x → M 18 j = nI x ∧ x < 100
def MQc (M N : gb_Mem) : Prop := ∀ c, 12 ≤ c → c ≤ 15 → N c = M c
theorem MQc.trans {M N O : gb_Mem} (a : MQc M N) (b : MQc N O) : MQc M O := fun c h1 h2 => (b c h1 h2).trans (a c h1 h2)
theorem MQc.same {M : gb_Mem} : MQc M M := fun _ _ _ => rfl
theorem MQc.of {M N : gb_Mem} (h : ∀ c, c ≠ 0 → c ≠ 16 → c ≠ 17 → c ≠ 18 → N c = M c) : MQc M N := fun c h1 h2 => h c (by omega) (by omega) (by omega) (by omega)
def TyB (d : Nat) (p : List (Nat × Nat)) : Prop := ∀ t : List Bool, t.length ≤ d → gTy p t = some (true :: t)
theorem PN.of {S : List Nat} {M N : gb_Mem} (h : PN S M) (h18 : N 18 = M 18) (h30 : N 0 30 = M 0 30) : PN S N := ⟨by rw [h30]; exact h.1, fun j x hj => by rw [h18]; exact h.2 j x hj⟩
theorem top_ne {S : List Nat} {x y : Nat} (h : S.getLast? ≠ some x) (hl : S[S.length - 1]? = some y) : y ≠ x := by
  intro e
  rw [List.getLast?_eq_getElem?] at h
  rw [e] at hl
  exact h hl
section SETTLE
variable {T : Nat → Nat} {len : Nat} {L : List (Nat × Nat)} {X0 M0 X M Y N : gb_Mem} {i k p o : Nat} {P Q : List (Nat × Nat)} {S : List Nat}
theorem waits_n (h : PN S M) (hl : S.length < 40) (hF : MF M0 M) (x : Nat) (hx : x < 100) : ∃ N, F_Mo_waits (nI x) M = some N ∧ PN (S ++ [x]) N ∧ MF M0 N ∧ (∀ j, j ≠ 30 → N 0 j = M 0 j) ∧ (∀ c, c ≠ 0 → c ≠ 18 → N c = M c) := by
  obtain ⟨h1, h2⟩ := h
  refine ⟨mw (mw M 18 S.length (nI x)) 0 30 (nI (S.length + 1)), ?_, ⟨?_, fun j y hj => ?_⟩, ?_, fun j hj => by rw [mw_eq, pk_un hj, mw_ne (by decide)], fun c c0 c1 => by rw [mw_ne c0, mw_ne c1]⟩
  · unfold F_Mo_waits
    rw [h1, fsto_n hl (by decide), fstf_d, show mw M 18 S.length (nI x) 0 30 = nI S.length by rw [mw_ne (by decide)]; exact h1, nI_1]
  · rw [mw_eq, pk_us, List.length_append]; rfl
  · rw [mw_ne (by decide), mw_eq, upd_ap]
    by_cases c : j < S.length
    · rw [List.getElem?_append_left c] at hj
      rw [if_neg (by omega)]; exact h2 j y hj
    · have hlt := (List.getElem?_eq_some_iff.mp hj).1
      rw [List.length_append] at hlt
      have hlt2 : j < S.length + 1 := hlt
      have e : j = S.length := by omega
      subst e
      rw [List.getElem?_append_right (Nat.le_refl _), Nat.sub_self] at hj
      rw [if_pos rfl]
      have : some x = some y := hj
      injection this with this
      rw [← this]; exact ⟨rfl, hx⟩
  · obtain ⟨g1, g2, g3, g4, g5, g6, g7⟩ := hF
    exact ⟨fun c c0 c1 => by rw [mw_ne c0, mw_ne (by omega)]; exact g1 c c0 c1, fun j a1 a2 a3 a4 a5 a6 => by rw [mw_eq, pk_un a4, mw_ne (by decide)]; exact g2 j a1 a2 a3 a4 a5 a6, fun c j a1 a2 a3 => by rw [mw_ne (by omega), mw_ne (by omega)]; exact g3 c j a1 a2 a3, fun c j a1 a2 a3 => by rw [mw_ne (by omega), mw_ne (by omega)]; exact g4 c j a1 a2 a3, fun j a1 => by rw [mw_ne (by decide), mw_ne (by decide)]; exact g5 j a1, fun j a1 => by rw [mw_ne (by decide), mw_ne (by decide)]; exact g6 j a1, fun j a1 => by rw [mw_ne (by decide), mw_ne (by decide)]; exact g7 j a1⟩
/-- what a settling leaves as it was -/
def SF (M N : gb_Mem) : Prop := (∀ j, j ≠ 27 → j ≠ 28 → j ≠ 30 → N 0 j = M 0 j) ∧ (∀ c, c ≠ 0 → c ≠ 16 → c ≠ 17 → N c = M c)
theorem settle_l (x : Nat) (hx : x = 9 ∨ x = 10 ∨ x = 11) (hS : S.getLast? ≠ some x) : ∀ m f Q M o, MF M0 M → PN (S ++ List.replicate m x) M → EM Q M → Q.length + m ≤ 400 → S.length + m < 40 → M 0 28 = nI o → (x = 9 → m ≤ o) → m < f → ∃ N, L_Mo_settles_0 (nI x) f M = some N ∧ MF M0 N ∧ PN S N ∧ EM (Q ++ List.replicate m (x, 0)) N ∧ N 0 28 = nI (if x = 9 then o - m else o) ∧ SF M N := by
  intro m
  induction m with
  | zero =>
    intro f Q M o hF hN hE hq hs h28 hmo hf
    obtain ⟨f, rfl⟩ : ∃ g, f = g + 1 := ⟨f - 1, by omega⟩
    rw [List.replicate_zero, List.append_nil] at hN
    refine ⟨M, ?_, hF, hN, ?_, ?_, fun _ _ _ _ => rfl, fun _ _ _ _ => rfl⟩
    · simp only [L_Mo_settles_0]
      rw [hN.1]
      by_cases c : S.length = 0
      · rw [if_pos (by rw [c]; decide)]
      · obtain ⟨y, hy⟩ : ∃ y, S[S.length - 1]? = some y := ⟨S[S.length - 1], List.getElem?_eq_getElem (by omega)⟩
        have hne := top_ne hS hy
        obtain ⟨y1, y2⟩ := hN.2 _ _ hy
        rw [if_neg (nI_nle (by omega) (by omega)), show nI S.length - 1 = nI (S.length - 1) from pk_sub (b := 1) (by omega), flod_n (by omega) (by decide), y1, if_neg (fun z => hne ((nI_eq (by omega) (by omega)).mp z))]
    · rw [List.replicate_zero, List.append_nil]; exact hE
    · rw [Nat.sub_zero, ite_self]; exact h28
  | succ m ih =>
    intro f Q M o hF hN hE hq hs h28 hmo hf
    obtain ⟨f, rfl⟩ : ∃ g, f = g + 1 := ⟨f - 1, by omega⟩
    rw [List.replicate_succ', ← List.append_assoc] at hN
    have hlen : (S ++ List.replicate m x ++ [x]).length = S.length + m + 1 := by simp; omega
    have hlen2 : (S ++ List.replicate m x).length = S.length + m := by simp
    have htop : M 18 (S.length + m) = nI x := (hN.2 (S.length + m) x (by rw [List.getElem?_append_right (by omega), hlen2, Nat.sub_self]; rfl)).1
    have h30 : M 0 30 = nI (S.length + m + 1) := by rw [hN.1, hlen]
    obtain ⟨M1, hM1⟩ : ∃ Z, Z = mw M 0 30 (nI (S.length + m)) := ⟨_, rfl⟩
    have F1 : MF M0 M1 := by rw [hM1]; exact hF.z (by omega)
    have N1 : PN (S ++ List.replicate m x) M1 := by
      refine ⟨by rw [hM1, mw_eq, pk_us, hlen2], fun j y hj => ?_⟩
      rw [hM1, mw_ne (by decide)]
      refine hN.2 j y ?_
      rw [List.getElem?_append_left (List.getElem?_eq_some_iff.mp hj).1]; exact hj
    have E1 : EM Q M1 := ⟨by rw [hM1, mw_eq, pk_un (by decide)]; exact hE.1, by rw [hM1, mw_ne (by decide), mw_ne (by decide)]; exact hE.2⟩
    obtain ⟨N2, n1, n2, n3, n4, n5⟩ := emitM E1 F1 (by omega) x 0
    have e30 : N2 0 30 = M1 0 30 := n4 30 (by decide)
    have e28 : N2 0 28 = nI o := by rw [n4 28 (by decide), hM1, mw_eq, pk_un (by decide)]; exact h28
    have P2 : PN (S ++ List.replicate m x) N2 := N1.of (n5 18 (by decide) (by decide) (by decide)) e30
    have sf1 : ∀ j, j ≠ 27 → j ≠ 28 → j ≠ 30 → N2 0 j = M 0 j := fun j a b c => by rw [n4 j a, hM1, mw_eq, pk_un c]
    have sf2 : ∀ c, c ≠ 0 → c ≠ 16 → c ≠ 17 → N2 c = M c := fun c a b d => by rw [n5 c a b d, hM1, mw_ne a]
    simp only [L_Mo_settles_0, fstf_d]
    rw [h30, if_neg (nI_nle (by omega) (by omega)), nI_pred, flod_n (by omega) (by decide), htop, if_pos rfl, ← hM1, show F_Mo_emits (nI x) 0 M1 = some N2 from n1, fbd_s]
    rw [List.replicate_succ, show Q ++ (x, 0) :: List.replicate m (x, 0) = Q ++ [(x, 0)] ++ List.replicate m (x, 0) by rw [List.append_assoc]; rfl]
    by_cases c : x = 9
    · have hmo := hmo c
      rw [if_pos (by rw [c]; rfl), e28, show nI o - 1 = nI (o - 1) from pk_sub (b := 1) (by omega)]
      obtain ⟨N, a1, a2, a3, a4, a5, a6, a7⟩ := ih f (Q ++ [(x, 0)]) (mw N2 0 28 (nI (o - 1))) (o - 1) (n3.z (by omega)) (P2.of (mw_ne (by decide)) (by rw [mw_eq, pk_un (by decide)])) ⟨by rw [mw_eq, pk_un (by decide)]; exact n2.1, by rw [mw_ne (by decide), mw_ne (by decide)]; exact n2.2⟩ (by rw [List.length_append]; show _ + 1 + _ ≤ _; omega) (by omega) (by rw [mw_eq, pk_us]) (fun _ => by omega) (by omega)
      refine ⟨N, a1, a2, a3, a4, ?_, fun j b1 b2 b3 => ?_, fun j b1 b2 b3 => ?_⟩
      · rw [a5, if_pos c, if_pos c]; exact congrArg nI (by omega)
      · rw [a6 j b1 b2 b3, mw_eq, pk_un b2]; exact sf1 j b1 b2 b3
      · rw [a7 j b1 b2 b3, mw_ne b1]; exact sf2 j b1 b2 b3
    · rw [if_neg (show ¬ nI x = 9 from fun z => c ((nI_eq (b := 9) (by omega) (by decide)).mp z))]
      obtain ⟨N, a1, a2, a3, a4, a5, a6, a7⟩ := ih f (Q ++ [(x, 0)]) N2 o n3 P2 n2 (by rw [List.length_append]; show _ + 1 + _ ≤ _; omega) (by omega) e28 (fun z => absurd z c) (by omega)
      refine ⟨N, a1, a2, a3, a4, ?_, fun j b1 b2 b3 => ?_, fun j b1 b2 b3 => ?_⟩
      · rw [a5, if_neg c, if_neg c]
      · rw [a6 j b1 b2 b3]; exact sf1 j b1 b2 b3
      · rw [a7 j b1 b2 b3]; exact sf2 j b1 b2 b3
theorem settle_n (x m : Nat) (hx : x = 9 ∨ x = 10 ∨ x = 11) (hS : S.getLast? ≠ some x) (hF : MF M0 M) (hN : PN (S ++ List.replicate m x) M) (hE : EM Q M) (hq : Q.length + m ≤ 400) (hs : S.length + m < 40) (h28 : M 0 28 = nI o) (hmo : x = 9 → m ≤ o) : ∃ N, F_Mo_settles (nI x) M = some N ∧ MF M0 N ∧ PN S N ∧ EM (Q ++ List.replicate m (x, 0)) N ∧ N 0 28 = nI (if x = 9 then o - m else o) ∧ SF M N := by
  unfold F_Mo_settles
  rw [fbd_i]
  exact settle_l x hx hS m 5000 Q M o hF hN hE hq hs h28 hmo (by omega)
theorem PS.s (h : PS T len L X0 M0 i X M) (hF : MF M0 N) (hS : SF M N) : PS T len L X0 M0 i X N := by
  obtain ⟨a1, a2, a3, a4, a5, a6, a7, a8⟩ := h
  exact ⟨a1, a2, a3, a4, hF, by rw [hS.1 14 (by decide) (by decide) (by decide)]; exact a6, by rw [hS.1 15 (by decide) (by decide) (by decide)]; exact a7, by rw [hS.1 16 (by decide) (by decide) (by decide), hS.1 17 (by decide) (by decide) (by decide)]; exact a8⟩
theorem SF.q (h : SF M N) : MQc M N := fun c a b => h.2 c (by omega) (by omega) (by omega)
/-- the class's nots, when they are settled -/
theorem ng_l {fC fS : Int32 → gb_Mem → Option gb_Mem} (nt : Nat) (hnt : nt < 1000) : ∀ m j f P X, j + m = nt → m < f → EX P X → XF X0 X → P.length + m ≤ 400 → ∃ Y, L_Rd_readSingle_168 fC fS (nI nt) f (nI j) X = some Y ∧ EX (P ++ List.replicate m (9, 0)) Y ∧ XF X0 Y ∧ Y 111 = X 111 ∧ XQ X Y := by
  intro m
  induction m with
  | zero =>
    intro j f P X hj hf hX hF hl
    obtain ⟨f, rfl⟩ : ∃ g, f = g + 1 := ⟨f - 1, by omega⟩
    refine ⟨X, ?_, by rw [List.replicate_zero, List.append_nil]; exact hX, hF, rfl, XQ.same⟩
    simp only [L_Rd_readSingle_168]
    rw [if_pos (nI_le (by omega) (by omega))]
  | succ m ih =>
    intro j f P X hj hf hX hF hl
    obtain ⟨f, rfl⟩ : ∃ g, f = g + 1 := ⟨f - 1, by omega⟩
    obtain ⟨Y, y1, y2, y3, y4, y5⟩ := emitX hX hF (by omega) (9, 0) (by decide) (by decide)
    obtain ⟨Z, z1, z2, z3, z4, z5⟩ := ih (j + 1) f (P ++ [(9, 0)]) Y (by omega) (by omega) y2 y3 (by rw [List.length_append]; show _ + 1 + _ ≤ _; omega)
    · refine ⟨Z, ?_, ?_, z3, z4.trans y4, y5.trans z5⟩
      · simp only [L_Rd_readSingle_168]
        rw [if_neg (nI_ge (by omega) (by omega)), show F_La_emit 114 3 0 X = some Y from y1, fbd_s, nI_1]; exact z1
      · rw [List.replicate_succ, show P ++ (9, 0) :: List.replicate m (9, 0) = P ++ [(9, 0)] ++ List.replicate m (9, 0) by rw [List.append_assoc]; rfl]; exact z2
theorem ng_n {fC fS : Int32 → gb_Mem → Option gb_Mem} {nt : Nat} (hX : EX P X) (hF : XF X0 X) (hl : P.length + nt ≤ 400) : ∃ Y, J_Rd_readSingle_166 fC fS (nI nt) X = some Y ∧ EX (P ++ List.replicate nt (9, 0)) Y ∧ XF X0 Y ∧ Y 111 = X 111 ∧ XQ X Y := by
  unfold J_Rd_readSingle_166
  rw [fbd_i]
  exact ng_l nt (by omega) nt 0 5000 P X (by omega) (by omega) hX hF hl
theorem ng_e (hP : PC T len L X0 M0) {fC fS : Int32 → gb_Mem → Option gb_Mem} {nt : Nat} (hn : nt ≤ 8) (h : XE X0 k p X) : ∃ Y, J_Rd_readSingle_166 fC fS (nI nt) X = some Y ∧ XE X0 k p Y := by
  have lp : ∀ m j f X, j + m = nt → m < f → XE X0 k p X → ∃ Y, L_Rd_readSingle_168 fC fS (nI nt) f (nI j) X = some Y ∧ XE X0 k p Y := by
    intro m
    induction m with
    | zero =>
      intro j f X hj hf hE
      obtain ⟨f, rfl⟩ : ∃ g, f = g + 1 := ⟨f - 1, by omega⟩
      refine ⟨X, ?_, hE⟩
      simp only [L_Rd_readSingle_168]
      rw [if_pos (nI_le (by omega) (by omega))]
    | succ m ih =>
      intro j f X hj hf hE
      obtain ⟨f, rfl⟩ : ∃ g, f = g + 1 := ⟨f - 1, by omega⟩
      obtain ⟨Y, y1, y2⟩ := emit_e hP hE 3 0
      obtain ⟨Z, z1, z2⟩ := ih (j + 1) f Y (by omega) (by omega) y2
      refine ⟨Z, ?_, z2⟩
      simp only [L_Rd_readSingle_168]
      rw [if_neg (nI_ge (by omega) (by omega)), y1, fbd_s, nI_1]; exact z1
  unfold J_Rd_readSingle_166
  rw [fbd_i]
  exact lp nt 0 5000 X (by omega) (by omega) h
theorem ty_nots {d : Nat} {q : List (Nat × Nat)} (hd : d ≤ 59) (h : TyB d q) : ∀ m, TyB d (q ++ List.replicate m (9, 0)) := by
  intro m
  induction m with
  | zero => rw [List.replicate_zero, List.append_nil]; exact h
  | succ m ih =>
    intro t ht
    rw [List.replicate_succ', ← List.append_assoc, gTy_app (ih t ht)]
    exact gTy_s rfl (by rw [List.length_cons]; omega)
theorem gMl_nots (m : Nat) : gMl (List.replicate m (9, 0)) = List.replicate m (9, 0) := by
  induction m with
  | zero => rfl
  | succ m ih =>
    rw [List.replicate_succ]
    have e : gMl ((9, 0) :: List.replicate m (9, 0)) = [(9, 0)] ++ gMl (List.replicate m (9, 0)) := rfl
    rw [e, ih]; rfl
end SETTLE
