/-! Worlds that are alike as far as they are used. -/
def WEq (A B : gb_Mem) : Prop :=
  ((∀ j, j < 6 → B 2 j = A 2 j) ∧ (∀ j, j < 60 → B 3 j = A 3 j) ∧ (∀ j, j < 48 → B 4 j = A 4 j) ∧ (∀ j, j < 10 → B 5 j = A 5 j)) ∧
  (B 6 4 = A 6 4 ∧ (∀ j, j < 400 → B 7 j = A 7 j) ∧ (∀ j, j < 16 → B 8 j = A 8 j) ∧ (∀ j, j < 33 → B 9 j = A 9 j)) ∧
  ∀ r, r < 12 → B (11 + 2 * r) 2 = A (11 + 2 * r) 2 ∧ ∀ k, A (11 + 2 * r) 2 = nI k → k < 1000 → ∀ j, j < 4 * k → B (12 + 2 * r) j = A (12 + 2 * r) j
def MEq (A B : gb_Mem) : Prop :=
  (∀ j, j < 80 → B 1 j = A 1 j) ∧ (∀ j, j < 12 → B 4 j = A 4 j ∧ B 5 j = A 5 j ∧ B 6 j = A 6 j ∧ B 21 j = A 21 j) ∧
  (∀ j, j < 8 → B 7 j = A 7 j ∧ B 19 j = A 19 j ∧ B 30 j = A 30 j ∧ B 31 j = A 31 j ∧ B 34 j = A 34 j ∧ B 37 j = A 37 j ∧ B 38 j = A 38 j) ∧
  (∀ j, j < 24 → B 27 j = A 27 j) ∧ (∀ j, j < 10 → B 32 j = A 32 j) ∧ (∀ j, j < 9 → B 35 j = A 35 j ∧ B 36 j = A 36 j ∧ B 39 j = A 39 j ∧ B 40 j = A 40 j) ∧
  (∀ j, j < 64 → B 20 j = A 20 j) ∧ (∀ j, j < 600 → B 8 j = A 8 j) ∧ B 11 0 = A 11 0 ∧
  (∀ j, j < 16 → B 12 j = A 12 j ∧ B 13 j = A 13 j ∧ B 14 j = A 14 j ∧ B 15 j = A 15 j) ∧ (∀ j, j < 400 → B 16 j = A 16 j ∧ B 17 j = A 17 j) ∧
  (B 0 6 = A 0 6 ∧ B 0 35 = A 0 35 ∧ B 0 37 = A 0 37 ∧ B 0 39 = A 0 39 ∧ B 26 0 = A 26 0 ∧ B 26 1 = A 26 1 ∧ B 0 50 = A 0 50 ∧ B 0 53 = A 0 53 ∧ B 0 56 = A 0 56 ∧ B 0 58 = A 0 58 ∧ B 0 61 = A 0 61 ∧ B 0 64 = A 0 64)
theorem GTab.eqs {T S B G now T2 S2 B2 G2 now2 st th pi kd st2 th2 pi2 kd2 : Nat → Int32} {bo : Int32} (h : GTab T S B G now st th pi kd bo) (hT : ∀ j, j < 6 → T2 j = T j) (hS : ∀ j, j < 60 → S2 j = S j) (hB : ∀ j, j < 48 → B2 j = B j) (hG : ∀ j, j < 10 → G2 j = G j) (hn : ∀ j, j < 80 → now2 j = now j) (e1 : ∀ j, j < 12 → st2 j = st j) (e2 : ∀ j, j < 12 → th2 j = th j) (e3 : ∀ j, j < 12 → pi2 j = pi j) (e4 : ∀ j, j < 8 → kd2 j = kd j) : GTab T2 S2 B2 G2 now2 st2 th2 pi2 kd2 bo := by
  obtain ⟨ha, hs, hb, hg⟩ := h.congr hT hS hB hG hn
  refine ⟨ha, fun s hs9 => ?_, fun b hb9 => ?_, hg⟩
  · rw [e1 s hs9, e2 s hs9, e3 s hs9]; exact hs s hs9
  · rw [e4 b hb9]; exact hb b hb9
theorem GRng.eqs {now now2 st th pi kd st2 th2 pi2 kd2 : Nat → Int32} {bo : Int32} (h : GRng now st th pi kd bo) (hn : ∀ j, j < 80 → now2 j = now j) (e1 : ∀ j, j < 12 → st2 j = st j) (e3 : ∀ j, j < 12 → pi2 j = pi j) (e4 : ∀ j, j < 8 → kd2 j = kd j) : GRng now2 st2 th2 pi2 kd2 bo := by
  obtain ⟨ha, hs, hb⟩ := h.congr hn
  refine ⟨ha, fun s hs9 => ?_, fun b hb9 => ?_⟩
  · rw [e1 s hs9, e3 s hs9]; exact hs s hs9
  · rw [e4 b hb9]; exact hb b hb9
theorem GBook.eqs {n m : Int32} {c d c2 d2 : Nat → Int32} (h : GBook n c m d) (hc : ∀ k, n = nI k → k < 1000 → ∀ j, j < 4 * k → c2 j = c j) (hd : ∀ j, j < 600 → d2 j = d j) : GBook n c2 m d2 := by
  obtain ⟨h1, k, hk, e, h2⟩ := h
  exact ⟨h1, k, hk, e, fun i hi => by rw [hc k (h1.trans e) (by omega) i hi, hd i (by omega)]; exact h2 i hi⟩
theorem cAt_eqs {c c2 : Nat → Int32} (hc : ∀ j, j < 400 → c2 j = c j) : ∀ p a, a + p.length ≤ 400 → cAt c a p → cAt c2 a p := by
  intro p
  induction p with
  | nil => intro a _ _; exact True.intro
  | cons s p ih =>
    intro a ha h
    have hl : (s :: p).length = p.length + 1 := List.length_cons
    refine ⟨?_, ih (a + 1) (by omega) h.2⟩
    rw [hc a (by omega)]; exact h.1
theorem mAt_eqs {c c2 d d2 : Nat → Int32} (hc : ∀ j, j < 400 → c2 j = c j) (hd : ∀ j, j < 400 → d2 j = d j) : ∀ p a, a + p.length ≤ 400 → mAt c d a p → mAt c2 d2 a p := by
  intro p
  induction p with
  | nil => intro a _ _; exact True.intro
  | cons s p ih =>
    intro a ha h
    have hl : (s :: p).length = p.length + 1 := List.length_cons
    refine ⟨?_, ?_, ih (a + 1) (by omega) h.2.2⟩
    · rw [hc a (by omega)]; exact h.1
    · rw [hd a (by omega)]; exact h.2.1
theorem GLaw.eqs {n m : Int32} {a7 a8 a9 m12 m13 m14 m15 m16 m17 b7 b8 b9 n12 n13 n14 n15 n16 n17 : Nat → Int32} (h : GLaw n a7 a8 a9 m m12 m13 m14 m15 m16 m17) (e7 : ∀ j, j < 400 → b7 j = a7 j) (e8 : ∀ j, j < 16 → b8 j = a8 j) (e9 : ∀ j, j < 33 → b9 j = a9 j) (em : ∀ j, j < 16 → n12 j = m12 j ∧ n13 j = m13 j ∧ n14 j = m14 j ∧ n15 j = m15 j) (eo : ∀ j, j < 400 → n16 j = m16 j ∧ n17 j = m17 j) : GLaw n b7 b8 b9 m n12 n13 n14 n15 n16 n17 := by
  obtain ⟨h1, k, hk, e, h2⟩ := h
  refine ⟨h1, k, hk, e, fun l hl => ?_⟩
  obtain ⟨p, q, a, c, g1, g2, g3, g4, g5, g6, g7, g8, g9, g10, g11, g12, g13, g14, g15⟩ := h2 l hl
  obtain ⟨f1, f2, f3, f4⟩ := em l (by omega)
  refine ⟨p, q, a, c, ?_, ?_, ?_, ?_, g5, cAt_eqs e7 p a (by omega) g6, cAt_eqs e7 q _ (by omega) g7, ?_, ?_, ?_, g11, mAt_eqs (fun j hj => (eo j hj).1) (fun j hj => (eo j hj).2) _ c (by omega) g12, mAt_eqs (fun j hj => (eo j hj).1) (fun j hj => (eo j hj).2) _ _ (by omega) g13, g14, g15⟩
  · rw [e8 l (by omega), f1]; exact g1
  · rw [e9 _ (by omega)]; exact g2
  · rw [e9 _ (by omega)]; exact g3
  · rw [e9 _ (by omega)]; exact g4
  · rw [f2]; exact g8
  · rw [f3]; exact g9
  · rw [f4]; exact g10
theorem gVoy_eqs {c c2 : Nat → Int32} {b : Int32} : ∀ k, (∀ j, j < 4 * k → c2 j = c j) → gVoy c2 b k = gVoy c b k := by
  intro k
  induction k with
  | zero => intro _; rfl
  | succ k ih =>
    intro h
    have e1 : gVoy c2 b (k + 1) = if c2 (4 * k) = b then c2 (4 * k + 1) else gVoy c2 b k := rfl
    have e2 : gVoy c b (k + 1) = if c (4 * k) = b then c (4 * k + 1) else gVoy c b k := rfl
    rw [e1, e2, h _ (by omega), h _ (by omega), ih (fun j hj => h j (by omega))]
theorem GVoy.eqs {n m : Int32} {c d c2 d2 : Nat → Int32} (h : GVoy n c m d) (hc : ∀ k, n = nI k → k < 1000 → ∀ j, j < 4 * k → c2 j = c j) (hd : ∀ j, j < 8 → d2 j = d j) : GVoy n c2 m d2 := by
  obtain ⟨h1, k, hk, e, h2, h3⟩ := h
  have hc2 := hc k (h1.trans e) (by omega)
  refine ⟨h1, k, hk, e, fun i hi => ?_, fun b hb => ?_⟩
  · rw [hc2 _ (by omega), hc2 _ (by omega)]; exact h2 i hi
  · rw [hd b hb, gVoy_eqs k hc2]; exact h3 b hb
theorem GDin.eqs {n m : Int32} {c d c2 d2 : Nat → Int32} (h : GDin n c m d) (hc : ∀ k, n = nI k → k < 1000 → ∀ j, j < 4 * k → c2 j = c j) (hd : ∀ j, j < 64 → d2 j = d j) : GDin n c2 m d2 := by
  obtain ⟨h1, k, hk, e, h2⟩ := h
  have hc2 := hc k (h1.trans e) (by omega)
  refine ⟨h1, k, hk, e, fun i hi => ?_⟩
  rw [hc2 _ (show 4 * i < 4 * k by omega), hc2 _ (show 4 * i + 1 < 4 * k by omega), hc2 _ (show 4 * i + 2 < 4 * k by omega), hc2 _ (show 4 * i + 3 < 4 * k by omega), hd _ (show 4 * i < 64 by omega), hd _ (show 4 * i + 1 < 64 by omega), hd _ (show 4 * i + 2 < 64 by omega), hd _ (show 4 * i + 3 < 64 by omega)]
  exact h2 i hi
theorem gPair_eqs {c c2 : Nat → Int32} {a b : Int32} : ∀ k, (∀ j, j < 4 * k → c2 j = c j) → gPair c2 a b k = gPair c a b k := by
  intro k
  induction k with
  | zero => intro _; rfl
  | succ k ih =>
    intro h
    simp only [gPair]
    rw [h _ (by omega), h _ (by omega), ih (fun j hj => h j (by omega))]
theorem GRea.eqs {n m : Int32} {c d c2 d2 : Nat → Int32} (h : GRea n c m d) (hc : ∀ k, n = nI k → k < 1000 → ∀ j, j < 4 * k → c2 j = c j) (hd : ∀ j, j < 12 → d2 j = d j) : GRea n c2 m d2 := by
  obtain ⟨h1, k, hk, e, h2, h3⟩ := h
  have hc2 := hc k (h1.trans e) (by omega)
  refine ⟨h1, k, hk, e, fun i hi => ?_, fun a ha => ?_⟩
  · rw [hc2 _ (by omega), hc2 _ (by omega)]; exact h2 i hi
  · rw [hd a ha]
    refine ⟨(h3 a ha).1, fun j hj => ?_⟩
    rw [gPair_eqs k hc2, gPair_eqs k hc2]; exact (h3 a ha).2 j hj
theorem GGiv.eqs {n m : Int32} {c d c2 d2 : Nat → Int32} (h : GGiv n c m d) (hc : ∀ k, n = nI k → k < 1000 → ∀ j, j < 4 * k → c2 j = c j) (hd : ∀ j, j < 8 → d2 j = d j) : GGiv n c2 m d2 := by
  obtain ⟨h1, k, hk, e, h2, h3⟩ := h
  have hc2 := hc k (h1.trans e) (by omega)
  refine ⟨h1, k, hk, e, fun i hi => ?_, fun a ha => ?_⟩
  · rw [hc2 _ (by omega), hc2 _ (by omega)]; exact h2 i hi
  · rw [hd a ha]
    refine ⟨(h3 a ha).1, fun j hj => ?_⟩
    rw [gPair_eqs k hc2]; exact (h3 a ha).2 j hj
theorem GRow1.eqs {lim : Nat} {n m : Int32} {c d c2 d2 : Nat → Int32} {lo hi : Int} (h : GRow1 lim n c m d lo hi) (hl : lim < 1000) (hc : ∀ k, n = nI k → k < 1000 → ∀ j, j < 4 * k → c2 j = c j) (hd : ∀ j, j < lim → d2 j = d j) : GRow1 lim n c2 m d2 lo hi := by
  obtain ⟨h1, k, hk, e, h2⟩ := h
  have hc2 := hc k (h1.trans e) (by omega)
  refine ⟨h1, k, hk, e, fun i hi => ?_⟩
  rw [hc2 _ (by omega), hd i (by omega)]; exact h2 i hi
theorem GRow2.eqs {lim : Nat} {n m : Int32} {c d e c2 d2 e2 : Nat → Int32} {R : Int32 → Int32 → Prop} (h : GRow2 lim n c m d e R) (hl : lim < 1000) (hc : ∀ k, n = nI k → k < 1000 → ∀ j, j < 4 * k → c2 j = c j) (hd : ∀ j, j < lim → d2 j = d j) (he : ∀ j, j < lim → e2 j = e j) : GRow2 lim n c2 m d2 e2 R := by
  obtain ⟨h1, k, hk, e, h2⟩ := h
  have hc2 := hc k (h1.trans e) (by omega)
  refine ⟨h1, k, hk, e, fun i hi => ?_⟩
  rw [hc2 _ (by omega), hc2 _ (by omega), hd i (by omega), he i (by omega)]; exact h2 i hi
theorem gworld_eqs {A B M N : gb_Mem} (h : GWorld A M) (hW : WEq A B) (hM : MEq M N) : GWorld B N := by
  obtain ⟨t1, t2, t3, t4, t5, t6, t7, t8, t9, t10, t11, t12, t13, t14, t15⟩ := h
  obtain ⟨⟨w1, w2, w3, w4⟩, ⟨w5, w6, w7, w8⟩, wr⟩ := hW
  obtain ⟨m1, m2, m3, m4, m5, m6, m7, m8, m9, m10, m11, z6, z35, z37, z39, z26, z27, z50, z53, z56, z58, z61, z64⟩ := hM
  obtain ⟨r0, s0⟩ := wr 0 (by decide)
  obtain ⟨r1, s1⟩ := wr 1 (by decide)
  obtain ⟨r2, s2⟩ := wr 2 (by decide)
  obtain ⟨r3, s3⟩ := wr 3 (by decide)
  obtain ⟨r4, s4⟩ := wr 4 (by decide)
  obtain ⟨r5, s5⟩ := wr 5 (by decide)
  obtain ⟨r6, s6⟩ := wr 6 (by decide)
  obtain ⟨r7, s7⟩ := wr 7 (by decide)
  obtain ⟨r8, s8⟩ := wr 8 (by decide)
  obtain ⟨r9, s9⟩ := wr 9 (by decide)
  obtain ⟨r10, s10⟩ := wr 10 (by decide)
  obtain ⟨r11, s11⟩ := wr 11 (by decide)
  unfold GWorld
  rw [z6, z35, z37, z39, z26, z27, z50, z53, z56, z58, z61, z64, m9, w5, m1 2 (by decide)]
  refine ⟨t1.eqs w1 w2 w3 w4 m1 (fun j hj => (m2 j hj).1) (fun j hj => (m2 j hj).2.1) (fun j hj => (m2 j hj).2.2.1) (fun j hj => (m3 j hj).1), t2.eqs m1 (fun j hj => (m2 j hj).1) (fun j hj => (m2 j hj).2.2.1) (fun j hj => (m3 j hj).1), ?_, t4.eqs w6 w7 w8 m10 m11, ?_, ?_, ?_, ?_, ?_, ?_, ?_, ?_, ?_, ?_, ?_⟩
  · rw [show B 17 2 = A 17 2 from r3]; exact t3.eqs s3 m8
  · rw [show B 11 2 = A 11 2 from r0]; exact t5.eqs s0 (fun j hj => (m3 j hj).2.1)
  · rw [show B 13 2 = A 13 2 from r1]; exact t6.eqs s1 m7
  · rw [show B 15 2 = A 15 2 from r2]; exact t7.eqs s2 (fun j hj => (m2 j hj).2.2.2)
  · rw [show B 19 2 = A 19 2 from r4]; exact t8.eqs (by decide) s4 (fun j hj => m4 j (by omega))
  · rw [show B 21 2 = A 21 2 from r5]; exact t9.eqs (by decide) s5 (fun j hj => m4 (12 + j) (by omega))
  · rw [show B 23 2 = A 23 2 from r6]; exact t10.eqs (by decide) s6 (fun j hj => (m3 j hj).2.2.1) (fun j hj => (m3 j hj).2.2.2.1)
  · rw [show B 25 2 = A 25 2 from r7]; exact t11.eqs (by decide) s7 (fun j hj => m5 j hj)
  · rw [show B 27 2 = A 27 2 from r8]; exact t12.eqs s8 (fun j hj => (m3 j hj).2.2.2.2.1)
  · rw [show B 29 2 = A 29 2 from r9]; exact t13.eqs (by decide) s9 (fun j hj => (m6 j hj).1) (fun j hj => (m6 j hj).2.1)
  · rw [show B 31 2 = A 31 2 from r10]; exact t14.eqs (by decide) s10 (fun j hj => (m3 j hj).2.2.2.2.2.1) (fun j hj => (m3 j hj).2.2.2.2.2.2)
  · rw [show B 33 2 = A 33 2 from r11]; exact t15.eqs (by decide) s11 (fun j hj => (m6 j hj).2.2.1) (fun j hj => (m6 j hj).2.2.2)
/-! A world copied. -/
theorem ro_copy {I : gb_Mem} {h0 h1 n k lim : Nat} (e1 : I h1 2 = nI k) (e0 : I h0 0 = nI lim) (hk : k ≤ lim) (hl : lim ≤ 150) (hn : n = 4 * lim) (hd : h0 + 1 < h1 ∨ h1 + 1 < h0) : ∃ J, F_Ro_copyFrom h0 n h1 n I = some J ∧ (∀ c, c ≠ h0 → c ≠ h0 + 1 → J c = I c) ∧ (∀ j, j ≠ 2 → J h0 j = I h0 j) ∧ J h0 2 = nI k ∧ ∀ j, j < 4 * k → J (h0 + 1) j = I (h1 + 1) j := by
  unfold F_Ro_copyFrom
  rw [e1, e0, mn_n (by omega) (by omega), Nat.min_eq_left hk, fstf_d, show mw I h0 2 (nI k) h0 2 = nI k by rw [mw_eq, pk_us], show (4 : Int32) * nI k = nI (4 * k) from pk_mul 4 k, fcpy_n (by omega) (by omega) (by omega)]
  refine ⟨_, rfl, fun c c1 c2 => ?_, fun j hj => ?_, ?_, fun j hj => ?_⟩
  · rw [mset_ne c2, mw_ne c1]
  · rw [mset_ne (by omega), mw_eq, pk_un hj]
  · rw [mset_ne (by omega), mw_eq, pk_us]
  · rw [mset_eq, cpy_in hj, mw_ne (by omega)]
theorem la_copy {I : gb_Mem} {h0 h1 : Nat} (hd : h0 + 3 < h1 ∨ h1 + 3 < h0) : ∃ J, F_La_copyFrom h0 h1 I = some J ∧ (∀ c, c < h0 ∨ h0 + 3 < c → J c = I c) ∧ (∀ j, j ≠ 1 → j ≠ 4 → J h0 j = I h0 j) ∧ J h0 4 = I h1 4 ∧ J h0 1 = I h1 1 ∧ (∀ j, j < 400 → J (h0 + 1) j = I (h1 + 1) j) ∧ (∀ j, j < 16 → J (h0 + 2) j = I (h1 + 2) j) ∧ (∀ j, j < 33 → J (h0 + 3) j = I (h1 + 3) j) := by
  unfold F_La_copyFrom
  simp only [fstf_d]
  rw [show (400 : Int32) = nI 400 from rfl, show (16 : Int32) = nI 16 from rfl, show (33 : Int32) = nI 33 from rfl, fcpy_n (by decide) (by decide) (by decide), fcpy_n (by decide) (by decide) (by decide), fcpy_n (by decide) (by decide) (by decide)]
  refine ⟨_, rfl, fun c hc => ?_, fun j h1 h4 => ?_, ?_, ?_, fun j hj => ?_, fun j hj => ?_, fun j hj => ?_⟩
  · rw [mset_ne (by omega), mset_ne (by omega), mset_ne (by omega), mw_ne (by omega), mw_ne (by omega)]
  · rw [mset_ne (by omega), mset_ne (by omega), mset_ne (by omega), mw_eq, pk_un h4, mw_eq, pk_un h1]
  · rw [mset_ne (by omega), mset_ne (by omega), mset_ne (by omega), mw_eq, pk_us, mw_ne (by omega)]
  · rw [mset_ne (by omega), mset_ne (by omega), mset_ne (by omega), mw_eq, pk_un (by decide), mw_eq, pk_us]
  · rw [mset_ne (by omega), mset_ne (by omega), mset_eq, cpy_in hj, mw_ne (by omega), mw_ne (by omega)]
  · rw [mset_ne (by omega), mset_eq, cpy_in hj, mset_ne (by omega), mw_ne (by omega), mw_ne (by omega)]
  · rw [mset_eq, cpy_in hj, mset_ne (by omega), mset_ne (by omega), mw_ne (by omega), mw_ne (by omega)]
def frc (h0 h1 : Nat) : List Nat → (Nat → Nat) → Nat → gb_Mem → Option gb_Mem
  | [], _, _, I => some I
  | n :: l, g, r, I => fbd (F_Ro_copyFrom (h0 + 10 + 2 * r) n (h1 + 10 + 2 * r) n I) fun J => frc h0 h1 l g (r + 1) J
theorem frc_n {h0 h1 : Nat} {g : Nat → Nat} (hd : h0 + 33 < h1 ∨ h1 + 33 < h0) : ∀ (l : List Nat) (r : Nat) (I : gb_Mem), r + l.length = 12 → (∀ i n, l[i]? = some n → ∃ k lim, I (h1 + 10 + 2 * (r + i)) 2 = nI k ∧ I (h0 + 10 + 2 * (r + i)) 0 = nI lim ∧ k ≤ lim ∧ lim ≤ 150 ∧ n = 4 * lim) →
    ∃ J, frc h0 h1 l g r I = some J ∧ (∀ c, c < h0 + 10 + 2 * r ∨ h0 + 33 < c → J c = I c) ∧ ∀ i, r ≤ i → i < 12 → J (h0 + 10 + 2 * i) 2 = I (h1 + 10 + 2 * i) 2 ∧ (∀ j, j ≠ 2 → J (h0 + 10 + 2 * i) j = I (h0 + 10 + 2 * i) j) ∧ ∀ k, I (h1 + 10 + 2 * i) 2 = nI k → k < 1000 → ∀ j, j < 4 * k → J (h0 + 11 + 2 * i) j = I (h1 + 11 + 2 * i) j := by
  intro l
  induction l with
  | nil =>
    intro r I hr _
    exact ⟨I, rfl, fun _ _ => rfl, fun i h1 h2 => absurd h2 (by have : ([] : List Nat).length = 0 := rfl; omega)⟩
  | cons n l ih =>
    intro r I hr hI
    have hl : (n :: l).length = l.length + 1 := List.length_cons
    obtain ⟨k, lim, e1, e0, hk, hlim, hn⟩ := hI 0 n rfl
    have e1 : I (h1 + 10 + 2 * r) 2 = nI k := e1
    have e0 : I (h0 + 10 + 2 * r) 0 = nI lim := e0
    obtain ⟨J, j1, j2, j3, j4, j5⟩ := ro_copy (n := n) e1 e0 hk hlim hn (by omega)
    obtain ⟨K, k1, k2, k3⟩ := ih (r + 1) J (by omega) (by
      intro i m hi
      have hil := (List.getElem?_eq_some_iff.mp hi).1
      obtain ⟨k', lim', f1, f0, f2⟩ := hI (i + 1) m (by rw [List.getElem?_cons_succ]; exact hi)
      refine ⟨k', lim', ?_, ?_, f2⟩
      · rw [j2 _ (by omega) (by omega), show r + 1 + i = r + (i + 1) by omega]; exact f1
      · rw [j2 _ (by omega) (by omega), show r + 1 + i = r + (i + 1) by omega]; exact f0)
    refine ⟨K, ?_, fun c hc => ?_, fun i hi1 hi2 => ?_⟩
    · show fbd (F_Ro_copyFrom (h0 + 10 + 2 * r) n (h1 + 10 + 2 * r) n I) (fun J => frc h0 h1 l g (r + 1) J) = _
      rw [j1, fbd_s]; exact k1
    · rw [k2 c (by omega), j2 c (by omega) (by omega)]
    · by_cases hir : i = r
      · subst hir
        refine ⟨?_, fun j hj => ?_, fun k' ek hk' j hj => ?_⟩
        · rw [k2 _ (by omega), j4, e1]
        · rw [k2 _ (by omega), j3 j hj]
        · have hkk : k' = k := (nI_eq (by omega) (by omega)).mp (ek.symm.trans e1)
          subst hkk
          rw [k2 _ (by omega), show h0 + 11 + 2 * i = h0 + 10 + 2 * i + 1 by omega, show h1 + 11 + 2 * i = h1 + 10 + 2 * i + 1 by omega]
          exact j5 j hj
      · obtain ⟨q1, q2, q3⟩ := k3 i (by omega) hi2
        refine ⟨?_, fun j hj => ?_, fun k' ek hk' j hj => ?_⟩
        · rw [q1, j2 _ (by omega) (by omega)]
        · rw [q2 j hj, j2 _ (by omega) (by omega)]
        · rw [q3 k' (by rw [j2 _ (by omega) (by omega)]; exact ek) hk' j hj, j2 _ (by omega) (by omega)]
def gLims : List Nat := [64, 64, 64, 600, 48, 48, 32, 40, 64, 36, 32, 36]
theorem wo_frc (h0 h1 : Nat) (g : Nat → Nat) (I : gb_Mem) : F_Wo_copyFrom h0 h1 I = fbd (F_Ta_copyFrom (h0 + 1) (h1 + 1) I) fun I1 => fbd (F_La_copyFrom (h0 + 5) (h1 + 5) I1) fun I2 => frc h0 h1 gLims g 0 I2 := rfl
/-- the world of number o is what is above o -/
def wSh (I : gb_Mem) (o : Nat) : gb_Mem := fun c => I (o + c)
theorem wo_copy {I : gb_Mem} {o0 o1 : Nat} (hd : (o0 = 0 ∧ o1 = 34) ∨ (o0 = 34 ∧ o1 = 0)) (hr : ∀ i n, gLims[i]? = some n → ∃ k lim, I (o1 + 11 + 2 * i) 2 = nI k ∧ I (o0 + 11 + 2 * i) 0 = nI lim ∧ k ≤ lim ∧ lim ≤ 150 ∧ n = 4 * lim) :
    ∃ J, F_Wo_copyFrom (o0 + 1) (o1 + 1) I = some J ∧ (∀ c, c < o0 + 2 ∨ o0 + 34 < c → J c = I c) ∧ (∀ i, i < 12 → J (o0 + 11 + 2 * i) 0 = I (o0 + 11 + 2 * i) 0) ∧ WEq (wSh I o1) (wSh J o0) := by
  obtain ⟨J1, a1, a2, a3, a4, a5, a6⟩ := ta_copy (I := I) (o0 + 1 + 1) (o1 + 1 + 1) (by omega)
  obtain ⟨J2, b1, b2, b3, b4, b5, b6, b7, b8⟩ := la_copy (I := J1) (h0 := o0 + 1 + 5) (h1 := o1 + 1 + 5) (by omega)
  have e2 : ∀ c, c < o0 + 2 ∨ o0 + 9 < c → J2 c = I c := fun c hc => by rw [b2 c (by omega), a2 c (by omega)]
  obtain ⟨J3, c1, c2, c3⟩ := frc_n (h0 := o0 + 1) (h1 := o1 + 1) (g := id) (by omega) gLims 0 J2 rfl (by
    intro i n hi
    obtain ⟨k, lim, f1, f0, f2⟩ := hr i n hi
    have hi12 : i < 12 := (List.getElem?_eq_some_iff.mp hi).1
    refine ⟨k, lim, ?_, ?_, f2⟩
    · rw [e2 _ (by omega), show o1 + 1 + 10 + 2 * (0 + i) = o1 + 11 + 2 * i by omega]; exact f1
    · rw [e2 _ (by omega), show o0 + 1 + 10 + 2 * (0 + i) = o0 + 11 + 2 * i by omega]; exact f0)
  refine ⟨J3, ?_, fun c hc => ?_, fun i hi => ?_, ⟨fun j hj => ?_, fun j hj => ?_, fun j hj => ?_, fun j hj => ?_⟩, ⟨?_, fun j hj => ?_, fun j hj => ?_, fun j hj => ?_⟩, fun r hr9 => ⟨?_, fun k ek hk j hj => ?_⟩⟩
  · rw [wo_frc _ _ id, a1, fbd_s, b1, fbd_s]; exact c1
  · rw [c2 c (by omega), e2 c (by omega)]
  · obtain ⟨q1, q2, q3⟩ := c3 i (by omega) hi
    rw [show o0 + 11 + 2 * i = o0 + 1 + 10 + 2 * i by omega, q2 0 (by decide), e2 _ (by omega)]
  · show J3 (o0 + 2) j = I (o1 + 2) j
    rw [c2 _ (by omega), b2 _ (by omega)]; exact a3 j hj
  · show J3 (o0 + 3) j = I (o1 + 3) j
    rw [c2 _ (by omega), b2 _ (by omega)]; exact a4 j hj
  · show J3 (o0 + 4) j = I (o1 + 4) j
    rw [c2 _ (by omega), b2 _ (by omega)]; exact a5 j hj
  · show J3 (o0 + 5) j = I (o1 + 5) j
    rw [c2 _ (by omega), b2 _ (by omega)]; exact a6 j hj
  · show J3 (o0 + 6) 4 = I (o1 + 6) 4
    rw [c2 _ (by omega)]
    refine Eq.trans b4 ?_
    rw [a2 _ (by omega)]
  · show J3 (o0 + 7) j = I (o1 + 7) j
    rw [c2 _ (by omega)]
    refine Eq.trans (b6 j hj) ?_
    rw [a2 _ (by omega)]
  · show J3 (o0 + 8) j = I (o1 + 8) j
    rw [c2 _ (by omega)]
    refine Eq.trans (b7 j hj) ?_
    rw [a2 _ (by omega)]
  · show J3 (o0 + 9) j = I (o1 + 9) j
    rw [c2 _ (by omega)]
    refine Eq.trans (b8 j hj) ?_
    rw [a2 _ (by omega)]
  · obtain ⟨q1, q2, q3⟩ := c3 r (by omega) hr9
    show J3 (o0 + (11 + 2 * r)) 2 = I (o1 + (11 + 2 * r)) 2
    rw [show o0 + (11 + 2 * r) = o0 + 1 + 10 + 2 * r by omega, q1, e2 _ (by omega), show o1 + 1 + 10 + 2 * r = o1 + (11 + 2 * r) by omega]
  · obtain ⟨q1, q2, q3⟩ := c3 r (by omega) hr9
    have ek2 : I (o1 + (11 + 2 * r)) 2 = nI k := ek
    show J3 (o0 + (12 + 2 * r)) j = I (o1 + (12 + 2 * r)) j
    rw [show o0 + (12 + 2 * r) = o0 + 1 + 11 + 2 * r by omega, q3 k (by rw [e2 _ (by omega), show o1 + 1 + 10 + 2 * r = o1 + (11 + 2 * r) by omega]; exact ek2) hk j hj, e2 _ (by omega), show o1 + 1 + 11 + 2 * r = o1 + (12 + 2 * r) by omega]
