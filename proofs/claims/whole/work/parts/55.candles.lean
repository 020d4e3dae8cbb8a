/-! candles. -/
def gre (r : Nat) : Nat → (Nat → Bool) → Nat
  | 0, _ => 0
  | i + 1, lit => if lit i = true then gre r i lit else 2 ^ (i - r) + gre r i (fun j => lit j || decide (j < 12 ∧ i - r ≤ j + r ∧ j ≤ i - r + r))
theorem gre_0 {r : Nat} {lit : Nat → Bool} : gre r 0 lit = 0 := rfl
theorem gre_t {r n : Nat} {lit : Nat → Bool} (h : lit n = true) : gre r (n + 1) lit = gre r n lit := by
  show (if lit n = true then gre r n lit else _) = _
  rw [if_pos h]
theorem gre_f {r n : Nat} {lit : Nat → Bool} (h : ¬ lit n = true) : gre r (n + 1) lit = 2 ^ (n - r) + gre r n (fun j => lit j || decide (j < 12 ∧ n - r ≤ j + r ∧ j ≤ n - r + r)) := by
  show (if lit n = true then gre r n lit else _) = _
  rw [if_neg h]
theorem tb_2p {a x j : Nat} (h : x < 2 ^ a) : (2 ^ a + x).testBit j = true ↔ j = a ∨ x.testBit j = true := by
  by_cases c : j < a
  · rw [Nat.testBit_two_pow_add_gt c]
    exact ⟨Or.inr, fun q => q.elim (fun z => absurd z (by omega)) id⟩
  · by_cases c2 : j = a
    · subst c2
      rw [Nat.testBit_two_pow_add_eq, Nat.testBit_lt_two_pow h]
      exact ⟨fun _ => Or.inl rfl, fun _ => rfl⟩
    · have h1 : 2 ^ a + x < 2 ^ j := by
        have : 2 ^ (a + 1) ≤ 2 ^ j := Nat.pow_le_pow_right (by decide) (by omega)
        have : 2 ^ (a + 1) = 2 ^ a + 2 ^ a := by rw [Nat.pow_succ]; omega
        omega
      have h2 : x < 2 ^ j := by omega
      rw [Nat.testBit_lt_two_pow h1, Nat.testBit_lt_two_pow h2]
      exact ⟨fun q => absurd q (by decide), fun q => q.elim (fun z => absurd z c2) id⟩
theorem gre_lt (r : Nat) : ∀ n lit b, n ≤ 12 → (∀ j, j < n → b ≤ j → lit j = true) → gre r n lit < 2 ^ b := by
  intro n
  induction n with
  | zero => intro lit b _ _; exact Nat.two_pow_pos b
  | succ n ih =>
    intro lit b hn h
    show (if lit n = true then gre r n lit else 2 ^ (n - r) + gre r n (fun j => lit j || decide (j < 12 ∧ n - r ≤ j + r ∧ j ≤ n - r + r))) < 2 ^ b
    by_cases c : lit n = true
    · rw [if_pos c]
      exact ih lit b (by omega) (fun j hj hb => h j (by omega) hb)
    · rw [if_neg c]
      have hb : n < b := Classical.byContradiction fun q => c (h n (by omega) (by omega))
      have h1 := ih (fun j => lit j || decide (j < 12 ∧ n - r ≤ j + r ∧ j ≤ n - r + r)) (n - r) (by omega) (by
        intro j hj hb2
        rw [decide_eq_true (by omega), Bool.or_true])
      have h2 : 2 ^ (n - r + 1) ≤ 2 ^ b := Nat.pow_le_pow_right (by decide) (by omega)
      have h3 : 2 ^ (n - r + 1) = 2 ^ (n - r) + 2 ^ (n - r) := by rw [Nat.pow_succ]; omega
      omega
theorem gre_in (r n : Nat) (lit : Nat → Bool) (hn : n < 12) : gre r n (fun j => lit j || decide (j < 12 ∧ n - r ≤ j + r ∧ j ≤ n - r + r)) < 2 ^ (n - r) :=
  gre_lt r n _ (n - r) (by omega) (fun j hj hb => by rw [decide_eq_true (by omega), Bool.or_true])
theorem gre_cov (r : Nat) : ∀ n lit, n ≤ 12 → ∀ j, j < n → lit j = true ∨ ∃ c, (gre r n lit).testBit c = true ∧ c ≤ j + r ∧ j ≤ c + r := by
  intro n
  induction n with
  | zero => intro lit _ j hj; omega
  | succ n ih =>
    intro lit hn j hj
    show lit j = true ∨ ∃ c, (if lit n = true then gre r n lit else 2 ^ (n - r) + gre r n (fun j => lit j || decide (j < 12 ∧ n - r ≤ j + r ∧ j ≤ n - r + r))).testBit c = true ∧ c ≤ j + r ∧ j ≤ c + r
    by_cases c : lit n = true
    · rw [if_pos c]
      by_cases q : j = n
      · subst q; exact Or.inl c
      · exact ih lit (by omega) j (by omega)
    · rw [if_neg c]
      have hl := gre_in r n lit (by omega)
      by_cases q : j = n
      · subst q
        exact Or.inr ⟨j - r, (tb_2p hl).mpr (Or.inl rfl), by omega, by omega⟩
      · rcases ih (fun j => lit j || decide (j < 12 ∧ n - r ≤ j + r ∧ j ≤ n - r + r)) (by omega) j (by omega) with h | ⟨c2, h1, h2⟩
        · rcases Bool.or_eq_true _ _ |>.mp h with h | h
          · exact Or.inl h
          · have h := of_decide_eq_true h
            exact Or.inr ⟨n - r, (tb_2p hl).mpr (Or.inl rfl), by omega, by omega⟩
        · exact Or.inr ⟨c2, (tb_2p hl).mpr (Or.inr h1), h2⟩
theorem cnt_one {p q : Nat → Bool} {a : Nat} (hq : ∀ j, q j = true ↔ j = a ∨ p j = true) (hp : ¬ p a = true) : ∀ k, cnt q k = cnt p k + (if a < k then 1 else 0) := by
  intro k
  induction k with
  | zero => rw [if_neg (by omega)]; rfl
  | succ k ih =>
    show cnt q k + (if q k = true then 1 else 0) = cnt p k + (if p k = true then 1 else 0) + _
    rw [ih]
    by_cases c : k = a
    · subst c
      rw [if_pos ((hq k).mpr (Or.inl rfl)), if_neg hp, if_neg (by omega), if_pos (by omega)]
    · by_cases d : p k = true
      · rw [if_pos ((hq k).mpr (Or.inr d)), if_pos d]
        by_cases e : a < k
        · rw [if_pos e, if_pos (by omega)]
        · rw [if_neg e, if_neg (by omega)]
      · rw [if_neg (fun z => ((hq k).mp z).elim c d), if_neg d]
        by_cases e : a < k
        · rw [if_pos e, if_pos (by omega)]
        · rw [if_neg e, if_neg (by omega)]
theorem gre_min (r : Nat) : ∀ n lit C, n ≤ 12 → (∀ j, j < n → lit j = false → ∃ c, c < 12 ∧ C.testBit c = true ∧ c ≤ j + r ∧ j ≤ c + r) → popc (gre r n lit) ≤ popc C ∧ gre r n lit ≤ C := by
  intro n
  induction n with
  | zero =>
    intro lit C _ _
    refine ⟨?_, Nat.zero_le _⟩
    exact cnt_mono 12 (fun j _ q => absurd (show (0 : Nat).testBit j = true from q) (by rw [Nat.zero_testBit]; decide))
  | succ n ih =>
    intro lit C hn h
    show popc (if lit n = true then gre r n lit else 2 ^ (n - r) + gre r n (fun j => lit j || decide (j < 12 ∧ n - r ≤ j + r ∧ j ≤ n - r + r))) ≤ popc C ∧ (if lit n = true then gre r n lit else 2 ^ (n - r) + gre r n (fun j => lit j || decide (j < 12 ∧ n - r ≤ j + r ∧ j ≤ n - r + r))) ≤ C
    by_cases c : lit n = true
    · rw [if_pos c]
      exact ih lit C (by omega) (fun j hj => h j (by omega))
    · rw [if_neg c]
      have hl := gre_in r n lit (by omega)
      obtain ⟨e, e1, e2, e3, e4⟩ := h n (by omega) (by cases hq : lit n; rfl; exact absurd hq c)
      have hC : ∀ j, (C % 2 ^ (n - r)).testBit j = true ↔ j < n - r ∧ C.testBit j = true := by
        intro j
        rw [Nat.testBit_mod_two_pow, Bool.and_eq_true, decide_eq_true_eq]
      obtain ⟨i1, i2⟩ := ih (fun j => lit j || decide (j < 12 ∧ n - r ≤ j + r ∧ j ≤ n - r + r)) (C % 2 ^ (n - r)) (by omega) (by
        intro j hj hd
        rw [Bool.or_eq_false_iff] at hd
        obtain ⟨d1, d2⟩ := hd
        have d2 := of_decide_eq_false d2
        obtain ⟨x, x1, x2, x3, x4⟩ := h j (by omega) d1
        exact ⟨x, x1, (hC x).mpr ⟨by omega, x2⟩, x3, x4⟩)
      constructor
      · have p1 : popc (2 ^ (n - r) + gre r n (fun j => lit j || decide (j < 12 ∧ n - r ≤ j + r ∧ j ≤ n - r + r))) = popc (gre r n (fun j => lit j || decide (j < 12 ∧ n - r ≤ j + r ∧ j ≤ n - r + r))) + 1 := by
          unfold popc
          rw [cnt_one (p := fun j => (gre r n (fun j => lit j || decide (j < 12 ∧ n - r ≤ j + r ∧ j ≤ n - r + r))).testBit j) (a := n - r) (fun j => tb_2p hl) (by rw [Nat.testBit_lt_two_pow hl]; decide), if_pos (by omega)]
        have p2 : popc (C % 2 ^ (n - r)) < popc C := cnt_lt 12 (fun j _ q => ((hC j).mp q).2) ⟨e, e1, e2, fun q => by have := ((hC e).mp q).1; omega⟩
        omega
      · have q1 : 2 ^ (n - r) ≤ C := Nat.le_trans (Nat.pow_le_pow_right (by decide) (show n - r ≤ e by omega)) (Nat.ge_two_pow_of_testBit e2)
        have q2 : 1 ≤ C / 2 ^ (n - r) := (Nat.le_div_iff_mul_le (Nat.two_pow_pos _)).mpr (by omega)
        have q3 := Nat.div_add_mod C (2 ^ (n - r))
        have q4 : 2 ^ (n - r) * 1 ≤ 2 ^ (n - r) * (C / 2 ^ (n - r)) := Nat.mul_le_mul_left _ q2
        omega
theorem apart_n {a b : Nat} {I : gb_Mem} (ha : a < 2 ^ 31) (hb : b < 2 ^ 31) : F_Mo_apart (nI a) (nI b) I = nI (a - b + (b - a)) := by
  unfold F_Mo_apart
  by_cases c : a ≤ b
  · rw [if_pos (nI_le c hb), pk_sub c]; congr 1; omega
  · rw [if_neg (nI_ge (by omega) ha), pk_sub (by omega)]; congr 1; omega
theorem lit_1 {I : gb_Mem} {x : Int32} {r s : Nat} (hr : r < 12) (hs : s < 12) : ∀ m o f acc, o + m = 12 → m < f → ∃ v, L_Mo_litBy_15 x (nI r) (nI s) I f acc (nI o) = some v ∧ ∀ j, (tb v j = true ↔ tb acc j = true ∨ (o ≤ j ∧ j < 12 ∧ tb x s = true ∧ s ≤ j + r ∧ j ≤ s + r)) := by
  intro m
  induction m with
  | zero =>
    intro o f acc ho hf
    obtain ⟨f, rfl⟩ : ∃ g, f = g + 1 := ⟨f - 1, by omega⟩
    refine ⟨acc, ?_, fun j => ⟨Or.inl, fun q => q.elim id (fun z => by omega)⟩⟩
    simp only [L_Mo_litBy_15]
    rw [show (12 : Int32) = nI 12 from rfl, if_pos (nI_le (by omega) (by omega))]
  | succ m ih =>
    intro o f acc ho hf
    obtain ⟨f, rfl⟩ : ∃ g, f = g + 1 := ⟨f - 1, by omega⟩
    simp only [L_Mo_litBy_15, J_Mo_litBy_51, flt_d]
    rw [if_neg (show ¬ 12 ≤ nI o from nI_ge (b := 12) (by omega) (by omega)), apart_n (by omega) (by omega), nI_1]
    have no : (¬ (tb x s = true ∧ s ≤ o + r ∧ o ≤ s + r)) → ∃ v, L_Mo_litBy_15 x (nI r) (nI s) I f acc (nI (o + 1)) = some v ∧ ∀ j, (tb v j = true ↔ tb acc j = true ∨ (o ≤ j ∧ j < 12 ∧ tb x s = true ∧ s ≤ j + r ∧ j ≤ s + r)) := by
      intro hn
      obtain ⟨v, g1, g2⟩ := ih (o + 1) f acc (by omega) (by omega)
      refine ⟨v, g1, fun j => ?_⟩
      rw [g2 j]
      constructor
      · rintro (q | ⟨q1, q2⟩)
        · exact Or.inl q
        · exact Or.inr ⟨by omega, q2⟩
      · rintro (q | ⟨q1, q2, q3, q4, q5⟩)
        · exact Or.inl q
        · by_cases e : j = o
          · subst e; exact absurd ⟨q3, q4, q5⟩ hn
          · exact Or.inr ⟨by omega, q2, q3, q4, q5⟩
    by_cases cS : tb x s = true
    · rw [if_neg (fun q => (has_0 (by omega)).mp q cS)]
      by_cases cD : s - o + (o - s) ≤ r
      · rw [if_neg (nI_nlt cD (by omega))]
        obtain ⟨v, g1, g2⟩ := ih (o + 1) f (acc ||| (1 <<< (nI o &&& 31))) (by omega) (by omega)
        refine ⟨v, g1, fun j => ?_⟩
        rw [g2 j, tb_orT, tb_oneT (by omega)]
        constructor
        · rintro ((q | rfl) | ⟨q1, q2⟩)
          · exact Or.inl q
          · exact Or.inr ⟨Nat.le_refl _, by omega, cS, by omega, by omega⟩
          · exact Or.inr ⟨by omega, q2⟩
        · rintro (q | ⟨q1, q2⟩)
          · exact Or.inl (Or.inl q)
          · by_cases e : j = o
            · exact Or.inl (Or.inr e)
            · exact Or.inr ⟨by omega, q2⟩
      · rw [if_pos (nI_lt (by omega) (by omega))]
        exact no (by omega)
    · rw [if_pos ((has_0 (by omega)).mpr cS)]
      exact no (fun q => cS q.1)
theorem lit_2 {I : gb_Mem} {x : Int32} {r : Nat} (hr : r < 12) : ∀ m s f acc, s + m = 12 → m < f → ∃ v, L_Mo_litBy_5 x (nI r) I f acc (nI s) = some v ∧ ∀ j, (tb v j = true ↔ tb acc j = true ∨ (j < 12 ∧ ∃ z, s ≤ z ∧ z < 12 ∧ tb x z = true ∧ z ≤ j + r ∧ j ≤ z + r)) := by
  intro m
  induction m with
  | zero =>
    intro s f acc ho hf
    obtain ⟨f, rfl⟩ : ∃ g, f = g + 1 := ⟨f - 1, by omega⟩
    refine ⟨acc, ?_, fun j => ⟨Or.inl, fun q => q.elim id (fun ⟨_, z, h1, h2, _⟩ => by omega)⟩⟩
    simp only [L_Mo_litBy_5]
    rw [show (12 : Int32) = nI 12 from rfl, if_pos (nI_le (by omega) (by omega))]
  | succ m ih =>
    intro s f acc ho hf
    obtain ⟨f, rfl⟩ : ∃ g, f = g + 1 := ⟨f - 1, by omega⟩
    obtain ⟨u, u1, u2⟩ := lit_1 (I := I) (x := x) hr (show s < 12 by omega) 12 0 5000 acc (by omega) (by omega)
    obtain ⟨v, g1, g2⟩ := ih (s + 1) f u (by omega) (by omega)
    refine ⟨v, ?_, fun j => ?_⟩
    · simp only [L_Mo_litBy_5]
      rw [if_neg (show ¬ 12 ≤ nI s from nI_ge (b := 12) (by omega) (by omega)), show L_Mo_litBy_15 x (nI r) (nI s) I 5000 acc 0 = _ from u1, fbd_s, nI_1]; exact g1
    · rw [g2 j, u2 j]
      constructor
      · rintro ((q | ⟨_, q2, q3⟩) | ⟨q1, z, z1, z2⟩)
        · exact Or.inl q
        · exact Or.inr ⟨q2, s, Nat.le_refl _, by omega, q3⟩
        · exact Or.inr ⟨q1, z, by omega, z2⟩
      · rintro (q | ⟨q1, z, z1, z2, z3⟩)
        · exact Or.inl (Or.inl q)
        · by_cases e : z = s
          · subst e; exact Or.inl (Or.inr ⟨Nat.zero_le _, q1, z3⟩)
          · exact Or.inr ⟨q1, z, by omega, z2, z3⟩
theorem litBy_n {I : gb_Mem} (x : Int32) {r : Nat} (hr : r < 12) : ∃ v, F_Mo_litBy x (nI r) I = some v ∧ ∀ j, (tb v j = true ↔ (j < 12 ∧ ∃ z, z < 12 ∧ tb x z = true ∧ z ≤ j + r ∧ j ≤ z + r)) := by
  obtain ⟨v, g1, g2⟩ := lit_2 (I := I) (x := x) hr 12 0 5000 0 (by omega) (by omega)
  refine ⟨v, ?_, fun j => ?_⟩
  · unfold F_Mo_litBy
    rw [fbd_i]; exact g1
  · rw [g2 j, tb_0]
    constructor
    · rintro (q | ⟨q1, z, _, z2⟩)
      · exact absurd q (by decide)
      · exact ⟨q1, z, z2⟩
    · rintro ⟨q1, z, z2⟩
      exact Or.inr ⟨q1, z, Nat.zero_le _, z2⟩
theorem mc_1 {I : gb_Mem} {x : Int32} {r : Nat} (hr : r < 12) : ∀ m s f acc, s + m = 12 → m < f → ∃ v, L_Se_moreCandles_5 x (nI r) I f acc (nI s) = some v ∧ ∀ j, (tb v j = true ↔ tb acc j = true ∨ (j < 12 ∧ ∃ z, s ≤ z ∧ z < 12 ∧ tb x z = true ∧ z ≤ j + r ∧ j ≤ z + r)) := by
  intro m
  induction m with
  | zero =>
    intro s f acc ho hf
    obtain ⟨f, rfl⟩ : ∃ g, f = g + 1 := ⟨f - 1, by omega⟩
    refine ⟨acc, ?_, fun j => ⟨Or.inl, fun q => q.elim id (fun ⟨_, z, h1, h2, _⟩ => by omega)⟩⟩
    simp only [L_Se_moreCandles_5]
    rw [show (12 : Int32) = nI 12 from rfl, if_pos (nI_le (by omega) (by omega))]
  | succ m ih =>
    intro s f acc ho hf
    obtain ⟨f, rfl⟩ : ∃ g, f = g + 1 := ⟨f - 1, by omega⟩
    obtain ⟨u, u1, u2⟩ := around_n (I := I) (show s < 12 by omega) hr
    simp only [L_Se_moreCandles_5, J_Se_moreCandles_33]
    rw [if_neg (show ¬ 12 ≤ nI s from nI_ge (b := 12) (by omega) (by omega)), u1, fbd_s, nI_1, Int32.or_zero]
    by_cases c : tb x s = true
    · rw [if_pos ((tb_shr (by omega)).mpr c)]
      obtain ⟨v, g1, g2⟩ := ih (s + 1) f (acc ||| u) (by omega) (by omega)
      refine ⟨v, g1, fun j => ?_⟩
      rw [g2 j, tb_orT, u2 j, decide_eq_true_eq]
      constructor
      · rintro ((q | ⟨q2, q3⟩) | ⟨q1, z, z1, z2⟩)
        · exact Or.inl q
        · exact Or.inr ⟨q2, s, Nat.le_refl _, by omega, c, q3⟩
        · exact Or.inr ⟨q1, z, by omega, z2⟩
      · rintro (q | ⟨q1, z, z1, z2, z3, z4⟩)
        · exact Or.inl (Or.inl q)
        · by_cases e : z = s
          · subst e; exact Or.inl (Or.inr ⟨q1, z4⟩)
          · exact Or.inr ⟨q1, z, by omega, z2, z3, z4⟩
    · rw [if_neg (shr0 (by omega) c)]
      obtain ⟨v, g1, g2⟩ := ih (s + 1) f acc (by omega) (by omega)
      refine ⟨v, g1, fun j => ?_⟩
      rw [g2 j]
      constructor
      · rintro (q | ⟨q1, z, z1, z2⟩)
        · exact Or.inl q
        · exact Or.inr ⟨q1, z, by omega, z2⟩
      · rintro (q | ⟨q1, z, z1, z2, z3, z4⟩)
        · exact Or.inl q
        · by_cases e : z = s
          · subst e; exact absurd z3 c
          · exact Or.inr ⟨q1, z, by omega, z2, z3, z4⟩
theorem shr_z {x : Int32} {k : Nat} (hk : k < 32) : ((x >>> (nI k &&& 31)) &&& 1) = 0 ↔ ¬ tb x k = true := by
  rw [← tb_shr hk]
  obtain ⟨j, hj, ej⟩ := pk_andE (x >>> (nI k &&& 31)) (m := 1) 1 (by decide)
  rw [ej]
  have : j = 0 ∨ j = 1 := by omega
  rcases this with rfl | rfl
  · exact ⟨fun _ => by decide, fun _ => rfl⟩
  · exact ⟨fun q => absurd q (by decide), fun q => absurd rfl q⟩
theorem neg1_lt : (-1 : Int32) < 0 := Int32.lt_iff_toInt_lt.mpr (by rw [show (-1 : Int32).toInt = -1 from rfl, show (0 : Int32).toInt = 0 from rfl]; omega)
theorem mc_2 {I : gb_Mem} {r : Nat} (hr : r < 12) : ∀ n f x3 x4 x5, x5 = nI n + (-1) → n ≤ 12 → n < f → ∃ v, L_Se_moreCandles_48 (nI r) I f x3 x4 x5 = some v ∧ ∀ j, (tb v j = true ↔ tb x4 j = true ∨ (gre r n (tb x3)).testBit j = true) := by
  intro n
  induction n with
  | zero =>
    intro f x3 x4 x5 hx _ hf
    obtain ⟨f, rfl⟩ : ∃ g, f = g + 1 := ⟨f - 1, by omega⟩
    rw [nI_0, Int32.zero_add] at hx
    subst hx
    refine ⟨x4, ?_, fun j => ?_⟩
    · simp only [L_Se_moreCandles_48]
      rw [if_pos neg1_lt]
    · rw [gre_0, Nat.zero_testBit]
      exact ⟨Or.inl, fun q => q.elim id (fun z => absurd z (by decide))⟩
  | succ n ih =>
    intro f x3 x4 x5 hx hn hf
    rw [pk_m1] at hx
    subst hx
    obtain ⟨f, rfl⟩ : ∃ g, f = g + 1 := ⟨f - 1, by omega⟩
    simp only [L_Se_moreCandles_48, J_Se_moreCandles_90, flt_d]
    rw [if_neg (nI_pos (by omega))]
    by_cases c : tb x3 n = true
    · rw [if_neg (fun q => (shr_z (by omega)).mp q c)]
      obtain ⟨v, g1, g2⟩ := ih f x3 x4 _ rfl (by omega) (by omega)
      refine ⟨v, g1, fun j => ?_⟩
      rw [gre_t c]; exact g2 j
    · rw [if_pos ((shr_z (by omega)).mpr c), mx_sub (by omega) (by omega)]
      obtain ⟨u, u1, u2⟩ := around_n (I := I) (show n - r < 12 by omega) hr
      rw [u1, fbd_s]
      obtain ⟨v, g1, g2⟩ := ih f (x3 ||| u) (x4 ||| (1 <<< (nI (n - r) &&& 31))) _ rfl (by omega) (by omega)
      refine ⟨v, g1, fun j => ?_⟩
      have e : tb (x3 ||| u) = fun j => tb x3 j || decide (j < 12 ∧ n - r ≤ j + r ∧ j ≤ n - r + r) := by
        funext j
        rw [tb_or, u2 j]
      rw [gre_f c, g2 j, e, tb_2p (gre_in r n (tb x3) (by omega)), tb_orT, tb_oneT (by omega), or_assoc]
theorem popc_12e : ∀ a, a < 64 → ∀ b, b < 64 → popc (64 * a + b) = 12 → 64 * a + b = 4095 := by decide +kernel
theorem popc_12 {n : Nat} (h : n < 4096) (h2 : 12 ≤ popc n) : n = 4095 := by
  have h3 := popc_le n
  have := popc_12e (n / 64) (by omega) (n % 64) (by omega)
  rw [Nat.div_add_mod] at this
  exact this (by omega)
theorem ca_l {I1 : gb_Mem} {r G : Nat} {x3 lit : Int32} (hr : r < 12) (hl : ∀ j, 12 ≤ j → ¬ tb lit j = true) (hG : G < 4096) (hc : ∀ j, j < 12 → tb lit j = true ∨ ∃ c, c < 12 ∧ G.testBit c = true ∧ c ≤ j + r ∧ j ≤ c + r)
    (hm : ∀ C, C < 4096 → (∀ j, j < 12 → tb lit j = true ∨ ∃ c, c < 12 ∧ C.testBit c = true ∧ c ≤ j + r ∧ j ≤ c + r) → popc G ≤ popc C ∧ G ≤ C) : ∀ m x f best, x + m = 4096 → m < f → (best = if x ≤ G then 4095 else G) → L_Mo_candles_56 (nI r) x3 lit I1 f (nI best) (nI x) = some (nI G) := by
  intro m
  induction m with
  | zero =>
    intro x f best hx hf hb
    obtain ⟨f, rfl⟩ : ∃ g, f = g + 1 := ⟨f - 1, by omega⟩
    rw [if_neg (by omega)] at hb
    simp only [L_Mo_candles_56]
    rw [show (4096 : Int32) = nI 4096 from rfl, if_pos (nI_le (by omega) (by omega)), hb]
  | succ m ih =>
    intro x f best hx hf hb
    obtain ⟨f, rfl⟩ : ∃ g, f = g + 1 := ⟨f - 1, by omega⟩
    have hbl : best < 4096 := by rw [hb]; split <;> omega
    have p1 := popc_le x
    have p2 := popc_le best
    simp only [L_Mo_candles_56, J_Mo_candles_99]
    rw [if_neg (show ¬ 4096 ≤ nI x from nI_ge (b := 4096) (by omega) (by omega)), ones_n (by omega), ones_n hbl, fbd_s, fbd_s, nI_1]
    by_cases c : popc best ≤ popc x
    · rw [if_pos (nI_le c (by omega))]
      refine ih (x + 1) f best (by omega) (by omega) ?_
      rw [hb]
      by_cases d : x + 1 ≤ G
      · rw [if_pos (by omega), if_pos d]
      · rw [if_neg d]
        by_cases e : x ≤ G
        · rw [if_pos e] at hb ⊢
          have : x = G := by omega
          subst this
          rw [hb] at c
          have h12 : popc 4095 = 12 := by decide +kernel
          exact (popc_12 (by omega) (by omega)).symm
        · rw [if_neg e]
    · rw [if_neg (nI_ge (by omega) (by omega))]
      obtain ⟨v, v1, v2⟩ := litBy_n (I := I1) (nI x) hr
      rw [v1, fbd_s]
      have cov : (lit ||| v) = 4095 ↔ ∀ j, j < 12 → tb lit j = true ∨ ∃ c, c < 12 ∧ x.testBit c = true ∧ c ≤ j + r ∧ j ≤ c + r := by
        have vz : ∀ j, (tb v j = true ↔ (j < 12 ∧ ∃ z, z < 12 ∧ x.testBit z = true ∧ z ≤ j + r ∧ j ≤ z + r)) := by
          intro j
          rw [v2 j]
          constructor
          · rintro ⟨q1, z, z1, z2, z3⟩
            rw [tb_nI z (by omega)] at z2
            exact ⟨q1, z, z1, z2, z3⟩
          · rintro ⟨q1, z, z1, z2, z3⟩
            exact ⟨q1, z, z1, by rw [tb_nI z (by omega)]; exact z2, z3⟩
        constructor
        · intro q j hj
          have : tb (lit ||| v) j = true := by rw [q, tb_4095]; exact decide_eq_true hj
          rcases tb_orT.mp this with h | h
          · exact Or.inl h
          · exact Or.inr ((vz j).mp h).2
        · intro q
          refine tb_extT (fun j _ => ?_)
          rw [tb_orT, tb_4095, decide_eq_true_eq]
          constructor
          · rintro (h | h)
            · exact Classical.byContradiction fun z => hl j (by omega) h
            · exact ((vz j).mp h).1
          · intro hj
            rcases q j hj with h | h
            · exact Or.inl h
            · exact Or.inr ((vz j).mpr ⟨hj, h⟩)
      by_cases d : (lit ||| v) = 4095
      · rw [if_pos d]
        obtain ⟨m1, m2⟩ := hm x (by omega) (cov.mp d)
        have : x = G := by
          refine Classical.byContradiction fun q => ?_
          rw [if_neg (by omega)] at hb
          subst hb
          exact c m1
        subst this
        exact ih (x + 1) f x (by omega) (by omega) (by rw [if_neg (by omega)])
      · rw [if_neg d]
        have xG : x ≠ G := fun q => d (cov.mpr (q ▸ hc))
        refine ih (x + 1) f best (by omega) (by omega) ?_
        rw [hb]
        by_cases e : x ≤ G
        · rw [if_pos e, if_pos (by omega)]
        · rw [if_neg e, if_neg (by omega)]
theorem sim_candles : S_candles GInv := by
  intro x1 x2 x3 IX IM h
  have h9 := ginv_told (v := 0) h
  generalize hI : mw IM 0 0 0 = I1 at h9
  obtain ⟨hT, hR, hBk, hLw, hVo, hDi, hRe, hNe, hFa, hCo, hFl, hGi, hSp, hRp, hJa⟩ := h9.2.2.1
  simp only [F_Mo_candles, fstf_d, hI, isIn_within _ _ _ I1 IX, F_Gb_candles]
  by_cases c1 : F_Gb_within x1 0 4095 IX = 0
  · exact ⟨-1, IX, I1, ⟨by rw [if_pos c1], rfl⟩, by rw [if_pos c1], h9⟩
  rw [if_neg c1, if_neg c1]
  by_cases c2 : F_Gb_within x2 0 11 IX = 0
  · exact ⟨-1, IX, I1, ⟨by rw [if_pos c2], rfl⟩, by rw [if_pos c2], h9⟩
  rw [if_neg c2, if_neg c2]
  by_cases c3 : F_Gb_within x3 0 1 IX = 0
  · exact ⟨-1, IX, I1, ⟨by rw [if_pos c3], rfl⟩, by rw [if_pos c3], h9⟩
  rw [if_neg c3, if_neg c3]
  obtain ⟨r, rfl, -, hr⟩ := wi_rng 0 11 c2 rfl rfl (by decide) (by decide)
  obtain ⟨lM, m1, m2⟩ := litBy_n (I := I1) x1 (show r < 12 by omega)
  obtain ⟨lX, n1, n2⟩ := mc_1 (I := IX) (x := x1) (show r < 12 by omega) 12 0 5000 0 (by omega) (by omega)
  have el : lX = lM := by
    refine tb_extT (fun j _ => ?_)
    rw [n2 j, m2 j, tb_0]
    constructor
    · rintro (q | ⟨q1, z, _, z2⟩)
      · exact absurd q (by decide)
      · exact ⟨q1, z, z2⟩
    · rintro ⟨q1, z, z2⟩
      exact Or.inr ⟨q1, z, Nat.zero_le _, z2⟩
  subst el
  have hG : gre r 12 (tb lX) < 4096 := gre_lt r 12 (tb lX) 12 (Nat.le_refl _) (fun j h1 h2 => by omega)
  obtain ⟨v, v1, v2⟩ := mc_2 (I := IX) (show r < 12 by omega) 12 5000 lX 0 11 (pk_m1 11).symm (Nat.le_refl _) (by omega)
  have ev : v = nI (gre r 12 (tb lX)) := by
    refine tb_extT (fun j _ => ?_)
    rw [v2 j, tb_0, tb_nI j (by omega)]
    exact ⟨fun q => q.elim (fun z => absurd z (by decide)) id, Or.inr⟩
  have bit12 : ∀ C c, C < 4096 → C.testBit c = true → c < 12 := by
    intro C c hC q
    refine Classical.byContradiction fun z => ?_
    rw [Nat.testBit_lt_two_pow (Nat.lt_of_lt_of_le hC (Nat.pow_le_pow_right (i := 12) (j := c) (show 2 > 0 by decide) (by omega)))] at q
    exact absurd q (by decide)
  have hM := ca_l (I1 := I1) (x3 := x3) (show r < 12 by omega) (fun j hj q => by have := ((m2 j).mp q).1; omega) hG
    (fun j hj => (gre_cov r 12 (tb lX) (Nat.le_refl _) j hj).elim Or.inl (fun ⟨c, q1, q2⟩ => Or.inr ⟨c, bit12 _ c hG q1, q1, q2⟩))
    (fun C hC q => gre_min r 12 (tb lX) C (Nat.le_refl _) (fun j hj z => (q j hj).elim (fun z2 => absurd z2 (by rw [z]; decide)) id)) 4096 0 5000 4095 (by omega) (by omega) (by rw [if_pos (Nat.zero_le _)])
  have hX : F_Se_moreCandles x1 (nI r) IX = some (nI (gre r 12 (tb lX))) := by
    unfold F_Se_moreCandles
    rw [show L_Se_moreCandles_5 x1 (nI r) IX 5000 0 0 = _ from n1, fbd_s, show L_Se_moreCandles_48 (nI r) IX 5000 lX 0 11 = _ from v1, fbd_s, ev]
  rw [hX, m1, fbd_s, fbd_s, show L_Mo_candles_56 (nI r) x3 lX I1 5000 4095 0 = _ from hM, fbd_s, ones_n hG, fbd_s, bitc_n hG]
  by_cases c : x3 = 0
  · exact ⟨_, IX, I1, ⟨by rw [if_pos c], rfl⟩, by rw [if_pos c], h9⟩
  · exact ⟨_, IX, I1, ⟨by rw [if_neg c], rfl⟩, by rw [if_neg c], h9⟩
