/-! both. -/
def lcsR (ei : Nat → Bool) (p : Nat → Nat) : Nat → Nat
  | 0 => 0
  | j + 1 => if ei j = true then p j + 1 else max (p (j + 1)) (lcsR ei p j)
def lcs (e : Nat → Nat → Bool) : Nat → Nat → Nat
  | 0 => fun _ => 0
  | i + 1 => lcsR (e i) (lcs e i)
def chR (ei : Nat → Bool) (p : Nat → Nat) (i1 : Nat) : Nat → Nat
  | 0 => i1
  | j + 1 => min (p j + (if ei j = true then 0 else 1)) (min (p (j + 1)) (chR ei p i1 j) + 1)
def chg (e : Nat → Nat → Bool) : Nat → Nat → Nat
  | 0 => fun j => j
  | i + 1 => chR (e i) (chg e i) (i + 1)
theorem lcs_le (e : Nat → Nat → Bool) : ∀ i j, lcs e i j ≤ i := by
  intro i
  induction i with
  | zero => intro j; exact Nat.le_refl _
  | succ i ih =>
    intro j
    show lcsR (e i) (lcs e i) j ≤ i + 1
    induction j with
    | zero => exact Nat.zero_le _
    | succ j jh =>
      show (if e i j = true then lcs e i j + 1 else max (lcs e i (j + 1)) (lcsR (e i) (lcs e i) j)) ≤ i + 1
      have h1 := ih j
      have h2 := ih (j + 1)
      split <;> omega
theorem chg_le (e : Nat → Nat → Bool) : ∀ i j, chg e i j ≤ i + j := by
  intro i
  induction i with
  | zero => intro j; exact Nat.le_of_eq (Nat.zero_add j).symm
  | succ i ih =>
    intro j
    show chR (e i) (chg e i) (i + 1) j ≤ i + 1 + j
    induction j with
    | zero => exact Nat.le_refl _
    | succ j jh =>
      show min (chg e i j + (if e i j = true then 0 else 1)) (min (chg e i (j + 1)) (chR (e i) (chg e i) (i + 1) j) + 1) ≤ i + 1 + (j + 1)
      have h1 := ih j
      split <;> omega
def gOK (f : Nat → Nat → Nat) (g : Nat → Int32) (b i j : Nat) : Prop := ∀ i2 j2, j2 ≤ b → (i2 < i ∨ (i2 = i ∧ j2 < j)) → g (13 * i2 + j2) = nI (f i2 j2)
theorem gOK.put {f : Nat → Nat → Nat} {g : Nat → Int32} {b i j : Nat} {v : Int32} (h : gOK f g b i j) (hj : j ≤ b) (hb : b ≤ 12) (hv : v = nI (f i j)) : gOK f (upd g (13 * i + j) v) b i (j + 1) := by
  intro i2 j2 h1 h2
  rw [upd_ap]
  by_cases c : i2 = i ∧ j2 = j
  · obtain ⟨rfl, rfl⟩ := c
    rw [if_pos rfl]; exact hv
  · rw [if_neg (by omega)]
    exact h i2 j2 h1 (by omega)
theorem gOK.next {f : Nat → Nat → Nat} {g : Nat → Int32} {b i : Nat} (h : gOK f g b i (b + 1)) : gOK f g b (i + 1) 0 := fun i2 j2 h1 h2 => h i2 j2 h1 (by omega)
theorem grid_n {i j : Nat} {I : gb_Mem} (hi : i ≤ 12) (hj : j ≤ 12) : F_Re_gridAt (nI i) (nI j) I = some (I 107 (13 * i + j)) := by
  unfold F_Re_gridAt
  rw [show (12 : Int32) = nI 12 from rfl, show (0 : Int32) = nI 0 from rfl, show (13 : Int32) = nI 13 from rfl, within_n (by omega) hi (by decide), within_n (by omega) hj (by decide), if_neg (by decide), if_neg (by decide), pk_mul, nI_add, flod_n (by omega) (by decide), Nat.mul_comm i 13]
theorem put_n {i j : Nat} {I : gb_Mem} {v : Int32} (hi : i ≤ 12) (hj : j ≤ 12) : F_Re_putGrid (nI i) (nI j) v I = some (mw I 107 (13 * i + j) v) := by
  unfold F_Re_putGrid
  rw [show (12 : Int32) = nI 12 from rfl, show (0 : Int32) = nI 0 from rfl, show (13 : Int32) = nI 13 from rfl, within_n (by omega) hi (by decide), within_n (by omega) hj (by decide), if_neg (by decide), if_neg (by decide), pk_mul, nI_add, fsto_n (by omega) (by decide), Nat.mul_comm i 13]
def eqW (I0 : gb_Mem) (i j : Nat) : Bool := decide (I0 20 (4 * i) = I0 22 (4 * j))
theorem ib_1 {I0 : gb_Mem} {a b i : Nat} (ha : a ≤ 12) (hb : b ≤ 12) (hi : i ≤ a) (eA : I0 19 2 = nI a) (eB : I0 21 2 = nI b) : ∀ m j f (I : gb_Mem), j + m = b + 1 → m < f → (∀ c, c ≠ 107 → I c = I0 c) → gOK (lcs (eqW I0)) (I 107) b i j →
    ∃ J, L_Re_inBoth_19 19 48 21 48 (nI i) f (nI j) I = some J ∧ (∀ c, c ≠ 107 → J c = I0 c) ∧ gOK (lcs (eqW I0)) (J 107) b i (b + 1) := by
  intro m
  induction m with
  | zero =>
    intro j f I hj hf hI hg
    obtain ⟨f, rfl⟩ : ∃ g, f = g + 1 := ⟨f - 1, by omega⟩
    have : j = b + 1 := by omega
    subst this
    refine ⟨I, ?_, hI, hg⟩
    simp only [L_Re_inBoth_19]
    rw [hI 21 (by decide), eB, if_pos (nI_lt (by omega) (by omega))]
  | succ m ih =>
    intro j f I hj hf hI hg
    obtain ⟨f, rfl⟩ : ∃ g, f = g + 1 := ⟨f - 1, by omega⟩
    have key : ∀ v, v = nI (lcs (eqW I0) i j) → ∃ J, (fbd (F_Re_putGrid (nI i) (nI j) v I) fun I1 => L_Re_inBoth_19 19 48 21 48 (nI i) f (nI j + 1) I1) = some J ∧ (∀ c, c ≠ 107 → J c = I0 c) ∧ gOK (lcs (eqW I0)) (J 107) b i (b + 1) := by
      intro v hv
      rw [put_n (by omega) (by omega), fbd_s, nI_1]
      exact ih (j + 1) f _ (by omega) (by omega) (fun c hc => by rw [mw_ne hc, hI c hc]) (by rw [mw_eq]; exact hg.put (by omega) hb hv)
    simp only [L_Re_inBoth_19, J_Re_inBoth_44, J_Re_inBoth_69, J_Re_inBoth_115]
    rw [hI 21 (by decide), eB, if_neg (nI_nlt (by omega) (by omega)), if_neg (show ¬ 12 < nI j from nI_nlt (b := j) (a := 12) (by omega) (by decide))]
    cases i with
    | zero =>
      rw [if_pos (show nI 0 = 0 from rfl), if_pos (show nI 0 ≤ 0 by decide)]
      exact key 0 rfl
    | succ i =>
      have pi : ¬ nI (i + 1) ≤ 0 := nI_nle (by omega) (by omega)
      have zi : ¬ nI (i + 1) = 0 := nI_ne0 (by omega) (by omega)
      simp only [if_neg pi, if_neg zi]
      cases j with
      | zero =>
        simp only [if_pos (show nI 0 = 0 from rfl), if_pos (show nI 0 ≤ 0 by decide)]
        exact key 0 rfl
      | succ j =>
        have pj : ¬ nI (j + 1) ≤ 0 := nI_nle (by omega) (by omega)
        have zj : ¬ nI (j + 1) = 0 := nI_ne0 (by omega) (by omega)
        have cA : F_Ro_cell 19 48 (nI i) 0 I = some (I0 20 (4 * i)) := by rw [cell_n0 (k := a) (by rw [hI 19 (by decide)]; exact eA) (by omega) (by omega) (by decide), hI (19 + 1) (by decide)]
        have cB : F_Ro_cell 21 48 (nI j) 0 I = some (I0 22 (4 * j)) := by rw [cell_n0 (k := b) (by rw [hI 21 (by decide)]; exact eB) (by omega) (by omega) (by decide), hI (21 + 1) (by decide)]
        simp only [if_neg pj, if_neg zj, nI_pred, grid_n (show i ≤ 12 by omega) (show j + 1 ≤ 12 by omega), grid_n (show i + 1 ≤ 12 by omega) (show j ≤ 12 by omega), grid_n (show i ≤ 12 by omega) (show j ≤ 12 by omega), fbd_s, cA, cB, hg i (j + 1) (by omega) (by omega), hg (i + 1) j (by omega) (by omega), hg i j (by omega) (by omega)]
        have q1 := lcs_le (eqW I0) i (j + 1)
        have q2 := lcs_le (eqW I0) (i + 1) j
        have q3 := lcs_le (eqW I0) i j
        by_cases c : I0 20 (4 * i) = I0 22 (4 * j)
        · have ec : eqW I0 i j = true := decide_eq_true c
          rw [if_pos c]
          refine key _ ?_
          rw [nI_1]
          show _ = nI (if eqW I0 i j = true then _ else _)
          rw [if_pos ec]
        · have ec : ¬ eqW I0 i j = true := by unfold eqW; rw [decide_eq_false c]; decide
          rw [if_neg c, mx_n (by omega) (by omega)]
          refine key _ ?_
          show _ = nI (if eqW I0 i j = true then _ else _)
          rw [if_neg ec]
          rfl
theorem ib_2 {I0 : gb_Mem} {a b : Nat} (ha : a ≤ 12) (hb : b ≤ 12) (eA : I0 19 2 = nI a) (eB : I0 21 2 = nI b) : ∀ m i f (I : gb_Mem), i + m = a + 1 → m < f → (∀ c, c ≠ 107 → I c = I0 c) → gOK (lcs (eqW I0)) (I 107) b i 0 →
    ∃ J, L_Re_inBoth_2 19 48 21 48 f (nI i) I = some J ∧ (∀ c, c ≠ 107 → J c = I0 c) ∧ gOK (lcs (eqW I0)) (J 107) b (a + 1) 0 := by
  intro m
  induction m with
  | zero =>
    intro i f I hj hf hI hg
    obtain ⟨f, rfl⟩ : ∃ g, f = g + 1 := ⟨f - 1, by omega⟩
    have : i = a + 1 := by omega
    subst this
    refine ⟨I, ?_, hI, hg⟩
    simp only [L_Re_inBoth_2]
    rw [hI 19 (by decide), eA, if_pos (nI_lt (by omega) (by omega))]
  | succ m ih =>
    intro i f I hj hf hI hg
    obtain ⟨f, rfl⟩ : ∃ g, f = g + 1 := ⟨f - 1, by omega⟩
    obtain ⟨J, g1, g2, g3⟩ := ib_1 ha hb (show i ≤ a by omega) eA eB (b + 1) 0 5000 I (by omega) (by omega) hI hg
    simp only [L_Re_inBoth_2, J_Re_inBoth_130]
    rw [hI 19 (by decide), eA, if_neg (nI_nlt (by omega) (by omega)), if_neg (show ¬ 12 < nI i from nI_nlt (b := i) (a := 12) (by omega) (by decide)), show L_Re_inBoth_19 19 48 21 48 (nI i) 5000 0 I = _ from g1, fbd_s, nI_1]
    exact ih (i + 1) f J (by omega) (by omega) g2 g3.next
theorem cb_1 {I0 : gb_Mem} {a b i : Nat} (ha : a ≤ 12) (hb : b ≤ 12) (hi : i ≤ a) (eA : I0 19 2 = nI a) (eB : I0 21 2 = nI b) : ∀ m j f (I : gb_Mem), j + m = b + 1 → m < f → (∀ c, c ≠ 107 → I c = I0 c) → gOK (chg (eqW I0)) (I 107) b i j →
    ∃ J, L_Re_changesBetween_19 19 48 21 48 (nI i) f (nI j) I = some J ∧ (∀ c, c ≠ 107 → J c = I0 c) ∧ gOK (chg (eqW I0)) (J 107) b i (b + 1) := by
  intro m
  induction m with
  | zero =>
    intro j f I hj hf hI hg
    obtain ⟨f, rfl⟩ : ∃ g, f = g + 1 := ⟨f - 1, by omega⟩
    have : j = b + 1 := by omega
    subst this
    refine ⟨I, ?_, hI, hg⟩
    simp only [L_Re_changesBetween_19]
    rw [hI 21 (by decide), eB, if_pos (nI_lt (by omega) (by omega))]
  | succ m ih =>
    intro j f I hj hf hI hg
    obtain ⟨f, rfl⟩ : ∃ g, f = g + 1 := ⟨f - 1, by omega⟩
    have key : ∀ v, v = nI (chg (eqW I0) i j) → ∃ J, (fbd (F_Re_putGrid (nI i) (nI j) v I) fun I1 => L_Re_changesBetween_19 19 48 21 48 (nI i) f (nI j + 1) I1) = some J ∧ (∀ c, c ≠ 107 → J c = I0 c) ∧ gOK (chg (eqW I0)) (J 107) b i (b + 1) := by
      intro v hv
      rw [put_n (by omega) (by omega), fbd_s, nI_1]
      exact ih (j + 1) f _ (by omega) (by omega) (fun c hc => by rw [mw_ne hc, hI c hc]) (by rw [mw_eq]; exact hg.put (by omega) hb hv)
    simp only [L_Re_changesBetween_19, J_Re_changesBetween_75, J_Re_changesBetween_123, flt_d]
    rw [hI 21 (by decide), eB, if_neg (nI_nlt (by omega) (by omega)), if_neg (show ¬ 12 < nI j from nI_nlt (b := j) (a := 12) (by omega) (by decide))]
    cases i with
    | zero =>
      rw [if_pos (show nI 0 ≤ 0 by decide)]
      refine key _ ?_
      rw [nI_add, Nat.zero_add]; rfl
    | succ i =>
      have pi : ¬ nI (i + 1) ≤ 0 := nI_nle (by omega) (by omega)
      simp only [if_neg pi]
      cases j with
      | zero =>
        simp only [if_pos (show nI 0 ≤ 0 by decide)]
        refine key _ ?_
        rw [nI_add]; rfl
      | succ j =>
        have pj : ¬ nI (j + 1) ≤ 0 := nI_nle (by omega) (by omega)
        have cA : F_Ro_cell 19 48 (nI i) 0 I = some (I0 20 (4 * i)) := by rw [cell_n0 (k := a) (by rw [hI 19 (by decide)]; exact eA) (by omega) (by omega) (by decide), hI (19 + 1) (by decide)]
        have cB : F_Ro_cell 21 48 (nI j) 0 I = some (I0 22 (4 * j)) := by rw [cell_n0 (k := b) (by rw [hI 21 (by decide)]; exact eB) (by omega) (by omega) (by decide), hI (21 + 1) (by decide)]
        have q1 := chg_le (eqW I0) i (j + 1)
        have q2 := chg_le (eqW I0) (i + 1) j
        have q3 := chg_le (eqW I0) i j
        simp only [if_neg pj, nI_pred, grid_n (show i ≤ 12 by omega) (show j + 1 ≤ 12 by omega), grid_n (show i + 1 ≤ 12 by omega) (show j ≤ 12 by omega), grid_n (show i ≤ 12 by omega) (show j ≤ 12 by omega), fbd_s, cA, cB, hg i (j + 1) (by omega) (by omega), hg (i + 1) j (by omega) (by omega), hg i j (by omega) (by omega), mn_n (show chg (eqW I0) i (j + 1) < 2 ^ 31 by omega) (show chg (eqW I0) (i + 1) j < 2 ^ 31 by omega), nI_z]
        simp only [nI_1 (min (chg (eqW I0) i (j + 1)) (chg (eqW I0) (i + 1) j)), nI_1 (chg (eqW I0) i j)]
        by_cases c : I0 20 (4 * i) = I0 22 (4 * j)
        · have ec : eqW I0 i j = true := decide_eq_true c
          rw [if_pos c, mn_n (by omega) (by omega), Nat.min_comm]
          refine key _ ?_
          show _ = nI (min (_ + (if eqW I0 i j = true then 0 else 1)) _)
          rw [if_pos ec]
          rfl
        · have ec : ¬ eqW I0 i j = true := by unfold eqW; rw [decide_eq_false c]; decide
          rw [if_neg c, mn_n (by omega) (by omega), Nat.min_comm]
          refine key _ ?_
          show _ = nI (min (_ + (if eqW I0 i j = true then 0 else 1)) _)
          rw [if_neg ec]
          rfl
theorem cb_2 {I0 : gb_Mem} {a b : Nat} (ha : a ≤ 12) (hb : b ≤ 12) (eA : I0 19 2 = nI a) (eB : I0 21 2 = nI b) : ∀ m i f (I : gb_Mem), i + m = a + 1 → m < f → (∀ c, c ≠ 107 → I c = I0 c) → gOK (chg (eqW I0)) (I 107) b i 0 →
    ∃ J, L_Re_changesBetween_2 19 48 21 48 f (nI i) I = some J ∧ (∀ c, c ≠ 107 → J c = I0 c) ∧ gOK (chg (eqW I0)) (J 107) b (a + 1) 0 := by
  intro m
  induction m with
  | zero =>
    intro i f I hj hf hI hg
    obtain ⟨f, rfl⟩ : ∃ g, f = g + 1 := ⟨f - 1, by omega⟩
    have : i = a + 1 := by omega
    subst this
    refine ⟨I, ?_, hI, hg⟩
    simp only [L_Re_changesBetween_2]
    rw [hI 19 (by decide), eA, if_pos (nI_lt (by omega) (by omega))]
  | succ m ih =>
    intro i f I hj hf hI hg
    obtain ⟨f, rfl⟩ : ∃ g, f = g + 1 := ⟨f - 1, by omega⟩
    obtain ⟨J, g1, g2, g3⟩ := cb_1 ha hb (show i ≤ a by omega) eA eB (b + 1) 0 5000 I (by omega) (by omega) hI hg
    simp only [L_Re_changesBetween_2, J_Re_changesBetween_138]
    rw [hI 19 (by decide), eA, if_neg (nI_nlt (by omega) (by omega)), if_neg (show ¬ 12 < nI i from nI_nlt (b := i) (a := 12) (by omega) (by decide)), show L_Re_changesBetween_19 19 48 21 48 (nI i) 5000 0 I = _ from g1, fbd_s, nI_1]
    exact ih (i + 1) f J (by omega) (by omega) g2 g3.next
theorem fb_1 {M0 : gb_Mem} {e : Nat → Nat → Bool} {a b i : Nat} (ha : a ≤ 12) (hb : b ≤ 12) (hi : i ≤ a) (eB : M0 26 1 = nI b) (he : ∀ i j, i < a → j < b → e i j = decide (M0 27 i = M0 27 (12 + j))) : ∀ m j f (I : gb_Mem), j + m = b + 1 → m < f → (∀ c, c ≠ 28 → c ≠ 29 → I c = M0 c) → gOK (lcs e) (I 28) b i j → gOK (chg e) (I 29) b i j →
    ∃ J, L_Mo_findsBoth_14 (nI i) f (nI j) I = some J ∧ (∀ c, c ≠ 28 → c ≠ 29 → J c = M0 c) ∧ gOK (lcs e) (J 28) b i (b + 1) ∧ gOK (chg e) (J 29) b i (b + 1) := by
  intro m
  induction m with
  | zero =>
    intro j f I hj hf hI hg hh
    obtain ⟨f, rfl⟩ : ∃ g, f = g + 1 := ⟨f - 1, by omega⟩
    have : j = b + 1 := by omega
    subst this
    refine ⟨I, ?_, hI, hg, hh⟩
    simp only [L_Mo_findsBoth_14]
    rw [hI 26 (by decide) (by decide), eB, if_pos (nI_lt (by omega) (by omega))]
  | succ m ih =>
    intro j f I hj hf hI hg hh
    obtain ⟨f, rfl⟩ : ∃ g, f = g + 1 := ⟨f - 1, by omega⟩
    have key : ∀ v w, v = nI (lcs e i j) → w = nI (chg e i j) → ∃ J, L_Mo_findsBoth_14 (nI i) f (nI j + 1) (mw (mw I 28 (13 * i + j) v) 29 (13 * i + j) w) = some J ∧ (∀ c, c ≠ 28 → c ≠ 29 → J c = M0 c) ∧ gOK (lcs e) (J 28) b i (b + 1) ∧ gOK (chg e) (J 29) b i (b + 1) := by
      intro v w hv hw
      rw [nI_1]
      exact ih (j + 1) f _ (by omega) (by omega) (fun c hc hd => by rw [mw_ne hd, mw_ne hc, hI c hc hd]) (by rw [mw_ne (by decide), mw_eq]; exact hg.put (by omega) hb hv) (by rw [mw_eq, mw_ne (by decide)]; exact hh.put (by omega) hb hw)
    simp only [L_Mo_findsBoth_14, J_Mo_findsBoth_39, J_Mo_findsBoth_186, J_Mo_findsBoth_85, J_Mo_findsBoth_132, J_Mo_findsBoth_158]
    rw [hI 26 (by decide) (by decide), eB, if_neg (nI_nlt (by omega) (by omega)), show (13 : Int32) * nI i + nI j = nI (13 * i + j) by rw [show (13 : Int32) = nI 13 from rfl, pk_mul, nI_add]]
    cases i with
    | zero =>
      rw [if_pos (show nI 0 = 0 from rfl), fsto_n (by omega) (by decide), fsto_n (by omega) (by decide)]
      refine key _ _ rfl ?_
      rw [nI_add, Nat.zero_add]; rfl
    | succ i =>
      rw [if_neg (nI_ne0 (by omega) (by omega))]
      cases j with
      | zero =>
        rw [if_pos (show nI 0 = 0 from rfl), fsto_n (by omega) (by decide), fsto_n (by omega) (by decide)]
        refine key _ _ rfl ?_
        rw [nI_add]; rfl
      | succ j =>
        have z14 : nI (13 * (i + 1) + (j + 1)) - 14 = nI (13 * i + j) := by rw [show (14 : Int32) = nI 14 from rfl, pk_sub (by omega)]; congr 1; omega
        have z13 : nI (13 * (i + 1) + (j + 1)) - 13 = nI (13 * i + (j + 1)) := by rw [show (13 : Int32) = nI 13 from rfl, pk_sub (by omega)]; congr 1; omega
        have z1 : nI (13 * (i + 1) + (j + 1)) - 1 = nI (13 * (i + 1) + j) := nI_pred _
        have q1 := lcs_le e i (j + 1)
        have q2 := lcs_le e (i + 1) j
        have q3 := lcs_le e i j
        have p1 := chg_le e i (j + 1)
        have p2 := chg_le e (i + 1) j
        have p3 := chg_le e i j
        rw [if_neg (nI_ne0 (by omega) (by omega)), nI_pred, show (12 : Int32) + nI (j + 1) - 1 = nI (12 + j) by rw [show (12 : Int32) = nI 12 from rfl, nI_add]; exact nI_pred _, flod_n (by omega) (by decide), flod_n (by omega) (by decide), hI 27 (by decide) (by decide)]
        have e9 := he i j (by omega) (by omega)
        simp only [z14, z13, z1]
        by_cases c : M0 27 i = M0 27 (12 + j)
        · rw [if_pos c, if_neg (by decide), flod_n (by omega) (by decide), hg i j (by omega) (by omega), nI_1 (lcs e i j), fsto_n (by omega) (by decide)]
          rw [flod_n (by omega) (by decide), if_neg (by decide), flod_n (by omega) (by decide), flod_n (by omega) (by decide), fsto_n (by omega) (by decide)]
          rw [mw_ne (show 29 ≠ 28 by decide), hh i j (by omega) (by omega), hh i (j + 1) (by omega) (by omega), hh (i + 1) j (by omega) (by omega), nI_z, lesser_n (by omega) (by omega), nI_1 (min (chg e i (j + 1)) (chg e (i + 1) j)), lesser_n (by omega) (by omega)]
          refine key _ _ ?_ ?_
          · show _ = nI (if e i j = true then _ else _)
            rw [if_pos (by rw [e9]; exact decide_eq_true c)]
          · show _ = nI (min (_ + (if e i j = true then 0 else 1)) _)
            rw [if_pos (by rw [e9]; exact decide_eq_true c)]
            rfl
        · have e8 : ¬ e i j = true := by rw [e9, decide_eq_false c]; decide
          rw [if_neg c, if_pos True.intro, flod_n (by omega) (by decide), flod_n (by omega) (by decide), hg i (j + 1) (by omega) (by omega), hg (i + 1) j (by omega) (by omega), greater_n (by omega) (by omega), fsto_n (by omega) (by decide)]
          rw [flod_n (by omega) (by decide), if_pos True.intro, flod_n (by omega) (by decide), flod_n (by omega) (by decide), fsto_n (by omega) (by decide)]
          rw [mw_ne (show 29 ≠ 28 by decide), hh i j (by omega) (by omega), hh i (j + 1) (by omega) (by omega), hh (i + 1) j (by omega) (by omega), nI_1 (chg e i j), lesser_n (by omega) (by omega), nI_1 (min (chg e i (j + 1)) (chg e (i + 1) j)), lesser_n (by omega) (by omega)]
          refine key _ _ ?_ ?_
          · show _ = nI (if e i j = true then _ else _)
            rw [if_neg e8]; rfl
          · show _ = nI (min (_ + (if e i j = true then 0 else 1)) _)
            rw [if_neg e8]
            rfl
theorem fb_2 {M0 : gb_Mem} {e : Nat → Nat → Bool} {a b : Nat} (ha : a ≤ 12) (hb : b ≤ 12) (eA : M0 26 0 = nI a) (eB : M0 26 1 = nI b) (he : ∀ i j, i < a → j < b → e i j = decide (M0 27 i = M0 27 (12 + j))) : ∀ m i f (I : gb_Mem), i + m = a + 1 → m < f → (∀ c, c ≠ 28 → c ≠ 29 → I c = M0 c) → gOK (lcs e) (I 28) b i 0 → gOK (chg e) (I 29) b i 0 →
    ∃ J, L_Mo_findsBoth_2 f (nI i) I = some J ∧ (∀ c, c ≠ 28 → c ≠ 29 → J c = M0 c) ∧ gOK (lcs e) (J 28) b (a + 1) 0 ∧ gOK (chg e) (J 29) b (a + 1) 0 := by
  intro m
  induction m with
  | zero =>
    intro i f I hj hf hI hg hh
    obtain ⟨f, rfl⟩ : ∃ g, f = g + 1 := ⟨f - 1, by omega⟩
    have : i = a + 1 := by omega
    subst this
    refine ⟨I, ?_, hI, hg, hh⟩
    simp only [L_Mo_findsBoth_2]
    rw [hI 26 (by decide) (by decide), eA, if_pos (nI_lt (by omega) (by omega))]
  | succ m ih =>
    intro i f I hj hf hI hg hh
    obtain ⟨f, rfl⟩ : ∃ g, f = g + 1 := ⟨f - 1, by omega⟩
    obtain ⟨J, g1, g2, g3, g4⟩ := fb_1 ha hb (show i ≤ a by omega) eB he (b + 1) 0 5000 I (by omega) (by omega) hI hg hh
    simp only [L_Mo_findsBoth_2]
    rw [hI 26 (by decide) (by decide), eA, if_neg (nI_nlt (by omega) (by omega)), show L_Mo_findsBoth_14 (nI i) 5000 0 I = _ from g1, fbd_s, nI_1]
    exact ih (i + 1) f J (by omega) (by omega) g2 g3.next g4.next
theorem sim_both : S_both GInv := by
  intro x1 IX IM h
  have h9 := ginv_told (v := 0) h
  generalize hI : mw IM 0 0 0 = I1 at h9
  obtain ⟨hT, hR, hBk, hLw, hVo, hDi, hRe, hNe, hFa, hCo, hFl, hGi, hSp, hRp, hJa⟩ := h9.2.2.1
  obtain ⟨e1, a, ha, e2, h3⟩ := hNe
  obtain ⟨d1, b, hb, d2, k3⟩ := hFa
  have he : ∀ i j, i < a → j < b → eqW IX i j = decide (I1 27 i = I1 27 (12 + j)) := by
    intro i j hi hj
    unfold eqW
    rw [(h3 i hi).1, (k3 j hj).1]
  have g0 : ∀ f g, gOK f g b 0 0 := fun f g i2 j2 h1 h2 => by omega
  obtain ⟨KM, m1, m2, m3, m4⟩ := fb_2 ha hb e2 d2 he (a + 1) 0 5000 I1 (by omega) (by omega) (fun _ _ _ => rfl) (g0 _ _) (g0 _ _)
  have hM : F_Mo_findsBoth I1 = some KM := by
    unfold F_Mo_findsBoth
    rw [show L_Mo_findsBoth_2 5000 0 I1 = _ from m1]; rfl
  have sX : ∀ J : gb_Mem, (∀ c, c ≠ 107 → J c = IX c) → GInv J KM := by
    intro J hJ
    refine ginv_scr h9 (fun c hc => ?_) ?_ (fun c hc => ?_) (fun j hj => ?_)
    · unfold xUse at hc
      exact hJ c (by omega)
    · rw [hJ 6 (by decide)]
    · unfold mUse at hc
      exact m2 c (by omega) (by omega)
    · rw [m2 0 (by decide) (by decide)]
  have inB : ∃ JX, F_Re_inBoth 19 48 21 48 IX = some (nI (lcs (eqW IX) a b), JX) ∧ ∀ c, c ≠ 107 → JX c = IX c := by
    obtain ⟨J, g1, g2, g3⟩ := ib_2 ha hb (e1.trans e2) (d1.trans d2) (a + 1) 0 5000 IX (by omega) (by omega) (fun _ _ => rfl) (g0 _ _)
    refine ⟨J, ?_, g2⟩
    unfold F_Re_inBoth J_Re_inBoth_136
    rw [show L_Re_inBoth_2 19 48 21 48 5000 0 IX = _ from g1, fbd_s, g2 19 (by decide), g2 21 (by decide), e1.trans e2, d1.trans d2, grid_n ha hb, fbd_s, g3 a b (Nat.le_refl _) (by omega)]
  have chB : ∃ JX, F_Re_changesBetween 19 48 21 48 IX = some (nI (chg (eqW IX) a b), JX) ∧ ∀ c, c ≠ 107 → JX c = IX c := by
    obtain ⟨J, g1, g2, g3⟩ := cb_2 ha hb (e1.trans e2) (d1.trans d2) (a + 1) 0 5000 IX (by omega) (by omega) (fun _ _ => rfl) (g0 _ _)
    refine ⟨J, ?_, g2⟩
    unfold F_Re_changesBetween J_Re_changesBetween_144
    rw [show L_Re_changesBetween_2 19 48 21 48 5000 0 IX = _ from g1, fbd_s, g2 19 (by decide), g2 21 (by decide), e1.trans e2, d1.trans d2, grid_n ha hb, fbd_s, g3 a b (Nat.le_refl _) (by omega)]
  have at9 : (13 : Int32) * nI a + nI b = nI (13 * a + b) := by rw [show (13 : Int32) = nI 13 from rfl, pk_mul, nI_add]
  have r28 := m3 a b (Nat.le_refl _) (by omega)
  have r29 := m4 a b (Nat.le_refl _) (by omega)
  simp only [F_Mo_both, fstf_d, hI, isIn_within _ _ _ I1 IX, F_Gb_both, fbd_p, flt_d]
  by_cases c1 : F_Gb_within x1 0 2 IX = 0
  · refine ⟨-1, IX, I1, ?_, by rw [if_pos c1], h9⟩
    have nz : ∀ w : Nat, w ≤ 2 → ¬ x1 = nI w := by
      intro w hw q
      rw [q] at c1
      rw [show F_Gb_within (nI w) 0 2 IX = F_Gb_within (nI w) (nI 0) (nI 2) IX from rfl, within_n (by omega) hw (by decide)] at c1
      exact absurd c1 (by decide)
    rw [if_neg (show ¬ x1 = 0 from nz 0 (by decide)), if_neg (show ¬ x1 = 1 from nz 1 (by decide)), if_neg (show ¬ x1 = 2 from nz 2 (by decide))]
  rw [if_neg c1]
  obtain ⟨w, rfl, -, hw⟩ := wi_rng 0 2 c1 rfl rfl (by decide) (by decide)
  have b0 : KM 26 = I1 26 := m2 26 (by decide) (by decide)
  rw [hM, fbd_s, b0, e2, d2, at9, flod_n (by omega) (by decide), flod_n (by omega) (by decide), flod_n (by omega) (by decide), r28, r29, e1.trans e2, d1.trans d2]
  have hw2 : w = 0 ∨ w = 1 ∨ w = 2 := by omega
  obtain ⟨JX, q1, q2⟩ := inB
  obtain ⟨KX, q3, q4⟩ := chB
  rcases hw2 with rfl | rfl | rfl
  · rw [if_pos (show nI 0 = 0 from rfl), if_pos (show nI 0 = 0 from rfl)]
    exact ⟨_, JX, KM, q1, rfl, sX JX q2⟩
  · rw [if_neg (show ¬ nI 1 = 0 by decide), if_pos (show nI 1 = 1 from rfl), if_neg (show ¬ nI 1 = 0 by decide), if_pos (show nI 1 = 1 from rfl)]
    exact ⟨_, KX, KM, q3, rfl, sX KX q4⟩
  · rw [if_neg (show ¬ nI 2 = 0 by decide), if_neg (show ¬ nI 2 = 1 by decide), if_pos (show nI 2 = 2 from rfl), if_neg (show ¬ nI 2 = 0 by decide), if_neg (show ¬ nI 2 = 1 by decide), q1]
    exact ⟨_, JX, KM, rfl, rfl, sX JX q2⟩
