/-! Tokens: the reference's reading. -/
def cw (w : Nat) : Nat := if w < 3 then w else if w < 7 then w + 12 else if w < 19 then w - 4 else w
def rSt (r : Nat) : Nat := [1, 8, 14, 21, 26, 29, 33, 37, 42, 47, 52, 59, 66, 71, 78, 83, 88, 92, 98, 105, 110, 116, 119, 124, 129, 134, 139, 142].getD r 0
theorem r_tab : ∀ r, r < 27 → cw r < 27 ∧ 1 ≤ rSt r ∧ rSt (r + 1) = rSt r + wLn (cw r) + 1 ∧ rSt r + wLn (cw r) < 142 ∧ gWd (rSt r + wLn (cw r)) = 32 ∧ ∀ j, j < wLn (cw r) → gWd (rSt r + j) = nI (wCh (cw r) j) := by decide +kernel
theorem cw_on : ∀ k, k < 27 → ∃ r, r < 27 ∧ cw r = k := by decide +kernel
theorem cw_in : ∀ r, r < 27 → ∀ s, s < 27 → cw r = cw s → r = s := by decide +kernel
theorem w_uniq : ∀ k, k < 27 → ∀ k', k' < 27 → wLn k = wLn k' → (∀ j, j < wLn k → wCh k j = wCh k' j) → k = k' := by decide +kernel
theorem wEq_u {T : Nat → Nat} {p e k k' : Nat} (hk : k < 27) (hk' : k' < 27) (h : wEq T p e k) (h' : wEq T p e k') : k = k' :=
  w_uniq k hk k' hk' (h.1.symm.trans h'.1) (fun j hj => (h.2 j hj).symm.trans (h'.2 j (by have := h.1; have := h'.1; omega)))
theorem wFind_s {T : Nat → Nat} {p e : Nat} : ∀ m k, k + m = 27 → (∃ i, i < 27 ∧ wEq T p e i ∧ wFind T p e m k = 200 + i) ∨ ((∀ i, k ≤ i → i < 27 → ¬ wEq T p e i) ∧ wFind T p e m k = 1) := by
  intro m
  induction m with
  | zero => intro k hk; exact Or.inr ⟨fun i h1 h2 => by omega, rfl⟩
  | succ m ih =>
    intro k hk
    simp only [wFind]
    by_cases c : wEqb T p e k = true
    · rw [if_pos c]; exact Or.inl ⟨k, by omega, wEqb_iff.mp c, rfl⟩
    · rw [if_neg c]
      rcases ih (k + 1) (by omega) with q | ⟨q1, q2⟩
      · exact Or.inl q
      · refine Or.inr ⟨fun i h1 h2 => ?_, q2⟩
        by_cases e2 : i = k
        · rw [e2]; exact fun z => c (wEqb_iff.mpr z)
        · exact q1 i (by omega) h2
/-- a token of the class, and the reference's -/
def TR (c : Nat) (t v : Int32) : Prop := (c = 0 ∧ t = 0) ∨ (c = 1 ∧ t = 1) ∨ (∃ w, w < 27 ∧ c = 200 + cw w ∧ t = 2 ∧ v = nI w) ∨ (∃ n, n < 10000 ∧ c = 1000 + n ∧ t = 3 ∧ v = nI n) ∨ (isSg c = true ∧ t = 4 ∧ v = nI c)
theorem mw_mw {I : gb_Mem} {a k : Nat} {u v : Int32} : mw (mw I a k u) a k v = mw I a k v := by
  funext c
  by_cases h : c = a
  · subst h
    rw [mw_eq, mw_eq, mw_eq]
    funext j
    rw [upd_ap, upd_ap]
    by_cases q : j = k
    · rw [if_pos q, upd_ap, if_pos q]
    · rw [if_neg q, upd_ap, if_neg q, if_neg q]
  · rw [mw_ne h, mw_ne h, mw_ne h]
theorem nI_n1 {c : Nat} (h : c < 2 ^ 31) : ¬ (-1 : Int32) = nI c := fun q => nI_nm1 h q.symm
section LEXM
variable {M : gb_Mem} {T : Nat → Nat} {len : Nat}
/-- the reference's tape and words -/
def MT (M : gb_Mem) (T : Nat → Nat) (len : Nat) : Prop := len ≤ 400 ∧ M 0 13 = nI len ∧ (∀ j, j < len → M 9 j = nI (T j) ∧ T j < 256) ∧ ∀ j, j < 142 → M 10 j = gWd j
theorem MT.w (h : MT M T len) {j : Nat} {v : Int32} (hj : j ≠ 13) : MT (mw M 0 j v) T len := by
  obtain ⟨h1, h2, h3, h4⟩ := h
  refine ⟨h1, ?_, fun i hi => ?_, fun i hi => ?_⟩
  · rw [mw_eq, pk_un (Ne.symm hj)]; exact h2
  · rw [mw_ne (by decide)]; exact h3 i hi
  · rw [mw_ne (by decide)]; exact h4 i hi
theorem raw_in (h : MT M T len) {p : Nat} (hp : p < len) : F_Mo_raw (nI p) M = some (nI (T p)) := by
  obtain ⟨h1, h2, h3, -⟩ := h
  unfold F_Mo_raw
  rw [h2, if_neg (nI_ge hp (by omega)), flod_n (by omega) (by decide), (h3 p hp).1]
theorem raw_out (h : MT M T len) {p : Nat} (hp : len ≤ p) (hp2 : p < 2 ^ 31) : F_Mo_raw (nI p) M = some (-1) := by
  obtain ⟨h1, h2, h3, -⟩ := h
  unfold F_Mo_raw
  rw [h2, if_pos (nI_le hp hp2)]
theorem ltM_n {c : Nat} {I : gb_Mem} (hc : c < 2 ^ 31) : F_Mo_isLetter (nI c) I = if isLt c = true then 1 else 0 := lt_n (I := I) hc
theorem dgM_n {c : Nat} {I : gb_Mem} (hc : c < 2 ^ 31) : F_Mo_isDigit (nI c) I = if isDg c = true then 1 else 0 := dg_n (I := I) hc
theorem ltM_m {I : gb_Mem} : F_Mo_isLetter (-1) I = 0 := rfl
theorem dgM_m {I : gb_Mem} : F_Mo_isDigit (-1) I = 0 := rfl
theorem sgM_n {I : gb_Mem} {c : Nat} (hc : c < 2 ^ 31) : F_Mo_isMarkSign (nI c) I = if isSg c = true then 1 else 0 := by
  unfold F_Mo_isMarkSign J_Mo_isMarkSign_60 isSg
  have n : ∀ k : Nat, k < 63 → (nI c = nI k ↔ c = k) := fun k hk => nI_eq hc (by omega)
  rw [show (59 : Int32) = nI 59 from rfl, show (43 : Int32) = nI 43 from rfl, show (45 : Int32) = nI 45 from rfl, show (42 : Int32) = nI 42 from rfl, show (47 : Int32) = nI 47 from rfl, show (40 : Int32) = nI 40 from rfl, show (41 : Int32) = nI 41 from rfl, show (60 : Int32) = nI 60 from rfl, show (61 : Int32) = nI 61 from rfl, show (62 : Int32) = nI 62 from rfl]
  simp only [n 59 (by decide), n 43 (by decide), n 45 (by decide), n 42 (by decide), n 47 (by decide), n 40 (by decide), n 41 (by decide), n 60 (by decide), n 61 (by decide), n 62 (by decide), decide_eq_true_eq]
  by_cases h : c = 59 ∨ c = 43 ∨ c = 45 ∨ c = 42 ∨ c = 47 ∨ c = 40 ∨ c = 41 ∨ c = 60 ∨ c = 61 ∨ c = 62
  · rw [if_pos h]
    rcases h with rfl | rfl | rfl | rfl | rfl | rfl | rfl | rfl | rfl | rfl <;> rfl
  · rw [if_neg h]
    simp only [not_or] at h
    obtain ⟨a1, a2, a3, a4, a5, a6, a7, a8, a9, a10⟩ := h
    rw [if_neg a1, if_neg a2, if_neg a3, if_neg a4, if_neg a5, if_neg a6, if_neg a7, if_neg a8, if_neg a9, if_neg a10]
theorem rb_l : ∀ m p f M, MT M T len → len ≤ p + m → m < f → p ≤ len → M 0 14 = nI p → ∃ p', p ≤ p' ∧ p' ≤ len ∧ L_Mo_reads_0 f M = some (mw M 0 14 (nI p')) ∧ lxs T len p = lxs T len p' ∧ (p' < len → ¬ isBk (T p') = true) := by
  intro m
  induction m with
  | zero =>
    intro p f M h hm hf hp h14
    obtain ⟨f, rfl⟩ : ∃ g, f = g + 1 := ⟨f - 1, by omega⟩
    have hl := h.1
    refine ⟨p, Nat.le_refl _, hp, ?_, rfl, fun z => by omega⟩
    simp only [L_Mo_reads_0]
    rw [h14, raw_out h (by omega) (by omega), fbd_s, if_neg (by decide), fbd_s, if_neg (by decide), ← h14, mw_self]
  | succ m ih =>
    intro p f M h hm hf hp h14
    obtain ⟨f, rfl⟩ : ∃ g, f = g + 1 := ⟨f - 1, by omega⟩
    have hl := h.1
    simp only [L_Mo_reads_0, J_Mo_reads_26, fstf_d]
    by_cases he : len ≤ p
    · refine ⟨p, Nat.le_refl _, hp, ?_, rfl, fun z => by omega⟩
      rw [h14, raw_out h he (by omega), fbd_s, if_neg (by decide), fbd_s, if_neg (by decide), ← h14, mw_self]
    · have ht := (h.2.2.1 p (by omega)).2
      have n32 : nI (T p) = 32 ↔ T p = 32 := nI_eq (b := 32) (by omega) (by decide)
      have n10 : nI (T p) = 10 ↔ T p = 10 := nI_eq (b := 10) (by omega) (by decide)
      rw [h14, raw_in h (by omega), fbd_s, fbd_s, nI_1]
      by_cases b : isBk (T p) = true
      · obtain ⟨p', a1, a2, a3, a4, a5⟩ := ih (p + 1) f (mw M 0 14 (nI (p + 1))) (h.w (by decide)) (by omega) (by omega) (by omega) (by rw [mw_eq, pk_us])
        rw [mw_mw] at a3
        refine ⟨p', by omega, a2, ?_, (lxs_bk (by omega) b).trans a4, a5⟩
        unfold isBk at b
        simp only [Bool.or_eq_true, decide_eq_true_eq] at b
        rcases b with b | b
        · rw [if_pos (n32.mpr b)]; exact a3
        · rw [if_neg (fun z => by have := n32.mp z; omega), if_pos (n10.mpr b)]; exact a3
      · have b2 : ¬ T p = 32 ∧ ¬ T p = 10 := by
          unfold isBk at b
          simp only [Bool.or_eq_true, decide_eq_true_eq] at b
          omega
        refine ⟨p, Nat.le_refl _, hp, ?_, rfl, fun _ => b⟩
        rw [if_neg (fun z => b2.1 (n32.mp z)), if_neg (fun z => b2.2 (n10.mp z)), ← h14, mw_self]
theorem rl_l : ∀ m q f M, MT M T len → q + m = len → m < f → M 0 14 = nI q → L_Mo_reads_95 f M = some (mw M 0 14 (nI (skp isLt T m q))) := by
  intro m
  induction m with
  | zero =>
    intro q f M h hm hf h14
    obtain ⟨f, rfl⟩ : ∃ g, f = g + 1 := ⟨f - 1, by omega⟩
    have hl := h.1
    simp only [L_Mo_reads_95, skp]
    rw [h14, raw_out h (by omega) (by omega), fbd_s, ltM_m, if_pos rfl, ← h14, mw_self]
  | succ m ih =>
    intro q f M h hm hf h14
    obtain ⟨f, rfl⟩ : ∃ g, f = g + 1 := ⟨f - 1, by omega⟩
    have hl := h.1
    have ht := (h.2.2.1 q (by omega)).2
    simp only [L_Mo_reads_95, fstf_d]
    rw [h14, raw_in h (by omega), fbd_s, ltM_n (by omega), nI_1]
    by_cases c : isLt (T q) = true
    · rw [if_pos c, if_neg (by decide), skp_t c, ih (q + 1) f (mw M 0 14 (nI (q + 1))) (h.w (by decide)) (by omega) (by omega) (by rw [mw_eq, pk_us]), mw_mw]
    · rw [if_neg c, if_pos rfl, skp_f c, ← h14, mw_self]
theorem rd_l : ∀ m q f M a, MT M T len → q + m = len → m < f → M 0 14 = nI q → M 0 17 = nI a → a < 100000 → ∃ v, v < 100000 ∧ L_Mo_reads_171 f M = some (mw (mw M 0 14 (nI (skp isDg T m q))) 0 17 (nI v)) ∧ ∀ d, a < 10 ^ d → d + (skp isDg T m q - q) ≤ 4 → v = dVal T (skp isDg T m q - q) q a := by
  intro m
  induction m with
  | zero =>
    intro q f M a h hm hf h14 h17 ha
    obtain ⟨f, rfl⟩ : ∃ g, f = g + 1 := ⟨f - 1, by omega⟩
    have hl := h.1
    refine ⟨a, ha, ?_, fun d _ _ => ?_⟩
    · simp only [L_Mo_reads_171, skp]
      rw [h14, raw_out h (by omega) (by omega), fbd_s, dgM_m, if_pos rfl, ← h14, mw_self, ← h17, mw_self]
    · simp only [skp, Nat.sub_self, dVal]
  | succ m ih =>
    intro q f M a h hm hf h14 h17 ha
    obtain ⟨f, rfl⟩ : ∃ g, f = g + 1 := ⟨f - 1, by omega⟩
    have hl := h.1
    have ht := (h.2.2.1 q (by omega)).2
    simp only [L_Mo_reads_171, J_Mo_reads_223, fstf_d]
    rw [h14, raw_in h (by omega), fbd_s, dgM_n (by omega), fbd_s]
    by_cases c : isDg (T q) = true
    · have hd := c
      unfold isDg at hd
      simp only [Bool.and_eq_true, decide_eq_true_eq] at hd
      have hs := skp_b (P := isDg) (T := T) m (q + 1)
      rw [if_pos c, if_neg (by decide), skp_t c, h17]
      have go : ∀ b, b < 100000 → (∀ d, a < 10 ^ d → d + (skp isDg T m (q + 1) - q) ≤ 4 → b = 10 * a + (T q - 48)) → ∃ v, v < 100000 ∧ L_Mo_reads_171 f (mw (mw M 0 17 (nI b)) 0 14 (mw M 0 17 (nI b) 0 14 + 1)) = some (mw (mw M 0 14 (nI (skp isDg T m (q + 1)))) 0 17 (nI v)) ∧ ∀ d, a < 10 ^ d → d + (skp isDg T m (q + 1) - q) ≤ 4 → v = dVal T (skp isDg T m (q + 1) - q) q a := by
        intro b hb hb2
        have e14 : mw M 0 17 (nI b) 0 14 = nI q := by rw [mw_eq, pk_un (by decide)]; exact h14
        rw [e14, nI_1]
        obtain ⟨v, v1, v2, v3⟩ := ih (q + 1) f (mw (mw M 0 17 (nI b)) 0 14 (nI (q + 1))) b ((h.w (by decide)).w (by decide)) (by omega) (by omega) (by rw [mw_eq, pk_us]) (by rw [mw_eq, pk_un (by decide), mw_eq, pk_us]) hb
        refine ⟨v, v1, ?_, fun d h1 h2 => ?_⟩
        · rw [v2]
          congr 1
          funext c2
          by_cases z : c2 = 0
          · subst z
            rw [mw_eq, mw_eq, mw_eq, mw_eq, mw_eq, mw_eq]
            funext j
            simp only [upd_ap]
            by_cases j1 : j = 17
            · rw [if_pos j1, if_pos j1]
            · rw [if_neg j1, if_neg j1, if_neg j1]
              by_cases j2 : j = 14
              · rw [if_pos j2, if_pos j2]
              · rw [if_neg j2, if_neg j2, if_neg j2]
          · rw [mw_ne z, mw_ne z, mw_ne z, mw_ne z, mw_ne z, mw_ne z]
        · have hb3 := hb2 d h1 h2
          have e1 : skp isDg T m (q + 1) - q = skp isDg T m (q + 1) - (q + 1) + 1 := by omega
          rw [e1]
          simp only [dVal]
          rw [← hb3]
          refine v3 (d + 1) ?_ (by omega)
          rw [hb3, Nat.pow_succ]; omega
      by_cases k : 10000 ≤ a
      · rw [if_pos (show 10000 ≤ nI a from nI_le (a := 10000) k (by omega))]
        refine go a ha (fun d h1 h2 => ?_)
        exfalso
        have : 10 ^ d ≤ 10 ^ 4 := Nat.pow_le_pow_right (by decide) (by omega)
        omega
      · rw [if_neg (show ¬ 10000 ≤ nI a from nI_ge (b := 10000) (by omega) (by decide)), show (10 : Int32) * nI a = nI (10 * a) from pk_mul 10 a, nI_add, show nI (10 * a + T q) - 48 = nI (10 * a + T q - 48) from pk_sub (b := 48) (by omega), show 10 * a + T q - 48 = 10 * a + (T q - 48) by omega]
        exact go _ (by omega) (fun _ _ _ => rfl)
    · rw [if_neg c, if_pos rfl, skp_f c]
      refine ⟨a, ha, ?_, fun d _ _ => ?_⟩
      · rw [← h14, mw_self, ← h17, mw_self]
      · rw [Nat.sub_self]; rfl
theorem wa_20 (h : MT M T len) {p e r : Nat} {x3 : Int32} (hr : r < 27) (he : e ≤ len) (hpe : p ≤ e) (hL : ∀ j, p ≤ j → j < e → isLt (T j) = true) : ∀ m i f, i + m = wLn (cw r) → m < f → i ≤ e - p → (∀ j, j < i → T (p + j) = wCh (cw r) j) → ∃ i0, L_Mo_wordAt_20 (nI p) (nI e) x3 (nI (rSt r - 1)) M f (nI i) = some (nI i0) ∧ i0 ≤ wLn (cw r) ∧ i0 ≤ e - p ∧ (∀ j, j < i0 → T (p + j) = wCh (cw r) j) ∧ (i0 = e - p ∨ i0 = wLn (cw r) ∨ ¬ T (p + i0) = wCh (cw r) i0) := by
  obtain ⟨c0, c1, c2, c3, c4, c5⟩ := r_tab r hr
  obtain ⟨-, -, -, -, -, w6⟩ := w_tab (cw r) c0
  have hl := h.1
  intro m
  induction m with
  | zero =>
    intro i f hi hf hie hj
    obtain ⟨f, rfl⟩ : ∃ g, f = g + 1 := ⟨f - 1, by omega⟩
    refine ⟨i, ?_, by omega, hie, hj, ?_⟩
    · simp only [L_Mo_wordAt_20]
      rw [nI_add]
      by_cases c : e ≤ p + i
      · rw [if_pos (nI_le c (by omega))]
      · have ht := (h.2.2.1 (p + i) (by omega)).2
        rw [if_neg (nI_ge (by omega) (by omega)), show nI (rSt r - 1) + 1 + nI i = nI (rSt r + i) by rw [nI_1, nI_add]; exact congrArg nI (by omega), flod_n (by omega) (by decide), flod_n (by omega) (by decide), h.2.2.2 _ (by omega), (h.2.2.1 (p + i) (by omega)).1, show rSt r + i = rSt r + wLn (cw r) by omega, c4, if_neg]
        intro z
        have z2 := hL (p + i) (by omega) (by omega)
        have z3 : T (p + i) = 32 := ((nI_eq (a := 32) (by decide) (by omega)).mp z).symm
        rw [z3] at z2
        exact absurd z2 (by decide)
    · exact Or.inr (Or.inl (by omega))
  | succ m ih =>
    intro i f hi hf hie hj
    obtain ⟨f, rfl⟩ : ∃ g, f = g + 1 := ⟨f - 1, by omega⟩
    simp only [L_Mo_wordAt_20]
    rw [nI_add]
    by_cases c : e ≤ p + i
    · rw [if_pos (nI_le c (by omega))]
      exact ⟨i, rfl, by omega, hie, hj, Or.inl (by omega)⟩
    · have ht := (h.2.2.1 (p + i) (by omega)).2
      obtain ⟨z1, z2, z3⟩ := w6 i (by omega)
      rw [if_neg (nI_ge (by omega) (by omega)), show nI (rSt r - 1) + 1 + nI i = nI (rSt r + i) by rw [nI_1, nI_add]; exact congrArg nI (by omega), flod_n (by omega) (by decide), flod_n (by omega) (by decide), h.2.2.2 _ (by omega), (h.2.2.1 (p + i) (by omega)).1, c5 i (by omega), nI_1]
      by_cases d : wCh (cw r) i = T (p + i)
      · rw [if_pos (by rw [d])]
        refine ih (i + 1) f (by omega) (by omega) (by omega) (fun j hj2 => ?_)
        by_cases e2 : j = i
        · rw [e2]; exact d.symm
        · exact hj j (by omega)
      · rw [if_neg (fun z => d ((nI_eq (by omega) (by omega)).mp z))]
        exact ⟨i, rfl, by omega, hie, hj, Or.inr (Or.inr (fun z => d z.symm))⟩
theorem wa_94 (h : MT M T len) {r : Nat} {x1 x2 x3 : Int32} (hr : r < 27) : ∀ m i f, i + m = wLn (cw r) → m < f → L_Mo_wordAt_94 x1 x2 x3 M f (nI (rSt r + i)) = some (nI (rSt r + wLn (cw r))) := by
  obtain ⟨c0, c1, c2, c3, c4, c5⟩ := r_tab r hr
  obtain ⟨-, -, -, -, -, w6⟩ := w_tab (cw r) c0
  intro m
  induction m with
  | zero =>
    intro i f hi hf
    obtain ⟨f, rfl⟩ : ∃ g, f = g + 1 := ⟨f - 1, by omega⟩
    simp only [L_Mo_wordAt_94]
    rw [show i = wLn (cw r) by omega, flod_n c3 (by decide), h.2.2.2 _ c3, c4, if_pos rfl]
  | succ m ih =>
    intro i f hi hf
    obtain ⟨f, rfl⟩ : ∃ g, f = g + 1 := ⟨f - 1, by omega⟩
    obtain ⟨z1, z2, z3⟩ := w6 i (by omega)
    simp only [L_Mo_wordAt_94]
    rw [flod_n (by omega) (by decide), h.2.2.2 _ (by omega), c5 i (by omega), if_neg (show ¬ nI (wCh (cw r) i) = 32 from fun z => by
      have := (nI_eq (b := 32) (by omega) (by decide)).mp z
      rw [this] at z3; exact absurd z3 (by decide)), nI_1]
    exact ih (i + 1) f (by omega) (by omega)
theorem wa_5 (h : MT M T len) {p e : Nat} (he : e ≤ len) (hpe : p ≤ e) (hL : ∀ j, p ≤ j → j < e → isLt (T j) = true) : ∀ m r f, r + m = 27 → m < f → ∃ v, fbr (L_Mo_wordAt_5 (nI p) (nI e) M f (nI r + (-1)) (nI (rSt r - 1))) (fun _ => some (-1)) (fun q7 => some q7) = some v ∧ ((∃ s, s < 27 ∧ v = nI s ∧ wEq T p e (cw s)) ∨ (v = -1 ∧ ∀ s, r ≤ s → s < 27 → ¬ wEq T p e (cw s))) := by
  have hl := h.1
  intro m
  induction m with
  | zero =>
    intro r f hr hf
    obtain ⟨f, rfl⟩ : ∃ g, f = g + 1 := ⟨f - 1, by omega⟩
    have : r = 27 := by omega
    subst this
    refine ⟨-1, ?_, Or.inr ⟨rfl, fun s h1 h2 => by omega⟩⟩
    simp only [L_Mo_wordAt_5]
    rw [if_pos (show 141 ≤ nI (rSt 27 - 1) by decide)]; rfl
  | succ m ih =>
    intro r f hr hf
    obtain ⟨f, rfl⟩ : ∃ g, f = g + 1 := ⟨f - 1, by omega⟩
    obtain ⟨c0, c1, c2, c3, c4, c5⟩ := r_tab r (by omega)
    obtain ⟨-, -, -, -, -, w6⟩ := w_tab (cw r) c0
    have ex : nI r + (-1) + 1 = nI r := by rw [Int32.add_assoc, show (-1 : Int32) + 1 = 0 from rfl, Int32.add_zero]
    obtain ⟨i0, a1, a2, a3, a4, a5⟩ := wa_20 h (x3 := nI r) (show r < 27 by omega) he hpe hL (wLn (cw r)) 0 5000 (by omega) (by have := (w_tab (cw r) c0).2.2.1; omega) (by omega) (fun j hj => by omega)
    simp only [L_Mo_wordAt_5, J_Mo_wordAt_61, J_Mo_wordAt_88]
    rw [if_neg (show ¬ 141 ≤ nI (rSt r - 1) from nI_ge (b := 141) (by omega) (by decide)), ex, show L_Mo_wordAt_20 (nI p) (nI e) (nI r) (nI (rSt r - 1)) M 5000 0 = some (nI i0) from a1, fbd_s, nI_add]
    have nx : ¬ wEq T p e (cw r) → ∃ v, fbr (fbd (L_Mo_wordAt_94 (nI p) (nI e) (nI r) M 5000 (nI (rSt r - 1) + 1)) fun o5 => L_Mo_wordAt_5 (nI p) (nI e) M f (nI r) o5) (fun _ => some (-1)) (fun q7 => some q7) = some v ∧ ((∃ s, s < 27 ∧ v = nI s ∧ wEq T p e (cw s)) ∨ (v = -1 ∧ ∀ s, r ≤ s → s < 27 → ¬ wEq T p e (cw s))) := by
      intro hn
      have e94 := wa_94 (x1 := nI p) (x2 := nI e) (x3 := nI r) h (show r < 27 by omega) (wLn (cw r)) 0 5000 (by omega) (by have := (w_tab (cw r) c0).2.2.1; omega)
      rw [nI_1, show rSt r - 1 + 1 = rSt r + 0 by omega, e94, fbd_s, show rSt r + wLn (cw r) = rSt (r + 1) - 1 by omega, show nI r = nI (r + 1) + (-1) from (pk_m1 r).symm]
      obtain ⟨v, v1, v2⟩ := ih (r + 1) f (by omega) (by omega)
      refine ⟨v, v1, ?_⟩
      rcases v2 with q | ⟨q1, q2⟩
      · exact Or.inl q
      · refine Or.inr ⟨q1, fun s s1 s2 => ?_⟩
        by_cases e2 : s = r
        · rw [e2]; exact hn
        · exact q2 s (by omega) s2
    by_cases c : p + i0 = e
    · rw [if_pos (by rw [c]), show nI (rSt r - 1) + 1 + nI i0 = nI (rSt r + i0) by rw [nI_1, nI_add]; exact congrArg nI (by omega), flod_n (by omega) (by decide), h.2.2.2 _ (by omega)]
      by_cases d : i0 = wLn (cw r)
      · rw [d, c4, if_pos rfl]
        exact ⟨nI r, rfl, Or.inl ⟨r, by omega, rfl, ⟨by omega, fun j hj => a4 j (by omega)⟩⟩⟩
      · obtain ⟨z1, z2, z3⟩ := w6 i0 (by omega)
        rw [c5 i0 (by omega), if_neg (show ¬ nI (wCh (cw r) i0) = 32 from fun z => by
          have := (nI_eq (b := 32) (by omega) (by decide)).mp z
          rw [this] at z3; exact absurd z3 (by decide))]
        exact nx (fun z => d (by have := z.1; omega))
    · rw [if_neg (fun z => c ((nI_eq (by omega) (by omega)).mp z))]
      refine nx (fun z => ?_)
      have z1 := z.1
      rcases a5 with q | q | q
      · omega
      · omega
      · exact q (z.2 i0 (by omega))
theorem reads_n (h : MT M T len) {q : Nat} (hq : q ≤ len) (h14 : M 0 14 = nI q) : ∃ N, F_Mo_reads M = some N ∧ (∀ c, c ≠ 0 → N c = M c) ∧ (∀ j, j ≠ 14 → j ≠ 15 → j ≠ 16 → j ≠ 17 → N 0 j = M 0 j) ∧ ((lxs T len q = [] ∧ N 0 14 = nI len ∧ N 0 15 = nI len ∧ N 0 16 = 0) ∨ (∃ s c l e, lxs T len q = (s, c) :: l ∧ e ≤ len ∧ N 0 14 = nI e ∧ N 0 15 = nI s ∧ TR c (N 0 16) (N 0 17) ∧ lxs T len e = l)) := by
  have hl := h.1
  obtain ⟨p, p1, p2, p3, p4, p5⟩ := rb_l len q 5000 M h (by omega) (by omega) hq h14
  unfold F_Mo_reads
  rw [p3, fbd_s, fstf_d, fstf_d]
  have k14 : mw M 0 14 (nI p) 0 14 = nI p := by rw [mw_eq, pk_us]
  rw [k14]
  obtain ⟨M6, hM6⟩ : ∃ Z, Z = mw (mw (mw M 0 14 (nI p)) 0 15 (nI p)) 0 16 1 := ⟨_, rfl⟩
  rw [← hM6]
  have h6 : MT M6 T len := by rw [hM6]; exact ((h.w (by decide)).w (by decide)).w (by decide)
  have m14 : M6 0 14 = nI p := by rw [hM6, mw_eq, pk_un (by decide), mw_eq, pk_un (by decide)]; exact k14
  have m15 : M6 0 15 = nI p := by rw [hM6, mw_eq, pk_un (by decide), mw_eq, pk_us]
  have m16 : M6 0 16 = 1 := by rw [hM6, mw_eq, pk_us]
  have mc : ∀ c, c ≠ 0 → M6 c = M c := fun c hc => by rw [hM6, mw_ne hc, mw_ne hc, mw_ne hc]
  have mj : ∀ j, j ≠ 14 → j ≠ 15 → j ≠ 16 → M6 0 j = M 0 j := fun j j1 j2 j3 => by rw [hM6, mw_eq, pk_un j3, mw_eq, pk_un j2, mw_eq, pk_un j1]
  rw [m14]
  clear hM6 p3 k14
  by_cases c : len ≤ p
  · have ep : p = len := by omega
    subst ep
    rw [raw_out h6 (Nat.le_refl _) (by omega), fbd_s, if_pos rfl, fstf_d]
    refine ⟨_, rfl, fun c hc => by rw [mw_ne hc, mc c hc], fun j j1 j2 j3 j4 => by rw [mw_eq, pk_un j3, mj j j1 j2 j3], Or.inl ⟨p4.trans (lxs_end (Nat.le_refl _)), ?_, ?_, ?_⟩⟩
    · rw [mw_eq, pk_un (by decide)]; exact m14
    · rw [mw_eq, pk_un (by decide)]; exact m15
    · rw [mw_eq, pk_us]
  · have hp : p < len := by omega
    have ht := (h.2.2.1 p hp).2
    obtain ⟨r1, r2⟩ := rnd_b (T := T) hp
    rw [raw_in h6 hp, fbd_s, if_neg (nI_nm1 (by omega)), fstf_d, fstf_d, nI_1]
    obtain ⟨M9, hM9⟩ : ∃ Z, Z = mw (mw M6 0 14 (nI (p + 1))) 0 17 (nI (T p)) := ⟨_, rfl⟩
    rw [← hM9]
    have h9 : MT M9 T len := by rw [hM9]; exact (h6.w (by decide)).w (by decide)
    have n14 : M9 0 14 = nI (p + 1) := by rw [hM9, mw_eq, pk_un (by decide), mw_eq, pk_us]
    have n15 : M9 0 15 = nI p := by rw [hM9, mw_eq, pk_un (by decide), mw_eq, pk_un (by decide)]; exact m15
    have n16 : M9 0 16 = 1 := by rw [hM9, mw_eq, pk_un (by decide), mw_eq, pk_un (by decide)]; exact m16
    have n17 : M9 0 17 = nI (T p) := by rw [hM9, mw_eq, pk_us]
    have nc : ∀ c, c ≠ 0 → M9 c = M c := fun c hc => by rw [hM9, mw_ne hc, mw_ne hc, mc c hc]
    have nj : ∀ j, j ≠ 14 → j ≠ 15 → j ≠ 16 → j ≠ 17 → M9 0 j = M 0 j := fun j j1 j2 j3 j4 => by rw [hM9, mw_eq, pk_un j4, mw_eq, pk_un j1, mj j j1 j2 j3]
    clear hM9
    have lk : lxs T len q = (p, tkc T p (rnd T len p)) :: lxs T len (rnd T len p) := p4.trans (lxs_tk hp (p5 hp))
    have el : skp isLt T (len - (p + 1)) (p + 1) = rnd T len p ∨ ¬ isLt (T p) = true := by
      by_cases z : isLt (T p) = true
      · left; unfold rnd; rw [if_pos z]
      · exact Or.inr z
    rw [ltM_n (by omega), dgM_n (by omega), sgM_n (by omega)]
    by_cases a : isLt (T p) = true
    · have el := el.resolve_right (fun z => z a)
      rw [if_pos a, if_neg (by decide), rl_l (len - (p + 1)) (p + 1) 5000 M9 h9 (by omega) (by omega) n14, fbd_s, el]
      obtain ⟨N1, hN1⟩ : ∃ Z, Z = mw M9 0 14 (nI (rnd T len p)) := ⟨_, rfl⟩
      rw [← hN1]
      have g1 : MT N1 T len := by rw [hN1]; exact h9.w (by decide)
      have g14 : N1 0 14 = nI (rnd T len p) := by rw [hN1, mw_eq, pk_us]
      have g15 : N1 0 15 = nI p := by rw [hN1, mw_eq, pk_un (by decide)]; exact n15
      have g16 : N1 0 16 = 1 := by rw [hN1, mw_eq, pk_un (by decide)]; exact n16
      have gc : ∀ c, c ≠ 0 → N1 c = M c := fun c hc => by rw [hN1, mw_ne hc, nc c hc]
      have gj : ∀ j, j ≠ 14 → j ≠ 15 → j ≠ 16 → j ≠ 17 → N1 0 j = M 0 j := fun j j1 j2 j3 j4 => by rw [hN1, mw_eq, pk_un j1, nj j j1 j2 j3 j4]
      clear hN1
      rw [g14, g15]
      obtain ⟨v, v1, v2⟩ := wa_5 g1 r2 (by omega) (rnd_lt a) 27 0 5000 (by omega) (by omega)
      have v1' : F_Mo_wordAt (nI p) (nI (rnd T len p)) N1 = some v := v1
      rw [v1', fbd_s, fstf_d, show mw N1 0 17 v 0 17 = v by rw [mw_eq, pk_us]]
      have etk : tkc T p (rnd T len p) = wFind T p (rnd T len p) 27 0 := by unfold tkc; rw [if_pos a]
      rcases v2 with ⟨s, s1, rfl, s3⟩ | ⟨rfl, s2⟩
      · rw [if_neg (nI_nm1 (by omega)), fstf_d]
        refine ⟨_, rfl, fun c hc => by rw [mw_ne hc, mw_ne hc, gc c hc], fun j j1 j2 j3 j4 => by rw [mw_eq, pk_un j3, mw_eq, pk_un j4, gj j j1 j2 j3 j4], Or.inr ⟨p, _, _, rnd T len p, lk, r2, ?_, ?_, ?_, rfl⟩⟩
        · rw [mw_eq, pk_un (by decide), mw_eq, pk_un (by decide)]; exact g14
        · rw [mw_eq, pk_un (by decide), mw_eq, pk_un (by decide)]; exact g15
        · rw [show mw (mw N1 0 17 (nI s)) 0 16 2 0 16 = 2 by rw [mw_eq, pk_us], show mw (mw N1 0 17 (nI s)) 0 16 2 0 17 = nI s by rw [mw_eq, pk_un (by decide), mw_eq, pk_us], etk]
          right; right; left
          refine ⟨s, s1, ?_, rfl, rfl⟩
          rcases wFind_s (T := T) (p := p) (e := rnd T len p) 27 0 (by omega) with ⟨i, i1, i2, i3⟩ | ⟨i1, i2⟩
          · rw [i3, wEq_u i1 (r_tab s s1).1 i2 s3]
          · exact absurd s3 (i1 _ (Nat.zero_le _) (r_tab s s1).1)
      · rw [if_pos rfl]
        refine ⟨_, rfl, fun c hc => by rw [mw_ne hc, gc c hc], fun j j1 j2 j3 j4 => by rw [mw_eq, pk_un j4, gj j j1 j2 j3 j4], Or.inr ⟨p, _, _, rnd T len p, lk, r2, ?_, ?_, ?_, rfl⟩⟩
        · rw [mw_eq, pk_un (by decide)]; exact g14
        · rw [mw_eq, pk_un (by decide)]; exact g15
        · rw [show mw N1 0 17 (-1) 0 16 = 1 by rw [mw_eq, pk_un (by decide)]; exact g16, etk]
          right; left
          refine ⟨?_, rfl⟩
          rcases wFind_s (T := T) (p := p) (e := rnd T len p) 27 0 (by omega) with ⟨i, i1, i2, i3⟩ | ⟨i1, i2⟩
          · obtain ⟨r, hr, er⟩ := cw_on i i1
            rw [← er] at i2
            exact absurd i2 (s2 r (Nat.zero_le _) hr)
          · exact i2
    · rw [if_neg a, if_pos rfl]
      by_cases d : isDg (T p) = true
      · have hd := d
        unfold isDg at hd
        simp only [Bool.and_eq_true, decide_eq_true_eq] at hd
        have ed : skp isDg T (len - (p + 1)) (p + 1) = rnd T len p := by unfold rnd; rw [if_neg a, if_pos d]
        rw [if_pos d, if_neg (by decide), fstf_d, show nI (T p) - 48 = nI (T p - 48) from pk_sub (b := 48) (by omega)]
        obtain ⟨v, v0, v1, v2⟩ := rd_l (len - (p + 1)) (p + 1) 5000 (mw M9 0 17 (nI (T p - 48))) (T p - 48) (h9.w (by decide)) (by omega) (by omega) (by rw [mw_eq, pk_un (by decide)]; exact n14) (by rw [mw_eq, pk_us]) (by omega)
        rw [v1, fbd_s, ed]
        obtain ⟨N1, hN1⟩ : ∃ Z, Z = mw (mw (mw M9 0 17 (nI (T p - 48))) 0 14 (nI (rnd T len p))) 0 17 (nI v) := ⟨_, rfl⟩
        rw [← hN1]
        have g14 : N1 0 14 = nI (rnd T len p) := by rw [hN1, mw_eq, pk_un (by decide), mw_eq, pk_us]
        have g15 : N1 0 15 = nI p := by rw [hN1, mw_eq, pk_un (by decide), mw_eq, pk_un (by decide), mw_eq, pk_un (by decide)]; exact n15
        have g16 : N1 0 16 = 1 := by rw [hN1, mw_eq, pk_un (by decide), mw_eq, pk_un (by decide), mw_eq, pk_un (by decide)]; exact n16
        have g17 : N1 0 17 = nI v := by rw [hN1, mw_eq, pk_us]
        have gc : ∀ c, c ≠ 0 → N1 c = M c := fun c hc => by rw [hN1, mw_ne hc, mw_ne hc, mw_ne hc, nc c hc]
        have gj : ∀ j, j ≠ 14 → j ≠ 15 → j ≠ 16 → j ≠ 17 → N1 0 j = M 0 j := fun j j1 j2 j3 j4 => by rw [hN1, mw_eq, pk_un j4, mw_eq, pk_un j1, mw_eq, pk_un j4, nj j j1 j2 j3 j4]
        clear hN1
        have etk : tkc T p (rnd T len p) = if rnd T len p - p ≤ 4 then 1000 + dVal T (rnd T len p - p) p 0 else 1 := by unfold tkc; rw [if_neg a, if_pos d]
        rw [g14, g15, pk_sub (by omega)]
        by_cases f5 : rnd T len p - p ≤ 4
        · rw [if_neg (show ¬ 5 ≤ nI (rnd T len p - p) from nI_ge (b := 5) (by omega) (by decide)), fstf_d]
          rw [if_pos f5] at etk
          rw [ed] at v2
          have ev : v = dVal T (rnd T len p - p) p 0 := by
            have := v2 1 (by omega) (by omega)
            rw [this, show rnd T len p - p = rnd T len p - (p + 1) + 1 by omega]
            simp only [dVal]
            rw [show 10 * 0 + (T p - 48) = T p - 48 by omega]
          refine ⟨_, rfl, fun c hc => by rw [mw_ne hc, gc c hc], fun j j1 j2 j3 j4 => by rw [mw_eq, pk_un j3, gj j j1 j2 j3 j4], Or.inr ⟨p, _, _, rnd T len p, lk, r2, ?_, ?_, ?_, rfl⟩⟩
          · rw [mw_eq, pk_un (by decide)]; exact g14
          · rw [mw_eq, pk_un (by decide)]; exact g15
          · rw [show mw N1 0 16 3 0 16 = 3 by rw [mw_eq, pk_us], show mw N1 0 16 3 0 17 = nI v by rw [mw_eq, pk_un (by decide)]; exact g17, etk]
            right; right; right; left
            refine ⟨v, ?_, by rw [ev], rfl, rfl⟩
            rw [ev]
            have b1 := dVal_b (T := T) (rnd T len p - p) p 0 1 (by omega) (fun j j1 j2 => by
              have z := rnd_dg (len := len) d j j1 (by omega)
              unfold isDg at z
              simp only [Bool.and_eq_true, decide_eq_true_eq] at z
              exact z.2)
            have b2 : 10 ^ (rnd T len p - p) ≤ 10 ^ 4 := Nat.pow_le_pow_right (by decide) f5
            omega
        · rw [if_pos (show 5 ≤ nI (rnd T len p - p) from nI_le (a := 5) (by omega) (by omega))]
          rw [if_neg f5] at etk
          refine ⟨_, rfl, gc, gj, Or.inr ⟨p, _, _, rnd T len p, lk, r2, g14, g15, ?_, rfl⟩⟩
          rw [g16, etk]
          exact Or.inr (Or.inl ⟨rfl, rfl⟩)
      · have er : rnd T len p = p + 1 := by unfold rnd; rw [if_neg a, if_neg d]
        have etk : tkc T p (rnd T len p) = if isSg (T p) = true then T p else 1 := by unfold tkc; rw [if_neg a, if_neg d]
        rw [if_neg d, if_pos rfl]
        by_cases g : isSg (T p) = true
        · rw [if_pos g] at etk
          rw [if_pos g, if_neg (by decide), fstf_d]
          refine ⟨_, rfl, fun c hc => by rw [mw_ne hc, nc c hc], fun j j1 j2 j3 j4 => by rw [mw_eq, pk_un j3, nj j j1 j2 j3 j4], Or.inr ⟨p, _, _, rnd T len p, lk, r2, ?_, ?_, ?_, rfl⟩⟩
          · rw [mw_eq, pk_un (by decide), er]; exact n14
          · rw [mw_eq, pk_un (by decide)]; exact n15
          · rw [show mw M9 0 16 4 0 16 = 4 by rw [mw_eq, pk_us], show mw M9 0 16 4 0 17 = nI (T p) by rw [mw_eq, pk_un (by decide)]; exact n17, etk]
            exact Or.inr (Or.inr (Or.inr (Or.inr ⟨g, rfl, rfl⟩)))
        · rw [if_neg g] at etk
          rw [if_neg g, if_pos rfl]
          refine ⟨_, rfl, nc, nj, Or.inr ⟨p, _, _, rnd T len p, lk, r2, by rw [er]; exact n14, n15, ?_, rfl⟩⟩
          rw [n16, etk]
          exact Or.inr (Or.inl ⟨rfl, rfl⟩)
end LEXM
