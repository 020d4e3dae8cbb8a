/-! Tokens: the pure picture, and the class's cutting. -/
def isLt (c : Nat) : Bool := (decide (97 ≤ c) && decide (c ≤ 122)) || (decide (65 ≤ c) && decide (c ≤ 90))
def isDg (c : Nat) : Bool := decide (48 ≤ c) && decide (c ≤ 57)
def isBk (c : Nat) : Bool := decide (c = 32) || decide (c = 10)
def isSg (c : Nat) : Bool := decide (c = 59 ∨ c = 43 ∨ c = 45 ∨ c = 42 ∨ c = 47 ∨ c = 40 ∨ c = 41 ∨ c = 60 ∨ c = 61 ∨ c = 62)
def skp (P : Nat → Bool) (T : Nat → Nat) : Nat → Nat → Nat
  | 0, q => q
  | m + 1, q => if P (T q) = true then skp P T m (q + 1) else q
theorem skp_b {P : Nat → Bool} {T : Nat → Nat} : ∀ m q, q ≤ skp P T m q ∧ skp P T m q ≤ q + m := by
  intro m
  induction m with
  | zero => intro q; exact ⟨Nat.le_refl _, Nat.le_refl _⟩
  | succ m ih =>
    intro q
    simp only [skp]
    by_cases c : P (T q) = true
    · rw [if_pos c]
      have := ih (q + 1)
      omega
    · rw [if_neg c]; omega
theorem skp_in {P : Nat → Bool} {T : Nat → Nat} : ∀ m q j, q ≤ j → j < skp P T m q → P (T j) = true := by
  intro m
  induction m with
  | zero => intro q j h1 h2; simp only [skp] at h2; omega
  | succ m ih =>
    intro q j h1 h2
    simp only [skp] at h2
    by_cases c : P (T q) = true
    · rw [if_pos c] at h2
      by_cases e : j = q
      · rw [e]; exact c
      · exact ih (q + 1) j (by omega) h2
    · rw [if_neg c] at h2; omega
theorem skp_t {P : Nat → Bool} {T : Nat → Nat} {m q : Nat} (h : P (T q) = true) : skp P T (m + 1) q = skp P T m (q + 1) := by simp only [skp]; rw [if_pos h]
theorem skp_f {P : Nat → Bool} {T : Nat → Nat} {m q : Nat} (h : ¬ P (T q) = true) : skp P T (m + 1) q = q := by simp only [skp]; rw [if_neg h]
def rnd (T : Nat → Nat) (len p : Nat) : Nat := if isLt (T p) = true then skp isLt T (len - (p + 1)) (p + 1) else if isDg (T p) = true then skp isDg T (len - (p + 1)) (p + 1) else p + 1
theorem rnd_b {T : Nat → Nat} {len p : Nat} (h : p < len) : p < rnd T len p ∧ rnd T len p ≤ len := by
  unfold rnd
  have h1 := skp_b (P := isLt) (T := T) (len - (p + 1)) (p + 1)
  have h2 := skp_b (P := isDg) (T := T) (len - (p + 1)) (p + 1)
  split
  · omega
  · split <;> omega
def wSt (k : Nat) : Nat := [0, 7, 13, 20, 25, 30, 35, 42, 49, 54, 61, 66, 71, 75, 81, 88, 93, 96, 100, 104, 109, 115, 118, 123, 128, 133, 138, 141].getD k 0
def wLn (k : Nat) : Nat := [6, 5, 6, 4, 4, 4, 6, 6, 4, 6, 4, 4, 3, 5, 6, 4, 2, 3, 3, 4, 5, 2, 4, 4, 4, 4, 2].getD k 0
def wCh (k j : Nat) : Nat := (gb_by0 (wSt k + j)).toNatClampNeg
theorem w_tab : ∀ k, k < 27 → wSt (k + 1) = wSt k + wLn k + 1 ∧ 0 < wLn k ∧ wLn k ≤ 6 ∧ wSt k + wLn k < 141 ∧ gb_by0 (wSt k + wLn k) = 32 ∧ ∀ j, j < wLn k → gb_by0 (wSt k + j) = nI (wCh k j) ∧ wCh k j < 128 ∧ isLt (wCh k j) = true := by decide +kernel
/-- the letters from p to e are word k -/
def wEq (T : Nat → Nat) (p e k : Nat) : Prop := e - p = wLn k ∧ ∀ j, j < wLn k → T (p + j) = wCh k j
def wEqb (T : Nat → Nat) (p e k : Nat) : Bool := decide (e - p = wLn k ∧ ∀ j, j < wLn k → T (p + j) = wCh k j)
theorem wEqb_iff {T : Nat → Nat} {p e k : Nat} : wEqb T p e k = true ↔ wEq T p e k := by unfold wEqb wEq; exact decide_eq_true_iff
def wFind (T : Nat → Nat) (p e : Nat) : Nat → Nat → Nat
  | 0, _ => 1
  | m + 1, k => if wEqb T p e k = true then 200 + k else wFind T p e m (k + 1)
def dVal (T : Nat → Nat) : Nat → Nat → Nat → Nat
  | 0, _, a => a
  | m + 1, q, a => dVal T m (q + 1) (10 * a + (T q - 48))
theorem dVal_b {T : Nat → Nat} : ∀ m q a B, a < B → (∀ j, q ≤ j → j < q + m → T j ≤ 57) → dVal T m q a < 10 ^ m * B := by
  intro m
  induction m with
  | zero => intro q a B h _; simp only [dVal]; omega
  | succ m ih =>
    intro q a B h hT
    simp only [dVal]
    have h0 := hT q (by omega) (by omega)
    have h1 := ih (q + 1) (10 * a + (T q - 48)) (10 * B) (by omega) (fun j j1 j2 => hT j (by omega) (by omega))
    rw [Nat.pow_succ, Nat.mul_assoc]; exact h1
def tkc (T : Nat → Nat) (p e : Nat) : Nat := if isLt (T p) = true then wFind T p e 27 0 else if isDg (T p) = true then (if e - p ≤ 4 then 1000 + dVal T (e - p) p 0 else 1) else if isSg (T p) = true then T p else 1
def lx (T : Nat → Nat) (len : Nat) : Nat → Nat → List (Nat × Nat)
  | 0, _ => []
  | m + 1, p => if len ≤ p then [] else if isBk (T p) = true then lx T len m (p + 1) else (p, tkc T p (rnd T len p)) :: lx T len m (rnd T len p)
theorem lx_fuel {T : Nat → Nat} {len : Nat} : ∀ m m' p, len ≤ p + m → len ≤ p + m' → lx T len m p = lx T len m' p := by
  intro m
  induction m with
  | zero =>
    intro m' p h1 h2
    cases m' with
    | zero => rfl
    | succ m' => simp only [lx]; rw [if_pos (by omega)]
  | succ m ih =>
    intro m' p h1 h2
    cases m' with
    | zero => simp only [lx]; rw [if_pos (by omega)]
    | succ m' =>
      simp only [lx]
      by_cases c : len ≤ p
      · rw [if_pos c, if_pos c]
      · rw [if_neg c, if_neg c]
        have hr := rnd_b (T := T) (len := len) (p := p) (by omega)
        rw [ih m' (p + 1) (by omega) (by omega), ih m' (rnd T len p) (by omega) (by omega)]
def lxs (T : Nat → Nat) (len p : Nat) : List (Nat × Nat) := lx T len (len - p) p
theorem lxs_end {T : Nat → Nat} {len p : Nat} (h : len ≤ p) : lxs T len p = [] := by
  unfold lxs
  rw [show len - p = 0 by omega]; rfl
theorem lxs_bk {T : Nat → Nat} {len p : Nat} (h : p < len) (hb : isBk (T p) = true) : lxs T len p = lxs T len (p + 1) := by
  unfold lxs
  rw [show len - p = len - (p + 1) + 1 by omega]
  simp only [lx]
  rw [if_neg (by omega), if_pos hb]
theorem lxs_tk {T : Nat → Nat} {len p : Nat} (h : p < len) (hb : ¬ isBk (T p) = true) : lxs T len p = (p, tkc T p (rnd T len p)) :: lxs T len (rnd T len p) := by
  have hr := rnd_b (T := T) (len := len) (p := p) h
  unfold lxs
  rw [show len - p = len - (p + 1) + 1 by omega]
  simp only [lx]
  rw [if_neg (by omega), if_neg hb, lx_fuel (len - (p + 1)) (len - rnd T len p) (rnd T len p) (by omega) (by omega)]
theorem lx_len {T : Nat → Nat} {len : Nat} : ∀ m p, (lx T len m p).length ≤ len - p := by
  intro m
  induction m with
  | zero => intro p; exact Nat.zero_le _
  | succ m ih =>
    intro p
    simp only [lx]
    by_cases c : len ≤ p
    · rw [if_pos c]; exact Nat.zero_le _
    · rw [if_neg c]
      by_cases b : isBk (T p) = true
      · rw [if_pos b]
        have := ih (p + 1)
        omega
      · rw [if_neg b, List.length_cons]
        have := ih (rnd T len p)
        have hr := rnd_b (T := T) (len := len) (p := p) (by omega)
        omega
theorem wi_if {c a b : Nat} {I : gb_Mem} (hc : c < 2 ^ 31) (ha : a < 2 ^ 31) (hb : b < 2 ^ 31) : F_Gb_within (nI c) (nI a) (nI b) I = if a ≤ c ∧ c ≤ b then 1 else 0 := by
  by_cases h : a ≤ c ∧ c ≤ b
  · rw [if_pos h]; exact within_n h.1 h.2 hb
  · rw [if_neg h, within_0]
    intro q
    exact h ⟨(nI_leI ha hc).mp q.1, (nI_leI hc hb).mp q.2⟩
theorem lt_n {c : Nat} {I : gb_Mem} (hc : c < 2 ^ 31) : F_Rd_isLetter (nI c) I = if isLt c = true then 1 else 0 := by
  unfold F_Rd_isLetter J_Rd_isLetter_22 isLt
  rw [show F_Gb_within (nI c) 97 122 I = if 97 ≤ c ∧ c ≤ 122 then 1 else 0 from wi_if (a := 97) (b := 122) hc (by decide) (by decide), show F_Gb_within (nI c) 65 90 I = if 65 ≤ c ∧ c ≤ 90 then 1 else 0 from wi_if (a := 65) (b := 90) hc (by decide) (by decide)]
  by_cases h1 : 97 ≤ c ∧ c ≤ 122
  · rw [if_pos h1, if_neg (by decide), if_pos (by simp [h1])]
  · rw [if_neg h1, if_pos rfl]
    by_cases h2 : 65 ≤ c ∧ c ≤ 90
    · rw [if_pos h2, if_neg (by decide), if_pos (by simp [h2])]
    · rw [if_neg h2, if_pos rfl, if_neg]
      simp only [Bool.or_eq_true, Bool.and_eq_true, decide_eq_true_eq]
      omega
theorem dg_n {c : Nat} {I : gb_Mem} (hc : c < 2 ^ 31) : F_Rd_isDigit (nI c) I = if isDg c = true then 1 else 0 := by
  unfold F_Rd_isDigit isDg
  rw [show F_Gb_within (nI c) 48 57 I = if 48 ≤ c ∧ c ≤ 57 then 1 else 0 from wi_if (a := 48) (b := 57) hc (by decide) (by decide)]
  by_cases h1 : 48 ≤ c ∧ c ≤ 57
  · rw [if_pos h1, if_pos (by simp [h1])]
  · rw [if_neg h1, if_neg (by simp only [Bool.and_eq_true, decide_eq_true_eq]; exact h1)]
theorem sg_n : ∀ c, c < 128 → (F_Js_indexOf (((nI c).toUInt32 % 65536).toInt32) (fun _ _ => 0) < 0 ↔ ¬ isSg c = true) := by decide +kernel
section LEXX
variable {X : gb_Mem} {T : Nat → Nat} {len : Nat}
/-- the class's tape -/
def XT (X : gb_Mem) (T : Nat → Nat) (len : Nat) : Prop := len ≤ 400 ∧ X 111 1 = nI len ∧ ∀ j, j < len → X 110 j = nI (T j) ∧ T j < 256
theorem chr_in (h : XT X T len) {p : Nat} (hp : p < len) : F_Rd_charAt (nI p) X = some (nI (T p)) := by
  obtain ⟨h1, h2, h3⟩ := h
  unfold F_Rd_charAt
  rw [h2, show nI len - 1 = nI (len - 1) from pk_sub (b := 1) (by omega), show F_Gb_within (nI p) 0 (nI (len - 1)) X = 1 from within_n (lo := 0) (by omega) (by omega) (by omega), if_neg (by decide), if_neg (show ¬ 400 ≤ nI p from nI_ge (b := 400) (by omega) (by decide)), flod_n (by omega) (by decide), (h3 p hp).1]
theorem re_l (h : XT X T len) : ∀ m q f, q + m = len → m < f → L_Rd_runEnd_23 1 0 X f (nI q) = some (nI (skp isLt T m q)) := by
  intro m
  induction m with
  | zero =>
    intro q f hq hf
    obtain ⟨f, rfl⟩ : ∃ g, f = g + 1 := ⟨f - 1, by omega⟩
    simp only [L_Rd_runEnd_23, skp]
    rw [h.2.1, if_pos (nI_le (by omega) (by have := h.1; omega))]
  | succ m ih =>
    intro q f hq hf
    obtain ⟨f, rfl⟩ : ∃ g, f = g + 1 := ⟨f - 1, by omega⟩
    have hl := h.1
    have ht := (h.2.2 q (by omega)).2
    simp only [L_Rd_runEnd_23, J_Rd_runEnd_48, J_Rd_runEnd_64]
    rw [h.2.1, if_neg (nI_ge (by omega) (by omega)), if_neg (by decide), chr_in h (by omega), fbd_s, lt_n (by omega), nI_1]
    by_cases c : isLt (T q) = true
    · rw [if_pos c, if_neg (by decide), skp_t c]
      exact ih (q + 1) f (by omega) (by omega)
    · rw [if_neg c, if_pos rfl, if_pos True.intro, skp_f c]
theorem re_d (h : XT X T len) : ∀ m q f, q + m = len → m < f → L_Rd_runEnd_23 0 1 X f (nI q) = some (nI (skp isDg T m q)) := by
  intro m
  induction m with
  | zero =>
    intro q f hq hf
    obtain ⟨f, rfl⟩ : ∃ g, f = g + 1 := ⟨f - 1, by omega⟩
    simp only [L_Rd_runEnd_23, skp]
    rw [h.2.1, if_pos (nI_le (by omega) (by have := h.1; omega))]
  | succ m ih =>
    intro q f hq hf
    obtain ⟨f, rfl⟩ : ∃ g, f = g + 1 := ⟨f - 1, by omega⟩
    have hl := h.1
    have ht := (h.2.2 q (by omega)).2
    simp only [L_Rd_runEnd_23, J_Rd_runEnd_48, J_Rd_runEnd_64]
    rw [h.2.1, if_neg (nI_ge (by omega) (by omega)), if_pos True.intro, if_neg (by decide), chr_in h (by omega), fbd_s, dg_n (by omega), nI_1]
    by_cases c : isDg (T q) = true
    · rw [if_pos c, if_neg (by decide), skp_t c]
      exact ih (q + 1) f (by omega) (by omega)
    · rw [if_neg c, if_pos rfl, skp_f c]
theorem re_0 (h : XT X T len) {q f : Nat} (hq : q ≤ len) (hf : 0 < f) : L_Rd_runEnd_23 0 0 X f (nI q) = some (nI q) := by
  obtain ⟨f, rfl⟩ : ∃ g, f = g + 1 := ⟨f - 1, by omega⟩
  have hl := h.1
  simp only [L_Rd_runEnd_23, J_Rd_runEnd_48]
  rw [h.2.1]
  by_cases c : len ≤ q
  · rw [if_pos (nI_le c (by omega))]
  · rw [if_neg (nI_ge (by omega) (by omega)), if_pos True.intro, if_pos True.intro]
theorem lt_dg {c : Nat} (h : isLt c = true) : isDg c = false := by
  unfold isLt at h
  unfold isDg
  simp only [Bool.or_eq_true, Bool.and_eq_true, decide_eq_true_eq] at h
  apply Bool.eq_false_iff.mpr
  simp only [ne_eq, Bool.and_eq_true, decide_eq_true_eq]
  omega
theorem rend_n (h : XT X T len) {p : Nat} (hp : p < len) : F_Rd_runEnd (nI p) X = some (nI (rnd T len p)) := by
  have hl := h.1
  have ht := (h.2.2 p hp).2
  unfold F_Rd_runEnd rnd
  rw [chr_in h hp, fbd_s, flt_d, fbd_s, flt_d, fbd_i, lt_n (by omega), dg_n (by omega), nI_1]
  by_cases c : isLt (T p) = true
  · rw [if_pos c, if_pos c, if_neg (by rw [lt_dg c]; decide)]
    exact re_l h (len - (p + 1)) (p + 1) 5000 (by omega) (by omega)
  · rw [if_neg c, if_neg c]
    by_cases d : isDg (T p) = true
    · rw [if_pos d, if_pos d]
      exact re_d h (len - (p + 1)) (p + 1) 5000 (by omega) (by omega)
    · rw [if_neg d, if_neg d]
      exact re_0 h (by omega) (by omega)
theorem num_l (h : XT X T len) {e : Nat} (he : e ≤ len) : ∀ m q f a, q + m = e → m < f → (∀ j, q ≤ j → j < e → isDg (T j) = true) → L_Rd_numberOf_14 (nI e) X f (nI a) (nI q) = some (nI (dVal T m q a)) := by
  intro m
  induction m with
  | zero =>
    intro q f a hq hf hd
    obtain ⟨f, rfl⟩ : ∃ g, f = g + 1 := ⟨f - 1, by omega⟩
    have hl := h.1
    simp only [L_Rd_numberOf_14, dVal]
    rw [if_pos (nI_le (by omega) (by omega))]
  | succ m ih =>
    intro q f a hq hf hd
    obtain ⟨f, rfl⟩ : ∃ g, f = g + 1 := ⟨f - 1, by omega⟩
    have hl := h.1
    have hd0 := hd q (by omega) (by omega)
    unfold isDg at hd0
    simp only [Bool.and_eq_true, decide_eq_true_eq] at hd0
    simp only [L_Rd_numberOf_14, dVal, flt_d]
    rw [if_neg (nI_ge (by omega) (by omega)), chr_in h (by omega), fbd_s, nI_1, show (10 : Int32) * nI a = nI (10 * a) from pk_mul 10 a, nI_add, show nI (10 * a + T q) - 48 = nI (10 * a + T q - 48) from pk_sub (b := 48) (by omega), show 10 * a + T q - 48 = 10 * a + (T q - 48) by omega]
    exact ih (q + 1) f _ (by omega) (by omega) (fun j j1 j2 => hd j (by omega) j2)
theorem jch_n {i : Nat} (h : i < 141) : F_Js_charAt (nI i) X = some (gb_by0 i) := by
  unfold F_Js_charAt
  rw [if_pos (inb_n h (by decide)), nI_clamp (by omega)]
theorem iw_l (h : XT X T len) {p e k : Nat} (hk : k < 27) (he : e ≤ len) (hpe : p ≤ e) (hl : e - p = wLn k) : ∀ m q f, q + m = e → p ≤ q → m < f → (∀ j, j < q - p → T (p + j) = wCh k j) → fbr (L_Rd_isWordAt_3 (nI (wSt k)) (nI p) (nI e) X f (nI q)) (fun _ => some 1) (fun q3 => some q3) = some (if wEqb T p e k = true then 1 else 0) := by
  obtain ⟨w1, w2, w3, w4, w5, w6⟩ := w_tab k hk
  intro m
  induction m with
  | zero =>
    intro q f hq hp hf hj
    obtain ⟨f, rfl⟩ : ∃ g, f = g + 1 := ⟨f - 1, by omega⟩
    have hl4 := h.1
    simp only [L_Rd_isWordAt_3]
    rw [if_pos (nI_le (by omega) (by omega)), if_pos (wEqb_iff.mpr ⟨hl, fun j hj2 => hj j (by omega)⟩)]
    rfl
  | succ m ih =>
    intro q f hq hp hf hj
    obtain ⟨f, rfl⟩ : ∃ g, f = g + 1 := ⟨f - 1, by omega⟩
    have hl4 := h.1
    have ht := (h.2.2 q (by omega)).2
    obtain ⟨z1, z2, -⟩ := w6 (q - p) (by omega)
    simp only [L_Rd_isWordAt_3]
    rw [if_neg (nI_ge (by omega) (by omega)), show nI (wSt k) + nI q - nI p = nI (wSt k + (q - p)) by rw [nI_add, pk_sub (by omega)]; exact congrArg nI (by omega), show F_Js_length X - 1 = nI 140 from (show (141 : Int32) - 1 = nI 140 by decide), show F_Gb_within (nI (wSt k + (q - p))) 0 (nI 140) X = 1 from within_n (lo := 0) (by omega) (by omega) (by decide), if_neg (by decide), jch_n (by omega), fbd_s, chr_in h (by omega), fbd_s, z1, nI_1]
    by_cases c : wCh k (q - p) = T q
    · rw [if_pos (by rw [c])]
      refine ih (q + 1) f (by omega) (by omega) (by omega) (fun j hj2 => ?_)
      by_cases e2 : j = q - p
      · rw [e2, show p + (q - p) = q by omega]; exact c.symm
      · exact hj j (by omega)
    · rw [if_neg (fun z => c ((nI_eq (by omega) (by omega)).mp z)), if_neg]
      · rfl
      · intro z
        have := (wEqb_iff.mp z).2 (q - p) (by omega)
        rw [show p + (q - p) = q by omega] at this
        exact c this.symm
theorem wf_c {p e k f : Nat} {x3 : Int32} (hk : k < 27) : ∀ m j, j + m = wLn k → L_Rd_wordOf_10 (nI p) (nI e) X (f + m) x3 (nI (wSt k)) (nI (wSt k + j)) = L_Rd_wordOf_10 (nI p) (nI e) X f x3 (nI (wSt k)) (nI (wSt k + wLn k)) := by
  obtain ⟨w1, w2, w3, w4, w5, w6⟩ := w_tab k hk
  intro m
  induction m with
  | zero => intro j hj; rw [show j = wLn k by omega]; rfl
  | succ m ih =>
    intro j hj
    obtain ⟨z1, z2, z3⟩ := w6 j (by omega)
    rw [show f + (m + 1) = f + m + 1 from rfl]
    simp only [L_Rd_wordOf_10, J_Rd_wordOf_65]
    rw [show F_Js_length X = nI 141 from rfl, if_neg (nI_ge (by omega) (by decide)), jch_n (by omega), fbd_s, z1, if_neg (show ¬ nI (wCh k j) = 32 from fun z => by
      have := (nI_eq (b := 32) (by omega) (by decide)).mp z
      rw [this] at z3; exact absurd z3 (by decide)), nI_1]
    exact ih (j + 1) (by omega)
theorem wf_l (h : XT X T len) {p e : Nat} (he : e ≤ len) (hpe : p ≤ e) : ∀ m k f, k + m = 27 → 7 * m < f → fbr (L_Rd_wordOf_10 (nI p) (nI e) X f (nI (200 + k)) (nI (wSt k)) (nI (wSt k))) (fun _ => some 1) (fun q3 => some q3) = some (nI (wFind T p e m k)) := by
  intro m
  induction m with
  | zero =>
    intro k f hk hf
    obtain ⟨f, rfl⟩ : ∃ g, f = g + 1 := ⟨f - 1, by omega⟩
    have : k = 27 := by omega
    subst this
    simp only [L_Rd_wordOf_10]
    rw [show F_Js_length X = nI 141 from rfl, if_pos (nI_le (by decide) (by decide))]
    rfl
  | succ m ih =>
    intro k f hk hf
    have hl4 := h.1
    obtain ⟨w1, w2, w3, w4, w5, w6⟩ := w_tab k (by omega)
    obtain ⟨f, rfl⟩ : ∃ g, f = g + 1 + wLn k := ⟨f - 1 - wLn k, by omega⟩
    have e0 : L_Rd_wordOf_10 (nI p) (nI e) X (f + 1 + wLn k) (nI (200 + k)) (nI (wSt k)) (nI (wSt k)) = L_Rd_wordOf_10 (nI p) (nI e) X (f + 1) (nI (200 + k)) (nI (wSt k)) (nI (wSt k + wLn k)) := wf_c (X := X) (p := p) (e := e) (f := f + 1) (x3 := nI (200 + k)) (show k < 27 by omega) (wLn k) 0 (by omega)
    rw [e0]
    simp only [L_Rd_wordOf_10, J_Rd_wordOf_56, J_Rd_wordOf_65, wFind]
    rw [show F_Js_length X = nI 141 from rfl, if_neg (nI_ge (by omega) (by decide)), jch_n (by omega), fbd_s, w5, if_pos rfl, pk_sub (by omega), pk_sub hpe, nI_1, nI_1, show wSt k + wLn k + 1 = wSt (k + 1) by omega, show 200 + k + 1 = 200 + (k + 1) by omega, show wSt k + wLn k - wSt k = wLn k by omega]
    by_cases c : wLn k = e - p
    · rw [if_pos (by rw [c])]
      unfold F_Rd_isWordAt
      rw [iw_l h (show k < 27 by omega) he hpe c.symm (e - p) p 5000 (by omega) (by omega) (by omega) (fun j hj => by omega), fbd_s]
      by_cases d : wEqb T p e k = true
      · rw [if_pos d, if_pos d, if_neg (by decide)]; rfl
      · rw [if_neg d, if_neg d, if_pos rfl]
        exact ih (k + 1) f (by omega) (by omega)
    · rw [if_neg (fun z => c ((nI_eq (by omega) (by omega)).mp z)), if_neg (fun z => c ((wEqb_iff.mp z).1).symm)]
      exact ih (k + 1) f (by omega) (by omega)
theorem rnd_lt {p : Nat} (h : isLt (T p) = true) : ∀ j, p ≤ j → j < rnd T len p → isLt (T j) = true := by
  intro j h1 h2
  unfold rnd at h2
  rw [if_pos h] at h2
  by_cases e : j = p
  · rw [e]; exact h
  · exact skp_in _ _ j (by omega) h2
theorem rnd_dg {p : Nat} (h : isDg (T p) = true) : ∀ j, p ≤ j → j < rnd T len p → isDg (T j) = true := by
  intro j h1 h2
  have hn : ¬ isLt (T p) = true := fun z => by rw [lt_dg z] at h; exact absurd h (by decide)
  unfold rnd at h2
  rw [if_neg hn, if_pos h] at h2
  by_cases e : j = p
  · rw [e]; exact h
  · exact skp_in _ _ j (by omega) h2
theorem tok_n (h : XT X T len) {p : Nat} (hp : p < len) : F_Rd_tokenOf (nI p) (nI (rnd T len p)) X = some (nI (tkc T p (rnd T len p))) := by
  have hl := h.1
  have ht := (h.2.2 p hp).2
  obtain ⟨r1, r2⟩ := rnd_b (T := T) hp
  unfold F_Rd_tokenOf tkc
  rw [chr_in h hp, fbd_s, lt_n (by omega), dg_n (by omega)]
  by_cases c : isLt (T p) = true
  · rw [if_pos c, if_pos c, if_neg (by decide), fbd_i]
    exact wf_l h r2 (by omega) 27 0 5000 (by omega) (by omega)
  · rw [if_neg c, if_neg c, if_pos rfl]
    by_cases d : isDg (T p) = true
    · rw [if_pos d, if_pos d, if_neg (by decide), fbd_i]
      unfold F_Rd_numberOf
      rw [pk_sub (by omega)]
      by_cases e : rnd T len p - p ≤ 4
      · rw [if_pos (show nI (rnd T len p - p) ≤ 4 from nI_le (b := 4) e (by decide)), if_pos e, show L_Rd_numberOf_14 (nI (rnd T len p)) X 5000 0 (nI p) = some (nI (dVal T (rnd T len p - p) p 0)) from num_l h r2 (rnd T len p - p) p 5000 0 (by omega) (by omega) (rnd_dg d), fbd_s, show (1000 : Int32) + nI (dVal T (rnd T len p - p) p 0) = nI (1000 + dVal T (rnd T len p - p) p 0) from nI_add 1000 _]
      · rw [if_neg (show ¬ nI (rnd T len p - p) ≤ 4 from nI_ge (a := 4) (by omega) (by omega)), if_neg e]; rfl
    · rw [if_neg d, if_neg d, if_pos rfl]
      by_cases e : T p < 128
      · rw [if_neg (show ¬ 128 ≤ nI (T p) from nI_ge (b := 128) e (by decide))]
        have := sg_n (T p) e
        by_cases g : isSg (T p) = true
        · rw [if_neg (show ¬ F_Js_indexOf _ X < 0 from fun z => (this.mp z) g), if_pos g]
        · rw [if_pos (show F_Js_indexOf _ X < 0 from this.mpr g), if_neg g]; rfl
      · rw [if_pos (show 128 ≤ nI (T p) from nI_le (a := 128) (by omega) (by omega)), if_neg]
        · rfl
        · unfold isSg
          rw [decide_eq_true_eq]; omega
theorem cut_l : ∀ m p X f c, XT X T len → len ≤ p + m → m < f → X 111 5 = nI c → c ≤ p → p ≤ len → ∃ Y, L_Rd_cutTokens_14 f (nI p) X = some Y ∧ Y 111 5 = nI (c + (lxs T len p).length) ∧ (∀ j s t, (lxs T len p)[j]? = some (s, t) → Y 112 (c + j) = nI t ∧ Y 113 (c + j) = nI s) ∧ (∀ j, j < c → Y 112 j = X 112 j ∧ Y 113 j = X 113 j) ∧ (∀ a, a ≠ 111 → a ≠ 112 → a ≠ 113 → Y a = X a) ∧ (∀ j, j ≠ 5 → Y 111 j = X 111 j) := by
  intro m
  induction m with
  | zero =>
    intro p X f c h hm hf hc hcp hpl
    obtain ⟨f, rfl⟩ : ∃ g, f = g + 1 := ⟨f - 1, by omega⟩
    have hl := h.1
    refine ⟨X, ?_, ?_, ?_, fun _ _ => ⟨rfl, rfl⟩, fun _ _ _ _ => rfl, fun _ _ => rfl⟩
    · simp only [L_Rd_cutTokens_14]
      rw [h.2.1, if_pos (nI_le (by omega) (by omega))]
    · rw [lxs_end (by omega), hc]; rfl
    · intro j s t q
      rw [lxs_end (by omega)] at q
      simp at q
  | succ m ih =>
    intro p X f c h hm hf hc hcp hpl
    obtain ⟨f, rfl⟩ : ∃ g, f = g + 1 := ⟨f - 1, by omega⟩
    have hl := h.1
    by_cases he : len ≤ p
    · refine ⟨X, ?_, ?_, ?_, fun _ _ => ⟨rfl, rfl⟩, fun _ _ _ _ => rfl, fun _ _ => rfl⟩
      · simp only [L_Rd_cutTokens_14]
        rw [h.2.1, if_pos (nI_le he (by omega))]
      · rw [lxs_end he, hc]; rfl
      · intro j s t q
        rw [lxs_end he] at q
        simp at q
    · have hp : p < len := by omega
      have ht := (h.2.2 p hp).2
      obtain ⟨r1, r2⟩ := rnd_b (T := T) hp
      have n32 : nI (T p) = 32 ↔ T p = 32 := nI_eq (b := 32) (by omega) (by decide)
      have n10 : nI (T p) = 10 ↔ T p = 10 := nI_eq (b := 10) (by omega) (by decide)
      simp only [L_Rd_cutTokens_14, J_Rd_cutTokens_93]
      rw [h.2.1, if_neg (nI_ge hp (by omega)), rend_n h hp, fbd_s, chr_in h hp, fbd_s, fbd_s, nI_1, mx_n (by omega) (by omega), Nat.max_eq_right (by omega)]
      by_cases b : isBk (T p) = true
      · have e1 : rnd T len p = p + 1 := by
          unfold isBk at b
          simp only [Bool.or_eq_true, decide_eq_true_eq] at b
          unfold rnd
          rcases b with b | b
          · rw [b, if_neg (by decide), if_neg (by decide)]
          · rw [b, if_neg (by decide), if_neg (by decide)]
        have e2 := lxs_bk hp b
        obtain ⟨Y, y1, y2, y3, y4, y5, y6⟩ := ih (p + 1) X f c h (by omega) (by omega) hc (by omega) (by omega)
        rw [e2, e1]
        refine ⟨Y, ?_, y2, y3, y4, y5, y6⟩
        unfold isBk at b
        simp only [Bool.or_eq_true, decide_eq_true_eq] at b
        rcases b with b | b
        · rw [if_pos (n32.mpr b)]; exact y1
        · rw [if_neg (fun z => by have := n32.mp z; omega), if_pos (n10.mpr b)]; exact y1
      · have e2 := lxs_tk hp b
        have b2 : ¬ T p = 32 ∧ ¬ T p = 10 := by
          unfold isBk at b
          simp only [Bool.or_eq_true, decide_eq_true_eq] at b
          omega
        obtain ⟨X2, hX2⟩ : ∃ Z, Z = mw (mw (mw X 112 c (nI (tkc T p (rnd T len p)))) 113 c (nI p)) 111 5 (nI (c + 1)) := ⟨_, rfl⟩
        have hT2 : XT X2 T len := by
          refine ⟨hl, ?_, fun j hj => ?_⟩
          · rw [hX2, mw_eq, pk_un (by decide), mw_ne (by decide), mw_ne (by decide)]; exact h.2.1
          · rw [hX2, mw_ne (by decide), mw_ne (by decide), mw_ne (by decide)]; exact h.2.2 j hj
        obtain ⟨Y, y1, y2, y3, y4, y5, y6⟩ := ih (rnd T len p) X2 f (c + 1) hT2 (by omega) (by omega) (by rw [hX2, mw_eq, pk_us]) (by omega) r2
        have k112 : X2 112 = upd (X 112) c (nI (tkc T p (rnd T len p))) := by rw [hX2, mw_ne (by decide), mw_ne (by decide), mw_eq]
        have k113 : X2 113 = upd (X 113) c (nI p) := by rw [hX2, mw_ne (by decide), mw_eq, mw_ne (by decide)]
        rw [e2]
        refine ⟨Y, ?_, ?_, fun j s t q => ?_, fun j hj => ?_, fun a a1 a2 a3 => ?_, fun j hj => ?_⟩
        · rw [if_neg (fun z => b2.1 (n32.mp z)), if_neg (fun z => b2.2 (n10.mp z)), hc, if_neg (show ¬ 400 ≤ nI c from nI_ge (b := 400) (by omega) (by decide)), tok_n h hp, fbd_s, fsto_n (by omega) (by decide), show mw X 112 c (nI (tkc T p (rnd T len p))) 111 5 = nI c by rw [mw_ne (by decide)]; exact hc, fsto_n (by omega) (by decide), fstf_d, show mw (mw X 112 c (nI (tkc T p (rnd T len p)))) 113 c (nI p) 111 5 = nI c by rw [mw_ne (by decide), mw_ne (by decide)]; exact hc, nI_1, ← hX2]
          exact y1
        · rw [y2, List.length_cons]; exact congrArg nI (by omega)
        · cases j with
          | zero =>
            rw [List.getElem?_cons_zero] at q
            cases q
            obtain ⟨z1, z2⟩ := y4 c (by omega)
            rw [Nat.add_zero, z1, z2, k112, k113, pk_us, pk_us]
            exact ⟨rfl, rfl⟩
          | succ j =>
            rw [List.getElem?_cons_succ] at q
            rw [show c + (j + 1) = c + 1 + j by omega]
            exact y3 j s t q
        · obtain ⟨z1, z2⟩ := y4 j (by omega)
          rw [z1, z2, k112, k113, pk_un (by omega), pk_un (by omega)]
          exact ⟨rfl, rfl⟩
        · rw [y5 a a1 a2 a3, hX2, mw_ne a1, mw_ne a3, mw_ne a2]
        · rw [y6 j hj, hX2, mw_eq, pk_un hj, mw_ne (by decide), mw_ne (by decide)]
end LEXX
