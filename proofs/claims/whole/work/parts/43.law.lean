/-! THE LAW reckoned: by the class's pile, by the reference's stack, both as a list. -/
def gOp (o : Nat) (x y : Int32) : Int32 := if o = 2 then x + y else if o = 3 then x - y else if o = 4 then x * y else if o = 6 then (if y ≤ x then 0 else 1) else if o = 7 then (if x = y then 1 else 0) else if o = 8 then (if x ≤ y then 0 else 1) else if o = 10 then x &&& y else x ||| y
def gEv1 (e : Nat → Int32) (s : Nat × Nat) (v : List Int32) : List Int32 :=
  if s.1 = 0 then nI s.2 :: v else if s.1 = 1 then e s.2 :: v else match v with
    | [] => []
    | x :: v => if s.1 = 5 then x / nI s.2 :: v else if s.1 = 9 then (if x = 0 then 1 else 0) :: v else match v with
      | [] => []
      | y :: v => gOp s.1 y x :: v
def gEv (e : Nat → Int32) : List (Nat × Nat) → List Int32 → List Int32
  | [], v => v
  | s :: p, v => gEv e p (gEv1 e s v)
def gTv : List Bool → List Int32 → Prop
  | [], [] => True
  | b :: t, x :: v => (b = true → x = 0 ∨ x = 1) ∧ gTv t v
  | _, _ => False
/-- a list on a row of cells, its head the highest -/
def pAt (f : Nat → Int32) : List Int32 → Prop
  | [] => True
  | x :: v => f v.length = x ∧ pAt f v
theorem pAt_upd {f : Nat → Int32} {n : Nat} {x : Int32} : ∀ {v : List Int32}, pAt f v → v.length ≤ n → pAt (upd f n x) v := by
  intro v
  induction v with
  | nil => intro _ _; trivial
  | cons y v ih =>
    intro h hl
    simp only [List.length_cons] at hl
    exact ⟨by rw [pk_un (by omega)]; exact h.1, ih h.2 (by omega)⟩
theorem gTv_len : ∀ {t : List Bool} {v : List Int32}, gTv t v → v.length = t.length := by
  intro t
  induction t with
  | nil =>
    intro v h
    cases v with
    | nil => rfl
    | cons _ _ => exact absurd h (fun q => q)
  | cons b t ih =>
    intro v h
    cases v with
    | nil => exact absurd h (fun q => q)
    | cons x v => simp only [List.length_cons]; rw [ih h.2]
theorem gTy1_cases {s : Nat × Nat} {t u : List Bool} (h : gTy1 s t = some u) :
    (∃ n, n < 10000 ∧ s = (0, n) ∧ u = false :: t) ∨ (∃ n, n < 12 ∧ s = (1, n) ∧ u = false :: t) ∨
    (∃ n t9, 0 < n ∧ n < 10000 ∧ s = (5, n) ∧ t = false :: t9 ∧ u = false :: t9) ∨ (∃ t9, s = (9, 0) ∧ t = true :: t9 ∧ u = true :: t9) ∨
    (∃ o t9, (o = 2 ∨ o = 3 ∨ o = 4) ∧ s = (o, 0) ∧ t = false :: false :: t9 ∧ u = false :: t9) ∨
    (∃ o t9, (o = 6 ∨ o = 7 ∨ o = 8) ∧ s = (o, 0) ∧ t = false :: false :: t9 ∧ u = true :: t9) ∨
    (∃ o t9, (o = 10 ∨ o = 11) ∧ s = (o, 0) ∧ t = true :: true :: t9 ∧ u = true :: t9) := by
  obtain ⟨o, n⟩ := s
  unfold gTy1 at h
  dsimp only at h
  by_cases c0 : o = 0
  · rw [if_pos c0] at h
    by_cases c : n < 10000
    · rw [if_pos c] at h
      exact Or.inl ⟨n, c, by rw [c0], (Option.some.inj h).symm⟩
    · rw [if_neg c] at h; cases h
  rw [if_neg c0] at h
  by_cases c1 : o = 1
  · rw [if_pos c1] at h
    by_cases c : n < 12
    · rw [if_pos c] at h
      exact Or.inr (Or.inl ⟨n, c, by rw [c1], (Option.some.inj h).symm⟩)
    · rw [if_neg c] at h; cases h
  rw [if_neg c1] at h
  cases t with
  | nil => cases h
  | cons x t =>
    dsimp only at h
    by_cases c5 : o = 5
    · rw [if_pos c5] at h
      by_cases c : 0 < n ∧ n < 10000 ∧ x = false
      · rw [if_pos c] at h
        exact Or.inr (Or.inr (Or.inl ⟨n, t, c.1, c.2.1, by rw [c5], by rw [c.2.2], (Option.some.inj h).symm⟩))
      · rw [if_neg c] at h; cases h
    rw [if_neg c5] at h
    by_cases c9 : o = 9
    · rw [if_pos c9] at h
      by_cases c : n = 0 ∧ x = true
      · rw [if_pos c] at h
        exact Or.inr (Or.inr (Or.inr (Or.inl ⟨t, by rw [c9, c.1], by rw [c.2], (Option.some.inj h).symm⟩)))
      · rw [if_neg c] at h; cases h
    rw [if_neg c9] at h
    cases t with
    | nil => cases h
    | cons y t =>
      dsimp only at h
      by_cases d1 : o ≤ 4
      · rw [if_pos d1] at h
        by_cases c : n = 0 ∧ x = false ∧ y = false
        · rw [if_pos c] at h
          exact Or.inr (Or.inr (Or.inr (Or.inr (Or.inl ⟨o, t, by omega, by rw [c.1], by rw [c.2.1, c.2.2], (Option.some.inj h).symm⟩))))
        · rw [if_neg c] at h; cases h
      rw [if_neg d1] at h
      by_cases d2 : o ≤ 8
      · rw [if_pos d2] at h
        by_cases c : n = 0 ∧ x = false ∧ y = false
        · rw [if_pos c] at h
          exact Or.inr (Or.inr (Or.inr (Or.inr (Or.inr (Or.inl ⟨o, t, by omega, by rw [c.1], by rw [c.2.1, c.2.2], (Option.some.inj h).symm⟩)))))
        · rw [if_neg c] at h; cases h
      rw [if_neg d2] at h
      by_cases d3 : o ≤ 11
      · rw [if_pos d3] at h
        by_cases c : n = 0 ∧ x = true ∧ y = true
        · rw [if_pos c] at h
          exact Or.inr (Or.inr (Or.inr (Or.inr (Or.inr (Or.inr ⟨o, t, by omega, by rw [c.1], by rw [c.2.1, c.2.2], (Option.some.inj h).symm⟩)))))
        · rw [if_neg c] at h; cases h
      · rw [if_neg d3] at h; cases h
theorem gTy_len : ∀ {p : List (Nat × Nat)} {s : Nat × Nat} {t u : List Bool}, gTy (s :: p) t = some u → ∃ w, gTy1 s t = some w ∧ w.length ≤ 60 ∧ gTy p w = some u := by
  intro p s t u h
  unfold gTy at h
  cases hw : gTy1 s t with
  | none => rw [hw] at h; cases h
  | some w =>
    rw [hw] at h
    dsimp only at h
    by_cases c : w.length ≤ 60
    · rw [if_pos c] at h; exact ⟨w, rfl, c, h⟩
    · rw [if_neg c] at h; cases h
theorem b01_and : ∀ x y : Int32, (x = 0 ∨ x = 1) → (y = 0 ∨ y = 1) → (x &&& y = x * y ∧ (x &&& y = 0 ∨ x &&& y = 1)) ∧ (x ||| y = (if x + y ≤ 0 then 0 else 1) ∧ (x ||| y = 0 ∨ x ||| y = 1)) := by
  intro x y hx hy
  rcases hx with rfl | rfl <;> rcases hy with rfl | rfl <;> decide
theorem gTv_step {e : Nat → Int32} {s : Nat × Nat} {t u : List Bool} {v : List Int32} (h : gTy1 s t = some u) (hv : gTv t v) : gTv u (gEv1 e s v) := by
  rcases gTy1_cases h with ⟨n, -, rfl, rfl⟩ | ⟨n, -, rfl, rfl⟩ | ⟨n, t9, -, -, rfl, rfl, rfl⟩ | ⟨t9, rfl, rfl, rfl⟩ | ⟨o, t9, ho, rfl, rfl, rfl⟩ | ⟨o, t9, ho, rfl, rfl, rfl⟩ | ⟨o, t9, ho, rfl, rfl, rfl⟩
  · exact ⟨fun q => absurd q (by decide), hv⟩
  · exact ⟨fun q => absurd q (by decide), hv⟩
  · cases v with
    | nil => exact absurd hv (fun q => q)
    | cons x v => exact ⟨fun q => absurd q (by decide), hv.2⟩
  · cases v with
    | nil => exact absurd hv (fun q => q)
    | cons x v =>
      refine ⟨fun _ => ?_, hv.2⟩
      by_cases c : x = 0
      · rw [if_pos c]; exact Or.inr rfl
      · rw [if_neg c]; exact Or.inl rfl
  · cases v with
    | nil => exact absurd hv (fun q => q)
    | cons x v =>
      cases v with
      | nil => exact absurd hv.2 (fun q => q)
      | cons y v =>
        rcases ho with rfl | rfl | rfl <;> exact ⟨fun q => absurd q (by decide), hv.2.2⟩
  · cases v with
    | nil => exact absurd hv (fun q => q)
    | cons x v =>
      cases v with
      | nil => exact absurd hv.2 (fun q => q)
      | cons y v =>
        rcases ho with rfl | rfl | rfl
        · refine ⟨fun _ => ?_, hv.2.2⟩
          show (if x ≤ y then (0 : Int32) else 1) = 0 ∨ (if x ≤ y then (0 : Int32) else 1) = 1
          by_cases c : x ≤ y
          · rw [if_pos c]; exact Or.inl rfl
          · rw [if_neg c]; exact Or.inr rfl
        · refine ⟨fun _ => ?_, hv.2.2⟩
          show (if y = x then (1 : Int32) else 0) = 0 ∨ (if y = x then (1 : Int32) else 0) = 1
          by_cases c : y = x
          · rw [if_pos c]; exact Or.inr rfl
          · rw [if_neg c]; exact Or.inl rfl
        · refine ⟨fun _ => ?_, hv.2.2⟩
          show (if y ≤ x then (0 : Int32) else 1) = 0 ∨ (if y ≤ x then (0 : Int32) else 1) = 1
          by_cases c : y ≤ x
          · rw [if_pos c]; exact Or.inl rfl
          · rw [if_neg c]; exact Or.inr rfl
  · cases v with
    | nil => exact absurd hv (fun q => q)
    | cons x v =>
      cases v with
      | nil => exact absurd hv.2 (fun q => q)
      | cons y v =>
        have k := b01_and y x (hv.2.1 rfl) (hv.1 rfl)
        rcases ho with rfl | rfl
        · exact ⟨fun _ => k.1.2, hv.2.2⟩
        · exact ⟨fun _ => k.2.2, hv.2.2⟩
/-- the class's pile holds v -/
def cSt (I0 I : gb_Mem) (v : List Int32) : Prop := (∀ c, c ≠ 6 → c ≠ 10 → I c = I0 c) ∧ (∀ j, j ≠ 6 → I 6 j = I0 6 j) ∧ I 6 6 = nI v.length ∧ pAt (I 10) v
theorem cSt.push {I0 I : gb_Mem} {v : List Int32} (x : Int32) (h : cSt I0 I v) (hl : v.length < 64) : ∃ J, F_La_push 6 x I = some J ∧ cSt I0 J (x :: v) := by
  obtain ⟨h1, h2, h3, h4⟩ := h
  refine ⟨mw (mw I 10 v.length x) 6 6 (nI (v.length + 1)), ?_, ?_, ?_, ?_, ?_, ?_⟩
  · unfold F_La_push
    rw [h3, show F_Gb_within (nI v.length) 0 (64 - 1) I = 1 from within_n (lo := 0) (hi := 63) (by omega) (by omega) (by decide), if_neg (by decide), fsto_n hl (by decide), fstf_d, mw_ne (by decide), h3, nI_1]
  · intro c d1 d2; rw [mw_ne d1, mw_ne d2]; exact h1 c d1 d2
  · intro j hj; rw [mw_eq, pk_un hj, mw_ne (by decide)]; exact h2 j hj
  · rw [mw_eq, pk_us]; rfl
  · rw [mw_ne (by decide), mw_eq, pk_us]
  · rw [mw_ne (by decide), mw_eq]; exact pAt_upd h4 (Nat.le_refl _)
theorem cSt.pop {I0 I : gb_Mem} {v : List Int32} {x : Int32} (h : cSt I0 I (x :: v)) (hl : v.length < 64) : ∃ J, F_La_pop 6 I = some (x, J) ∧ cSt I0 J v := by
  obtain ⟨h1, h2, h3, h4⟩ := h
  simp only [List.length_cons] at h3
  refine ⟨mw I 6 6 (nI v.length), ?_, ?_, ?_, ?_, ?_⟩
  · unfold F_La_pop
    rw [h3, show F_Gb_within (nI (v.length + 1)) 1 64 I = 1 from within_n (lo := 1) (hi := 64) (by omega) (by omega) (by decide), if_neg (by decide), fstf_d, nI_pred, mw_eq, pk_us, flod_n hl (by decide), mw_ne (by decide)]
    rw [show I (6 + 4) v.length = x from h4.1]
  · intro c d1 d2; rw [mw_ne d1]; exact h1 c d1 d2
  · intro j hj; rw [mw_eq, pk_un hj]; exact h2 j hj
  · rw [mw_eq, pk_us]
  · rw [mw_ne (by decide)]; exact h4.2
theorem code_n {o n : Nat} (hn : n < 10000) (ho : o ≤ 11) : ((nI (16384 * o + n)).toUInt32 >>> (Int32.toUInt32 14 &&& Int32.toUInt32 31)).toInt32 = nI o ∧ nI (16384 * o + n) &&& 16383 = nI n := by
  refine ⟨?_, ?_⟩
  · rw [pk_ushrN (by omega) 14 14 rfl]
    congr 1; omega
  · rw [pk_andN (by omega) (m := 16383) 14 rfl]
    congr 1; omega
theorem re_step {I0 I : gb_Mem} {t b e9 i f : Nat} {env : Nat → Int32} {s : Nat × Nat} {ty u : List Bool} {v : List Int32} (hw : ∀ J : gb_Mem, (∀ c, c ≠ 6 → c ≠ 10 → J c = I0 c) → ∀ w, w < 12 → F_La_worth t (nI b) (nI w) J = some (env w)) (hc : I0 7 i = nI (16384 * gSt s.1 + s.2)) (hi : i < e9) (he : e9 ≤ 400) (h : gTy1 s ty = some u) (hv : gTv ty v) (hl : v.length ≤ 60) (hS : cSt I0 I v) :
    ∃ J, L_La_reckon_12 6 t (nI b) (nI e9) (f + 1) (nI i) I = L_La_reckon_12 6 t (nI b) (nI e9) f (nI (i + 1)) J ∧ cSt I0 J (gEv1 env s v) := by
  have hc2 : I 7 i = nI (16384 * gSt s.1 + s.2) := by rw [hS.1 7 (by decide) (by decide)]; exact hc
  simp only [L_La_reckon_12, J_La_reckon_163, J_La_reckon_136, J_La_reckon_111]
  rw [if_neg (nI_ge hi (by omega)), if_neg (show ¬ 400 ≤ nI i from nI_ge (b := 400) (by omega) (by decide)), flod_n (by omega) (by decide), flt_d, flod_n (by omega) (by decide), show I (6 + 1) i = nI (16384 * gSt s.1 + s.2) from hc2, nI_1]
  have hlt := gTv_len hv
  rcases gTy1_cases h with ⟨n, hn, rfl, rfl⟩ | ⟨n, hn, rfl, rfl⟩ | ⟨n, t9, hn0, hn, rfl, rfl, rfl⟩ | ⟨t9, rfl, rfl, rfl⟩ | ⟨o, t9, ho, rfl, rfl, rfl⟩ | ⟨o, t9, ho, rfl, rfl, rfl⟩ | ⟨o, t9, ho, rfl, rfl, rfl⟩
  · obtain ⟨k1, k2⟩ := code_n (o := gSt 0) hn (by decide)
    dsimp only
    rw [k1, k2, if_pos (show nI (gSt 0) = 0 from rfl)]
    obtain ⟨J, j1, j2⟩ := hS.push (nI n) (by omega)
    rw [j1, fbd_s]
    exact ⟨J, rfl, j2⟩
  · obtain ⟨k1, k2⟩ := code_n (o := gSt 1) (n := n) (by omega) (by decide)
    dsimp only
    rw [k1, k2, if_neg (by decide), if_pos (show nI (gSt 1) = 1 from rfl), hw I hS.1 n hn, fbd_s]
    obtain ⟨J, j1, j2⟩ := hS.push (env n) (by omega)
    rw [j1, fbd_s]
    exact ⟨J, rfl, j2⟩
  · obtain ⟨k1, k2⟩ := code_n (o := gSt 5) hn (by decide)
    dsimp only
    cases v with
    | nil => exact absurd hv (fun q => q)
    | cons x v =>
      simp only [List.length_cons] at hl
      rw [k1, k2, if_neg (by decide), if_neg (by decide), if_pos (show nI (gSt 5) = 2 from rfl), if_neg (nI_ne0 hn0 (by omega))]
      obtain ⟨J, j1, j2⟩ := hS.pop (by omega)
      rw [j1, fbd_s]
      obtain ⟨J2, j3, j4⟩ := j2.push (x / nI n) (by omega)
      dsimp only
      unfold fgd
      rw [if_pos (decide_eq_true (nI_ne0 hn0 (by omega))), j3, fbd_s]
      exact ⟨J2, rfl, j4⟩
  · obtain ⟨k1, k2⟩ := code_n (o := gSt 9) (n := 0) (by decide) (by decide)
    dsimp only
    cases v with
    | nil => exact absurd hv (fun q => q)
    | cons x v =>
      simp only [List.length_cons] at hl
      rw [k1, if_neg (by decide), if_neg (by decide), if_neg (by decide), if_pos (show nI (gSt 9) = 3 from rfl)]
      obtain ⟨J, j1, j2⟩ := hS.pop (by omega)
      rw [j1, fbd_s]
      dsimp only
      by_cases c : x = 0
      · obtain ⟨J2, j3, j4⟩ := j2.push 1 (by omega)
        rw [if_pos c, j3, fbd_s]
        refine ⟨J2, rfl, ?_⟩
        have : gEv1 env (9, 0) (x :: v) = 1 :: v := by
          show (if x = 0 then (1 : Int32) else 0) :: v = _
          rw [if_pos c]
        rw [this]; exact j4
      · obtain ⟨J2, j3, j4⟩ := j2.push 0 (by omega)
        rw [if_neg c, j3, fbd_s]
        refine ⟨J2, rfl, ?_⟩
        have : gEv1 env (9, 0) (x :: v) = 0 :: v := by
          show (if x = 0 then (1 : Int32) else 0) :: v = _
          rw [if_neg c]
        rw [this]; exact j4
  · cases v with
    | nil => exact absurd hv (fun q => q)
    | cons x v =>
      cases v with
      | nil => exact absurd hv.2 (fun q => q)
      | cons y v =>
        simp only [List.length_cons] at hl
        obtain ⟨J, j1, j2⟩ := hS.pop (by simp only [List.length_cons]; omega)
        obtain ⟨J2, j3, j4⟩ := j2.pop (by omega)
        obtain ⟨J3, j5, j6⟩ := j4.push (gOp o y x) (by omega)
        obtain ⟨k1, k2⟩ := code_n (o := gSt o) (n := 0) (by decide) (by rcases ho with rfl | rfl | rfl <;> decide)
        have n0 : ¬ nI (gSt o) = 0 ∧ ¬ nI (gSt o) = 1 ∧ ¬ nI (gSt o) = 2 ∧ ¬ nI (gSt o) = 3 := by rcases ho with rfl | rfl | rfl <;> decide
        dsimp only
        rw [k1, if_neg n0.1, if_neg n0.2.1, if_neg n0.2.2.1, if_neg n0.2.2.2, j1, fbd_s]
        dsimp only
        rw [j3, fbd_s]
        dsimp only
        have hj : F_La_joined (nI (gSt o)) y x J2 = gOp o y x := by rcases ho with rfl | rfl | rfl <;> rfl
        rw [hj, j5, fbd_s]
        refine ⟨J3, rfl, ?_⟩
        have : gEv1 env (o, 0) (x :: y :: v) = gOp o y x :: v := by rcases ho with rfl | rfl | rfl <;> rfl
        rw [this]; exact j6
  · cases v with
    | nil => exact absurd hv (fun q => q)
    | cons x v =>
      cases v with
      | nil => exact absurd hv.2 (fun q => q)
      | cons y v =>
        simp only [List.length_cons] at hl
        obtain ⟨J, j1, j2⟩ := hS.pop (by simp only [List.length_cons]; omega)
        obtain ⟨J2, j3, j4⟩ := j2.pop (by omega)
        obtain ⟨J3, j5, j6⟩ := j4.push (gOp o y x) (by omega)
        obtain ⟨k1, k2⟩ := code_n (o := gSt o) (n := 0) (by decide) (by rcases ho with rfl | rfl | rfl <;> decide)
        have n0 : ¬ nI (gSt o) = 0 ∧ ¬ nI (gSt o) = 1 ∧ ¬ nI (gSt o) = 2 ∧ ¬ nI (gSt o) = 3 := by rcases ho with rfl | rfl | rfl <;> decide
        dsimp only
        rw [k1, if_neg n0.1, if_neg n0.2.1, if_neg n0.2.2.1, if_neg n0.2.2.2, j1, fbd_s]
        dsimp only
        rw [j3, fbd_s]
        dsimp only
        have hj : F_La_joined (nI (gSt o)) y x J2 = gOp o y x := by rcases ho with rfl | rfl | rfl <;> rfl
        rw [hj, j5, fbd_s]
        refine ⟨J3, rfl, ?_⟩
        have : gEv1 env (o, 0) (x :: y :: v) = gOp o y x :: v := by rcases ho with rfl | rfl | rfl <;> rfl
        rw [this]; exact j6
  · cases v with
    | nil => exact absurd hv (fun q => q)
    | cons x v =>
      cases v with
      | nil => exact absurd hv.2 (fun q => q)
      | cons y v =>
        simp only [List.length_cons] at hl
        obtain ⟨J, j1, j2⟩ := hS.pop (by simp only [List.length_cons]; omega)
        obtain ⟨J2, j3, j4⟩ := j2.pop (by omega)
        obtain ⟨J3, j5, j6⟩ := j4.push (gOp o y x) (by omega)
        obtain ⟨k1, k2⟩ := code_n (o := gSt o) (n := 0) (by decide) (by rcases ho with rfl | rfl <;> decide)
        have n0 : ¬ nI (gSt o) = 0 ∧ ¬ nI (gSt o) = 1 ∧ ¬ nI (gSt o) = 2 ∧ ¬ nI (gSt o) = 3 := by rcases ho with rfl | rfl <;> decide
        dsimp only
        rw [k1, if_neg n0.1, if_neg n0.2.1, if_neg n0.2.2.1, if_neg n0.2.2.2, j1, fbd_s]
        dsimp only
        rw [j3, fbd_s]
        dsimp only
        have hj : F_La_joined (nI (gSt o)) y x J2 = gOp o y x := by rcases ho with rfl | rfl <;> rfl
        rw [hj, j5, fbd_s]
        refine ⟨J3, rfl, ?_⟩
        have : gEv1 env (o, 0) (x :: y :: v) = gOp o y x :: v := by rcases ho with rfl | rfl <;> rfl
        rw [this]; exact j6
theorem reck_l {I0 : gb_Mem} {t b e9 : Nat} {env : Nat → Int32} (hw : ∀ J : gb_Mem, (∀ c, c ≠ 6 → c ≠ 10 → J c = I0 c) → ∀ w, w < 12 → F_La_worth t (nI b) (nI w) J = some (env w)) (he : e9 ≤ 400) : ∀ (p : List (Nat × Nat)) (i f : Nat) (I : gb_Mem) (ty u : List Bool) (v : List Int32), cAt (I0 7) i p → i + p.length = e9 → gTy p ty = some u → gTv ty v → v.length ≤ 60 → cSt I0 I v → p.length < f →
    ∃ J, L_La_reckon_12 6 t (nI b) (nI e9) f (nI i) I = some J ∧ cSt I0 J (gEv env p v) ∧ gTv u (gEv env p v) := by
  intro p
  induction p with
  | nil =>
    intro i f I ty u v hc hi hty hv hl hS hf
    obtain ⟨f, rfl⟩ : ∃ g, f = g + 1 := ⟨f - 1, by omega⟩
    refine ⟨I, ?_, hS, ?_⟩
    · simp only [L_La_reckon_12]
      simp only [List.length_nil] at hi
      rw [if_pos (nI_le (by omega) (by omega))]
    · have : ty = u := Option.some.inj hty
      rw [← this]; exact hv
  | cons s p ih =>
    intro i f I ty u v hc hi hty hv hl hS hf
    simp only [List.length_cons] at hi hf
    obtain ⟨f, rfl⟩ : ∃ g, f = g + 1 := ⟨f - 1, by omega⟩
    obtain ⟨w, h1, h2, h3⟩ := gTy_len hty
    obtain ⟨J, j1, j2⟩ := re_step (f := f) hw hc.1 (by omega) he h1 hv hl hS
    have hv2 := gTv_step (e := env) h1 hv
    rw [j1]
    exact ih (i + 1) f J w u _ hc.2 (by omega) h3 hv2 (by rw [gTv_len hv2]; exact h2) j2 (by omega)
theorem reckon_n {I0 I : gb_Mem} {t b a : Nat} {env : Nat → Int32} {p : List (Nat × Nat)} {bb : Bool} (hw : ∀ J : gb_Mem, (∀ c, c ≠ 6 → c ≠ 10 → J c = I0 c) → ∀ w, w < 12 → F_La_worth t (nI b) (nI w) J = some (env w)) (hc : cAt (I0 7) a p) (he : a + p.length ≤ 400) (hty : gTy p [] = some [bb]) (h1 : ∀ c, c ≠ 6 → c ≠ 10 → I c = I0 c) (h2 : ∀ j, j ≠ 6 → I 6 j = I0 6 j) :
    ∃ x J, F_La_reckon 6 t (nI b) (nI a) (nI (a + p.length)) I = some (x, J) ∧ gEv env p [] = [x] ∧ (∀ c, c ≠ 6 → c ≠ 10 → J c = I0 c) ∧ (∀ j, j ≠ 6 → J 6 j = I0 6 j) := by
  unfold F_La_reckon
  rw [fstf_d, show (0 : Int32) = nI 0 from rfl, mx_n (by omega) (by omega), Nat.max_eq_right (Nat.zero_le a)]
  have hS : cSt I0 (mw I 6 6 (nI 0)) [] := ⟨fun c d1 d2 => by rw [mw_ne d1]; exact h1 c d1 d2, fun j hj => by rw [mw_eq, pk_un hj]; exact h2 j hj, by rw [mw_eq, pk_us]; rfl, trivial⟩
  obtain ⟨J, j1, j2, j3⟩ := reck_l hw he p a 5000 _ [] [bb] [] hc rfl hty trivial (by simp) hS (by omega)
  rw [j1, fbd_s]
  unfold J_La_reckon_169
  generalize hv : gEv env p [] = v at *
  cases v with
  | nil => exact absurd j3 (fun q => q)
  | cons x v =>
    cases v with
    | cons y v => exact absurd j3.2 (fun q => q)
    | nil =>
      obtain ⟨J2, k1, k2⟩ := j2.pop (by simp)
      rw [k1, fbd_s]
      exact ⟨x, J2, rfl, rfl, k2.1, k2.2.1⟩
