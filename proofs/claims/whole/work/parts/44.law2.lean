/-! THE LAW reckoned by the reference. -/
def mSt (I0 I : gb_Mem) (v : List Int32) : Prop := (∀ c, c ≠ 23 → I c = I0 c) ∧ pAt (I 23) v
theorem mSt.push {I0 I : gb_Mem} {v : List Int32} (x : Int32) (h : mSt I0 I v) : mSt I0 (mw I 23 v.length x) (x :: v) := by
  refine ⟨fun c hc => by rw [mw_ne hc]; exact h.1 c hc, ?_, ?_⟩
  · rw [mw_eq, pk_us]
  · rw [mw_eq]; exact pAt_upd h.2 (Nat.le_refl _)
theorem mSt.top {I0 I : gb_Mem} {v : List Int32} {x : Int32} (y : Int32) (h : mSt I0 I (x :: v)) : mSt I0 (mw I 23 v.length y) (y :: v) := mSt.push y ⟨h.1, h.2.2⟩
theorem ms_num {I : gb_Mem} {e9 f c k n : Nat} (hc : c < e9) (he : e9 ≤ 400) (hk : k < 420) (h1 : I 16 c = nI 0) (h2 : I 17 c = nI n) : L_Mo_runs_12 0 (nI e9) (f + 1) (nI k) (nI c) I = L_Mo_runs_12 0 (nI e9) f (nI (k + 1)) (nI (c + 1)) (mw I 23 k (nI n)) := by
  simp only [L_Mo_runs_12, J_Mo_runs_45, J_Mo_runs_83, J_Mo_runs_170]
  rw [show (400 : Int32) * 0 + nI e9 = nI e9 by rw [show (400 : Int32) * 0 = nI 0 from rfl, nI_add, Nat.zero_add], if_neg (nI_ge hc (by omega)), flod_n (by omega) (by decide), h1, if_pos (show nI 0 = 0 from rfl), flod_n (by omega) (by decide), h1, if_pos (show nI 0 = 0 from rfl), flod_n (by omega) (by decide), h2, fsto_n hk (by decide), nI_1, nI_1]
theorem ms_ask {I : gb_Mem} {e9 f c k n : Nat} (hc : c < e9) (he : e9 ≤ 400) (hk : k < 420) (hn : n < 12) (h1 : I 16 c = nI 1) (h2 : I 17 c = nI n) : L_Mo_runs_12 0 (nI e9) (f + 1) (nI k) (nI c) I = L_Mo_runs_12 0 (nI e9) f (nI (k + 1)) (nI (c + 1)) (mw I 23 k (I 22 n)) := by
  simp only [L_Mo_runs_12, J_Mo_runs_45, J_Mo_runs_83, J_Mo_runs_170]
  rw [show (400 : Int32) * 0 + nI e9 = nI e9 by rw [show (400 : Int32) * 0 = nI 0 from rfl, nI_add, Nat.zero_add], if_neg (nI_ge hc (by omega)), flod_n (by omega) (by decide), h1, if_neg (show ¬ nI 1 = 0 by decide), flod_n (by omega) (by decide), h1, if_pos (show nI 1 = 1 from rfl), flod_n (by omega) (by decide), h1, if_neg (show ¬ nI 1 = 0 by decide), flod_n (by omega) (by decide), h2, flod_n hn (by decide), fsto_n hk (by decide), nI_1, nI_1]
theorem ms_not {I : gb_Mem} {e9 f c k : Nat} (hc : c < e9) (he : e9 ≤ 400) (hk : k < 420) (h1 : I 16 c = nI 9) : L_Mo_runs_12 0 (nI e9) (f + 1) (nI (k + 1)) (nI c) I = L_Mo_runs_12 0 (nI e9) f (nI (k + 1)) (nI (c + 1)) (mw I 23 k (1 - I 23 k)) := by
  simp only [L_Mo_runs_12, J_Mo_runs_170]
  rw [show (400 : Int32) * 0 + nI e9 = nI e9 by rw [show (400 : Int32) * 0 = nI 0 from rfl, nI_add, Nat.zero_add], if_neg (nI_ge hc (by omega)), flod_n (by omega) (by decide), h1, if_neg (show ¬ nI 9 = 0 by decide), flod_n (by omega) (by decide), h1, if_neg (show ¬ nI 9 = 1 by decide), flod_n (by omega) (by decide), h1, if_pos (show nI 9 = 9 from rfl), nI_pred, flod_n hk (by decide), fsto_n hk (by decide), nI_1]
theorem ms_two {I : gb_Mem} {e9 f c k o : Nat} {r : Int32} (hc : c < e9) (he : e9 ≤ 400) (hk : k < 418) (h1 : I 16 c = nI o) (ho : ¬ nI o = 0 ∧ ¬ nI o = 1 ∧ ¬ nI o = 9) (hr : F_Mo_twoOf (nI o) (I 23 k) (I 23 (k + 1)) I = some r) : L_Mo_runs_12 0 (nI e9) (f + 1) (nI (k + 1 + 1)) (nI c) I = L_Mo_runs_12 0 (nI e9) f (nI (k + 1)) (nI (c + 1)) (mw I 23 k r) := by
  simp only [L_Mo_runs_12, J_Mo_runs_170]
  rw [show (400 : Int32) * 0 + nI e9 = nI e9 by rw [show (400 : Int32) * 0 = nI 0 from rfl, nI_add, Nat.zero_add], if_neg (nI_ge hc (by omega)), flod_n (by omega) (by decide), h1, if_neg ho.1, flod_n (by omega) (by decide), h1, if_neg ho.2.1, flod_n (by omega) (by decide), h1, if_neg ho.2.2, flod_n (by omega) (by decide), h1, nI_pred, nI_pred, flod_n (by omega) (by decide), flod_n (by omega) (by decide), hr, fbd_s, fsto_n (by omega) (by decide), nI_1]
theorem runs_l {I0 : gb_Mem} {e9 : Nat} {env : Nat → Int32} (hw : ∀ w, w < 12 → I0 22 w = env w) (he : e9 ≤ 400) : ∀ (p : List (Nat × Nat)) (c f : Nat) (I : gb_Mem) (ty u : List Bool) (v : List Int32), mAt (I0 16) (I0 17) c (gMl p) → c + (gMl p).length = e9 → gTy p ty = some u → gTv ty v → v.length ≤ 60 → mSt I0 I v → (gMl p).length < f →
    ∃ J, L_Mo_runs_12 0 (nI e9) f (nI v.length) (nI c) I = some J ∧ mSt I0 J (gEv env p v) := by
  intro p
  induction p with
  | nil =>
    intro c f I ty u v hc hi hty hv hl hS hf
    obtain ⟨f, rfl⟩ : ∃ g, f = g + 1 := ⟨f - 1, by omega⟩
    refine ⟨I, ?_, hS⟩
    have hi2 : c = e9 := hi
    simp only [L_Mo_runs_12]
    rw [show (400 : Int32) * 0 + nI e9 = nI e9 by rw [show (400 : Int32) * 0 = nI 0 from rfl, nI_add, Nat.zero_add], if_pos (nI_le (by omega) (by omega))]
  | cons s p ih =>
    intro c f I ty u v hc hi hty hv hl hS hf
    obtain ⟨w, h1, h2, h3⟩ := gTy_len hty
    have hv2 := gTv_step (e := env) h1 hv
    have hl2 : (gEv1 env s v).length ≤ 60 := by rw [gTv_len hv2]; exact h2
    have e16 : I 16 = I0 16 := hS.1 16 (by decide)
    have e17 : I 17 = I0 17 := hS.1 17 (by decide)
    have e22 : I 22 = I0 22 := hS.1 22 (by decide)
    have eml : gMl (s :: p) = gMs s ++ gMl p := rfl
    rw [eml] at hc hi hf
    rcases gTy1_cases h1 with ⟨n, hn, rfl, rfl⟩ | ⟨n, hn, rfl, rfl⟩ | ⟨n, t9, hn0, hn, rfl, rfl, rfl⟩ | ⟨t9, rfl, rfl, rfl⟩ | ⟨o, t9, ho, rfl, rfl, rfl⟩ | ⟨o, t9, ho, rfl, rfl, rfl⟩ | ⟨o, t9, ho, rfl, rfl, rfl⟩
    · have hc2 : I0 16 c = nI 0 ∧ I0 17 c = nI n ∧ mAt (I0 16) (I0 17) (c + 1) (gMl p) := hc
      have hi2 : c + ((gMl p).length + 1) = e9 := hi
      have hf2 : (gMl p).length + 1 < f := hf
      obtain ⟨f, rfl⟩ : ∃ g, f = g + 1 := ⟨f - 1, by omega⟩
      rw [ms_num (by omega) he (by omega) (by rw [e16]; exact hc2.1) (by rw [e17]; exact hc2.2.1)]
      exact ih (c + 1) f _ _ u (nI n :: v) hc2.2.2 (by omega) h3 hv2 hl2 (hS.push _) (by omega)
    · have hc2 : I0 16 c = nI 1 ∧ I0 17 c = nI n ∧ mAt (I0 16) (I0 17) (c + 1) (gMl p) := hc
      have hi2 : c + ((gMl p).length + 1) = e9 := hi
      have hf2 : (gMl p).length + 1 < f := hf
      obtain ⟨f, rfl⟩ : ∃ g, f = g + 1 := ⟨f - 1, by omega⟩
      rw [ms_ask (by omega) he (by omega) hn (by rw [e16]; exact hc2.1) (by rw [e17]; exact hc2.2.1), e22, hw n hn]
      exact ih (c + 1) f _ _ u (env n :: v) hc2.2.2 (by omega) h3 hv2 hl2 (hS.push _) (by omega)
    · have hc2 : I0 16 c = nI 0 ∧ I0 17 c = nI n ∧ I0 16 (c + 1) = nI 5 ∧ I0 17 (c + 1) = nI 0 ∧ mAt (I0 16) (I0 17) (c + 1 + 1) (gMl p) := hc
      have hi2 : c + ((gMl p).length + 1 + 1) = e9 := hi
      have hf2 : (gMl p).length + 1 + 1 < f := hf
      obtain ⟨f, rfl⟩ : ∃ g, f = g + 1 + 1 := ⟨f - 2, by omega⟩
      cases v with
      | nil => exact absurd hv (fun q => q)
      | cons x v =>
        simp only [List.length_cons] at hl
        have hS2 := hS.push (nI n)
        rw [ms_num (by omega) he (by simp only [List.length_cons]; omega) (by rw [e16]; exact hc2.1) (by rw [e17]; exact hc2.2.1)]
        have hr : F_Mo_twoOf (nI 5) (mw I 23 (x :: v).length (nI n) 23 v.length) (mw I 23 (x :: v).length (nI n) 23 (v.length + 1)) (mw I 23 (x :: v).length (nI n)) = some (x / nI n) := by
          rw [show mw I 23 (x :: v).length (nI n) 23 v.length = x from hS2.2.2.1, show mw I 23 (x :: v).length (nI n) 23 (v.length + 1) = nI n from hS2.2.1]
          show fgd (decide (¬ nI n = 0)) (some (x / nI n)) = _
          unfold fgd
          rw [if_pos (decide_eq_true (nI_ne0 hn0 (by omega)))]
        rw [show (x :: v).length + 1 = v.length + 1 + 1 from rfl, ms_two (by omega) he (by omega) (by rw [mw_ne (by decide), e16]; exact hc2.2.2.1) (by decide) hr]
        have hS3 : mSt I0 (mw (mw I 23 (x :: v).length (nI n)) 23 v.length (x / nI n)) (x / nI n :: v) := mSt.push _ ⟨hS2.1, hS2.2.2.2⟩
        exact ih (c + 1 + 1) f _ _ u (x / nI n :: v) hc2.2.2.2.2 (by omega) h3 hv2 hl2 hS3 (by omega)
    · have hc2 : I0 16 c = nI 9 ∧ I0 17 c = nI 0 ∧ mAt (I0 16) (I0 17) (c + 1) (gMl p) := hc
      have hi2 : c + ((gMl p).length + 1) = e9 := hi
      have hf2 : (gMl p).length + 1 < f := hf
      obtain ⟨f, rfl⟩ : ∃ g, f = g + 1 := ⟨f - 1, by omega⟩
      cases v with
      | nil => exact absurd hv (fun q => q)
      | cons x v =>
        simp only [List.length_cons] at hl
        rw [show (x :: v).length = v.length + 1 from rfl, ms_not (by omega) he (by omega) (by rw [e16]; exact hc2.1), show I 23 v.length = x from hS.2.1]
        have ex : 1 - x = if x = 0 then 1 else 0 := by
          rcases hv.1 rfl with rfl | rfl <;> decide
        have hS3 := hS.top (1 - x)
        rw [ex] at hS3
        rw [ex]
        exact ih (c + 1) f _ _ u ((if x = 0 then 1 else 0) :: v) hc2.2.2 (by omega) h3 hv2 hl2 hS3 (by omega)
    · have hc2 : I0 16 c = nI o ∧ I0 17 c = nI 0 ∧ mAt (I0 16) (I0 17) (c + 1) (gMl p) := by rcases ho with rfl | rfl | rfl <;> exact hc
      have hi2 : c + ((gMl p).length + 1) = e9 := by rcases ho with rfl | rfl | rfl <;> exact hi
      have hf2 : (gMl p).length + 1 < f := by rcases ho with rfl | rfl | rfl <;> exact hf
      obtain ⟨f, rfl⟩ : ∃ g, f = g + 1 := ⟨f - 1, by omega⟩
      cases v with
      | nil => exact absurd hv (fun q => q)
      | cons x v =>
        cases v with
        | nil => exact absurd hv.2 (fun q => q)
        | cons y v =>
          simp only [List.length_cons] at hl
          have hr0 : F_Mo_twoOf (nI o) y x I = some (gOp o y x) := by rcases ho with rfl | rfl | rfl <;> rfl
          have hr : F_Mo_twoOf (nI o) (I 23 v.length) (I 23 (v.length + 1)) I = some (gOp o y x) := by
            rw [show I 23 v.length = y from hS.2.2.1, show I 23 (v.length + 1) = x from hS.2.1]; exact hr0
          rw [show (x :: y :: v).length = v.length + 1 + 1 from rfl, ms_two (by omega) he (by omega) (by rw [e16]; exact hc2.1) (by rcases ho with rfl | rfl | rfl <;> decide) hr]
          have hS3 : mSt I0 (mw I 23 v.length (gOp o y x)) (gOp o y x :: v) := mSt.push _ ⟨hS.1, hS.2.2.2⟩
          have eg : gEv1 env (o, 0) (x :: y :: v) = gOp o y x :: v := by rcases ho with rfl | rfl | rfl <;> rfl
          rw [show gEv env ((o, 0) :: p) (x :: y :: v) = gEv env p (gEv1 env (o, 0) (x :: y :: v)) from rfl]
          rw [eg] at hv2 hl2 ⊢
          exact ih (c + 1) f _ _ u (gOp o y x :: v) hc2.2.2 (by omega) h3 hv2 hl2 hS3 (by omega)
    · have hc2 : I0 16 c = nI o ∧ I0 17 c = nI 0 ∧ mAt (I0 16) (I0 17) (c + 1) (gMl p) := by rcases ho with rfl | rfl | rfl <;> exact hc
      have hi2 : c + ((gMl p).length + 1) = e9 := by rcases ho with rfl | rfl | rfl <;> exact hi
      have hf2 : (gMl p).length + 1 < f := by rcases ho with rfl | rfl | rfl <;> exact hf
      obtain ⟨f, rfl⟩ : ∃ g, f = g + 1 := ⟨f - 1, by omega⟩
      cases v with
      | nil => exact absurd hv (fun q => q)
      | cons x v =>
        cases v with
        | nil => exact absurd hv.2 (fun q => q)
        | cons y v =>
          simp only [List.length_cons] at hl
          have hr0 : F_Mo_twoOf (nI o) y x I = some (gOp o y x) := by
            rcases ho with rfl | rfl | rfl
            · show (if x ≤ y then some (0 : Int32) else some 1) = some (if x ≤ y then 0 else 1)
              by_cases c : x ≤ y
              · rw [if_pos c, if_pos c]
              · rw [if_neg c, if_neg c]
            · show (if y = x then some (1 : Int32) else some 0) = some (if y = x then 1 else 0)
              by_cases c : y = x
              · rw [if_pos c, if_pos c]
              · rw [if_neg c, if_neg c]
            · show (if y ≤ x then some (0 : Int32) else some 1) = some (if y ≤ x then 0 else 1)
              by_cases c : y ≤ x
              · rw [if_pos c, if_pos c]
              · rw [if_neg c, if_neg c]
          have hr : F_Mo_twoOf (nI o) (I 23 v.length) (I 23 (v.length + 1)) I = some (gOp o y x) := by
            rw [show I 23 v.length = y from hS.2.2.1, show I 23 (v.length + 1) = x from hS.2.1]; exact hr0
          rw [show (x :: y :: v).length = v.length + 1 + 1 from rfl, ms_two (by omega) he (by omega) (by rw [e16]; exact hc2.1) (by rcases ho with rfl | rfl | rfl <;> decide) hr]
          have hS3 : mSt I0 (mw I 23 v.length (gOp o y x)) (gOp o y x :: v) := mSt.push _ ⟨hS.1, hS.2.2.2⟩
          have eg : gEv1 env (o, 0) (x :: y :: v) = gOp o y x :: v := by rcases ho with rfl | rfl | rfl <;> rfl
          rw [show gEv env ((o, 0) :: p) (x :: y :: v) = gEv env p (gEv1 env (o, 0) (x :: y :: v)) from rfl]
          rw [eg] at hv2 hl2 ⊢
          exact ih (c + 1) f _ _ u (gOp o y x :: v) hc2.2.2 (by omega) h3 hv2 hl2 hS3 (by omega)
    · have hc2 : I0 16 c = nI o ∧ I0 17 c = nI 0 ∧ mAt (I0 16) (I0 17) (c + 1) (gMl p) := by rcases ho with rfl | rfl <;> exact hc
      have hi2 : c + ((gMl p).length + 1) = e9 := by rcases ho with rfl | rfl <;> exact hi
      have hf2 : (gMl p).length + 1 < f := by rcases ho with rfl | rfl <;> exact hf
      obtain ⟨f, rfl⟩ : ∃ g, f = g + 1 := ⟨f - 1, by omega⟩
      cases v with
      | nil => exact absurd hv (fun q => q)
      | cons x v =>
        cases v with
        | nil => exact absurd hv.2 (fun q => q)
        | cons y v =>
          simp only [List.length_cons] at hl
          have hr0 : F_Mo_twoOf (nI o) y x I = some (gOp o y x) := by
            have kk := b01_and y x (hv.2.1 rfl) (hv.1 rfl)
            rcases ho with rfl | rfl
            · show some (y * x) = some (y &&& x)
              rw [kk.1.1]
            · show (if y + x ≤ 0 then some (0 : Int32) else some 1) = some (y ||| x)
              rw [kk.2.1]
              by_cases c : y + x ≤ 0
              · rw [if_pos c, if_pos c]
              · rw [if_neg c, if_neg c]
          have hr : F_Mo_twoOf (nI o) (I 23 v.length) (I 23 (v.length + 1)) I = some (gOp o y x) := by
            rw [show I 23 v.length = y from hS.2.2.1, show I 23 (v.length + 1) = x from hS.2.1]; exact hr0
          rw [show (x :: y :: v).length = v.length + 1 + 1 from rfl, ms_two (by omega) he (by omega) (by rw [e16]; exact hc2.1) (by rcases ho with rfl | rfl <;> decide) hr]
          have hS3 : mSt I0 (mw I 23 v.length (gOp o y x)) (gOp o y x :: v) := mSt.push _ ⟨hS.1, hS.2.2.2⟩
          have eg : gEv1 env (o, 0) (x :: y :: v) = gOp o y x :: v := by rcases ho with rfl | rfl <;> rfl
          rw [show gEv env ((o, 0) :: p) (x :: y :: v) = gEv env p (gEv1 env (o, 0) (x :: y :: v)) from rfl]
          rw [eg] at hv2 hl2 ⊢
          exact ih (c + 1) f _ _ u (gOp o y x :: v) hc2.2.2 (by omega) h3 hv2 hl2 hS3 (by omega)
theorem runs_n {I0 I : gb_Mem} {a : Nat} {env : Nat → Int32} {p : List (Nat × Nat)} {bb : Bool} (hw : ∀ w, w < 12 → I0 22 w = env w) (hc : mAt (I0 16) (I0 17) a (gMl p)) (he : a + (gMl p).length ≤ 400) (hty : gTy p [] = some [bb]) (h1 : ∀ c, c ≠ 23 → I c = I0 c) {x : Int32} (hx : gEv env p [] = [x]) :
    ∃ J, F_Mo_runs 0 (nI a) (nI (a + (gMl p).length)) I = some (x, J) ∧ (∀ c, c ≠ 23 → J c = I0 c) := by
  unfold F_Mo_runs
  rw [flt_d, show (400 : Int32) * 0 + nI a = nI a by rw [show (400 : Int32) * 0 = nI 0 from rfl, nI_add, Nat.zero_add]]
  obtain ⟨J, j1, j2⟩ := runs_l hw he p a 5000 I [] [bb] [] hc rfl hty trivial (by simp) ⟨h1, trivial⟩ (by omega)
  rw [show L_Mo_runs_12 0 (nI (a + (gMl p).length)) 5000 0 (nI a) I = L_Mo_runs_12 0 (nI (a + (gMl p).length)) 5000 (nI ([] : List Int32).length) (nI a) I from rfl, j1, fbd_s]
  rw [hx] at j2
  exact ⟨J, by rw [show J 23 0 = x from j2.2.1], j2.1⟩
theorem held_eq {r m : Int32} {I I2 : gb_Mem} (hm : m = 99 ∨ m = 1000) : F_Gb_held r 0 m I = F_Mo_held r 0 m I2 := by
  unfold F_Gb_held F_Mo_held mx mn
  have h0m : (0 : Int32) < m := by rcases hm with rfl | rfl <;> decide
  by_cases c1 : 0 ≤ r
  · rw [if_pos c1]
    by_cases c2 : r ≤ m
    · rw [if_pos c2]
      by_cases c3 : r < m
      · rw [if_pos c3]
        by_cases c4 : 0 < r
        · rw [if_pos c4]
        · rw [if_neg c4]; exact Int32.le_antisymm c1 (Int32.not_lt.mp c4)
      · rw [if_neg c3, if_pos h0m]
        exact Int32.le_antisymm (Int32.not_lt.mp c3) c2
    · rw [if_neg c2, if_neg (fun q => c2 (Int32.le_of_lt q)), if_pos h0m]
  · rw [if_neg c1]
    have c5 : r < 0 := Int32.not_le.mp c1
    rw [if_pos (Int32.lt_trans c5 h0m), if_neg (fun q => c1 (Int32.le_of_lt q))]
/-- the lines, one after the other -/
theorem tell_l {X0 M0 : gb_Mem} {t b k : Nat} {wd m : Int32} {env : Nat → Int32} (hk : k ≤ 16) (eX : X0 6 4 = nI k) (eM : M0 11 0 = nI k)
    (hL : ∀ l, l < k → GLine l (X0 7) (X0 8) (X0 9) (M0 12) (M0 13) (M0 14) (M0 15) (M0 16) (M0 17))
    (hwX : ∀ J : gb_Mem, (∀ c, c ≠ 6 → c ≠ 10 → J c = X0 c) → ∀ w, w < 12 → F_La_worth t (nI b) (nI w) J = some (env w)) (hwM : ∀ w, w < 12 → M0 22 w = env w) :
    ∀ n i fX fM (X M : gb_Mem), i + n = k → n < fX → n < fM → (∀ c, c ≠ 6 → c ≠ 10 → X c = X0 c) → (∀ j, j ≠ 6 → X 6 j = X0 6 j) → (∀ c, c ≠ 23 → M c = M0 c) →
    ∃ JX JM, (∀ c, c ≠ 6 → c ≠ 10 → JX c = X0 c) ∧ (∀ j, j ≠ 6 → JX 6 j = X0 6 j) ∧ (∀ c, c ≠ 23 → JM c = M0 c) ∧
      ((L_La_tells_18 6 t wd (nI b) m fX (nI i) X = some (.inl JX) ∧ L_Mo_lineOf_2 wd fM (nI i) M = some (.inl JM)) ∨
       ∃ x l JM2, (∀ c, c ≠ 23 → JM2 c = M0 c) ∧ L_La_tells_18 6 t wd (nI b) m fX (nI i) X = some (.inr (F_Gb_held x 0 m JX, JX)) ∧ L_Mo_lineOf_2 wd fM (nI i) M = some (.inr (nI l, JM)) ∧ l < 16 ∧ F_Mo_runs 0 (JM 13 l) (JM 14 l) JM = some (x, JM2)) := by
  intro n
  induction n with
  | zero =>
    intro i fX fM X M hi hf1 hf2 x1 x2 m1
    obtain ⟨fX, rfl⟩ : ∃ g, fX = g + 1 := ⟨fX - 1, by omega⟩
    obtain ⟨fM, rfl⟩ : ∃ g, fM = g + 1 := ⟨fM - 1, by omega⟩
    refine ⟨X, M, x1, x2, m1, Or.inl ⟨?_, ?_⟩⟩
    · simp only [L_La_tells_18]
      rw [x2 4 (by decide), eX, if_pos (nI_le (by omega) (by omega))]
    · simp only [L_Mo_lineOf_2]
      rw [m1 11 (by decide), eM, if_pos (nI_le (by omega) (by omega))]
  | succ n ih =>
    intro i fX fM X M hi hf1 hf2 x1 x2 m1
    obtain ⟨fX, rfl⟩ : ∃ g, fX = g + 1 := ⟨fX - 1, by omega⟩
    obtain ⟨fM, rfl⟩ : ∃ g, fM = g + 1 := ⟨fM - 1, by omega⟩
    obtain ⟨p, q, a, c, g1, g2, g3, g4, g5, g6, g7, g8, g9, g10, g11, g12, g13, g14, g15⟩ := hL i (by omega)
    simp only [L_La_tells_18, L_Mo_lineOf_2, J_La_tells_115, J_La_tells_91, J_Mo_lineOf_59]
    rw [x2 4 (by decide), eX, m1 11 (by decide), eM, if_neg (nI_ge (by omega) (by omega)), if_neg (nI_ge (by omega) (by omega)), if_neg (show ¬ 16 ≤ nI i from nI_ge (b := 16) (by omega) (by decide))]
    rw [show (2 : Int32) * nI i = nI (2 * i) from pk_mul 2 i, show nI (2 * i) + 1 = nI (2 * i + 1) from nI_add _ 1, show nI (2 * i) + 2 = nI (2 * i + 2) from nI_add _ 2]
    rw [flod_n (by omega) (by decide), flod_n (by omega) (by decide), flod_n (by omega) (by decide), flod_n (by omega) (by decide), flod_n (by omega) (by decide)]
    rw [show X (6 + 3) = X0 9 from x1 9 (by decide) (by decide), show X (6 + 2) = X0 8 from x1 8 (by decide) (by decide), m1 12 (by decide), g1, g3, g4, nI_1]
    have more := ih (i + 1) fX fM
    by_cases cw : M0 12 i = wd
    · rw [if_pos cw, if_pos cw, flod_n (by omega) (by decide), flod_n (by omega) (by decide), m1 14 (by decide), m1 15 (by decide), g9, g10]
      -- how the E of this line is reckoned
      have finE : ∀ X9 M9 : gb_Mem, (∀ c, c ≠ 6 → c ≠ 10 → X9 c = X0 c) → (∀ j, j ≠ 6 → X9 6 j = X0 6 j) → (∀ c, c ≠ 23 → M9 c = M0 c) → ∃ x JX JM2, (∀ c, c ≠ 6 → c ≠ 10 → JX c = X0 c) ∧ (∀ j, j ≠ 6 → JX 6 j = X0 6 j) ∧ (∀ c, c ≠ 23 → JM2 c = M0 c) ∧ F_La_reckon 6 t (nI b) (nI a) (nI (a + p.length)) X9 = some (x, JX) ∧ X9 (6 + 3) (2 * i) = nI a ∧ F_Mo_runs 0 (M9 13 i) (M9 14 i) M9 = some (x, JM2) := by
        intro X9 M9 y1 y2 z1
        obtain ⟨x, JX, j1, j2, j3, j4⟩ := reckon_n (I := X9) hwX g6 (by omega) g14 y1 y2
        obtain ⟨JM2, k1, k2⟩ := runs_n (I := M9) hwM g12 (by omega) g14 z1 j2
        refine ⟨x, JX, JM2, j3, j4, k2, j1, ?_, ?_⟩
        · rw [show X9 (6 + 3) = X0 9 from y1 9 (by decide) (by decide), g2]
        · rw [z1 13 (by decide), z1 14 (by decide), g8, g9]; exact k1
      by_cases cq : q = []
      · subst cq
        rw [if_pos (by simp), if_pos (by simp [gMl])]
        obtain ⟨x, JX, JM2, e1, e2, e3, e4, e6, e5⟩ := finE X M x1 x2 m1
        rw [g2, e4, fbd_s]
        exact ⟨JX, M, e1, e2, m1, Or.inr ⟨x, i, JM2, e3, rfl, rfl, by omega, e5⟩⟩
      · have hq2 : gTy q [] = some [true] := g15.resolve_left cq
        have hql : 0 < q.length := List.length_pos_iff.mpr cq
        have hgl : 0 < (gMl q).length := by
          cases q with
          | nil => exact absurd rfl cq
          | cons s q =>
            rw [show gMl (s :: q) = gMs s ++ gMl q from rfl, List.length_append]
            have : 0 < (gMs s).length := by
              unfold gMs
              by_cases c : s.1 = 5
              · rw [if_pos c]; exact Nat.zero_lt_succ _
              · rw [if_neg c]; exact Nat.zero_lt_succ _
            omega
        rw [if_neg (fun z => by have := (nI_eq (by omega) (by omega)).mp z; omega), if_neg (fun z => by have := (nI_eq (by omega) (by omega)).mp z; omega)]
        obtain ⟨x, JX, j1, j2, j3, j4⟩ := reckon_n (I := X) hwX g7 (by omega) hq2 x1 x2
        obtain ⟨JM, k1, k2⟩ := runs_n (I := M) hwM g13 (by omega) hq2 m1 j2
        rw [flod_n (by omega) (by decide), flod_n (by omega) (by decide), m1 14 (by decide), m1 15 (by decide), g9, g10, j1, k1, fbd_s, fbd_s]
        dsimp only
        by_cases cx : x = 0
        · rw [if_pos cx, if_pos cx]
          exact more JX JM (by omega) (by omega) (by omega) j3 j4 k2
        · rw [if_neg cx, if_neg cx]
          obtain ⟨x9, JX9, JM9, e1, e2, e3, e4, e6, e5⟩ := finE JX JM j3 j4 k2
          rw [flod_n (by omega) (by decide), e6, e4, fbd_s]
          exact ⟨JX9, JM, e1, e2, k2, Or.inr ⟨x9, i, JM9, e3, rfl, rfl, by omega, e5⟩⟩
    · rw [if_neg cw, if_neg cw]
      exact more X M (by omega) (by omega) (by omega) x1 x2 m1
