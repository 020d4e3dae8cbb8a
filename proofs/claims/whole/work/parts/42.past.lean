/-! What can be undone: keep, undo. -/
theorem fcpy_n {α : Type} {I : gb_Mem} {a na b nb n : Nat} {k : gb_Mem → Option α} (h1 : n ≤ na) (h2 : n ≤ nb) (hn : n < 2 ^ 31) : fcpy I a na b nb 0 0 (nI n) k = k (mset I b (va_cpy (I a) (I b) 0 0 n)) := by
  unfold fcpy
  rw [nI_clamp hn, show (0 : Int32).toNatClampNeg = 0 from rfl, if_pos ⟨by decide, by decide, nI_pos hn, by omega, by omega⟩]
theorem cpy_in {f g : Nat → Int32} {n j : Nat} (h : j < n) : va_cpy f g 0 0 n j = f j := by
  rw [pk_cpy_in (Nat.zero_le j) (by omega)]
  congr 1; omega
theorem ta_copy {I : gb_Mem} (h0 h1 : Nat) (hd : h0 + 3 < h1 ∨ h1 + 3 < h0) : ∃ J, F_Ta_copyFrom h0 h1 I = some J ∧ (∀ c, c < h0 ∨ h0 + 3 < c → J c = I c) ∧ (∀ j, j < 6 → J h0 j = I h1 j) ∧ (∀ j, j < 60 → J (h0 + 1) j = I (h1 + 1) j) ∧ (∀ j, j < 48 → J (h0 + 2) j = I (h1 + 2) j) ∧ (∀ j, j < 10 → J (h0 + 3) j = I (h1 + 3) j) := by
  unfold F_Ta_copyFrom
  simp only [fstf_d]
  rw [show (60 : Int32) = nI 60 from rfl, show (48 : Int32) = nI 48 from rfl, show (10 : Int32) = nI 10 from rfl, fcpy_n (by decide) (by decide) (by decide), fcpy_n (by decide) (by decide) (by decide), fcpy_n (by decide) (by decide) (by decide)]
  have ne : h1 ≠ h0 := by omega
  refine ⟨_, rfl, fun c hc => ?_, fun j hj => ?_, fun j hj => ?_, fun j hj => ?_, fun j hj => ?_⟩
  · rw [mset_ne (by omega), mset_ne (by omega), mset_ne (by omega), mw_ne (by omega), mw_ne (by omega), mw_ne (by omega), mw_ne (by omega), mw_ne (by omega), mw_ne (by omega)]
  · rw [mset_ne (by omega), mset_ne (by omega), mset_ne (by omega)]
    simp only [mw_eq, mw_ne ne, upd_ap]
    have hc : j = 0 ∨ j = 1 ∨ j = 2 ∨ j = 3 ∨ j = 4 ∨ j = 5 := by omega
    rcases hc with rfl | rfl | rfl | rfl | rfl | rfl <;> simp
  · rw [mset_ne (by omega), mset_ne (by omega), mset_eq, cpy_in hj, mw_ne (by omega), mw_ne (by omega), mw_ne (by omega), mw_ne (by omega), mw_ne (by omega), mw_ne (by omega)]
  · rw [mset_ne (by omega), mset_eq, cpy_in hj, mset_ne (by omega), mw_ne (by omega), mw_ne (by omega), mw_ne (by omega), mw_ne (by omega), mw_ne (by omega), mw_ne (by omega)]
  · rw [mset_eq, cpy_in hj, mset_ne (by omega), mset_ne (by omega), mw_ne (by omega), mw_ne (by omega), mw_ne (by omega), mw_ne (by omega), mw_ne (by omega), mw_ne (by omega)]
theorem GTab.congr {T S B G now T2 S2 B2 G2 now2 st th pi kd : Nat → Int32} {bo : Int32} (h : GTab T S B G now st th pi kd bo) (hT : ∀ j, j < 6 → T2 j = T j) (hS : ∀ j, j < 60 → S2 j = S j) (hB : ∀ j, j < 48 → B2 j = B j) (hG : ∀ j, j < 10 → G2 j = G j) (hn : ∀ j, j < 80 → now2 j = now j) : GTab T2 S2 B2 G2 now2 st th pi kd bo := by
  obtain ⟨⟨a1, a2, a3, a4, a5, a6⟩, hs, hb, hg⟩ := h
  refine ⟨⟨?_, ?_, ?_, ?_, ?_, ?_⟩, fun s hs9 => ?_, fun b hb9 => ?_, fun k hk => ?_⟩
  · rw [hT _ (by omega), hn _ (by omega)]; exact a1
  · rw [hT _ (by omega), hn _ (by omega)]; exact a2
  · rw [hT _ (by omega), hn _ (by omega)]; exact a3
  · rw [hT _ (by omega), hn _ (by omega)]; exact a4
  · rw [hT _ (by omega), hn _ (by omega)]; exact a5
  · rw [hT _ (by omega)]; exact a6
  · rw [hS _ (by omega), hS _ (by omega), hS _ (by omega), hS _ (by omega), hS _ (by omega), hn _ (by omega), hn _ (by omega)]; exact hs s hs9
  · rw [hB _ (by omega), hB _ (by omega), hB _ (by omega), hB _ (by omega), hB _ (by omega), hB _ (by omega), hn _ (by omega), hn _ (by omega), hn _ (by omega), hn _ (by omega), hn _ (by omega)]; exact hb b hb9
  · rw [hG _ (by omega), hn _ (by omega)]; exact hg k hk
theorem GRng.congr {now now2 st th pi kd : Nat → Int32} {bo : Int32} (h : GRng now st th pi kd bo) (hn : ∀ j, j < 80 → now2 j = now j) : GRng now2 st th pi kd bo := by
  obtain ⟨a1, hs, hb⟩ := h
  refine ⟨a1, fun s hs9 => ?_, fun b hb9 => ?_⟩
  · rw [hn _ (by omega)]; exact hs s hs9
  · rw [hn _ (by omega), hn _ (by omega), hn _ (by omega)]; exact hb b hb9
theorem ka_55 {u : Nat} (hu : u < 6) : ∀ m i f (I : gb_Mem), I 0 3 = nI u → i + m = 80 → m < f → L_Mo_keepsAhead_55 f (nI i) I = some (mset I 2 (fun j => if 80 * u + i ≤ j ∧ j < 80 * u + 80 then I 1 (j - 80 * u) else I 2 j)) := by
  intro m
  induction m with
  | zero =>
    intro i f I hI hi hf
    obtain ⟨f, rfl⟩ : ∃ g, f = g + 1 := ⟨f - 1, by omega⟩
    simp only [L_Mo_keepsAhead_55]
    rw [if_pos (show 80 ≤ nI i from nI_le (a := 80) (by omega) (by omega)), mset_self]
    funext j
    rw [if_neg (by omega)]
  | succ m ih =>
    intro i f I hI hi hf
    obtain ⟨f, rfl⟩ : ∃ g, f = g + 1 := ⟨f - 1, by omega⟩
    simp only [L_Mo_keepsAhead_55]
    rw [if_neg (show ¬ 80 ≤ nI i from nI_ge (b := 80) (by omega) (by omega)), flod_n (by omega) (by decide), hI, show (80 : Int32) * nI u + nI i = nI (80 * u + i) by rw [show (80 : Int32) = nI 80 from rfl, pk_mul, nI_add], fsto_n (by omega) (by decide), nI_1, ih (i + 1) f _ (by rw [mw_ne (by decide)]; exact hI) (by omega) (by omega), mset_mw]
    congr 2
    funext j
    rw [mw_eq, mw_ne (by decide), upd_ap]
    by_cases c : 80 * u + i ≤ j ∧ j < 80 * u + 80
    · rw [if_pos c]
      by_cases c2 : j = 80 * u + i
      · rw [if_neg (by omega), if_pos c2]
        congr 1; omega
      · rw [if_pos (by omega)]
    · rw [if_neg c, if_neg (by omega), if_neg (by omega)]
theorem ka_21 : ∀ m i f (I : gb_Mem), I 0 3 = nI 5 → i + m = 400 → m < f → L_Mo_keepsAhead_21 f (nI i) I = some (mset I 2 (fun j => if i ≤ j ∧ j < 400 then I 2 (j + 80) else I 2 j)) := by
  intro m
  induction m with
  | zero =>
    intro i f I hI hi hf
    obtain ⟨f, rfl⟩ : ∃ g, f = g + 1 := ⟨f - 1, by omega⟩
    simp only [L_Mo_keepsAhead_21, hI]
    rw [show (80 : Int32) * nI 5 = nI 400 from rfl, if_pos (nI_le (by omega) (by omega)), mset_self]
    funext j
    rw [if_neg (by omega)]
  | succ m ih =>
    intro i f I hI hi hf
    obtain ⟨f, rfl⟩ : ∃ g, f = g + 1 := ⟨f - 1, by omega⟩
    simp only [L_Mo_keepsAhead_21, hI]
    rw [show (80 : Int32) * nI 5 = nI 400 from rfl, if_neg (nI_ge (by omega) (by omega)), show nI i + 80 = nI (i + 80) from nI_add i 80, flod_n (by omega) (by decide), fsto_n (by omega) (by decide), nI_1, ih (i + 1) f _ (by rw [mw_ne (by decide)]; exact hI) (by omega) (by omega), mset_mw]
    congr 2
    funext j
    rw [mw_eq, upd_ap, upd_ap]
    by_cases c : i ≤ j ∧ j < 400
    · rw [if_pos c]
      by_cases c2 : j = i
      · rw [if_neg (by omega), if_pos c2, c2]
      · rw [if_pos (by omega), if_neg (by omega)]
    · rw [if_neg c, if_neg (by omega), if_neg (by omega)]
/-- all but what can be undone, through a change of what can be undone -/
theorem ginv_past {IX IM JX JM : gb_Mem} (h : GInv IX IM) (hX : ∀ c, c < 69 ∨ 95 < c → JX c = IX c) (hM : ∀ c, c ≠ 0 → c ≠ 2 → JM c = IM c) (h0 : ∀ j, j ≠ 3 → JM 0 j = IM 0 j)
    (hP : GPast (JX 69 2) (JX 69 3) (JX 71) (xP JX 72 24) (JM 2) (JM 0 3) (IM 1 2) (IM 4) (IM 5) (IM 6) (IM 7) (IM 0 6)) : GInv JX JM := by
  have e2 : xP JX 35 34 = xP IX 35 34 := xP_congr (fun c h1 h2 => hX c (by omega))
  unfold GInv GWorld GFix at *
  simp (disch := decide) only [hX, hM, h0, e2]
  obtain ⟨hF, h5, hW, hPa, hO⟩ := h
  exact ⟨hF, h5, hW, hP, hO⟩
theorem xP_in {I : gb_Mem} {lo n c : Nat} (h : c < n) : xP I lo n c = I (lo + c) := by unfold xP; rw [if_pos h]
theorem GPast.keep {sz bo : Int32} {ls ls2 rw0 rw2 st th pi kd T S B G now : Nat → Int32} {tb0 tb2 : gb_Mem} {x k : Nat} (hx : x < 6) (hk : k ≤ 6)
    (h : ∀ i, i < k → GTab (tb0 (4 * ((x + 6 - k + i) % 6))) (tb0 (4 * ((x + 6 - k + i) % 6) + 1)) (tb0 (4 * ((x + 6 - k + i) % 6) + 2)) (tb0 (4 * ((x + 6 - k + i) % 6) + 3)) (fun j => rw0 (80 * i + j)) st th pi kd bo ∧ GRng (fun j => rw0 (80 * i + j)) st th pi kd bo ∧ ls ((x + 6 - k + i) % 6) = rw0 (80 * i + 2) ∧ gIn (rw0 (80 * i + 2)) 0 (if i + 1 < k then (rw0 (80 * (i + 1) + 2)).toInt else sz.toInt))
    (hT : GTab T S B G now st th pi kd bo) (hR : GRng now st th pi kd bo) (hsz : now 2 = sz) (hsz0 : gIn sz 0 sz.toInt)
    (d0 : ∀ j, j < 6 → tb2 (4 * x) j = T j) (d1 : ∀ j, j < 60 → tb2 (4 * x + 1) j = S j) (d2 : ∀ j, j < 48 → tb2 (4 * x + 2) j = B j) (d3 : ∀ j, j < 10 → tb2 (4 * x + 3) j = G j) (dO : ∀ r q, r < 6 → r ≠ x → q < 4 → tb2 (4 * r + q) = tb0 (4 * r + q))
    (dl : ls2 x = sz) (dlo : ∀ r, r ≠ x → ls2 r = ls r)
    (hrw : ∀ i j, i < (if k = 6 then 6 else k + 1) → j < 80 → rw2 (80 * i + j) = if i + 1 = (if k = 6 then 6 else k + 1) then now j else if k = 6 then rw0 (80 * (i + 1) + j) else rw0 (80 * i + j)) :
    GPast (nI ((x + 1) % 6)) (nI (if k = 6 then 6 else k + 1)) ls2 tb2 rw2 (nI (if k = 6 then 6 else k + 1)) sz st th pi kd bo := by
  refine ⟨rfl, (x + 1) % 6, _, Nat.mod_lt _ (by decide), ?_, rfl, rfl, ?_⟩
  · by_cases c : k = 6
    · rw [if_pos c]; decide
    · rw [if_neg c]; omega
  · intro i hi
    generalize hk2 : (if k = 6 then 6 else k + 1) = k2 at *
    have hk2' : k2 = if k = 6 then 6 else k + 1 := hk2.symm
    have hb : (k = 6 ∧ k2 = 6) ∨ (k < 6 ∧ k2 = k + 1) := by
      by_cases c : k = 6
      · rw [if_pos c] at hk2'; omega
      · rw [if_neg c] at hk2'; omega
    by_cases last : i + 1 = k2
    · have eix : ((x + 1) % 6 + 6 - k2 + i) % 6 = x := by omega
      rw [eix]
      have hn : ∀ j, j < 80 → (fun j => rw2 (80 * i + j)) j = now j := fun j hj => by dsimp only; rw [hrw i j hi hj, if_pos last]
      have h2 : rw2 (80 * i + 2) = sz := (hn 2 (by decide)).trans hsz
      refine ⟨hT.congr d0 d1 d2 d3 hn, hR.congr hn, dl.trans h2.symm, ?_⟩
      rw [if_neg (by omega), h2]; exact hsz0
    · rcases hb with ⟨c, c2⟩ | ⟨c, c2⟩
      · have eix : ((x + 1) % 6 + 6 - k2 + i) % 6 = (x + 6 - k + (i + 1)) % 6 := by omega
        obtain ⟨p1, p2, p3, p4⟩ := h (i + 1) (by omega)
        rw [eix]
        generalize hr : (x + 6 - k + (i + 1)) % 6 = r at *
        have hr6 : r < 6 := by omega
        have hrx : r ≠ x := by omega
        have hn : ∀ j, j < 80 → (fun j => rw2 (80 * i + j)) j = rw0 (80 * (i + 1) + j) := fun j hj => by dsimp only; rw [hrw i j hi hj, if_neg last, if_pos c]
        have h2 : rw2 (80 * i + 2) = rw0 (80 * (i + 1) + 2) := hn 2 (by decide)
        refine ⟨p1.congr (fun j _ => by rw [show 4 * r = 4 * r + 0 from rfl, dO r 0 hr6 hrx (by decide)]) (fun j _ => by rw [dO r 1 hr6 hrx (by decide)]) (fun j _ => by rw [dO r 2 hr6 hrx (by decide)]) (fun j _ => by rw [dO r 3 hr6 hrx (by decide)]) hn, p2.congr hn, ?_, ?_⟩
        · rw [dlo r hrx, h2]; exact p3
        · rw [h2, if_pos (by omega)]
          have h3 : rw2 (80 * (i + 1) + 2) = if i + 1 + 1 = k2 then sz else rw0 (80 * (i + 1 + 1) + 2) := by
            rw [hrw (i + 1) 2 (by omega) (by decide), hsz]
            by_cases l2 : i + 1 + 1 = k2
            · rw [if_pos l2, if_pos l2]
            · rw [if_neg l2, if_neg l2, if_pos c]
          rw [h3]
          by_cases l2 : i + 1 + 1 = k2
          · rw [if_neg (by omega)] at p4
            rw [if_pos l2]; exact p4
          · rw [if_pos (by omega)] at p4
            rw [if_neg l2]; exact p4
      · have eix : ((x + 1) % 6 + 6 - k2 + i) % 6 = (x + 6 - k + i) % 6 := by omega
        obtain ⟨p1, p2, p3, p4⟩ := h i (by omega)
        rw [eix]
        generalize hr : (x + 6 - k + i) % 6 = r at *
        have hr6 : r < 6 := by omega
        have hrx : r ≠ x := by omega
        have hn : ∀ j, j < 80 → (fun j => rw2 (80 * i + j)) j = rw0 (80 * i + j) := fun j hj => by dsimp only; rw [hrw i j hi hj, if_neg last, if_neg (by omega)]
        have h2 : rw2 (80 * i + 2) = rw0 (80 * i + 2) := hn 2 (by decide)
        refine ⟨p1.congr (fun j _ => by rw [show 4 * r = 4 * r + 0 from rfl, dO r 0 hr6 hrx (by decide)]) (fun j _ => by rw [dO r 1 hr6 hrx (by decide)]) (fun j _ => by rw [dO r 2 hr6 hrx (by decide)]) (fun j _ => by rw [dO r 3 hr6 hrx (by decide)]) hn, p2.congr hn, ?_, ?_⟩
        · rw [dlo r hrx, h2]; exact p3
        · rw [h2, if_pos (by omega)]
          have h3 : rw2 (80 * (i + 1) + 2) = if i + 1 + 1 = k2 then sz else rw0 (80 * (i + 1) + 2) := by
            rw [hrw (i + 1) 2 (by omega) (by decide), hsz]
            by_cases l2 : i + 1 + 1 = k2
            · rw [if_pos l2, if_pos l2]
            · rw [if_neg l2, if_neg l2, if_neg (by omega)]
          rw [h3]
          by_cases l2 : i + 1 + 1 = k2
          · rw [if_neg (by omega)] at p4
            rw [if_pos l2]; exact p4
          · rw [if_pos (by omega)] at p4
            rw [if_neg l2]; exact p4
theorem ftab_n {α : Type} {x : Nat} {k : Nat → Option α} (hx : x < 6) : ftab (nI x) k = k (72 + 4 * x) := by
  unfold ftab
  rw [if_pos (inb_n hx (by decide)), nI_clamp (by omega)]
theorem past_keep {IX IM : gb_Mem} (h : GInv IX IM) : ∃ JX JM, F_Pa_keep 1 IX = some JX ∧ F_Mo_keepsAhead IM = some JM ∧ GInv JX JM ∧ (∀ c, c < 69 ∨ 95 < c → JX c = IX c) ∧ (∀ c, c ≠ 0 → c ≠ 2 → JM c = IM c) ∧ (∀ j, j ≠ 3 → JM 0 j = IM 0 j) := by
  have hPa := h.2.2.2.1
  have hT := h.2.2.1.1
  have hR := h.2.2.1.2.1
  obtain ⟨eb, kb, hkb, eb2, -⟩ := h.2.2.1.2.2.1
  obtain ⟨ec, x, k, hx, hk, ex, eu, hrow⟩ := hPa
  have ec2 : IX 69 3 = nI k := ec.trans eu
  -- the class
  obtain ⟨K, hK, k0, k1, k2, k3, k4⟩ := ta_copy (I := IX) (72 + 4 * x) 2 (by omega)
  let JX := mw (mw (mw K 71 x (IX 17 2)) 69 2 (nI ((x + 1) % 6))) 69 3 (nI (if k = 6 then 6 else k + 1))
  have hJX : F_Pa_keep 1 IX = some JX := by
    unfold F_Pa_keep
    rw [ex, show F_Gb_within (nI x) 0 5 IX = 1 from within_n (lo := 0) (hi := 5) (by omega) (by omega) (by decide), if_neg (by decide), ftab_n hx, ftab_n hx, show F_Ta_copyFrom (72 + 4 * x) (1 + 1) IX = some K from hK, fbd_s]
    have q1 : K 69 2 = nI x := by rw [k0 69 (by omega)]; exact ex
    have q2 : K (1 + 16) 2 = IX 17 2 := by rw [k0 (1 + 16) (by omega)]
    rw [q1, q2, fsto_n hx (by decide), fstf_d, fstf_d]
    have q3 : mw K 71 x (IX 17 2) 69 2 = nI x := by rw [mw_ne (by decide)]; exact q1
    rw [q3, show nI x + 1 - (nI x + 1) / 6 * 6 = nI ((x + 1) % 6) by rw [nI_1]; exact pk_rem (d := 6) (by omega) (by decide) (by decide)]
    have q4 : mw (mw K 71 x (IX 17 2)) 69 2 (nI ((x + 1) % 6)) 69 3 = nI k := by rw [mw_eq, pk_un (by decide), mw_ne (by decide), k0 69 (by omega)]; exact ec2
    rw [q4, nI_1, show mn 6 (nI (k + 1)) = nI (if k = 6 then 6 else k + 1) by
      rw [show (6 : Int32) = nI 6 from rfl, mn_n (by decide) (by omega)]
      congr 1
      by_cases c : k = 6
      · rw [if_pos c, c]; decide
      · rw [if_neg c]; omega]
  -- the reference
  let g : Nat → Int32 := if k = 6 then (fun j => if 0 ≤ j ∧ j < 400 then IM 2 (j + 80) else IM 2 j) else IM 2
  let u := if k = 6 then 5 else k
  have hu : u < 6 := by
    show (if k = 6 then 5 else k) < 6
    by_cases c : k = 6
    · rw [if_pos c]; decide
    · rw [if_neg c]; omega
  have hu1 : u + 1 = if k = 6 then 6 else k + 1 := by
    show (if k = 6 then 5 else k) + 1 = _
    by_cases c : k = 6
    · rw [if_pos c, if_pos c]
    · rw [if_neg c, if_neg c]
  let g2 : Nat → Int32 := fun j => if 80 * u + 0 ≤ j ∧ j < 80 * u + 80 then IM 1 (j - 80 * u) else g j
  have j53 : ∀ I : gb_Mem, I 0 3 = nI u → I 1 = IM 1 → I 2 = g → J_Mo_keepsAhead_53 I = some (mw (mset I 2 g2) 0 3 (nI (u + 1))) := by
    intro I i1 i2 i3
    unfold J_Mo_keepsAhead_53
    rw [show (0 : Int32) = nI 0 from rfl, ka_55 hu 80 0 5000 I i1 (by omega) (by omega), fbd_s, fstf_d, mset_ne (by decide), i1, nI_1]
    congr 2
    have : (fun j => if 80 * u + 0 ≤ j ∧ j < 80 * u + 80 then I 1 (j - 80 * u) else I 2 j) = g2 := by
      funext j
      rw [i2, i3]
    rw [this]
  obtain ⟨JM, hJM, m2, m0, mO, m03⟩ : ∃ JM, F_Mo_keepsAhead IM = some JM ∧ JM 2 = g2 ∧ (∀ j, j ≠ 3 → JM 0 j = IM 0 j) ∧ (∀ c, c ≠ 0 → c ≠ 2 → JM c = IM c) ∧ JM 0 3 = nI (u + 1) := by
    unfold F_Mo_keepsAhead
    rw [eu]
    by_cases c : k = 6
    · have hu5 : u = 5 := if_pos c
      have hg : g = (fun j => if 0 ≤ j ∧ j < 400 then IM 2 (j + 80) else IM 2 j) := if_pos c
      rw [if_pos (show nI k = 6 by rw [c]; rfl), fstf_d, c, show nI 6 - 1 = nI 5 from rfl, show (0 : Int32) = nI 0 from rfl, ka_21 400 0 5000 _ (by rw [mw_eq, pk_us]) (by omega) (by omega), fbd_s]
      refine ⟨_, j53 _ ?_ ?_ ?_, ?_, ?_, ?_, ?_⟩
      · rw [mset_ne (by decide), mw_eq, pk_us, hu5]
      · rw [mset_ne (by decide), mw_ne (by decide)]
      · rw [mset_eq, hg]
        funext j
        rw [mw_ne (by decide)]
      · rw [mw_ne (by decide), mset_eq]
      · intro j hj
        rw [mw_eq, pk_un hj, mset_ne (by decide), mset_ne (by decide), mw_eq, pk_un hj]
      · intro c h1 h2
        rw [mw_ne h1, mset_ne h2, mset_ne h2, mw_ne h1]
      · rw [mw_eq, pk_us]
    · have huk : u = k := if_neg c
      have hg : g = IM 2 := if_neg c
      rw [if_neg (show ¬ nI k = 6 from fun q => c ((nI_eq (b := 6) (by omega) (by decide)).mp q))]
      refine ⟨_, j53 IM (by rw [huk]; exact eu) rfl hg.symm, ?_, ?_, ?_, ?_⟩
      · rw [mw_ne (by decide), mset_eq]
      · intro j hj
        rw [mw_eq, pk_un hj, mset_ne (by decide)]
      · intro c h1 h2
        rw [mw_ne h1, mset_ne h2]
      · rw [mw_eq, pk_us]
  refine ⟨JX, JM, hJX, hJM, ?_, ?_, mO, m0⟩
  · refine ginv_past h ?_ mO m0 ?_
    · intro c hc
      show mw (mw (mw K 71 x (IX 17 2)) 69 2 _) 69 3 _ c = _
      rw [mw_ne (by omega), mw_ne (by omega), mw_ne (by omega), k0 c (by omega)]
    · have z1 : JX 69 2 = nI ((x + 1) % 6) := by
        show mw (mw (mw K 71 x (IX 17 2)) 69 2 _) 69 3 _ 69 2 = _
        rw [mw_eq, pk_un (by decide), mw_eq, pk_us]
      have z2 : JX 69 3 = nI (if k = 6 then 6 else k + 1) := by
        show mw (mw (mw K 71 x (IX 17 2)) 69 2 _) 69 3 _ 69 3 = _
        rw [mw_eq, pk_us]
      have z3 : JX 71 = upd (IX 71) x (IX 17 2) := by
        show mw (mw (mw K 71 x (IX 17 2)) 69 2 _) 69 3 _ 71 = _
        rw [mw_ne (by decide), mw_ne (by decide), mw_eq, k0 71 (by omega)]
      have z4 : ∀ c, 72 ≤ c → JX c = K c := by
        intro c hc
        show mw (mw (mw K 71 x (IX 17 2)) 69 2 _) 69 3 _ c = _
        rw [mw_ne (by omega), mw_ne (by omega), mw_ne (by omega)]
      have szr : gIn (IM 1 2) 0 (IM 1 2).toInt := by
        rw [eb2, nI_toInt (by omega)]
        exact (gIn_nI (by omega)).mpr ⟨by omega, by omega⟩
      rw [z1, z2, z3, m2, m03, hu1]
      refine GPast.keep (ls := IX 71) (rw0 := IM 2) (tb0 := xP IX 72 24) hx hk hrow hT hR rfl szr ?_ ?_ ?_ ?_ ?_ ?_ ?_ ?_
      · intro j hj
        rw [xP_in (by omega), z4 _ (by omega), k1 j hj]
      · intro j hj
        rw [xP_in (by omega), z4 _ (by omega), ← Nat.add_assoc, k2 j hj]
      · intro j hj
        rw [xP_in (by omega), z4 _ (by omega), ← Nat.add_assoc, k3 j hj]
      · intro j hj
        rw [xP_in (by omega), z4 _ (by omega), ← Nat.add_assoc, k4 j hj]
      · intro r q hr hrx hq
        rw [xP_in (by omega), xP_in (by omega), z4 _ (by omega), k0 _ (by omega)]
      · rw [pk_us]; exact eb
      · intro r hr
        rw [pk_un hr]
      · intro i j hi hj
        rw [← hu1] at hi ⊢
        show (if 80 * u + 0 ≤ 80 * i + j ∧ 80 * i + j < 80 * u + 80 then IM 1 (80 * i + j - 80 * u) else g (80 * i + j)) = _
        by_cases l : i + 1 = u + 1
        · rw [if_pos l, if_pos (by omega)]
          congr 1; omega
        · rw [if_neg l, if_neg (by omega)]
          by_cases c : k = 6
          · have hu5 : u = 5 := if_pos c
            have hg : g = (fun j => if 0 ≤ j ∧ j < 400 then IM 2 (j + 80) else IM 2 j) := if_pos c
            rw [if_pos c, hg]
            dsimp only
            rw [if_pos (by omega)]
            congr 1; omega
          · have hg : g = IM 2 := if_neg c
            rw [if_neg c, hg]
  · intro c hc
    show mw (mw (mw K 71 x (IX 17 2)) 69 2 _) 69 3 _ c = _
    rw [mw_ne (by omega), mw_ne (by omega), mw_ne (by omega), k0 c (by omega)]
theorem undo_l {u : Nat} (hu : u < 6) : ∀ m i f (I : gb_Mem), I 0 3 = nI u → i + m = 80 → m < f → L_Mo_undo_26 f (nI i) I = some (mset I 1 (fun j => if i ≤ j ∧ j < 80 then I 2 (80 * u + j) else I 1 j)) := by
  intro m
  induction m with
  | zero =>
    intro i f I hI hi hf
    obtain ⟨f, rfl⟩ : ∃ g, f = g + 1 := ⟨f - 1, by omega⟩
    simp only [L_Mo_undo_26]
    rw [if_pos (show 80 ≤ nI i from nI_le (a := 80) (by omega) (by omega)), mset_self]
    funext j
    rw [if_neg (by omega)]
  | succ m ih =>
    intro i f I hI hi hf
    obtain ⟨f, rfl⟩ : ∃ g, f = g + 1 := ⟨f - 1, by omega⟩
    simp only [L_Mo_undo_26]
    rw [if_neg (show ¬ 80 ≤ nI i from nI_ge (b := 80) (by omega) (by omega)), hI, show (80 : Int32) * nI u + nI i = nI (80 * u + i) by rw [show (80 : Int32) = nI 80 from rfl, pk_mul, nI_add], flod_n (by omega) (by decide), fsto_n (by omega) (by decide), nI_1, ih (i + 1) f _ (by rw [mw_ne (by decide)]; exact hI) (by omega) (by omega), mset_mw]
    congr 2
    funext j
    rw [mw_eq, mw_ne (by decide), upd_ap]
    by_cases c : i ≤ j ∧ j < 80
    · rw [if_pos c]
      by_cases c2 : j = i
      · rw [if_neg (by omega), if_pos c2, c2]
      · rw [if_pos (by omega)]
    · rw [if_neg c, if_neg (by omega), if_neg (by omega)]
theorem sim_undo : S_undo GInv := by
  intro IX IM h
  have h9 := ginv_told (v := 0) h
  generalize hI : mw IM 0 0 0 = I1 at h9
  obtain ⟨eb, kb, hkb, eb2, hbk⟩ := h9.2.2.1.2.2.1
  obtain ⟨ec, x, k, hx, hk, ex, eu, hrow⟩ := h9.2.2.2.1
  have ec2 : IX 69 3 = nI k := ec.trans eu
  have ey : (nI x + 6 - 1) - (nI x + 6 - 1) / 6 * 6 = nI ((x + 5) % 6) := by
    rw [show nI x + 6 - 1 = nI (x + 5) by rw [show nI x + 6 = nI (x + 5 + 1) from nI_add x 6]; exact nI_pred (x + 5)]
    exact pk_rem (d := 6) (by omega) (by decide) (by decide)
  simp only [F_Mo_undo, fstf_d, hI, F_Gb_undo, F_Pa_goBack, flt_d, ex, ec2, eu, ey]
  cases k with
  | zero =>
    refine ⟨0, IX, I1, ?_, ?_, h9⟩
    · rw [if_pos (show nI 0 = 0 from rfl), fbd_s]; rfl
    · rw [if_pos (show nI 0 = 0 from rfl)]
  | succ k =>
    have hy : (x + 5) % 6 < 6 := Nat.mod_lt _ (by decide)
    obtain ⟨K, hK, k0, k1, k2, k3, k4⟩ := ta_copy (I := IX) 2 (72 + 4 * ((x + 5) % 6)) (by omega)
    rw [if_neg (nI_ne0 (by omega) (by omega)), if_neg (nI_ne0 (by omega) (by omega)), show F_Gb_within (nI ((x + 5) % 6)) 0 5 IX = 1 from within_n (lo := 0) (hi := 5) (by omega) (by omega) (by decide), if_neg (by decide), ftab_n hy, ftab_n hy, show F_Ta_copyFrom (1 + 1) (72 + 4 * ((x + 5) % 6)) IX = some K from hK, fbd_s, flod_n hy (by decide)]
    have q1 : K 69 3 = nI (k + 1) := by rw [k0 69 (by omega)]; exact ec2
    have q2 : K 71 = IX 71 := k0 71 (by omega)
    have q3 : mw (mw K (1 + 16) 2 (K 71 ((x + 5) % 6))) 69 2 (nI ((x + 5) % 6)) 69 3 = nI (k + 1) := by rw [mw_eq, pk_un (by decide), mw_ne (by decide)]; exact q1
    rw [q3, nI_pred, q2, show (0 : Int32) = nI 0 from rfl, undo_l (u := k) (by omega) 80 0 5000 _ (by rw [mw_eq, pk_us]) (by omega) (by omega), fbd_s, fbd_s]
    refine ⟨1, mw (mw (mw K (1 + 16) 2 (IX 71 ((x + 5) % 6))) 69 2 (nI ((x + 5) % 6))) 69 3 (nI k), mset (mw I1 0 3 (nI k)) 1 (fun j => if 0 ≤ j ∧ j < 80 then I1 2 (80 * k + j) else I1 1 j), rfl, ?_, ?_⟩
    · congr 3
    · obtain ⟨p1, p2, p3, p4⟩ := hrow k (by omega)
      have eix : (x + 6 - (k + 1) + k) % 6 = (x + 5) % 6 := by omega
      rw [eix] at p1 p3
      rw [if_neg (by omega)] at p4
      have hn : ∀ j, j < 80 → (fun j => if 0 ≤ j ∧ j < 80 then I1 2 (80 * k + j) else I1 1 j) j = I1 2 (80 * k + j) := fun j hj => by dsimp only; rw [if_pos ⟨Nat.zero_le j, hj⟩]
      have hT2 : GTab (K 2) (K 3) (K 4) (K 5) (fun j => if 0 ≤ j ∧ j < 80 then I1 2 (80 * k + j) else I1 1 j) (I1 4) (I1 5) (I1 6) (I1 7) (I1 0 6) := by
        refine p1.congr ?_ ?_ ?_ ?_ hn
        · intro j hj; rw [k1 j hj, xP_in (by omega)]
        · intro j hj; rw [show K 3 j = IX (72 + 4 * ((x + 5) % 6) + 1) j from k2 j hj, xP_in (by omega), ← Nat.add_assoc]
        · intro j hj; rw [show K 4 j = IX (72 + 4 * ((x + 5) % 6) + 2) j from k3 j hj, xP_in (by omega), ← Nat.add_assoc]
        · intro j hj; rw [show K 5 j = IX (72 + 4 * ((x + 5) % 6) + 3) j from k4 j hj, xP_in (by omega), ← Nat.add_assoc]
      have hR2 := p2.congr hn
      obtain ⟨z, ez, hz, hz2⟩ := gIn_n (hi := (I1 1 2).toInt) p4
      rw [eb2, nI_toInt (by omega)] at hz
      have hBk2 : GBook (IX 71 ((x + 5) % 6)) (IX 18) (I1 2 (80 * k + 2)) (I1 8) := ⟨p3, z, by omega, ez, fun i hi => hbk i (by omega)⟩
      have hPa2 : GPast (nI ((x + 5) % 6)) (nI k) (IX 71) (xP IX 72 24) (I1 2) (nI k) (I1 2 (80 * k + 2)) (I1 4) (I1 5) (I1 6) (I1 7) (I1 0 6) := by
        refine ⟨rfl, (x + 5) % 6, k, hy, by omega, rfl, rfl, fun i hi => ?_⟩
        obtain ⟨r1, r2, r3, r4⟩ := hrow i (by omega)
        have eix : ((x + 5) % 6 + 6 - k + i) % 6 = (x + 6 - (k + 1) + i) % 6 := by omega
        rw [eix]
        refine ⟨r1, r2, r3, ?_⟩
        rw [if_pos (by omega)] at r4
        by_cases l : i + 1 < k
        · rw [if_pos l]; exact r4
        · rw [if_neg l]
          have : i + 1 = k := by omega
          rw [this] at r4
          exact r4
      have hX : ∀ c, c < 2 ∨ 5 < c → K c = IX c := fun c hc => k0 c (by omega)
      have e1 : xP K 72 24 = xP IX 72 24 := xP_congr (fun c h1 h2 => hX c (by omega))
      have e2 : xP K 35 34 = xP IX 35 34 := xP_congr (fun c h1 h2 => hX c (by omega))
      clear hrow p1 p2
      unfold GInv GWorld GFix at *
      simp +decide (disch := decide) only [mw_ne, mw_eq, mset_ne, mset_eq, upd_ap, xP_mw, xP_mset, ↓reduceIte, hX, e1, e2]
      obtain ⟨hF, h5, ⟨t1, t2, t3, t4⟩, -, hO⟩ := h9
      exact ⟨hF, h5, ⟨hT2, hR2, hBk2, t4⟩, hPa2, hO⟩
