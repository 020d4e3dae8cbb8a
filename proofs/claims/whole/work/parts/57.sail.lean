/-! A boat's part of a minute. -/
section SAIL
variable {t h b s k w : Nat} {X M Y N Z O : gb_Mem} {v x1 x2 x3 : Int32}
theorem co_rd (hC : GCo t h Y N) (hb : b < 8) : F_Ta_ofBoat t 0 (nI b) Y = some (N 7 b) ∧ F_Ta_ofBoat t 1 (nI b) Y = some (N 1 (40 + b)) ∧ F_Ta_ofBoat t 2 (nI b) Y = some (N 1 (48 + b)) ∧ F_Ta_ofBoat t 3 (nI b) Y = some (N 1 (56 + b)) ∧ F_Ta_ofBoat t 4 (nI b) Y = some (N 1 (64 + b)) ∧ F_Ta_ofBoat t 5 (nI b) Y = some (N 1 (72 + b)) := by
  obtain ⟨d1, d2, d3, d4, d5, d6⟩ := hC.1.2.2.1 b hb
  refine ⟨(ofBoat_n (w := 0) (by decide) hb).trans (congrArg some ?_), (ofBoat_n (w := 1) (by decide) hb).trans (congrArg some d2), (ofBoat_n (w := 2) (by decide) hb).trans (congrArg some d3), (ofBoat_n (w := 3) (by decide) hb).trans (congrArg some d4), (ofBoat_n (w := 4) (by decide) hb).trans (congrArg some d5), (ofBoat_n (w := 5) (by decide) hb).trans (congrArg some d6)⟩
  rw [show 8 * 0 + b = b by omega]; exact d1
theorem co_rs (hC : GCo t h Y N) (hs : s < 12) : F_Ta_ofSeat t 2 (nI s) Y = some (N 1 (6 + s)) ∧ F_Ta_ofSeat t 3 (nI s) Y = some (N 6 s) ∧ F_Ta_ofSeat t 4 (nI s) Y = some (N 1 (18 + s)) := by
  obtain ⟨c1, c2, c3, c4, c5⟩ := hC.1.2.1 s hs
  exact ⟨(ofSeat_n (w := 2) (by decide) hs).trans (congrArg some c3), (ofSeat_n (w := 3) (by decide) hs).trans (congrArg some c4), (ofSeat_n (w := 4) (by decide) hs).trans (congrArg some c5)⟩
theorem pb_1 (hb : b < 8) : F_Ta_putBoat t 1 (nI b) v Y = some (mw Y (t + 2) (8 + b) v) := putBoat_n (w := 1) (by decide) hb
theorem pb_2 (hb : b < 8) : F_Ta_putBoat t 2 (nI b) v Y = some (mw Y (t + 2) (16 + b) v) := putBoat_n (w := 2) (by decide) hb
theorem pb_3 (hb : b < 8) : F_Ta_putBoat t 3 (nI b) v Y = some (mw Y (t + 2) (24 + b) v) := putBoat_n (w := 3) (by decide) hb
theorem pb_4 (hb : b < 8) : F_Ta_putBoat t 4 (nI b) v Y = some (mw Y (t + 2) (32 + b) v) := putBoat_n (w := 4) (by decide) hb
theorem pb_5 (hb : b < 8) : F_Ta_putBoat t 5 (nI b) v Y = some (mw Y (t + 2) (40 + b) v) := putBoat_n (w := 5) (by decide) hb
theorem ps_2 (hs : s < 12) : F_Ta_putSeat t 2 (nI s) v Y = some (mw Y (t + 1) (24 + s) v) := putSeat_n (w := 2) (by decide) hs
theorem ps_4 (hs : s < 12) : F_Ta_putSeat t 4 (nI s) v Y = some (mw Y (t + 1) (48 + s) v) := putSeat_n (w := 4) (by decide) hs
theorem k40 (b : Nat) : (40 : Int32) + nI b = nI (40 + b) := nI_add 40 b
theorem k48 (b : Nat) : (48 : Int32) + nI b = nI (48 + b) := nI_add 48 b
theorem k56 (b : Nat) : (56 : Int32) + nI b = nI (56 + b) := nI_add 56 b
theorem k64 (b : Nat) : (64 : Int32) + nI b = nI (64 + b) := nI_add 64 b
theorem k72 (b : Nat) : (72 : Int32) + nI b = nI (72 + b) := nI_add 72 b
theorem k18 (b : Nat) : (18 : Int32) + nI b = nI (18 + b) := nI_add 18 b
theorem k6 (b : Nat) : (6 : Int32) + nI b = nI (6 + b) := nI_add 6 b
/-- skin -/
theorem gst_skin (ht : gTH t h) (hS : GSt t h X M Y N) (hb : b < 8) : ∃ Z O, F_Ta_thickenSkin t (nI b) Y = some Z ∧ F_Mo_isSkinned (nI b) N = some O ∧ GSt t h X M Z O ∧ Z (h + 1) = Y (h + 1) ∧ O 0 = N 0 ∧ (∀ j, j < 64 ∨ 72 ≤ j → O 1 j = N 1 j) := by
  obtain ⟨r0, r1, r2, r3, r4, r5⟩ := co_rd hS.1 hb
  have ht2 := ht
  unfold gTH at ht2
  refine ⟨_, _, ?_, ?_, gst_skin0 (v := mn 9 (N 1 (64 + b) + 1)) ht hS hb, mw_ne (by omega), mw_ne (by decide), fun j hj => ?_⟩
  · unfold F_Ta_thickenSkin
    rw [r4, fbd_s, pb_4 hb, fbd_s]
  · unfold F_Mo_isSkinned
    rw [k64, flod_n (by omega) (by decide), fsto_n (by omega) (by decide), mn_lesser]
  · rw [mw_eq, pk_un (by omega)]
theorem love_l (l : Int32) : (l = 0 → mn 0 (l + 1) = 0) ∧ (¬ l = 0 → l ≤ 0 → mn 0 (l + 1) = l + 1) := by
  refine ⟨fun q => by subst q; decide, fun q1 q2 => ?_⟩
  unfold mn
  by_cases c : l + 1 < 0
  · rw [if_pos c]
  · rw [if_neg c]
    have h1 := Int32.le_iff_toInt_le.mp q2
    have h2 : ¬ (l + 1).toInt < (0 : Int32).toInt := fun q => c (Int32.lt_iff_toInt_lt.mpr q)
    have h3 : l.toInt ≠ 0 := fun q => q1 (Int32.toInt_inj.mp (q.trans (show (0 : Int) = (0 : Int32).toInt from rfl)))
    have h4 : (l + 1).toInt = l.toInt + 1 := by
      rw [Int32.toInt_add, show (1 : Int32).toInt = 1 from rfl]
      have := Int32.le_toInt l
      rw [show (0 : Int32).toInt = 0 from rfl] at h1
      apply Int.bmod_eq_of_le
      · omega
      · omega
    rw [show (0 : Int32).toInt = 0 from rfl] at h1 h2
    apply Int32.toInt_inj.mp
    rw [h4, show (0 : Int32).toInt = 0 from rfl]
    omega
theorem gst_pour (ht : gTH t h) (hS : GSt t h X M Y N) (hb : b < 8) : ∃ r Y1 Z O, F_La_tells 6 t 1 (nI b) Y = some (r, Y1) ∧ F_Co_pourOut h t (nI b) r Y1 = some Z ∧ F_Mo_pours (nI b) N = some O ∧ GSt t h X M Z O ∧ Z (h + 1) = Y (h + 1) ∧ (∀ j, 48 ≤ j → j < 64 ∨ 72 ≤ j → O 1 j = N 1 j) := by
  have ht2 := ht
  unfold gTH at ht2
  obtain ⟨r, Y1, N1, q1, q2, g1, fx, fm, hr⟩ := gst_law ht hS (w := 1) (by decide) hb
  obtain ⟨d0, d1, d2, d3, d4, d5⟩ := co_rd g1.1 hb
  obtain ⟨-, rs, rf, -⟩ : _ ∧ gIn (N1 1 (48 + b)) 0 11 ∧ gIn (N1 1 (40 + b)) 0 99 ∧ True := ⟨trivial, (g1.1.2.1.2.2 b hb).2.1, (g1.1.2.1.2.2 b hb).2.2.2, trivial⟩
  obtain ⟨s, es, hs0, -⟩ := gIn_n rs
  obtain ⟨f, ef, hf, -⟩ := gIn_n rf
  obtain ⟨rr, rfl, hrr, -⟩ := gIn_n hr
  have hs : s < 12 := by omega
  have fm1 : N1 1 = N 1 := fm 1 (by decide) (by decide)
  have en : mn (nI rr) (nI f) = nI (min rr f) := mn_n (by omega) (by omega)
  obtain ⟨n, hn⟩ : ∃ n, n = min rr f := ⟨_, rfl⟩
  have hn1 : n ≤ f := by omega
  rw [← hn] at en
  -- FULL less
  have g2 := gst_full (v := nI (f - n)) ht g1 hb ((gIn_nI (by omega)).mpr ⟨by omega, by omega⟩)
  obtain ⟨Y2, hY2⟩ : ∃ Y2, Y2 = mw Y1 (t + 2) (8 + b) (nI (f - n)) := ⟨_, rfl⟩
  obtain ⟨N2, hN2⟩ : ∃ N2, N2 = mw N1 1 (40 + b) (nI (f - n)) := ⟨_, rfl⟩
  rw [← hY2, ← hN2] at g2
  have eY2 : Y2 (h + 1) = Y (h + 1) := by rw [hY2, mw_ne (by omega), fx (h + 1) (by omega) (by omega)]
  have eN2 : ∀ j, 48 ≤ j → j < 64 ∨ 72 ≤ j → N2 1 j = N 1 j := fun j h1 h2 => by rw [hN2, mw_eq, pk_un (by omega), fm1]
  -- the line of THE BOOK, behind what else is written
  have nt : ∀ c a v, c ≠ 17 → c ≠ 18 → c ≠ h → ¬ (c = t ∧ a = 4) → ∃ Z O, J_Co_pourOut_114 h t (nI b) (nI n) (mw Y2 c a v) = some Z ∧ (∀ K : gb_Mem → Option gb_Mem, (if nI n ≤ 0 then K N2 else fbd (F_Mo_notes 0 (nI b) (nI n) N2) fun I => K I) = K O) ∧ NFr (mw Y2 c a v) N2 Z O := by
    intro c a v hc1 hc2 hc3 hc4
    have e17 : mw Y2 c a v 17 = Y2 17 := mw_ne (Ne.symm hc1)
    have e18 : mw Y2 c a v 18 = Y2 18 := mw_ne (Ne.symm hc2)
    have eh : mw Y2 c a v h = Y2 h := mw_ne (Ne.symm hc3)
    have e4 : mw Y2 c a v t 4 = Y2 t 4 := by
      rw [mw_ap]
      by_cases z : t = c
      · rw [if_pos z, if_neg (fun z2 => hc4 ⟨z.symm, z2.symm⟩)]
      · rw [if_neg z]
    have hB : N2 0 5 = 0 → mw Y2 c a v 17 0 = 150 ∧ GBook (mw Y2 c a v 17 2) (mw Y2 c a v 18) (N2 1 2) (N2 8) := by
      rw [e17, e18]; exact g2.1.2.2.2.2.2.2
    by_cases c0 : n = 0
    · refine ⟨mw Y2 c a v, N2, ?_, fun K => ?_, NFr.same (fun z => (hB z).2)⟩
      · unfold J_Co_pourOut_114
        rw [if_pos (by rw [c0]; decide)]
      · rw [if_pos (by rw [c0]; decide)]
    · obtain ⟨Z, O, z1, z2, z3⟩ := note_n (Y := mw Y2 c a v) (N := N2) (t := t) (h := h) (by rw [eh]; exact g2.1.2.2.2.2.2.1) (by rw [e4]; exact g2.1.1.1.2.2.2.2.1) hB 0 (nI b) (nI n)
      refine ⟨Z, O, ?_, fun K => ?_, z3⟩
      · unfold J_Co_pourOut_114
        rw [if_neg (nI_nle (by omega) (by omega)), z1, fbd_s]
      · rw [if_neg (nI_nle (by omega) (by omega)), z2, fbd_s]
  -- both, but for the end
  have hX : F_Co_pourOut h t (nI b) (nI rr) Y1 = fbd (F_Ta_ofSeat t 3 (nI s) Y2) fun r4 => if r4 = 1 then fbd (F_Ta_ofSeat t 2 (nI s) Y2) fun r7 => if r7 ≤ 0 then J_Co_pourOut_94 h t (nI b) (nI n) (mn 0 (r7 + 1)) (nI s) 2 Y2 else J_Co_pourOut_94 h t (nI b) (nI n) (r7 - 1) (nI s) 2 Y2 else fstf Y2 t 1 (Y2 t 1 + nI n) fun I5 => J_Co_pourOut_114 h t (nI b) (nI n) I5 := by
    unfold F_Co_pourOut
    rw [d1, fbd_s, d2, fbd_s, ef, es, en, pk_sub hn1, pb_1 hb, fbd_s, ← hY2]
  have hM : F_Mo_pours (nI b) N = if nI n ≤ 0 then J_Mo_pours_60 (nI s) (nI n) N2 else fbd (F_Mo_notes 0 (nI b) (nI n) N2) fun I14 => J_Mo_pours_60 (nI s) (nI n) I14 := by
    unfold F_Mo_pours
    have q3 : F_Mo_poursOf (nI b) N = some (nI rr, N1) := q2
    rw [k48, flod_n (by omega) (by decide), ← fm1, es, q3, fbd_s]
    simp only [k40, flt_d]
    rw [flod_n (by omega) (by decide), ef, mn_lesser, en, flod_n (by omega) (by decide), ef, pk_sub hn1, fsto_n (by omega) (by decide), ← hN2]
  obtain ⟨s2, s3, s4⟩ := co_rs g2.1 hs
  have hpi : gIn (N2 6 s) 0 1 := (g2.1.2.1.2.1 s hs).2.1
  refine ⟨nI rr, Y1, ?_⟩
  rw [hX, hM, s3, fbd_s, s2, fbd_s]
  obtain ⟨p, ep, hp, -⟩ := gIn_n hpi
  by_cases c1 : p = 0
  · obtain ⟨Z, O, z1, z2, z3⟩ := nt t 1 (Y2 t 1 + nI n) (by omega) (by omega) (by omega) (by omega)
    have eD : Y2 t 1 = N2 1 3 := g2.1.1.1.2.1
    have g3 := gst_num ht g2 (k := 1) (w := 3) (v := Y2 t 1 + nI n) (by omega)
    refine ⟨Z, mw O 1 3 (Y2 t 1 + nI n), q1, ?_, ?_, gst_nf ht g3 (z3.wr (by decide)), ?_, ?_⟩
    · rw [ep, c1, if_neg (by decide), fstf_d]; exact z1
    · rw [z2]
      unfold J_Mo_pours_60
      rw [flod_n hs (by decide), z3.2.1 6 (by decide) (by decide), ep, c1, if_pos (show nI 0 = 0 from rfl), fstf_d, z3.2.2.1 3 (by decide), eD]
    · rw [z3.1 (h + 1) (by omega) (by omega), mw_ne (by omega)]; exact eY2
    · intro j h1 h2
      rw [mw_eq, pk_un (by omega), z3.2.2.1 j (by omega)]; exact eN2 j h1 h2
  · have c2 : p = 1 := by omega
    obtain ⟨l, hl⟩ : ∃ l, l = N2 1 (6 + s) := ⟨_, rfl⟩
    obtain ⟨l2, hl2⟩ : ∃ l2, l2 = if l ≤ 0 then mn 0 (l + 1) else l - 1 := ⟨_, rfl⟩
    obtain ⟨Z, O, z1, z2, z3⟩ := nt (t + 1) (24 + s) l2 (by omega) (by omega) (by omega) (by omega)
    have g3 := gst_love ht g2 (v := l2) hs
    have lO : O 1 (6 + s) = l := by rw [z3.2.2.1 (6 + s) (by omega)]; exact hl.symm
    refine ⟨Z, mw O 1 (6 + s) l2, q1, ?_, ?_, gst_nf ht g3 (z3.wr (by omega)), ?_, ?_⟩
    · rw [ep, c2, if_pos (show nI 1 = 1 from rfl), ← hl]
      unfold J_Co_pourOut_94
      by_cases d : l ≤ 0
      · rw [if_pos d, ps_2 hs, fbd_s, ← z1, hl2, if_pos d]
      · rw [if_neg d, ps_2 hs, fbd_s, ← z1, hl2, if_neg d]
    · rw [z2]
      unfold J_Mo_pours_60
      rw [flod_n hs (by decide), z3.2.1 6 (by decide) (by decide), ep, c2, if_neg (show ¬ nI 1 = 0 by decide), k6, flod_n (by omega) (by decide), lO]
      by_cases d0 : l = 0
      · rw [if_pos d0]
        congr 1
        have : l2 = l := by
          rw [hl2, if_pos (by rw [d0]; decide), (love_l l).1 d0, d0]
        rw [this]
        funext c
        by_cases e : c = 1
        · subst e
          rw [mw_eq]
          funext j
          rw [upd_ap]
          by_cases e2 : j = 6 + s
          · rw [if_pos e2, e2]; exact lO
          · rw [if_neg e2]
        · rw [mw_ne e]
      · rw [if_neg d0, flod_n (by omega) (by decide), flod_n (by omega) (by decide), lO]
        unfold J_Mo_pours_130
        by_cases d : l ≤ 0
        · rw [if_pos d, fsto_n (by omega) (by decide), hl2, if_pos d, (love_l l).2 d0 d]
        · rw [if_neg d, fsto_n (by omega) (by decide), hl2, if_neg d, Int32.sub_eq_add_neg]
    · rw [z3.1 (h + 1) (by omega) (by omega), mw_ne (by omega)]; exact eY2
    · intro j h1 h2
      rw [mw_eq, pk_un (by omega), z3.2.2.1 j (by omega)]; exact eN2 j h1 h2
/-- what spills, if it does -/
theorem gst_spill (ht : gTH t h) (hS : GSt t h X M Y N) (hb : b < 8) : ∃ Z O, (∀ K : gb_Mem → Option (Int32 × gb_Mem), (fbd (F_La_tells 6 t 2 (nI b) Y) fun (r15, I14) => if r15 ≤ 0 then K I14 else fbd (F_Co_happens h t r15 I14) fun (r17, I16) => if r17 = 0 then K I16 else fbd (F_Co_spill h t (nI b) I16) fun I18 => K I18) = K Z) ∧ F_Mo_mightSpill (nI b) N = some O ∧ GSt t h X M Z O ∧ Z (h + 1) = Y (h + 1) ∧ (∀ j, 48 ≤ j → j < 64 ∨ 72 ≤ j → O 1 j = N 1 j) := by
  have ht2 := ht
  unfold gTH at ht2
  obtain ⟨r, Y1, N1, q1, q2, g1, fx, fm, hr⟩ := gst_law ht hS (w := 2) (by decide) hb
  have q1' : F_La_tells 6 t 2 (nI b) Y = some (r, Y1) := q1
  have q2' : F_Mo_spillsOf (nI b) N = some (r, N1) := q2
  have fm1 : N1 1 = N 1 := fm 1 (by decide) (by decide)
  have fx1 : Y1 (h + 1) = Y (h + 1) := fx (h + 1) (by omega) (by omega)
  unfold F_Mo_mightSpill
  rw [q1', q2']
  simp only [fbd_s]
  obtain ⟨rr, rfl, hrr, -⟩ := gIn_n hr
  by_cases c0 : rr = 0
  · refine ⟨Y1, N1, fun K => ?_, ?_, g1, fx1, fun j _ _ => by rw [fm1]⟩
    · rw [if_pos (by rw [c0]; decide)]
    · rw [if_pos (by rw [c0]; rfl)]
  · simp only [show ¬ nI rr ≤ 0 from nI_nle (by omega) (by omega), show ¬ nI rr = 0 from nI_ne0 (by omega) (by omega), ↓reduceIte]
    obtain ⟨z, Y2, N2, p1, p2, g2, hz, fx2, fm2, fm3⟩ := gst_hap ht g1 hr
    rw [p1, p2]
    simp only [fbd_s]
    have eY2 : Y2 (h + 1) = Y (h + 1) := by rw [fx2 (h + 1) (by omega)]; exact fx1
    have eN2 : ∀ j, 48 ≤ j → N2 1 j = N 1 j := fun j hj => by rw [fm3 j (by omega), fm1]
    rcases hz with rfl | rfl
    · refine ⟨Y2, N2, fun K => ?_, ?_, g2, eY2, fun j h1 _ => eN2 j h1⟩
      · rw [if_pos rfl]
      · rw [if_pos rfl]
    · simp only [show ¬ (1 : Int32) = 0 by decide, ↓reduceIte]
      obtain ⟨d0, d1, d2, d3, d4, d5⟩ := co_rd g2.1 hb
      obtain ⟨s, es, hs0, -⟩ := gIn_n (g2.1.2.1.2.2 b hb).2.1
      obtain ⟨f, ef, hf, -⟩ := gIn_n (g2.1.2.1.2.2 b hb).2.2.2
      have hs : s < 12 := by omega
      obtain ⟨m, hm⟩ : ∃ m, m = (f + 2) / 3 := ⟨_, rfl⟩
      have em : (nI f + 2) / 3 = nI m := by
        rw [show nI f + 2 = nI (f + 2) from nI_add f 2, hm]
        exact pk_div (d := 3) (by omega) (by decide) (by decide)
      have hmf : m ≤ f := by omega
      have g3 := gst_full (v := nI (f - m)) ht g2 hb ((gIn_nI (by omega)).mpr ⟨by omega, by omega⟩)
      obtain ⟨s2, s3, s4⟩ := co_rs g3.1 hs
      obtain ⟨st, est, hst, -⟩ := gIn_n (g3.1.2.1.2.1 s hs).2.2
      have g4 := gst_stain (v := nI (min 999 (st + m))) ht g3 hs ((gIn_nI (by omega)).mpr ⟨by omega, by omega⟩)
      have emn : mn 999 (nI st + nI m) = nI (min 999 (st + m)) := by
        rw [nI_add]; exact mn_n (a := 999) (by decide) (by omega)
      have est2 : mw N2 1 (40 + b) (nI (f - m)) 1 (18 + s) = nI st := est
      have hC : ∀ K : gb_Mem → Option (Int32 × gb_Mem), (fbd (F_Co_spill h t (nI b) Y2) fun I18 => K I18) = fbd (if nI m ≤ 0 then some (mw (mw Y2 (t + 2) (8 + b) (nI (f - m))) (t + 1) (48 + s) (nI (min 999 (st + m)))) else fbd (F_Co_write h t 1 (nI b) (nI m) (mw (mw Y2 (t + 2) (8 + b) (nI (f - m))) (t + 1) (48 + s) (nI (min 999 (st + m))))) fun I6 => some I6) K := by
        intro K
        unfold F_Co_spill
        rw [d1, fbd_s, d2, fbd_s, ef, es, em, pk_sub hmf, pb_1 hb, fbd_s, s4, fbd_s, est2, emn, ps_4 hs, fbd_s]
      have hMM : (flod N2 1 80 (40 + nI b) fun v5 => flod N2 1 80 (48 + nI b) fun v6 => flod N2 1 80 (40 + nI b) fun v7 => fsto N2 1 80 (40 + nI b) (v7 - ((v5 + 2) / 3)) fun I8 => flod I8 1 80 (18 + v6) fun v9 => fsto I8 1 80 (18 + v6) (F_Mo_lesser 999 (v9 + ((v5 + 2) / 3)) I8) fun I10 => if ((v5 + 2) / 3) ≤ 0 then some I10 else fbd (F_Mo_notes 1 (nI b) ((v5 + 2) / 3) I10) fun I11 => some I11) = if nI m ≤ 0 then some (mw (mw N2 1 (40 + b) (nI (f - m))) 1 (18 + s) (nI (min 999 (st + m)))) else fbd (F_Mo_notes 1 (nI b) (nI m) (mw (mw N2 1 (40 + b) (nI (f - m))) 1 (18 + s) (nI (min 999 (st + m))))) fun I11 => some I11 := by
        rw [k40, flod_n (by omega) (by decide), k48, flod_n (by omega) (by decide), flod_n (by omega) (by decide), ef, es, em, pk_sub hmf, fsto_n (by omega) (by decide), k18, flod_n (by omega) (by decide), est2, mn_lesser, emn, fsto_n (by omega) (by decide)]
      rw [hMM]
      simp only [hC]
      have e41 : ∀ j, 48 ≤ j → mw (mw N2 1 (40 + b) (nI (f - m))) 1 (18 + s) (nI (min 999 (st + m))) 1 j = N 1 j := fun j hj => by rw [mw_eq, pk_un (by omega), mw_eq, pk_un (by omega)]; exact eN2 j hj
      have e42 : mw (mw Y2 (t + 2) (8 + b) (nI (f - m))) (t + 1) (48 + s) (nI (min 999 (st + m))) (h + 1) = Y (h + 1) := by rw [mw_ne (by omega), mw_ne (by omega)]; exact eY2
      by_cases c1 : m = 0
      · refine ⟨_, _, fun K => ?_, ?_, g4, e42, fun j h1 _ => e41 j h1⟩
        · rw [if_pos (by rw [c1]; decide), fbd_s]
        · rw [if_pos (by rw [c1]; decide)]
      · rw [if_neg (nI_nle (by omega) (by omega)), if_neg (nI_nle (by omega) (by omega))]
        obtain ⟨Z, O, z1, z2, z3, z4, z5, z6⟩ := gst_note ht g4 1 (nI b) (nI m)
        refine ⟨Z, O, fun K => ?_, ?_, z3, ?_, fun j h1 _ => ?_⟩
        · rw [z1, fbd_s, fbd_s]
        · rw [z2, fbd_s]
        · rw [z4 (h + 1) (by omega) (by omega)]; exact e42
        · rw [z6 j (by omega)]; exact e41 j h1
end SAIL
