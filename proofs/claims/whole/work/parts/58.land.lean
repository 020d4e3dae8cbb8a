/-! Landing; a boat's part of a minute as a whole. -/
section LAND
variable {t h b s k w : Nat} {X M Y N Z O : gb_Mem} {v x1 x2 x3 : Int32}
theorem m1_neg : (nI 0 + (-1) : Int32) < 0 := by
  rw [nI_0, Int32.zero_add]
  exact Int32.lt_iff_toInt_lt.mpr (by rw [show (-1 : Int32).toInt = -1 from rfl, show (0 : Int32).toInt = 0 from rfl]; omega)
theorem gIn_n1 {x : Int32} {lo hi : Int} (h : gIn x lo hi) (h0 : 0 < lo) : ¬ x = 0 := by
  intro q
  subst q
  have := h.1
  rw [show (0 : Int32).toInt = 0 from rfl] at this
  omega
theorem voy_l {K : Nat} (hK : K ≤ 16) (e11 : Y 11 2 = nI K) (hv : ∀ i, i < K → gIn (Y 12 (4 * i)) 0 7 ∧ gIn (Y 12 (4 * i + 1)) 1 99) : ∀ k f, k ≤ K → k < f → L_Co_setOutAgain_15 h t (nI b) f (nI k + (-1)) Y = if gVoy (Y 12) (nI b) k = 0 then some (.inl Y) else fbd (F_Ta_putBoat t 1 (nI b) (gVoy (Y 12) (nI b) k) Y) fun I3 => fbd (F_Ta_turn t (nI b) I3) fun I4 => some (.inr I4) := by
  intro k
  induction k with
  | zero =>
    intro f _ hf
    obtain ⟨f, rfl⟩ : ∃ g, f = g + 1 := ⟨f - 1, by omega⟩
    simp only [L_Co_setOutAgain_15]
    rw [if_pos m1_neg, if_pos (show gVoy (Y 12) (nI b) 0 = 0 from rfl)]
  | succ k ih =>
    intro f hk hf
    obtain ⟨f, rfl⟩ : ∃ g, f = g + 1 := ⟨f - 1, by omega⟩
    simp only [L_Co_setOutAgain_15]
    rw [pk_m1, if_neg (nI_pos (by omega)), show F_Ro_cell 11 64 (nI k) 0 Y = some (Y 12 (4 * k)) from cell_n (j := 0) e11 (by omega) (by decide) (by omega) (by decide), fbd_s, show F_Ro_cell 11 64 (nI k) 1 Y = some (Y 12 (4 * k + 1)) from cell_n (j := 1) e11 (by omega) (by decide) (by omega) (by decide), fbd_s]
    have eg : gVoy (Y 12) (nI b) (k + 1) = if Y 12 (4 * k) = nI b then Y 12 (4 * k + 1) else gVoy (Y 12) (nI b) k := rfl
    rw [eg]
    by_cases c : Y 12 (4 * k) = nI b
    · rw [if_pos c, if_pos c, if_neg (gIn_n1 (hv k (by omega)).2 (by decide))]
    · rw [if_neg c, if_neg c]
      exact ih f (by omega) (by omega)
theorem gVoy_in {c : Nat → Int32} {x : Int32} : ∀ k, (∀ i, i < k → gIn (c (4 * i + 1)) 1 99) → gVoy c x k = 0 ∨ gIn (gVoy c x k) 1 99 := by
  intro k
  induction k with
  | zero => intro _; exact Or.inl rfl
  | succ k ih =>
    intro hk
    have eg : gVoy c x (k + 1) = if c (4 * k) = x then c (4 * k + 1) else gVoy c x k := rfl
    rw [eg]
    by_cases q : c (4 * k) = x
    · rw [if_pos q]; exact Or.inr (hk k (by omega))
    · rw [if_neg q]; exact ih (fun i hi => hk i (by omega))
theorem sub1_m1 (k : Nat) : nI k - 1 = nI k + (-1) := by rw [Int32.sub_eq_add_neg]
theorem mx0_n (d : Int32) : ∃ n, n < 2 ^ 31 ∧ mx 0 d = nI n := by
  unfold mx
  by_cases c : 0 < d
  · rw [if_pos c]
    obtain ⟨n, hn, e⟩ := nI_of (x := d) (fun q => Int32.lt_irrefl (Int32.lt_trans c q))
    exact ⟨n, hn, e⟩
  · rw [if_neg c]; exact ⟨0, by decide, rfl⟩
def gAsh (N : gb_Mem) (b : Nat) : Prop := N 1 (48 + b) = F_Mo_shoreOf (N 1 (56 + b)) N
theorem co_ash (hC : GCo t h Y N) (hb : b < 8) : (gAsh N b → F_Ta_isAtItsShore t (nI b) Y = some 1 ∧ F_Mo_isAshore (nI b) N = some 1) ∧ (¬ gAsh N b → F_Ta_isAtItsShore t (nI b) Y = some 0 ∧ F_Mo_isAshore (nI b) N = some 0) := by
  obtain ⟨d0, d1, d2, d3, d4, d5⟩ := co_rd hC hb
  unfold F_Ta_isAtItsShore F_Mo_isAshore
  rw [d2, fbd_s, d3, fbd_s, k48, flod_n (by omega) (by decide), k56, flod_n (by omega) (by decide)]
  refine ⟨fun q => ?_, fun q => ?_⟩
  · exact ⟨if_pos q, if_pos q⟩
  · exact ⟨if_neg q, if_neg q⟩
theorem gst_land (ht : gTH t h) (hS : GSt t h X M Y N) (hb : b < 8) (hsh : gAsh N b) : ∃ Z O n, F_Co_land h t (nI b) Y = some Z ∧ F_Mo_lands (nI b) N = some (1, O) ∧ GSt t h X M Z O ∧ n < 2 ^ 31 ∧ Z (h + 1) = upd (Y (h + 1)) b (nI n) ∧ O 0 43 = nI n ∧ (∀ j, 72 ≤ j → O 1 j = if j = 72 + b then N 1 j + 1 else N 1 j) := by
  have ht2 := ht
  unfold gTH at ht2
  obtain ⟨d0, d1, d2, d3, d4, d5⟩ := co_rd hS.1 hb
  obtain ⟨n, hn, en⟩ := mx0_n (N 1 (40 + b) - N 1 (64 + b))
  obtain ⟨kd, ek, hk, -⟩ := gIn_n (hS.1.2.1.2.2 b hb).1
  obtain ⟨hd, eh, hh, -⟩ := gIn_n (hS.1.2.1.2.2 b hb).2.2.1
  obtain ⟨g, hg⟩ : ∃ g, g = 5 * hd + kd := ⟨_, rfl⟩
  have hg10 : g < 10 := by omega
  have eG : Y (t + 3) g = N 1 (30 + g) := hS.1.1.2.2.2 g hg10
  have g1 := gst_got (v := N 1 (30 + g) + nI n) ht hS hg10
  have hsA := (co_ash hS.1 hb).1 hsh
  -- the class as far as the shores
  have hX1 : F_Ta_addGot t (N 1 (48 + b)) (nI kd) (nI n) Y = some (mw Y (t + 3) g (N 1 (30 + g) + nI n)) := by
    unfold F_Ta_addGot
    rw [show F_Gb_within (nI kd) 0 4 Y = 1 from within_n (lo := 0) (hi := 4) (by omega) (by omega) (by decide), if_neg (by decide)]
    unfold gAsh at hsh
    rw [hsh, eh]
    have hc : hd = 0 ∨ hd = 1 := by omega
    unfold J_Ta_addGot_22 F_Mo_shoreOf
    rcases hc with rfl | rfl
    · rw [if_neg (show ¬ nI 0 = 1 by decide), if_pos rfl, show (0 : Int32) + nI kd = nI g by rw [Int32.zero_add, show g = kd by omega], flod_n hg10 (by decide), fsto_n hg10 (by decide), eG]
    · rw [if_pos (show nI 1 = 1 from rfl), if_neg (show ¬ (11 : Int32) = 0 by decide), show (5 : Int32) + nI kd = nI g by rw [show (5 : Int32) = nI 5 from rfl, nI_add, show g = 5 + kd by omega], flod_n hg10 (by decide), fsto_n hg10 (by decide), eG]
  obtain ⟨Y1, hY1⟩ : ∃ Z, Z = mw Y (t + 3) g (N 1 (30 + g) + nI n) := ⟨_, rfl⟩
  obtain ⟨N1, hN1⟩ : ∃ Z, Z = mw N 1 (30 + g) (N 1 (30 + g) + nI n) := ⟨_, rfl⟩
  rw [← hY1, ← hN1] at g1
  rw [← hY1] at hX1
  obtain ⟨d0', d1', d2', d3', d4', d5'⟩ := co_rd g1.1 hb
  have g2 := gst_landed (v := N1 1 (72 + b) + 1) ht g1 hb
  have g3 := gst_full (v := 0) ht g2 hb ⟨by decide, by decide⟩
  have g4 := gst_skin0 (v := 0) ht g3 hb
  obtain ⟨Y4, hY4⟩ : ∃ Z, Z = mw (mw (mw Y1 (t + 2) (40 + b) (N1 1 (72 + b) + 1)) (t + 2) (8 + b) 0) (t + 2) (32 + b) 0 := ⟨_, rfl⟩
  obtain ⟨N4, hN4⟩ : ∃ Z, Z = mw (mw (mw N1 1 (72 + b) (N1 1 (72 + b) + 1)) 1 (40 + b) 0) 1 (64 + b) 0 := ⟨_, rfl⟩
  rw [← hY4, ← hN4] at g4
  have g5 := gst_br (a := b) (v := nI n) ht g4
  obtain ⟨Z6, O6, w1, w2, g6, w4, w5, w6⟩ := gst_note ht g5 2 (nI b) (nI n)
  have g7 := gst_lw (v := nI n) ht g6
  obtain ⟨O7, hO7⟩ : ∃ Z, Z = mw O6 0 43 (nI n) := ⟨_, rfl⟩
  rw [← hO7] at g7
  obtain ⟨ev, K, hK, ek2, hv, hV⟩ := g7.1.2.2.2.1
  have hvb := hV b hb
  have e11 : Z6 11 2 = nI K := ev.trans ek2
  have hvl := voy_l (Y := Z6) (h := h) (t := t) (b := b) hK e11 hv K 5000 (Nat.le_refl _) (by omega)
  have hX : F_Co_land h t (nI b) Y = F_Co_setOutAgain h t (nI b) Z6 := by
    unfold F_Co_land J_Co_land_107
    rw [d1, fbd_s, d4, fbd_s, d2, fbd_s, d0, fbd_s, en, ek, hX1, fbd_s, d5', fbd_s, pb_5 hb, fbd_s, pb_1 hb, fbd_s, pb_4 hb, fbd_s, ← hY4, show F_Gb_within (nI b) 0 7 Y4 = 1 from within_n (lo := 0) (hi := 7) (by omega) (by omega) (by decide), if_neg (by decide), fsto_n hb (by decide), w1, fbd_s, fbd_i]
  have hM : F_Mo_lands (nI b) N = if O7 19 b = 0 then some (1, O7) else flod O7 19 16 (nI b) fun v17 => fsto O7 1 80 (40 + nI b) v17 fun I18 => flod I18 1 80 (56 + nI b) fun v19 => fsto I18 1 80 (56 + nI b) (1 - v19) fun I20 => some (1, I20) := by
    unfold F_Mo_lands
    rw [hsA.2, fbd_s, if_neg (show ¬ (1 : Int32) = 0 by decide), k40, flod_n (by omega) (by decide), k64, flod_n (by omega) (by decide), flt_d, mx_greater, en, k56, flod_n (by omega) (by decide), flod_n hb (by decide), ek, eh, flt_d, show (30 : Int32) + 5 * nI hd + nI kd = nI (30 + g) by
      rw [show (5 : Int32) * nI hd = nI (5 * hd) from pk_mul 5 hd, show (30 : Int32) + nI (5 * hd) = nI (30 + 5 * hd) from nI_add 30 (5 * hd), nI_add, show 30 + 5 * hd + kd = 30 + g by omega], flod_n (by omega) (by decide), fsto_n (by omega) (by decide), ← hN1, k72, flod_n (by omega) (by decide), fsto_n (by omega) (by decide), fsto_n (by omega) (by decide), fsto_n (by omega) (by decide), ← hN4, w2, fbd_s, fstf_d, ← hO7, flod_n (show b < 16 by omega) (by decide)]
  have eZ : Z6 (h + 1) = upd (Y (h + 1)) b (nI n) := by
    rw [w4 (h + 1) (by omega) (by omega), mw_eq, hY4, mw_ne (by omega), mw_ne (by omega), mw_ne (by omega), hY1, mw_ne (by omega)]
  have eO : ∀ j, 72 ≤ j → O7 1 j = if j = 72 + b then N 1 j + 1 else N 1 j := by
    intro j hj
    rw [hO7, mw_ne (by decide), w6 j (by omega), hN4, mw_eq, pk_un (by omega), mw_eq, pk_un (by omega), mw_eq, upd_ap, hN1, mw_eq, pk_un (show 72 + b ≠ 30 + g by omega)]
    by_cases c : j = 72 + b
    · rw [if_pos c, if_pos c, c]
    · rw [if_neg c, if_neg c, pk_un (by omega)]
  have e43 : O7 0 43 = nI n := by rw [hO7, mw_eq, pk_us]
  rw [hX, hM]
  unfold F_Co_setOutAgain
  rw [e11, sub1_m1, hvl, hvb]
  by_cases c : gVoy (Z6 12) (nI b) K = 0
  · rw [if_pos c, if_pos c]
    exact ⟨Z6, O7, n, rfl, rfl, g7, hn, eZ, e43, eO⟩
  · have hin : gIn (gVoy (Z6 12) (nI b) K) 1 99 := (gVoy_in K (fun i hi => (hv i hi).2)).resolve_left c
    have hin2 : gIn (gVoy (Z6 12) (nI b) K) 0 99 := ⟨Int.le_trans (by decide) hin.1, hin.2⟩
    rw [if_neg c, if_neg c, pb_1 hb, fbd_s, flod_n (show b < 16 by omega) (by decide), hvb, k40, fsto_n (by omega) (by decide), k56, flod_n (by omega) (by decide), fsto_n (by omega) (by decide)]
    have g8 := gst_full ht g7 hb hin2
    obtain ⟨c0, c1, c2, c3, c4, c5⟩ := co_rd g8.1 hb
    obtain ⟨h8, eh8, hh8, -⟩ := gIn_n (g8.1.2.1.2.2 b hb).2.2.1
    have r1 : gIn (1 - mw O7 1 (40 + b) (gVoy (Z6 12) (nI b) K) 1 (56 + b)) 0 1 := by
      rw [eh8]
      have hc : h8 = 0 ∨ h8 = 1 := by omega
      rcases hc with rfl | rfl
      · exact ⟨by decide, by decide⟩
      · exact ⟨by decide, by decide⟩
    have g9 := gst_head ht g8 hb r1
    refine ⟨_, _, n, ?_, rfl, g9, hn, ?_, ?_, ?_⟩
    · unfold F_Ta_turn
      rw [c3, fbd_s, pb_3 hb]
      rfl
    · rw [mw_ne (by omega), mw_ne (by omega)]; exact eZ
    · rw [mw_ne (by decide), mw_ne (by decide)]; exact e43
    · intro j hj
      rw [mw_eq, pk_un (by omega), mw_eq, pk_un (by omega)]; exact eO j hj
theorem fgd_01 {α : Type} {r : Int32} (h : r = 0 ∨ r = 1) (k : Option α) : fgd (decide (r = 0 ∨ r = 1)) k = k := by
  rw [decide_eq_true h]; rfl
theorem gst_sail (ht : gTH t h) (hS : GSt t h X M Y N) (hb : b < 8) (hsh : ¬ gAsh N b) : ∃ r Z O, F_Co_sail h t (nI b) Y = some (r, Z) ∧ F_Mo_goesOn (nI b) N = some (r, O) ∧ GSt t h X M Z O ∧ ((r = 0 ∧ Z (h + 1) = Y (h + 1) ∧ ∀ j, 72 ≤ j → O 1 j = N 1 j) ∨ (r = 1 ∧ (∃ n, n < 2 ^ 31 ∧ Z (h + 1) = upd (Y (h + 1)) b (nI n) ∧ O 0 43 = nI n) ∧ ∀ j, 72 ≤ j → O 1 j = if j = 72 + b then N 1 j + 1 else N 1 j)) := by
  have ht2 := ht
  unfold gTH at ht2
  obtain ⟨r2, Y1, Y3, N3, p1, p2, p3, g3, f3, m3⟩ := gst_pour ht hS hb
  obtain ⟨r5, Y4, N4, q1, q2, g4, f4, m4, hr5⟩ := gst_law ht g3 (w := 0) (by decide) hb
  have q1' : F_La_tells 6 t 0 (nI b) Y3 = some (r5, Y4) := q1
  have q2' : F_Mo_passesOf (nI b) N3 = some (r5, N4) := q2
  obtain ⟨z, Y6, N6, s1, s2, g6, hz, f6, m6, m61⟩ := gst_hap ht g4 hr5
  have eY6 : Y6 (h + 1) = Y (h + 1) := by rw [f6 (h + 1) (by omega), f4 (h + 1) (by omega) (by omega)]; exact f3
  have eN6 : ∀ j, 48 ≤ j → j < 64 ∨ 72 ≤ j → N6 1 j = N 1 j := fun j h1 h2 => by rw [m61 j (by omega), m4 1 (by decide) (by decide)]; exact m3 j h1 h2
  have ash6 : ¬ gAsh N6 b := by
    unfold gAsh at hsh ⊢
    rw [eN6 (48 + b) (by omega) (by omega), eN6 (56 + b) (by omega) (by omega)]; exact hsh
  unfold F_Co_sail F_Mo_goesOn
  rw [p1, p3]
  simp only [fbd_s]
  rw [p2, fbd_s, q1', q2']
  simp only [fbd_s]
  rw [s1, s2]
  simp only [fbd_s]
  rcases hz with rfl | rfl
  · rw [if_pos rfl, if_pos rfl]
    obtain ⟨Z, O, z1, z2, g7, z4, z5, z6⟩ := gst_skin ht g6 hb
    have ash7 : ¬ gAsh O b := by
      unfold gAsh at ash6 ⊢
      rw [z6 (48 + b) (by omega), z6 (56 + b) (by omega)]; exact ash6
    refine ⟨0, Z, O, ?_, ?_, g7, Or.inl ⟨rfl, z4.trans eY6, fun j hj => ?_⟩⟩
    · rw [z1, fbd_s]
      unfold J_Co_sail_128
      rw [((co_ash g7.1 hb).2 ash7).1, fbd_s, if_pos rfl]
    · rw [z2, fbd_s]
    · rw [z6 j (by omega)]; exact eN6 j (by omega) (by omega)
  · rw [if_neg (show ¬ (1 : Int32) = 0 by decide), if_neg (show ¬ (1 : Int32) = 0 by decide)]
    obtain ⟨d0, d1, d2, d3, d4, d5⟩ := co_rd g6.1 hb
    obtain ⟨s, es, hs, -⟩ := gIn_n (g6.1.2.1.2.2 b hb).2.1
    obtain ⟨hd, eh, hh, -⟩ := gIn_n (g6.1.2.1.2.2 b hb).2.2.1
    rw [d3, fbd_s, k48, flod_n (by omega) (by decide), k56, flod_n (by omega) (by decide), es, eh]
    -- the step
    have step : ∀ (e : Int32) (s2 : Nat), nI s + e = nI s2 → s2 < 12 → ∃ r Z O, J_Co_sail_62 h t (nI b) e Y6 = some (r, Z) ∧ J_Mo_goesOn_59 (nI b) e (nI s) (nI (48 + b)) N6 = some (r, O) ∧ GSt t h X M Z O ∧ ((r = 0 ∧ Z (h + 1) = Y (h + 1) ∧ ∀ j, 72 ≤ j → O 1 j = N 1 j) ∨ (r = 1 ∧ (∃ n, n < 2 ^ 31 ∧ Z (h + 1) = upd (Y (h + 1)) b (nI n) ∧ O 0 43 = nI n) ∧ ∀ j, 72 ≤ j → O 1 j = if j = 72 + b then N 1 j + 1 else N 1 j)) := by
      intro e s2 ee hs2
      have g7 := gst_at (v := nI s2) ht g6 hb ((gIn_nI (by omega)).mpr ⟨by omega, by omega⟩)
      obtain ⟨Z8, O8, u1, u2, g8, u3, u4⟩ := gst_spill ht g7 hb
      have eZ8 : Z8 (h + 1) = Y (h + 1) := by rw [u3, mw_ne (by omega)]; exact eY6
      have eO8 : ∀ j, 72 ≤ j → O8 1 j = N 1 j := fun j hj => by rw [u4 j (by omega) (by omega), mw_eq, pk_un (by omega)]; exact eN6 j (by omega) (by omega)
      unfold J_Co_sail_62 J_Mo_goesOn_59
      rw [d2, fbd_s, es, ee, pb_2 hb, fbd_s, fsto_n (by omega) (by decide), u1, u2, fbd_s]
      unfold J_Co_sail_117 J_Co_sail_128
      by_cases c : gAsh O8 b
      · obtain ⟨Z, O, n, v1, v2, v3, hn, v4, v5, v6⟩ := gst_land ht g8 hb c
        refine ⟨1, Z, O, ?_, ?_, v3, Or.inr ⟨rfl, ⟨n, hn, ?_, v5⟩, fun j hj => ?_⟩⟩
        · rw [((co_ash g8.1 hb).1 c).1, fbd_s, if_neg (by decide), v1, fbd_s]
        · rw [v2, fbd_s]; exact fgd_01 (Or.inr rfl) _
        · rw [v4, eZ8]
        · rw [v6 j hj, eO8 j hj]
      · refine ⟨0, Z8, O8, ?_, ?_, g8, Or.inl ⟨rfl, eZ8, eO8⟩⟩
        · rw [((co_ash g8.1 hb).2 c).1, fbd_s, if_pos rfl]
        · have : F_Mo_lands (nI b) O8 = some (0, O8) := by
            unfold F_Mo_lands
            rw [((co_ash g8.1 hb).2 c).2, fbd_s, if_pos rfl]
          rw [this, fbd_s]; exact fgd_01 (Or.inl rfl) _
    unfold gAsh at ash6
    rw [es, eh] at ash6
    have hc : hd = 0 ∨ hd = 1 := by omega
    rcases hc with rfl | rfl
    · rw [if_neg (show ¬ nI 0 = 1 by decide), if_neg (show ¬ nI 0 = 1 by decide)]
      have s0 : s ≠ 0 := fun q => ash6 (by rw [q]; rfl)
      obtain ⟨s', rfl⟩ : ∃ q, s = q + 1 := ⟨s - 1, by omega⟩
      exact step (-1) s' (pk_m1 s') (by omega)
    · rw [if_pos (show nI 1 = 1 from rfl), if_pos (show nI 1 = 1 from rfl)]
      have s11 : s ≠ 11 := fun q => ash6 (by rw [q]; rfl)
      exact step 1 (s + 1) (nI_1 s) (by omega)
end LAND
