/-! feed. -/
theorem byte_eq : ∀ x : Int32, ∀ k : Nat, k = 0 ∨ k = 8 ∨ k = 16 ∨ k = 24 → ((x.toUInt32 >>> ((nI k).toUInt32 &&& Int32.toUInt32 31)).toInt32 &&& 255) = ((x >>> (nI k &&& 31)) &&& 255) := by
  intro x k hk
  have h1 : ((x.toUInt32 >>> ((nI k).toUInt32 &&& Int32.toUInt32 31)).toInt32 &&& 255) = nI ((x.toBitVec.toNat / 2 ^ k) % 2 ^ 8) := by
    rw [pk_and _ 8 rfl, pk_ushr x (nI k) k (by rcases hk with rfl | rfl | rfl | rfl <;> rfl)]
  rw [h1]
  apply tb_ext
  intro j hj
  have hlt : x.toBitVec.toNat / 2 ^ k % 2 ^ 8 < 2 ^ 32 := Nat.lt_of_lt_of_le (Nat.mod_lt _ (by decide)) (by decide)
  rw [tb_nI j hlt, tb_and, show (255 : Int32) = nI (2 ^ 8 - 1) from rfl, tb_nI j (by decide), Nat.testBit_two_pow_sub_one, Nat.testBit_mod_two_pow, Nat.testBit_div_two_pow]
  by_cases h8 : j < 8
  · rw [decide_eq_true h8, Bool.true_and, Bool.and_true, (sh_mask k (by omega)).1]
    unfold tb
    rw [Int32.toBitVec_shiftRight, BitVec.getLsbD_sshiftRight', (sh_mask k (by omega)).2]
    show x.toBitVec.getLsbD (j + k) = _
    rw [if_pos (by omega), decide_eq_false (by omega), Bool.not_false, Bool.true_and, Nat.add_comm]
  · rw [decide_eq_false h8, Bool.false_and, Bool.and_false]
theorem byte_in (x : Int32) : gIn (x &&& 255) 0 255 := by
  obtain ⟨j, hj, e⟩ := pk_andE x (m := 255) 8 rfl
  rw [e]
  exact (gIn_nI (by omega)).mpr ⟨by omega, by omega⟩
theorem ginv_byte {IX IM : gb_Mem} {k : Nat} {b : Int32} (h : GInv IX IM) (e : IM 0 13 = nI k) (hk : k < 400) (hb : gIn b 0 255) : GInv (mw (mw IX 110 k b) 0 10 (nI (k + 1))) (mw (mw IM 9 k b) 0 13 (nI (k + 1))) := by
  unfold GInv GWorld GFix at *
  simp +decide (disch := decide) only [mw_ne, mw_eq, mset_ne, mset_eq, upd_ap, xP_mw, xP_mset, ↓reduceIte] at *
  obtain ⟨hF, h5, hW, hPa, ⟨e1, k2, h2, e2, h3⟩, hO⟩ := h
  have : k = k2 := (nI_eq (by omega) (by omega)).mp (e.symm.trans e2)
  subst this
  refine ⟨hF, h5, hW, hPa, ⟨rfl, k + 1, by omega, rfl, fun i hi => ?_⟩, hO⟩
  rw [upd_ap, upd_ap]
  by_cases c : i = k
  · rw [if_pos c, if_pos c]; exact ⟨rfl, hb⟩
  · rw [if_neg c, if_neg c]; exact h3 i (by omega)
theorem typ_one {IX IM : gb_Mem} {k : Nat} (x : Int32) (h : GInv IX IM) (e : IM 0 13 = nI k) (hk : k + 4 ≤ 400) : ∃ JX JM, F_Gb_tapeNumber x IX = some JX ∧ F_Mo_types x IM = some JM ∧ GInv JX JM ∧ JM 0 13 = nI (k + 4) := by
  have st : ∀ (f z k : Nat) (IX IM : gb_Mem), (z = 0 ∨ z = 8 ∨ z = 16 ∨ z = 24) → GInv IX IM → IM 0 13 = nI k → k < 400 → ∃ JX JM, L_Gb_tapeNumber_3 x (f + 1) (nI z) IX = L_Gb_tapeNumber_3 x f (nI z + (-8)) JX ∧ L_Mo_types_3 x (f + 1) (nI z) IM = L_Mo_types_3 x f (nI z + (-8)) JM ∧ GInv JX JM ∧ JM 0 13 = nI (k + 1) := by
    intro f z k IX IM hz h e hk
    have eX : IX 0 10 = nI k := h.2.2.2.2.1.1.trans e
    refine ⟨_, _, ?_, ?_, ginv_byte (b := (x >>> (nI z &&& 31)) &&& 255) h e hk (byte_in _), by rw [mw_eq, pk_us]⟩
    · simp only [L_Gb_tapeNumber_3, J_Gb_tapeNumber_43, fstf_d, eX]
      rw [if_neg (nI_pos (by omega)), if_neg (show ¬ 400 ≤ nI k from nI_ge (b := 400) hk (by decide)), fsto_n hk (by decide), byte_eq x z hz]
      have q : mw IX 110 k ((x >>> (nI z &&& 31)) &&& 255) 0 10 = nI k := by rw [mw_ne (by decide)]; exact eX
      rw [q, nI_1]
    · simp only [L_Mo_types_3, fstf_d, e]
      rw [if_neg (nI_pos (by omega)), fsto_n hk (by decide)]
      have q : mw IM 9 k ((x >>> (nI z &&& 31)) &&& 255) 0 13 = nI k := by rw [mw_ne (by decide)]; exact e
      rw [q, nI_1]
  obtain ⟨X1, M1, a1, b1, g1, e1⟩ := st 4999 24 k IX IM (by omega) h e (by omega)
  obtain ⟨X2, M2, a2, b2, g2, e2⟩ := st 4998 16 _ X1 M1 (by omega) g1 e1 (by omega)
  obtain ⟨X3, M3, a3, b3, g3, e3⟩ := st 4997 8 _ X2 M2 (by omega) g2 e2 (by omega)
  obtain ⟨X4, M4, a4, b4, g4, e4⟩ := st 4996 0 _ X3 M3 (by omega) g3 e3 (by omega)
  refine ⟨X4, M4, ?_, ?_, g4, e4⟩
  · unfold F_Gb_tapeNumber
    rw [show L_Gb_tapeNumber_3 x 5000 24 IX = L_Gb_tapeNumber_3 x (4999 + 1) (nI 24) IX from rfl, a1, show nI 24 + (-8) = nI 16 from rfl, a2, show nI 16 + (-8) = nI 8 from rfl, a3, show nI 8 + (-8) = nI 0 from rfl, a4]
    rfl
  · unfold F_Mo_types
    rw [show L_Mo_types_3 x 5000 24 IM = L_Mo_types_3 x (4999 + 1) (nI 24) IM from rfl, b1, show nI 24 + (-8) = nI 16 from rfl, b2, show nI 16 + (-8) = nI 8 from rfl, b3, show nI 8 + (-8) = nI 0 from rfl, b4]
    rfl
theorem sim_feed : S_feed GInv := by
  intro x1 x2 x3 x4 x5 IX IM h
  have h9 := ginv_told (v := 0) h
  generalize hI : mw IM 0 0 0 = I1 at h9
  obtain ⟨e1, k, hk, e2, -⟩ := h9.2.2.2.2.1
  simp only [F_Mo_feed, fstf_d, hI, F_Gb_feed, e1, e2]
  by_cases c : k ≤ 380
  · rw [if_pos (show nI k ≤ 380 from nI_le (b := 380) c (by decide)), show nI k + 20 = nI (k + 20) from nI_add k 20, if_pos (show nI (k + 20) ≤ 400 from nI_le (b := 400) (by omega) (by decide))]
    obtain ⟨X1, M1, a1, b1, g1, f1⟩ := typ_one x1 h9 e2 (by omega)
    obtain ⟨X2, M2, a2, b2, g2, f2⟩ := typ_one x2 g1 f1 (by omega)
    obtain ⟨X3, M3, a3, b3, g3, f3⟩ := typ_one x3 g2 f2 (by omega)
    obtain ⟨X4, M4, a4, b4, g4, f4⟩ := typ_one x4 g3 f3 (by omega)
    obtain ⟨X5, M5, a5, b5, g5, f5⟩ := typ_one x5 g4 f4 (by omega)
    rw [a1, fbd_s, a2, fbd_s, a3, fbd_s, a4, fbd_s, a5, fbd_s, b1, fbd_s, b2, fbd_s, b3, fbd_s, b4, fbd_s, b5, fbd_s]
    exact ⟨_, X5, M5, rfl, by rw [g5.2.2.2.2.1.1], g5⟩
  · rw [if_neg (show ¬ nI k ≤ 380 from nI_ge (a := 380) (by omega) (by omega)), show nI k + 20 = nI (k + 20) from nI_add k 20, if_neg (show ¬ nI (k + 20) ≤ 400 from nI_ge (a := 400) (by omega) (by omega))]
    exact ⟨-1, IX, I1, rfl, rfl, h9⟩
