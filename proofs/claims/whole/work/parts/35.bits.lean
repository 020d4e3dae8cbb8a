/-! Bits of an int; arrays of the table at numbers; a row's cell. -/
def tb (x : Int32) (j : Nat) : Bool := x.toBitVec.getLsbD j
theorem tb_ext {x y : Int32} (h : ∀ j, j < 32 → tb x j = tb y j) : x = y := by
  apply Int32.toBitVec_inj.mp
  apply BitVec.eq_of_getLsbD_eq
  intro i hi
  exact h i hi
theorem tb_or (x y : Int32) (j : Nat) : tb (x ||| y) j = (tb x j || tb y j) := by
  unfold tb; rw [Int32.toBitVec_or, BitVec.getLsbD_or]
theorem tb_and (x y : Int32) (j : Nat) : tb (x &&& y) j = (tb x j && tb y j) := by
  unfold tb; rw [Int32.toBitVec_and, BitVec.getLsbD_and]
theorem tb_xor (x y : Int32) (j : Nat) : tb (x ^^^ y) j = (tb x j ^^ tb y j) := by
  unfold tb; rw [Int32.toBitVec_xor, BitVec.getLsbD_xor]
theorem tb_nI {n : Nat} (j : Nat) (h : n < 2 ^ 32) : tb (nI n) j = n.testBit j := by
  unfold tb
  show (nI n).toBitVec.toNat.testBit j = _
  rw [pk_tn h]
theorem tb_0 (j : Nat) : tb 0 j = false := by
  rw [show (0 : Int32) = nI 0 from rfl, tb_nI j (by decide), Nat.zero_testBit]
theorem tb_ge {x : Int32} {j : Nat} (h : 32 ≤ j) : tb x j = false := BitVec.getLsbD_of_ge _ _ h
theorem sh_mask : ∀ k : Nat, k < 32 → (nI k &&& 31) = nI k ∧ ((nI k).toBitVec.smod 32).toNat = k := by decide +kernel
theorem tb_one {k : Nat} (j : Nat) (hk : k < 32) : tb (1 <<< (nI k &&& 31)) j = decide (j = k) := by
  rw [(sh_mask k hk).1]
  by_cases hj : j < 32
  · unfold tb
    show ((1 : Int32) <<< nI k).toBitVec.toNat.testBit j = _
    rw [pk_shl 1 (nI k) k (sh_mask k hk).2]
    show (1 * 2 ^ k % 2 ^ 32).testBit j = _
    rw [Nat.one_mul, Nat.testBit_mod_two_pow, Nat.testBit_two_pow]
    simp only [hj, decide_true, Bool.true_and]
    by_cases q : k = j
    · subst q; simp
    · simp [q, Ne.symm q]
  · rw [tb_ge (by omega)]
    symm
    exact decide_eq_false (by omega)
theorem tb_shr {x : Int32} {k : Nat} (hk : k < 32) : ((x >>> (nI k &&& 31)) &&& 1) = 1 ↔ tb x k = true := by
  have e : ((x >>> (nI k &&& 31)) &&& 1) = nI ((x >>> (nI k &&& 31)).toBitVec.toNat % 2) := pk_and _ 1 rfl
  have e2 : (x >>> (nI k &&& 31)).toBitVec.getLsbD 0 = tb x k := by
    rw [(sh_mask k hk).1]
    unfold tb
    rw [Int32.toBitVec_shiftRight, BitVec.getLsbD_sshiftRight', (sh_mask k hk).2]
    simp
    intro q
    omega
  rw [e, ← e2]
  show _ ↔ (x >>> (nI k &&& 31)).toBitVec.toNat.testBit 0 = true
  rw [Nat.testBit_zero]
  rcases Nat.mod_two_eq_zero_or_one (x >>> (nI k &&& 31)).toBitVec.toNat with q | q
  · rw [q]; simp; decide
  · rw [q]; simp; rfl
theorem has_n {x : Int32} {k : Nat} {I : gb_Mem} (hk : k < 32) : F_Mo_has x (nI k) I = if tb x k = true then 1 else 0 := by
  unfold F_Mo_has
  by_cases h : tb x k = true
  · rw [if_pos (tb_shr hk |>.mpr h), if_pos h]
  · rw [if_neg (fun q => h ((tb_shr hk).mp q)), if_neg h]
theorem within_n {x lo hi : Nat} {I : gb_Mem} (h1 : lo ≤ x) (h2 : x ≤ hi) (h3 : hi < 2 ^ 31) : F_Gb_within (nI x) (nI lo) (nI hi) I = 1 := by
  unfold F_Gb_within
  rw [if_neg (nI_nlt h1 (by omega)), if_neg (nI_nlt h2 (by omega))]
theorem ofSeat_n {t w s : Nat} {I : gb_Mem} (hw : w < 5) (hs : s < 12) : F_Ta_ofSeat t (nI w) (nI s) I = some (I (t + 1) (12 * w + s)) := by
  unfold F_Ta_ofSeat
  rw [show (F_Gb_within (nI w) 0 4 I) = 1 from within_n (lo := 0) (hi := 4) (by omega) (by omega) (by decide), if_neg (by decide), show (F_Gb_within (nI s) 0 11 I) = 1 from within_n (lo := 0) (hi := 11) (by omega) (by omega) (by decide), if_neg (by decide)]
  unfold J_Ta_ofSeat_24
  rw [if_neg (by decide), show nI w * 12 + nI s = nI (12 * w + s) by rw [show (12 : Int32) = nI 12 from rfl, pk_mul, nI_add, Nat.mul_comm], flod_n (by omega) (by decide)]
theorem ofBoat_n {t w s : Nat} {I : gb_Mem} (hw : w < 6) (hs : s < 8) : F_Ta_ofBoat t (nI w) (nI s) I = some (I (t + 2) (8 * w + s)) := by
  unfold F_Ta_ofBoat
  rw [show (F_Gb_within (nI w) 0 5 I) = 1 from within_n (lo := 0) (hi := 5) (by omega) (by omega) (by decide), if_neg (by decide), show (F_Gb_within (nI s) 0 7 I) = 1 from within_n (lo := 0) (hi := 7) (by omega) (by omega) (by decide), if_neg (by decide)]
  unfold J_Ta_ofBoat_24
  rw [if_neg (by decide), show nI w * 8 + nI s = nI (8 * w + s) by rw [show (8 : Int32) = nI 8 from rfl, pk_mul, nI_add, Nat.mul_comm], flod_n (by omega) (by decide)]
theorem putSeat_n {t w s : Nat} {I : gb_Mem} {v : Int32} (hw : w < 5) (hs : s < 12) : F_Ta_putSeat t (nI w) (nI s) v I = some (mw I (t + 1) (12 * w + s) v) := by
  unfold F_Ta_putSeat
  rw [show (F_Gb_within (nI w) 0 4 I) = 1 from within_n (lo := 0) (hi := 4) (by omega) (by omega) (by decide), if_neg (by decide), show (F_Gb_within (nI s) 0 11 I) = 1 from within_n (lo := 0) (hi := 11) (by omega) (by omega) (by decide), if_neg (by decide)]
  rw [show nI w * 12 + nI s = nI (12 * w + s) by rw [show (12 : Int32) = nI 12 from rfl, pk_mul, nI_add, Nat.mul_comm], fsto_n (by omega) (by decide)]
theorem putBoat_n {t w s : Nat} {I : gb_Mem} {v : Int32} (hw : w < 6) (hs : s < 8) : F_Ta_putBoat t (nI w) (nI s) v I = some (mw I (t + 2) (8 * w + s) v) := by
  unfold F_Ta_putBoat
  rw [show (F_Gb_within (nI w) 0 5 I) = 1 from within_n (lo := 0) (hi := 5) (by omega) (by omega) (by decide), if_neg (by decide), show (F_Gb_within (nI s) 0 7 I) = 1 from within_n (lo := 0) (hi := 7) (by omega) (by omega) (by decide), if_neg (by decide)]
  rw [show nI w * 8 + nI s = nI (8 * w + s) by rw [show (8 : Int32) = nI 8 from rfl, pk_mul, nI_add, Nat.mul_comm], fsto_n (by omega) (by decide)]
theorem cell_n {h n k i j : Nat} {I : gb_Mem} (hs : I h 2 = nI k) (hi : i < k) (hj : j < 4) (hn : 4 * k ≤ n) (hn2 : n < 10000) : F_Ro_cell h n (nI i) (nI j) I = some (I (h + 1) (4 * i + j)) := by
  unfold F_Ro_cell
  have e : nI k - 1 = nI (k - 1) := pk_sub (b := 1) (by omega)
  rw [hs, e, show (F_Gb_within (nI i) 0 (nI (k - 1)) I) = 1 from within_n (lo := 0) (by omega) (by omega) (by omega), if_neg (by decide), show (F_Gb_within (nI j) 0 3 I) = 1 from within_n (lo := 0) (hi := 3) (by omega) (by omega) (by decide), if_neg (by decide)]
  rw [show (4 : Int32) * nI i + nI j = nI (4 * i + j) by rw [show (4 : Int32) = nI 4 from rfl, pk_mul, nI_add], flod_n (by omega) (by omega)]
/-- x within 0 .. n-1 is a number -/
theorem wi_num {x : Int32} {m : Nat} {I : gb_Mem} (h : ¬ F_Gb_within x 0 (nI m) I = 0) (hm : m < 2 ^ 31) : ∃ k : Nat, x = nI k ∧ k ≤ m := by
  have r := within_in h
  rw [nI_toInt hm] at r
  obtain ⟨k, rfl, hk, -⟩ := gIn_n r
  exact ⟨k, rfl, by omega⟩
theorem isSeat_w (x : Int32) (I I2 : gb_Mem) : F_Mo_isSeat x I = F_Gb_within x 0 11 I2 := by
  unfold F_Mo_isSeat F_Gb_within
  by_cases h : x < 0
  · rw [if_pos h, if_pos h]
  · rw [if_neg h, if_neg h]
    obtain ⟨j, hj, rfl⟩ := nI_of h
    rw [show (12 : Int32) = nI 12 from rfl, show (11 : Int32) = nI 11 from rfl]
    by_cases h2 : j ≤ 11
    · rw [if_neg (nI_ge (a := j) (b := 12) (by omega) (by decide)), if_neg (nI_nlt (a := 11) (b := j) h2 (by decide))]
    · rw [if_pos (nI_le (a := 12) (b := j) (by omega) hj), if_pos (nI_lt (a := 11) (b := j) (by omega) hj)]
theorem isBoat_w {x : Int32} {n : Nat} (I I2 : gb_Mem) (h : I 0 6 = nI n) (hn : n ≤ 8) : F_Mo_isBoat x I = F_Gb_within x 0 (nI n - 1) I2 := by
  unfold F_Mo_isBoat F_Gb_within
  rw [h]
  by_cases h : x < 0
  · rw [if_pos h, if_pos h]
  · rw [if_neg h, if_neg h]
    obtain ⟨j, hj, rfl⟩ := nI_of h
    cases n with
    | zero =>
      rw [if_pos (nI_le (Nat.zero_le j) hj), if_pos]
      apply Int32.lt_iff_toInt_lt.mpr
      rw [nI_toInt hj, show (nI 0 - 1 : Int32).toInt = -1 from rfl]
      omega
    | succ n =>
      rw [nI_pred]
      by_cases h2 : j ≤ n
      · rw [if_neg (nI_ge (by omega) (by omega)), if_neg (nI_nlt h2 (by omega))]
      · rw [if_pos (nI_le (by omega) hj), if_pos (nI_lt (by omega) hj)]
