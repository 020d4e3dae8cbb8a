theorem d_Gb_candles_0 : decode yGb_candles.2.1 0 = .ok (.iload_n 1, 1) := by decide +kernel
theorem d_Gb_candles_1 : decode yGb_candles.2.1 1 = .ok (.iconst 0, 1) := by decide +kernel
theorem d_Gb_candles_2 : decode yGb_candles.2.1 2 = .ok (.sipush 4095, 3) := by decide +kernel
theorem d_Gb_candles_5 : decode yGb_candles.2.1 5 = .ok (.invokestatic 84, 3) := by decide +kernel
theorem d_Gb_candles_8 : decode yGb_candles.2.1 8 = .ok (.ifCond .eq 22, 3) := by decide +kernel
theorem d_Gb_candles_11 : decode yGb_candles.2.1 11 = .ok (.iload_n 2, 1) := by decide +kernel
theorem d_Gb_candles_12 : decode yGb_candles.2.1 12 = .ok (.iconst 0, 1) := by decide +kernel
theorem d_Gb_candles_13 : decode yGb_candles.2.1 13 = .ok (.bipush 11, 2) := by decide +kernel
theorem d_Gb_candles_15 : decode yGb_candles.2.1 15 = .ok (.invokestatic 84, 3) := by decide +kernel
theorem d_Gb_candles_18 : decode yGb_candles.2.1 18 = .ok (.ifCond .eq 12, 3) := by decide +kernel
theorem d_Gb_candles_21 : decode yGb_candles.2.1 21 = .ok (.iload_n 3, 1) := by decide +kernel
theorem d_Gb_candles_22 : decode yGb_candles.2.1 22 = .ok (.iconst 0, 1) := by decide +kernel
theorem d_Gb_candles_23 : decode yGb_candles.2.1 23 = .ok (.iconst 1, 1) := by decide +kernel
theorem d_Gb_candles_24 : decode yGb_candles.2.1 24 = .ok (.invokestatic 84, 3) := by decide +kernel
theorem d_Gb_candles_27 : decode yGb_candles.2.1 27 = .ok (.ifCond .ne 5, 3) := by decide +kernel
theorem d_Gb_candles_30 : decode yGb_candles.2.1 30 = .ok (.iconst (-1), 1) := by decide +kernel
theorem d_Gb_candles_31 : decode yGb_candles.2.1 31 = .ok (.ireturn, 1) := by decide +kernel
theorem d_Gb_candles_32 : decode yGb_candles.2.1 32 = .ok (.aload_n 0, 1) := by decide +kernel
theorem d_Gb_candles_33 : decode yGb_candles.2.1 33 = .ok (.getfield 53, 3) := by decide +kernel
theorem d_Gb_candles_36 : decode yGb_candles.2.1 36 = .ok (.iload_n 1, 1) := by decide +kernel
theorem d_Gb_candles_37 : decode yGb_candles.2.1 37 = .ok (.iload_n 2, 1) := by decide +kernel
theorem d_Gb_candles_38 : decode yGb_candles.2.1 38 = .ok (.invokevirtual 228, 3) := by decide +kernel
theorem d_Gb_candles_41 : decode yGb_candles.2.1 41 = .ok (.istore 4, 2) := by decide +kernel
theorem d_Gb_candles_43 : decode yGb_candles.2.1 43 = .ok (.iload_n 3, 1) := by decide +kernel
theorem d_Gb_candles_44 : decode yGb_candles.2.1 44 = .ok (.ifCond .ne 11, 3) := by decide +kernel
theorem d_Gb_candles_47 : decode yGb_candles.2.1 47 = .ok (.iload 4, 2) := by decide +kernel
theorem d_Gb_candles_49 : decode yGb_candles.2.1 49 = .ok (.invokestatic 231, 3) := by decide +kernel
theorem d_Gb_candles_52 : decode yGb_candles.2.1 52 = .ok (.goto 5, 3) := by decide +kernel
theorem d_Gb_candles_55 : decode yGb_candles.2.1 55 = .ok (.iload 4, 2) := by decide +kernel
theorem d_Gb_candles_57 : decode yGb_candles.2.1 57 = .ok (.ireturn, 1) := by decide +kernel
def F_Gb_candles (x1 x2 x3 : Int32) (I : gb_Mem) : Option (Int32) :=
  if (F_Gb_within x1 0 4095 I) = 0 then
    some (-1)
  else
    if (F_Gb_within x2 0 11 I) = 0 then
      some (-1)
    else
      if (F_Gb_within x3 0 1 I) = 0 then
        some (-1)
      else
        fbd (F_Se_moreCandles x1 x2 I) fun r1 =>
        if x3 = 0 then
          some (F_Ji_bitCount r1 I)
        else
          some r1
set_option maxRecDepth 4000 in
theorem c_Gb_candles (l : Launch) (d0 : Nat) (x1 x2 x3 : Int32) (I : gb_Mem) {rz : Int32} (h : F_Gb_candles x1 x2 x3 I = some rz) : gb_Cs l yGb_candles (d0 + 3) [.inr (some 0), .inl x1, .inl x2, .inl x3] shX I (some (.inl rz)) I := by
  refine gb_Ct.of (lv := [(0, .inr (some 0)), (1, .inl x1), (2, .inl x2), (3, .inl x3)]) rfl (Nat.le_of_ble_eq_true rfl) rfl ?_
  unfold F_Gb_candles at h
  show gb_Go l yGb_candles (d0 + 3) 0 0 0 [(0, .inr (some 0)), (1, .inl x1), (2, .inl x2), (3, .inl x3)] [] shX I (gb_po shX (some (.inl rz)) I)
  refine go_iload_n (k := 1) d_Gb_candles_0 rfl rfl ?_
  refine go_iconst (v := 0) d_Gb_candles_1 (by decide) ?_
  refine go_sipush (v := 4095) d_Gb_candles_2 (by decide) ?_
  refine go_callS (y := yGb_within) (asr := [.inl x1, .inl 0, .inl 4095]) (v := some (.inl (F_Gb_within x1 0 4095 I))) (I' := I) (st1 := [.inl (F_Gb_within x1 0 4095 I)]) d_Gb_candles_5 s_yGb_within m_Gb_84 rfl (Nat.le_of_ble_eq_true rfl) rfl rfl (c_Gb_within l (d0 + 2) x1 0 4095 I) ?_
  refine go_if_eq (tgt := 30) d_Gb_candles_8 (by decide) (fun hc => ?_) (fun hc => ?_)
  · rw [if_pos hc] at h
    refine go_iconst (v := (-1)) d_Gb_candles_30 (by decide) ?_
    cases h
    exact go_ireturn d_Gb_candles_31 rfl gb_po_i
  · rw [if_neg hc] at h
    refine go_iload_n (k := 2) d_Gb_candles_11 rfl rfl ?_
    refine go_iconst (v := 0) d_Gb_candles_12 (by decide) ?_
    refine go_bipush (v := 11) d_Gb_candles_13 (by decide) ?_
    refine go_callS (y := yGb_within) (asr := [.inl x2, .inl 0, .inl 11]) (v := some (.inl (F_Gb_within x2 0 11 I))) (I' := I) (st1 := [.inl (F_Gb_within x2 0 11 I)]) d_Gb_candles_15 s_yGb_within m_Gb_84 rfl (Nat.le_of_ble_eq_true rfl) rfl rfl (c_Gb_within l (d0 + 2) x2 0 11 I) ?_
    refine go_if_eq (tgt := 30) d_Gb_candles_18 (by decide) (fun hc => ?_) (fun hc => ?_)
    · rw [if_pos hc] at h
      refine go_iconst (v := (-1)) d_Gb_candles_30 (by decide) ?_
      cases h
      exact go_ireturn d_Gb_candles_31 rfl gb_po_i
    · rw [if_neg hc] at h
      refine go_iload_n (k := 3) d_Gb_candles_21 rfl rfl ?_
      refine go_iconst (v := 0) d_Gb_candles_22 (by decide) ?_
      refine go_iconst (v := 1) d_Gb_candles_23 (by decide) ?_
      refine go_callS (y := yGb_within) (asr := [.inl x3, .inl 0, .inl 1]) (v := some (.inl (F_Gb_within x3 0 1 I))) (I' := I) (st1 := [.inl (F_Gb_within x3 0 1 I)]) d_Gb_candles_24 s_yGb_within m_Gb_84 rfl (Nat.le_of_ble_eq_true rfl) rfl rfl (c_Gb_within l (d0 + 2) x3 0 1 I) ?_
      refine go_if_ne (tgt := 32) d_Gb_candles_27 (by decide) (fun hc => ?_) (fun hc => ?_)
      · rw [if_neg hc] at h
        refine go_aload_n (k := 0) d_Gb_candles_32 rfl rfl ?_
        refine go_getr (ci := 0) (k := 7) (r := 104) d_Gb_candles_33 a_X_0 rfl (by decide) f_Gb_53 rfl ?_
        refine go_iload_n (k := 1) d_Gb_candles_36 rfl rfl ?_
        refine go_iload_n (k := 2) d_Gb_candles_37 rfl rfl ?_
        obtain ⟨r1, w1, h⟩ := fbd_e h
        refine go_callV (y := ySe_moreCandles) (asr := [.inl x1, .inl x2]) (v := some (.inl r1)) (I' := I) (st1 := [.inl r1]) d_Gb_candles_38 s_ySe_moreCandles m_Gb_228 a_X_104 rfl rfl rfl (Nat.le_of_ble_eq_true rfl) rfl rfl (c_Se_moreCandles l (d0 + 0) x1 x2 I w1) ?_
        refine go_istore (lv' := [(4, .inl r1), (0, .inr (some 0)), (1, .inl x1), (2, .inl x2), (3, .inl x3)]) d_Gb_candles_41 (by decide) rfl ?_
        refine go_iload_n (k := 4) d_Gb_candles_43 rfl rfl ?_
        refine go_if_ne (tgt := 55) d_Gb_candles_44 (by decide) (fun hc => ?_) (fun hc => ?_)
        · rw [if_neg hc] at h
          refine go_iload (k := 0) d_Gb_candles_55 rfl ?_
          cases h
          exact go_ireturn d_Gb_candles_57 rfl gb_po_i
        · rw [if_pos hc] at h
          refine go_iload (k := 0) d_Gb_candles_47 rfl ?_
          refine go_callS (y := yJi_bitCount) (asr := [.inl r1]) (v := some (.inl (F_Ji_bitCount r1 I))) (I' := I) (st1 := [.inl (F_Ji_bitCount r1 I)]) d_Gb_candles_49 s_yJi_bitCount m_Gb_231 rfl (Nat.le_of_ble_eq_true rfl) rfl rfl (c_Ji_bitCount l (d0 + 2) r1 I) ?_
          refine go_goto (tgt := 57) d_Gb_candles_52 (by decide) ?_
          cases h
          exact go_ireturn d_Gb_candles_57 rfl gb_po_i
      · rw [if_pos hc] at h
        refine go_iconst (v := (-1)) d_Gb_candles_30 (by decide) ?_
        cases h
        exact go_ireturn d_Gb_candles_31 rfl gb_po_i
theorem d_Gb_convoy_0 : decode yGb_convoy.2.1 0 = .ok (.iload_n 1, 1) := by decide +kernel
theorem d_Gb_convoy_1 : decode yGb_convoy.2.1 1 = .ok (.iconst 0, 1) := by decide +kernel
theorem d_Gb_convoy_2 : decode yGb_convoy.2.1 2 = .ok (.bipush 99, 2) := by decide +kernel
theorem d_Gb_convoy_4 : decode yGb_convoy.2.1 4 = .ok (.invokestatic 84, 3) := by decide +kernel
theorem d_Gb_convoy_7 : decode yGb_convoy.2.1 7 = .ok (.ifCond .eq 30, 3) := by decide +kernel
theorem d_Gb_convoy_10 : decode yGb_convoy.2.1 10 = .ok (.iload_n 2, 1) := by decide +kernel
theorem d_Gb_convoy_11 : decode yGb_convoy.2.1 11 = .ok (.iconst 0, 1) := by decide +kernel
theorem d_Gb_convoy_12 : decode yGb_convoy.2.1 12 = .ok (.iconst 1, 1) := by decide +kernel
theorem d_Gb_convoy_13 : decode yGb_convoy.2.1 13 = .ok (.invokestatic 84, 3) := by decide +kernel
theorem d_Gb_convoy_16 : decode yGb_convoy.2.1 16 = .ok (.ifCond .eq 21, 3) := by decide +kernel
theorem d_Gb_convoy_19 : decode yGb_convoy.2.1 19 = .ok (.aload_n 0, 1) := by decide +kernel
theorem d_Gb_convoy_20 : decode yGb_convoy.2.1 20 = .ok (.getfield 12, 3) := by decide +kernel
theorem d_Gb_convoy_23 : decode yGb_convoy.2.1 23 = .ok (.getfield 239, 3) := by decide +kernel
theorem d_Gb_convoy_26 : decode yGb_convoy.2.1 26 = .ok (.iload_n 1, 1) := by decide +kernel
theorem d_Gb_convoy_27 : decode yGb_convoy.2.1 27 = .ok (.invokevirtual 242, 3) := by decide +kernel
theorem d_Gb_convoy_30 : decode yGb_convoy.2.1 30 = .ok (.ifCond .ne 7, 3) := by decide +kernel
theorem d_Gb_convoy_33 : decode yGb_convoy.2.1 33 = .ok (.iconst 1, 1) := by decide +kernel
theorem d_Gb_convoy_34 : decode yGb_convoy.2.1 34 = .ok (.goto 4, 3) := by decide +kernel
theorem d_Gb_convoy_37 : decode yGb_convoy.2.1 37 = .ok (.iconst 0, 1) := by decide +kernel
theorem d_Gb_convoy_38 : decode yGb_convoy.2.1 38 = .ok (.istore_n 3, 1) := by decide +kernel
theorem d_Gb_convoy_39 : decode yGb_convoy.2.1 39 = .ok (.aload_n 0, 1) := by decide +kernel
theorem d_Gb_convoy_40 : decode yGb_convoy.2.1 40 = .ok (.getfield 12, 3) := by decide +kernel
theorem d_Gb_convoy_43 : decode yGb_convoy.2.1 43 = .ok (.getfield 239, 3) := by decide +kernel
theorem d_Gb_convoy_46 : decode yGb_convoy.2.1 46 = .ok (.iload_n 1, 1) := by decide +kernel
theorem d_Gb_convoy_47 : decode yGb_convoy.2.1 47 = .ok (.iload_n 2, 1) := by decide +kernel
theorem d_Gb_convoy_48 : decode yGb_convoy.2.1 48 = .ok (.iload_n 3, 1) := by decide +kernel
theorem d_Gb_convoy_49 : decode yGb_convoy.2.1 49 = .ok (.invokestatic 217, 3) := by decide +kernel
theorem d_Gb_convoy_52 : decode yGb_convoy.2.1 52 = .ok (.ireturn, 1) := by decide +kernel
def J_Gb_convoy_38 (x1 x2 s0 : Int32) (I : gb_Mem) : Option (Int32 × gb_Mem) :=
  fbd (F_Gb_tell 23 32 x1 x2 s0 I) fun (r2, I1) =>
  some (r2, I1)
set_option maxRecDepth 4000 in
theorem j_Gb_convoy_38 (l : Launch) (d0 : Nat) (x1 x2 s0 : Int32) (I : gb_Mem) {rz : Int32} {Iz : gb_Mem} (h : J_Gb_convoy_38 x1 x2 s0 I = some (rz, Iz)) : gb_Go l yGb_convoy (d0 + 3) 0 0 38 [(0, .inr (some 0)), (1, .inl x1), (2, .inl x2)] [.inl s0] shX I (gb_po shX (some (.inl rz)) Iz) := by
  unfold J_Gb_convoy_38 at h
  refine go_istore_n (lv' := [(3, .inl s0), (0, .inr (some 0)), (1, .inl x1), (2, .inl x2)]) d_Gb_convoy_38 rfl (by decide) rfl ?_
  refine go_aload_n (k := 1) d_Gb_convoy_39 rfl rfl ?_
  refine go_getr (ci := 0) (k := 0) (r := 1) d_Gb_convoy_40 a_X_0 rfl (by decide) f_Gb_12 rfl ?_
  refine go_getrN (ci := 1) (k := 8) (r := 23) d_Gb_convoy_43 a_X_1 rfl (by decide) f_Gb_239 rfl ?_
  refine go_iload_n (k := 2) d_Gb_convoy_46 rfl rfl ?_
  refine go_iload_n (k := 3) d_Gb_convoy_47 rfl rfl ?_
  refine go_iload_n (k := 0) d_Gb_convoy_48 rfl rfl ?_
  obtain ⟨⟨r2, I1⟩, w1, h⟩ := fbd_e h
  try dsimp only at h
  refine go_callS (y := yGb_tell) (asr := [.inr (some 23), .inl x1, .inl x2, .inl s0]) (v := some (.inl r2)) (I' := I1) (st1 := [.inl r2]) d_Gb_convoy_49 s_yGb_tell m_Gb_217 rfl (Nat.le_of_ble_eq_true rfl) rfl rfl (c_Gb_tell l (d0 + 1) 23 32 isRo_23 x1 x2 s0 I w1) ?_
  cases h
  exact go_ireturn d_Gb_convoy_52 rfl gb_po_i
def J_Gb_convoy_37 (x1 x2 : Int32) (I : gb_Mem) : Option (Int32 × gb_Mem) :=
  J_Gb_convoy_38 x1 x2 0 I
set_option maxRecDepth 4000 in
theorem j_Gb_convoy_37 (l : Launch) (d0 : Nat) (x1 x2 : Int32) (I : gb_Mem) {rz : Int32} {Iz : gb_Mem} (h : J_Gb_convoy_37 x1 x2 I = some (rz, Iz)) : gb_Go l yGb_convoy (d0 + 3) 0 0 37 [(0, .inr (some 0)), (1, .inl x1), (2, .inl x2)] [] shX I (gb_po shX (some (.inl rz)) Iz) := by
  unfold J_Gb_convoy_37 at h
  refine go_iconst (v := 0) d_Gb_convoy_37 (by decide) ?_
  exact go_lv [0, 1, 2] rfl (j_Gb_convoy_38 l d0 x1 x2 0 I h)
def F_Gb_convoy (x1 x2 : Int32) (I : gb_Mem) : Option (Int32 × gb_Mem) :=
  if (F_Gb_within x1 0 99 I) = 0 then
    J_Gb_convoy_37 x1 x2 I
  else
    if (F_Gb_within x2 0 1 I) = 0 then
      J_Gb_convoy_37 x1 x2 I
    else
      fbd (F_Ro_hasFirst 23 32 x1 I) fun r3 =>
      if r3 = 0 then
        J_Gb_convoy_38 x1 x2 1 I
      else
        J_Gb_convoy_37 x1 x2 I
set_option maxRecDepth 4000 in
theorem c_Gb_convoy (l : Launch) (d0 : Nat) (x1 x2 : Int32) (I : gb_Mem) {rz : Int32} {Iz : gb_Mem} (h : F_Gb_convoy x1 x2 I = some (rz, Iz)) : gb_Cs l yGb_convoy (d0 + 3) [.inr (some 0), .inl x1, .inl x2] shX I (some (.inl rz)) Iz := by
  refine gb_Ct.of (lv := [(0, .inr (some 0)), (1, .inl x1), (2, .inl x2)]) rfl (Nat.le_of_ble_eq_true rfl) rfl ?_
  unfold F_Gb_convoy at h
  show gb_Go l yGb_convoy (d0 + 3) 0 0 0 [(0, .inr (some 0)), (1, .inl x1), (2, .inl x2)] [] shX I (gb_po shX (some (.inl rz)) Iz)
  refine go_iload_n (k := 1) d_Gb_convoy_0 rfl rfl ?_
  refine go_iconst (v := 0) d_Gb_convoy_1 (by decide) ?_
  refine go_bipush (v := 99) d_Gb_convoy_2 (by decide) ?_
  refine go_callS (y := yGb_within) (asr := [.inl x1, .inl 0, .inl 99]) (v := some (.inl (F_Gb_within x1 0 99 I))) (I' := I) (st1 := [.inl (F_Gb_within x1 0 99 I)]) d_Gb_convoy_4 s_yGb_within m_Gb_84 rfl (Nat.le_of_ble_eq_true rfl) rfl rfl (c_Gb_within l (d0 + 2) x1 0 99 I) ?_
  refine go_if_eq (tgt := 37) d_Gb_convoy_7 (by decide) (fun hc => ?_) (fun hc => ?_)
  · rw [if_pos hc] at h
    exact go_lv [0, 1, 2] rfl (j_Gb_convoy_37 l d0 x1 x2 I h)
  · rw [if_neg hc] at h
    refine go_iload_n (k := 2) d_Gb_convoy_10 rfl rfl ?_
    refine go_iconst (v := 0) d_Gb_convoy_11 (by decide) ?_
    refine go_iconst (v := 1) d_Gb_convoy_12 (by decide) ?_
    refine go_callS (y := yGb_within) (asr := [.inl x2, .inl 0, .inl 1]) (v := some (.inl (F_Gb_within x2 0 1 I))) (I' := I) (st1 := [.inl (F_Gb_within x2 0 1 I)]) d_Gb_convoy_13 s_yGb_within m_Gb_84 rfl (Nat.le_of_ble_eq_true rfl) rfl rfl (c_Gb_within l (d0 + 2) x2 0 1 I) ?_
    refine go_if_eq (tgt := 37) d_Gb_convoy_16 (by decide) (fun hc => ?_) (fun hc => ?_)
    · rw [if_pos hc] at h
      exact go_lv [0, 1, 2] rfl (j_Gb_convoy_37 l d0 x1 x2 I h)
    · rw [if_neg hc] at h
      refine go_aload_n (k := 0) d_Gb_convoy_19 rfl rfl ?_
      refine go_getr (ci := 0) (k := 0) (r := 1) d_Gb_convoy_20 a_X_0 rfl (by decide) f_Gb_12 rfl ?_
      refine go_getrN (ci := 1) (k := 8) (r := 23) d_Gb_convoy_23 a_X_1 rfl (by decide) f_Gb_239 rfl ?_
      refine go_iload_n (k := 1) d_Gb_convoy_26 rfl rfl ?_
      obtain ⟨r3, w1, h⟩ := fbd_e h
      refine go_callV (y := yRo_hasFirst) (asr := [.inl x1]) (v := some (.inl r3)) (I' := I) (st1 := [.inl r3]) d_Gb_convoy_27 s_yRo_hasFirst m_Gb_242 a_X_23 rfl rfl rfl (Nat.le_of_ble_eq_true rfl) rfl rfl (c_Ro_hasFirst l (d0 + 0) 23 32 isRo_23 x1 I w1) ?_
      refine go_if_ne (tgt := 37) d_Gb_convoy_30 (by decide) (fun hc => ?_) (fun hc => ?_)
      · rw [if_neg hc] at h
        exact go_lv [0, 1, 2] rfl (j_Gb_convoy_37 l d0 x1 x2 I h)
      · rw [if_pos hc] at h
        refine go_iconst (v := 1) d_Gb_convoy_33 (by decide) ?_
        refine go_goto (tgt := 38) d_Gb_convoy_34 (by decide) ?_
        exact go_lv [0, 1, 2] rfl (j_Gb_convoy_38 l d0 x1 x2 1 I h)
theorem d_Gb_game_0 : decode yGb_game.2.1 0 = .ok (.iload_n 1, 1) := by decide +kernel
theorem d_Gb_game_1 : decode yGb_game.2.1 1 = .ok (.iconst 0, 1) := by decide +kernel
theorem d_Gb_game_2 : decode yGb_game.2.1 2 = .ok (.iconst 1, 1) := by decide +kernel
theorem d_Gb_game_3 : decode yGb_game.2.1 3 = .ok (.invokestatic 84, 3) := by decide +kernel
theorem d_Gb_game_6 : decode yGb_game.2.1 6 = .ok (.ifCond .eq 23, 3) := by decide +kernel
theorem d_Gb_game_9 : decode yGb_game.2.1 9 = .ok (.aload_n 0, 1) := by decide +kernel
theorem d_Gb_game_10 : decode yGb_game.2.1 10 = .ok (.getfield 53, 3) := by decide +kernel
theorem d_Gb_game_13 : decode yGb_game.2.1 13 = .ok (.iload_n 1, 1) := by decide +kernel
theorem d_Gb_game_14 : decode yGb_game.2.1 14 = .ok (.iconst 1, 1) := by decide +kernel
theorem d_Gb_game_15 : decode yGb_game.2.1 15 = .ok (.if_icmp .ne 7, 3) := by decide +kernel
theorem d_Gb_game_18 : decode yGb_game.2.1 18 = .ok (.iconst 1, 1) := by decide +kernel
theorem d_Gb_game_19 : decode yGb_game.2.1 19 = .ok (.goto 4, 3) := by decide +kernel
theorem d_Gb_game_22 : decode yGb_game.2.1 22 = .ok (.iconst 0, 1) := by decide +kernel
theorem d_Gb_game_23 : decode yGb_game.2.1 23 = .ok (.invokevirtual 297, 3) := by decide +kernel
theorem d_Gb_game_26 : decode yGb_game.2.1 26 = .ok (.goto 4, 3) := by decide +kernel
theorem d_Gb_game_29 : decode yGb_game.2.1 29 = .ok (.iconst (-1), 1) := by decide +kernel
theorem d_Gb_game_30 : decode yGb_game.2.1 30 = .ok (.ireturn, 1) := by decide +kernel
def J_Gb_game_23 (s0 : Int32) (I : gb_Mem) : Option (Int32) :=
  fbd (F_Se_ladling s0 I) fun r1 =>
  some r1
set_option maxRecDepth 4000 in
theorem j_Gb_game_23 (l : Launch) (d0 : Nat) (s0 : Int32) (I : gb_Mem) {rz : Int32} (h : J_Gb_game_23 s0 I = some rz) : gb_Go l yGb_game (d0 + 3) 0 0 23 [] [.inl s0, .inr (some 104)] shX I (gb_po shX (some (.inl rz)) I) := by
  unfold J_Gb_game_23 at h
  obtain ⟨r1, w1, h⟩ := fbd_e h
  refine go_callV (y := ySe_ladling) (asr := [.inl s0]) (v := some (.inl r1)) (I' := I) (st1 := [.inl r1]) d_Gb_game_23 s_ySe_ladling m_Gb_297 a_X_104 rfl rfl rfl (Nat.le_of_ble_eq_true rfl) rfl rfl (c_Se_ladling l (d0 + 0) s0 I w1) ?_
  refine go_goto (tgt := 30) d_Gb_game_26 (by decide) ?_
  cases h
  exact go_ireturn d_Gb_game_30 rfl gb_po_i
def F_Gb_game (x1 : Int32) (I : gb_Mem) : Option (Int32) :=
  if (F_Gb_within x1 0 1 I) = 0 then
    some (-1)
  else
    if x1 = 1 then
      J_Gb_game_23 1 I
    else
      J_Gb_game_23 0 I
set_option maxRecDepth 4000 in
theorem c_Gb_game (l : Launch) (d0 : Nat) (x1 : Int32) (I : gb_Mem) {rz : Int32} (h : F_Gb_game x1 I = some rz) : gb_Cs l yGb_game (d0 + 3) [.inr (some 0), .inl x1] shX I (some (.inl rz)) I := by
  refine gb_Ct.of (lv := [(0, .inr (some 0)), (1, .inl x1)]) rfl (Nat.le_of_ble_eq_true rfl) rfl ?_
  unfold F_Gb_game at h
  show gb_Go l yGb_game (d0 + 3) 0 0 0 [(0, .inr (some 0)), (1, .inl x1)] [] shX I (gb_po shX (some (.inl rz)) I)
  refine go_iload_n (k := 1) d_Gb_game_0 rfl rfl ?_
  refine go_iconst (v := 0) d_Gb_game_1 (by decide) ?_
  refine go_iconst (v := 1) d_Gb_game_2 (by decide) ?_
  refine go_callS (y := yGb_within) (asr := [.inl x1, .inl 0, .inl 1]) (v := some (.inl (F_Gb_within x1 0 1 I))) (I' := I) (st1 := [.inl (F_Gb_within x1 0 1 I)]) d_Gb_game_3 s_yGb_within m_Gb_84 rfl (Nat.le_of_ble_eq_true rfl) rfl rfl (c_Gb_within l (d0 + 2) x1 0 1 I) ?_
  refine go_if_eq (tgt := 29) d_Gb_game_6 (by decide) (fun hc => ?_) (fun hc => ?_)
  · rw [if_pos hc] at h
    refine go_iconst (v := (-1)) d_Gb_game_29 (by decide) ?_
    cases h
    exact go_ireturn d_Gb_game_30 rfl gb_po_i
  · rw [if_neg hc] at h
    refine go_aload_n (k := 0) d_Gb_game_9 rfl rfl ?_
    refine go_getr (ci := 0) (k := 7) (r := 104) d_Gb_game_10 a_X_0 rfl (by decide) f_Gb_53 rfl ?_
    refine go_iload_n (k := 1) d_Gb_game_13 rfl rfl ?_
    refine go_iconst (v := 1) d_Gb_game_14 (by decide) ?_
    refine go_cmp_ne (tgt := 22) d_Gb_game_15 (by decide) (fun hc => ?_) (fun hc => ?_)
    · rw [if_neg hc] at h
      refine go_iconst (v := 0) d_Gb_game_22 (by decide) ?_
      exact go_lv [] rfl (j_Gb_game_23 l d0 0 I h)
    · rw [if_pos hc] at h
      refine go_iconst (v := 1) d_Gb_game_18 (by decide) ?_
      refine go_goto (tgt := 23) d_Gb_game_19 (by decide) ?_
      exact go_lv [] rfl (j_Gb_game_23 l d0 1 I h)
theorem d_Gb_image_0 : decode yGb_image.2.1 0 = .ok (.iload_n 1, 1) := by decide +kernel
theorem d_Gb_image_1 : decode yGb_image.2.1 1 = .ok (.ifCond .eq 21, 3) := by decide +kernel
theorem d_Gb_image_4 : decode yGb_image.2.1 4 = .ok (.aload_n 0, 1) := by decide +kernel
theorem d_Gb_image_5 : decode yGb_image.2.1 5 = .ok (.getfield 16, 3) := by decide +kernel
theorem d_Gb_image_8 : decode yGb_image.2.1 8 = .ok (.aload_n 0, 1) := by decide +kernel
theorem d_Gb_image_9 : decode yGb_image.2.1 9 = .ok (.getfield 12, 3) := by decide +kernel
theorem d_Gb_image_12 : decode yGb_image.2.1 12 = .ok (.invokevirtual 305, 3) := by decide +kernel
theorem d_Gb_image_15 : decode yGb_image.2.1 15 = .ok (.aload_n 0, 1) := by decide +kernel
theorem d_Gb_image_16 : decode yGb_image.2.1 16 = .ok (.iconst 1, 1) := by decide +kernel
theorem d_Gb_image_17 : decode yGb_image.2.1 17 = .ok (.putfield 307, 3) := by decide +kernel
theorem d_Gb_image_20 : decode yGb_image.2.1 20 = .ok (.iconst 1, 1) := by decide +kernel
theorem d_Gb_image_21 : decode yGb_image.2.1 21 = .ok (.ireturn, 1) := by decide +kernel
theorem d_Gb_image_22 : decode yGb_image.2.1 22 = .ok (.aload_n 0, 1) := by decide +kernel
theorem d_Gb_image_23 : decode yGb_image.2.1 23 = .ok (.getfield 307, 3) := by decide +kernel
theorem d_Gb_image_26 : decode yGb_image.2.1 26 = .ok (.ifCond .ne 5, 3) := by decide +kernel
theorem d_Gb_image_29 : decode yGb_image.2.1 29 = .ok (.iconst 0, 1) := by decide +kernel
theorem d_Gb_image_30 : decode yGb_image.2.1 30 = .ok (.ireturn, 1) := by decide +kernel
theorem d_Gb_image_31 : decode yGb_image.2.1 31 = .ok (.aload_n 0, 1) := by decide +kernel
theorem d_Gb_image_32 : decode yGb_image.2.1 32 = .ok (.getfield 12, 3) := by decide +kernel
theorem d_Gb_image_35 : decode yGb_image.2.1 35 = .ok (.aload_n 0, 1) := by decide +kernel
theorem d_Gb_image_36 : decode yGb_image.2.1 36 = .ok (.getfield 16, 3) := by decide +kernel
theorem d_Gb_image_39 : decode yGb_image.2.1 39 = .ok (.invokevirtual 305, 3) := by decide +kernel
theorem d_Gb_image_42 : decode yGb_image.2.1 42 = .ok (.aload_n 0, 1) := by decide +kernel
theorem d_Gb_image_43 : decode yGb_image.2.1 43 = .ok (.getfield 22, 3) := by decide +kernel
theorem d_Gb_image_46 : decode yGb_image.2.1 46 = .ok (.invokevirtual 81, 3) := by decide +kernel
theorem d_Gb_image_49 : decode yGb_image.2.1 49 = .ok (.iconst 1, 1) := by decide +kernel
theorem d_Gb_image_50 : decode yGb_image.2.1 50 = .ok (.ireturn, 1) := by decide +kernel
def F_Gb_image (x1 : Int32) (I : gb_Mem) : Option (Int32 × gb_Mem) :=
  if x1 = 0 then
    if (I 0 2) = 0 then
      some (0, I)
    else
      fbd (F_Wo_copyFrom 1 35 I) fun I1 =>
      fbd (F_Pa_forget  I1) fun I2 =>
      some (1, I2)
  else
    fbd (F_Wo_copyFrom 35 1 I) fun I3 =>
    fstf I3 0 2 1 fun I4 =>
    some (1, I4)
set_option maxRecDepth 4000 in
theorem c_Gb_image (l : Launch) (d0 : Nat) (x1 : Int32) (I : gb_Mem) {rz : Int32} {Iz : gb_Mem} (h : F_Gb_image x1 I = some (rz, Iz)) : gb_Cs l yGb_image (d0 + 3) [.inr (some 0), .inl x1] shX I (some (.inl rz)) Iz := by
  refine gb_Ct.of (lv := [(0, .inr (some 0)), (1, .inl x1)]) rfl (Nat.le_of_ble_eq_true rfl) rfl ?_
  unfold F_Gb_image at h
  show gb_Go l yGb_image (d0 + 3) 0 0 0 [(0, .inr (some 0)), (1, .inl x1)] [] shX I (gb_po shX (some (.inl rz)) Iz)
  refine go_iload_n (k := 1) d_Gb_image_0 rfl rfl ?_
  refine go_if_eq (tgt := 22) d_Gb_image_1 (by decide) (fun hc => ?_) (fun hc => ?_)
  · rw [if_pos hc] at h
    refine go_aload_n (k := 0) d_Gb_image_22 rfl rfl ?_
    refine go_geti (ci := 0) (k := 2) d_Gb_image_23 a_X_0 rfl (by decide) f_Gb_307 rfl ?_
    refine go_if_ne (tgt := 31) d_Gb_image_26 (by decide) (fun hc => ?_) (fun hc => ?_)
    · rw [if_neg hc] at h
      refine go_aload_n (k := 0) d_Gb_image_31 rfl rfl ?_
      refine go_getr (ci := 0) (k := 0) (r := 1) d_Gb_image_32 a_X_0 rfl (by decide) f_Gb_12 rfl ?_
      refine go_aload_n (k := 0) d_Gb_image_35 rfl rfl ?_
      refine go_getr (ci := 0) (k := 1) (r := 35) d_Gb_image_36 a_X_0 rfl (by decide) f_Gb_16 rfl ?_
      obtain ⟨I1, w1, h⟩ := fbd_e h
      refine go_callV (y := yWo_copyFrom) (asr := [.inr (some 35)]) (v := none) (I' := I1) (st1 := []) d_Gb_image_39 s_yWo_copyFrom m_Gb_305 a_X_1 rfl rfl rfl (Nat.le_of_ble_eq_true rfl) rfl rfl (c_Wo_copyFrom l (d0 + 0) 1 35 isWo_1 isWo_35 I w1) ?_
      refine go_aload_n (k := 0) d_Gb_image_42 rfl rfl ?_
      refine go_getr (ci := 0) (k := 3) (r := 69) d_Gb_image_43 a_X_0 rfl (by decide) f_Gb_22 rfl ?_
      obtain ⟨I2, w1, h⟩ := fbd_e h
      refine go_callV (y := yPa_forget) (asr := []) (v := none) (I' := I2) (st1 := []) d_Gb_image_46 s_yPa_forget m_Gb_81 a_X_69 rfl rfl rfl (Nat.le_of_ble_eq_true rfl) rfl rfl (c_Pa_forget l (d0 + 2)  I1 w1) ?_
      refine go_iconst (v := 1) d_Gb_image_49 (by decide) ?_
      cases h
      exact go_zreturn d_Gb_image_50 rfl (Or.inr rfl) gb_po_i
    · rw [if_pos hc] at h
      refine go_iconst (v := 0) d_Gb_image_29 (by decide) ?_
      cases h
      exact go_zreturn d_Gb_image_30 rfl (Or.inl rfl) gb_po_i
  · rw [if_neg hc] at h
    refine go_aload_n (k := 0) d_Gb_image_4 rfl rfl ?_
    refine go_getr (ci := 0) (k := 1) (r := 35) d_Gb_image_5 a_X_0 rfl (by decide) f_Gb_16 rfl ?_
    refine go_aload_n (k := 0) d_Gb_image_8 rfl rfl ?_
    refine go_getr (ci := 0) (k := 0) (r := 1) d_Gb_image_9 a_X_0 rfl (by decide) f_Gb_12 rfl ?_
    obtain ⟨I3, w1, h⟩ := fbd_e h
    refine go_callV (y := yWo_copyFrom) (asr := [.inr (some 1)]) (v := none) (I' := I3) (st1 := []) d_Gb_image_12 s_yWo_copyFrom m_Gb_305 a_X_35 rfl rfl rfl (Nat.le_of_ble_eq_true rfl) rfl rfl (c_Wo_copyFrom l (d0 + 0) 35 1 isWo_35 isWo_1 I w1) ?_
    refine go_aload_n (k := 0) d_Gb_image_15 rfl rfl ?_
    refine go_iconst (v := 1) d_Gb_image_16 (by decide) ?_
    obtain ⟨I4, eI4, h⟩ := fstf_e h
    refine go_putT (ci := 0) (k := 2) (I' := I4) d_Gb_image_17 a_X_0 rfl (by decide) f_Gb_307 rfl rfl rfl (gb_narZ (Or.inr rfl)) (gb_fitZ (Or.inr rfl)) eI4 ?_
    refine go_iconst (v := 1) d_Gb_image_20 (by decide) ?_
    cases h
    exact go_zreturn d_Gb_image_21 rfl (Or.inr rfl) gb_po_i
theorem d_Gb_meets_0 : decode yGb_meets.2.1 0 = .ok (.iload_n 1, 1) := by decide +kernel
theorem d_Gb_meets_1 : decode yGb_meets.2.1 1 = .ok (.iconst 0, 1) := by decide +kernel
theorem d_Gb_meets_2 : decode yGb_meets.2.1 2 = .ok (.iconst 1, 1) := by decide +kernel
theorem d_Gb_meets_3 : decode yGb_meets.2.1 3 = .ok (.invokestatic 84, 3) := by decide +kernel
theorem d_Gb_meets_6 : decode yGb_meets.2.1 6 = .ok (.ifCond .eq 30, 3) := by decide +kernel
theorem d_Gb_meets_9 : decode yGb_meets.2.1 9 = .ok (.aload_n 0, 1) := by decide +kernel
theorem d_Gb_meets_10 : decode yGb_meets.2.1 10 = .ok (.getfield 60, 3) := by decide +kernel
theorem d_Gb_meets_13 : decode yGb_meets.2.1 13 = .ok (.aload_n 0, 1) := by decide +kernel
theorem d_Gb_meets_14 : decode yGb_meets.2.1 14 = .ok (.getfield 12, 3) := by decide +kernel
theorem d_Gb_meets_17 : decode yGb_meets.2.1 17 = .ok (.getfield 239, 3) := by decide +kernel
theorem d_Gb_meets_20 : decode yGb_meets.2.1 20 = .ok (.iload_n 1, 1) := by decide +kernel
theorem d_Gb_meets_21 : decode yGb_meets.2.1 21 = .ok (.iconst 1, 1) := by decide +kernel
theorem d_Gb_meets_22 : decode yGb_meets.2.1 22 = .ok (.if_icmp .ne 7, 3) := by decide +kernel
theorem d_Gb_meets_25 : decode yGb_meets.2.1 25 = .ok (.iconst 1, 1) := by decide +kernel
theorem d_Gb_meets_26 : decode yGb_meets.2.1 26 = .ok (.goto 4, 3) := by decide +kernel
theorem d_Gb_meets_29 : decode yGb_meets.2.1 29 = .ok (.iconst 0, 1) := by decide +kernel
theorem d_Gb_meets_30 : decode yGb_meets.2.1 30 = .ok (.invokevirtual 246, 3) := by decide +kernel
theorem d_Gb_meets_33 : decode yGb_meets.2.1 33 = .ok (.goto 4, 3) := by decide +kernel
theorem d_Gb_meets_36 : decode yGb_meets.2.1 36 = .ok (.iconst (-1), 1) := by decide +kernel
theorem d_Gb_meets_37 : decode yGb_meets.2.1 37 = .ok (.ireturn, 1) := by decide +kernel
def J_Gb_meets_30 (s0 : Int32) (I : gb_Mem) : Option (Int32) :=
  fbd (F_Re_meetings 23 32 s0 I) fun r1 =>
  some r1
set_option maxRecDepth 4000 in
theorem j_Gb_meets_30 (l : Launch) (d0 : Nat) (s0 : Int32) (I : gb_Mem) {rz : Int32} (h : J_Gb_meets_30 s0 I = some rz) : gb_Go l yGb_meets (d0 + 3) 0 0 30 [] [.inl s0, .inr (some 23), .inr (some 106)] shX I (gb_po shX (some (.inl rz)) I) := by
  unfold J_Gb_meets_30 at h
  obtain ⟨r1, w1, h⟩ := fbd_e h
  refine go_callV (y := yRe_meetings) (asr := [.inr (some 23), .inl s0]) (v := some (.inl r1)) (I' := I) (st1 := [.inl r1]) d_Gb_meets_30 s_yRe_meetings m_Gb_246 a_X_106 rfl rfl rfl (Nat.le_of_ble_eq_true rfl) rfl rfl (c_Re_meetings l (d0 + 0) 23 32 isRo_23 s0 I w1) ?_
  refine go_goto (tgt := 37) d_Gb_meets_33 (by decide) ?_
  cases h
  exact go_ireturn d_Gb_meets_37 rfl gb_po_i
def F_Gb_meets (x1 : Int32) (I : gb_Mem) : Option (Int32) :=
  if (F_Gb_within x1 0 1 I) = 0 then
    some (-1)
  else
    if x1 = 1 then
      J_Gb_meets_30 1 I
    else
      J_Gb_meets_30 0 I
set_option maxRecDepth 4000 in
theorem c_Gb_meets (l : Launch) (d0 : Nat) (x1 : Int32) (I : gb_Mem) {rz : Int32} (h : F_Gb_meets x1 I = some rz) : gb_Cs l yGb_meets (d0 + 3) [.inr (some 0), .inl x1] shX I (some (.inl rz)) I := by
  refine gb_Ct.of (lv := [(0, .inr (some 0)), (1, .inl x1)]) rfl (Nat.le_of_ble_eq_true rfl) rfl ?_
  unfold F_Gb_meets at h
  show gb_Go l yGb_meets (d0 + 3) 0 0 0 [(0, .inr (some 0)), (1, .inl x1)] [] shX I (gb_po shX (some (.inl rz)) I)
  refine go_iload_n (k := 1) d_Gb_meets_0 rfl rfl ?_
  refine go_iconst (v := 0) d_Gb_meets_1 (by decide) ?_
  refine go_iconst (v := 1) d_Gb_meets_2 (by decide) ?_
  refine go_callS (y := yGb_within) (asr := [.inl x1, .inl 0, .inl 1]) (v := some (.inl (F_Gb_within x1 0 1 I))) (I' := I) (st1 := [.inl (F_Gb_within x1 0 1 I)]) d_Gb_meets_3 s_yGb_within m_Gb_84 rfl (Nat.le_of_ble_eq_true rfl) rfl rfl (c_Gb_within l (d0 + 2) x1 0 1 I) ?_
  refine go_if_eq (tgt := 36) d_Gb_meets_6 (by decide) (fun hc => ?_) (fun hc => ?_)
  · rw [if_pos hc] at h
    refine go_iconst (v := (-1)) d_Gb_meets_36 (by decide) ?_
    cases h
    exact go_ireturn d_Gb_meets_37 rfl gb_po_i
  · rw [if_neg hc] at h
    refine go_aload_n (k := 0) d_Gb_meets_9 rfl rfl ?_
    refine go_getr (ci := 0) (k := 8) (r := 106) d_Gb_meets_10 a_X_0 rfl (by decide) f_Gb_60 rfl ?_
    refine go_aload_n (k := 0) d_Gb_meets_13 rfl rfl ?_
    refine go_getr (ci := 0) (k := 0) (r := 1) d_Gb_meets_14 a_X_0 rfl (by decide) f_Gb_12 rfl ?_
    refine go_getrN (ci := 1) (k := 8) (r := 23) d_Gb_meets_17 a_X_1 rfl (by decide) f_Gb_239 rfl ?_
    refine go_iload_n (k := 1) d_Gb_meets_20 rfl rfl ?_
    refine go_iconst (v := 1) d_Gb_meets_21 (by decide) ?_
    refine go_cmp_ne (tgt := 29) d_Gb_meets_22 (by decide) (fun hc => ?_) (fun hc => ?_)
    · rw [if_neg hc] at h
      refine go_iconst (v := 0) d_Gb_meets_29 (by decide) ?_
      exact go_lv [] rfl (j_Gb_meets_30 l d0 0 I h)
    · rw [if_pos hc] at h
      refine go_iconst (v := 1) d_Gb_meets_25 (by decide) ?_
      refine go_goto (tgt := 30) d_Gb_meets_26 (by decide) ?_
      exact go_lv [] rfl (j_Gb_meets_30 l d0 1 I h)
theorem d_Gb_seat_0 : decode yGb_seat.2.1 0 = .ok (.iload_n 1, 1) := by decide +kernel
theorem d_Gb_seat_1 : decode yGb_seat.2.1 1 = .ok (.iconst 0, 1) := by decide +kernel
theorem d_Gb_seat_2 : decode yGb_seat.2.1 2 = .ok (.bipush 11, 2) := by decide +kernel
theorem d_Gb_seat_4 : decode yGb_seat.2.1 4 = .ok (.invokestatic 84, 3) := by decide +kernel
theorem d_Gb_seat_7 : decode yGb_seat.2.1 7 = .ok (.ifCond .eq 12, 3) := by decide +kernel
theorem d_Gb_seat_10 : decode yGb_seat.2.1 10 = .ok (.iload_n 2, 1) := by decide +kernel
theorem d_Gb_seat_11 : decode yGb_seat.2.1 11 = .ok (.iconst 0, 1) := by decide +kernel
theorem d_Gb_seat_12 : decode yGb_seat.2.1 12 = .ok (.iconst 5, 1) := by decide +kernel
theorem d_Gb_seat_13 : decode yGb_seat.2.1 13 = .ok (.invokestatic 84, 3) := by decide +kernel
theorem d_Gb_seat_16 : decode yGb_seat.2.1 16 = .ok (.ifCond .ne 6, 3) := by decide +kernel
theorem d_Gb_seat_19 : decode yGb_seat.2.1 19 = .ok (.bipush (-100), 2) := by decide +kernel
theorem d_Gb_seat_21 : decode yGb_seat.2.1 21 = .ok (.ireturn, 1) := by decide +kernel
theorem d_Gb_seat_22 : decode yGb_seat.2.1 22 = .ok (.iload_n 2, 1) := by decide +kernel
theorem d_Gb_seat_23 : decode yGb_seat.2.1 23 = .ok (.iconst 5, 1) := by decide +kernel
theorem d_Gb_seat_24 : decode yGb_seat.2.1 24 = .ok (.if_icmp .ne 14, 3) := by decide +kernel
theorem d_Gb_seat_27 : decode yGb_seat.2.1 27 = .ok (.aload_n 0, 1) := by decide +kernel
theorem d_Gb_seat_28 : decode yGb_seat.2.1 28 = .ok (.getfield 53, 3) := by decide +kernel
theorem d_Gb_seat_31 : decode yGb_seat.2.1 31 = .ok (.iload_n 1, 1) := by decide +kernel
theorem d_Gb_seat_32 : decode yGb_seat.2.1 32 = .ok (.invokevirtual 176, 3) := by decide +kernel
theorem d_Gb_seat_35 : decode yGb_seat.2.1 35 = .ok (.goto 15, 3) := by decide +kernel
theorem d_Gb_seat_38 : decode yGb_seat.2.1 38 = .ok (.aload_n 0, 1) := by decide +kernel
theorem d_Gb_seat_39 : decode yGb_seat.2.1 39 = .ok (.getfield 12, 3) := by decide +kernel
theorem d_Gb_seat_42 : decode yGb_seat.2.1 42 = .ok (.getfield 35, 3) := by decide +kernel
theorem d_Gb_seat_45 : decode yGb_seat.2.1 45 = .ok (.iload_n 2, 1) := by decide +kernel
theorem d_Gb_seat_46 : decode yGb_seat.2.1 46 = .ok (.iload_n 1, 1) := by decide +kernel
theorem d_Gb_seat_47 : decode yGb_seat.2.1 47 = .ok (.invokevirtual 179, 3) := by decide +kernel
theorem d_Gb_seat_50 : decode yGb_seat.2.1 50 = .ok (.ireturn, 1) := by decide +kernel
def F_Gb_seat (x1 x2 : Int32) (I : gb_Mem) : Option (Int32) :=
  if (F_Gb_within x1 0 11 I) = 0 then
    some (-100)
  else
    if (F_Gb_within x2 0 5 I) = 0 then
      some (-100)
    else
      if x2 = 5 then
        fbd (F_Se_reachedFrom x1 I) fun r2 =>
        some r2
      else
        fbd (F_Ta_ofSeat 2 x2 x1 I) fun r1 =>
        some r1
set_option maxRecDepth 4000 in
theorem c_Gb_seat (l : Launch) (d0 : Nat) (x1 x2 : Int32) (I : gb_Mem) {rz : Int32} (h : F_Gb_seat x1 x2 I = some rz) : gb_Cs l yGb_seat (d0 + 3) [.inr (some 0), .inl x1, .inl x2] shX I (some (.inl rz)) I := by
  refine gb_Ct.of (lv := [(0, .inr (some 0)), (1, .inl x1), (2, .inl x2)]) rfl (Nat.le_of_ble_eq_true rfl) rfl ?_
  unfold F_Gb_seat at h
  show gb_Go l yGb_seat (d0 + 3) 0 0 0 [(0, .inr (some 0)), (1, .inl x1), (2, .inl x2)] [] shX I (gb_po shX (some (.inl rz)) I)
  refine go_iload_n (k := 1) d_Gb_seat_0 rfl rfl ?_
  refine go_iconst (v := 0) d_Gb_seat_1 (by decide) ?_
  refine go_bipush (v := 11) d_Gb_seat_2 (by decide) ?_
  refine go_callS (y := yGb_within) (asr := [.inl x1, .inl 0, .inl 11]) (v := some (.inl (F_Gb_within x1 0 11 I))) (I' := I) (st1 := [.inl (F_Gb_within x1 0 11 I)]) d_Gb_seat_4 s_yGb_within m_Gb_84 rfl (Nat.le_of_ble_eq_true rfl) rfl rfl (c_Gb_within l (d0 + 2) x1 0 11 I) ?_
  refine go_if_eq (tgt := 19) d_Gb_seat_7 (by decide) (fun hc => ?_) (fun hc => ?_)
  · rw [if_pos hc] at h
    refine go_bipush (v := (-100)) d_Gb_seat_19 (by decide) ?_
    cases h
    exact go_ireturn d_Gb_seat_21 rfl gb_po_i
  · rw [if_neg hc] at h
    refine go_iload_n (k := 2) d_Gb_seat_10 rfl rfl ?_
    refine go_iconst (v := 0) d_Gb_seat_11 (by decide) ?_
    refine go_iconst (v := 5) d_Gb_seat_12 (by decide) ?_
    refine go_callS (y := yGb_within) (asr := [.inl x2, .inl 0, .inl 5]) (v := some (.inl (F_Gb_within x2 0 5 I))) (I' := I) (st1 := [.inl (F_Gb_within x2 0 5 I)]) d_Gb_seat_13 s_yGb_within m_Gb_84 rfl (Nat.le_of_ble_eq_true rfl) rfl rfl (c_Gb_within l (d0 + 2) x2 0 5 I) ?_
    refine go_if_ne (tgt := 22) d_Gb_seat_16 (by decide) (fun hc => ?_) (fun hc => ?_)
    · rw [if_neg hc] at h
      refine go_iload_n (k := 2) d_Gb_seat_22 rfl rfl ?_
      refine go_iconst (v := 5) d_Gb_seat_23 (by decide) ?_
      refine go_cmp_ne (tgt := 38) d_Gb_seat_24 (by decide) (fun hc => ?_) (fun hc => ?_)
      · rw [if_neg hc] at h
        refine go_aload_n (k := 0) d_Gb_seat_38 rfl rfl ?_
        refine go_getr (ci := 0) (k := 0) (r := 1) d_Gb_seat_39 a_X_0 rfl (by decide) f_Gb_12 rfl ?_
        refine go_getrN (ci := 1) (k := 0) (r := 2) d_Gb_seat_42 a_X_1 rfl (by decide) f_Gb_35 rfl ?_
        refine go_iload_n (k := 2) d_Gb_seat_45 rfl rfl ?_
        refine go_iload_n (k := 1) d_Gb_seat_46 rfl rfl ?_
        obtain ⟨r1, w1, h⟩ := fbd_e h
        refine go_callV (y := yTa_ofSeat) (asr := [.inl x2, .inl x1]) (v := some (.inl r1)) (I' := I) (st1 := [.inl r1]) d_Gb_seat_47 s_yTa_ofSeat m_Gb_179 a_X_2 rfl rfl rfl (Nat.le_of_ble_eq_true rfl) rfl rfl (c_Ta_ofSeat l (d0 + 1) 2 isTa_2 x2 x1 I w1) ?_
        cases h
        exact go_ireturn d_Gb_seat_50 rfl gb_po_i
      · rw [if_pos hc] at h
        refine go_aload_n (k := 0) d_Gb_seat_27 rfl rfl ?_
        refine go_getr (ci := 0) (k := 7) (r := 104) d_Gb_seat_28 a_X_0 rfl (by decide) f_Gb_53 rfl ?_
        refine go_iload_n (k := 1) d_Gb_seat_31 rfl rfl ?_
        obtain ⟨r2, w1, h⟩ := fbd_e h
        refine go_callV (y := ySe_reachedFrom) (asr := [.inl x1]) (v := some (.inl r2)) (I' := I) (st1 := [.inl r2]) d_Gb_seat_32 s_ySe_reachedFrom m_Gb_176 a_X_104 rfl rfl rfl (Nat.le_of_ble_eq_true rfl) rfl rfl (c_Se_reachedFrom l (d0 + 0) x1 I w1) ?_
        refine go_goto (tgt := 50) d_Gb_seat_35 (by decide) ?_
        cases h
        exact go_ireturn d_Gb_seat_50 rfl gb_po_i
    · rw [if_pos hc] at h
      refine go_bipush (v := (-100)) d_Gb_seat_19 (by decide) ?_
      cases h
      exact go_ireturn d_Gb_seat_21 rfl gb_po_i
theorem d_Gb_spoons_0 : decode yGb_spoons.2.1 0 = .ok (.iload_n 1, 1) := by decide +kernel
theorem d_Gb_spoons_1 : decode yGb_spoons.2.1 1 = .ok (.iconst 0, 1) := by decide +kernel
theorem d_Gb_spoons_2 : decode yGb_spoons.2.1 2 = .ok (.sipush 4095, 3) := by decide +kernel
theorem d_Gb_spoons_5 : decode yGb_spoons.2.1 5 = .ok (.invokestatic 84, 3) := by decide +kernel
theorem d_Gb_spoons_8 : decode yGb_spoons.2.1 8 = .ok (.ifCond .eq 12, 3) := by decide +kernel
theorem d_Gb_spoons_11 : decode yGb_spoons.2.1 11 = .ok (.iload_n 2, 1) := by decide +kernel
theorem d_Gb_spoons_12 : decode yGb_spoons.2.1 12 = .ok (.iconst 0, 1) := by decide +kernel
theorem d_Gb_spoons_13 : decode yGb_spoons.2.1 13 = .ok (.iconst 2, 1) := by decide +kernel
theorem d_Gb_spoons_14 : decode yGb_spoons.2.1 14 = .ok (.invokestatic 84, 3) := by decide +kernel
theorem d_Gb_spoons_17 : decode yGb_spoons.2.1 17 = .ok (.ifCond .ne 5, 3) := by decide +kernel
theorem d_Gb_spoons_20 : decode yGb_spoons.2.1 20 = .ok (.iconst (-1), 1) := by decide +kernel
theorem d_Gb_spoons_21 : decode yGb_spoons.2.1 21 = .ok (.ireturn, 1) := by decide +kernel
theorem d_Gb_spoons_22 : decode yGb_spoons.2.1 22 = .ok (.iload_n 2, 1) := by decide +kernel
theorem d_Gb_spoons_23 : decode yGb_spoons.2.1 23 = .ok (.iconst 2, 1) := by decide +kernel
theorem d_Gb_spoons_24 : decode yGb_spoons.2.1 24 = .ok (.if_icmp .ne 19, 3) := by decide +kernel
theorem d_Gb_spoons_27 : decode yGb_spoons.2.1 27 = .ok (.aload_n 0, 1) := by decide +kernel
theorem d_Gb_spoons_28 : decode yGb_spoons.2.1 28 = .ok (.getfield 60, 3) := by decide +kernel
theorem d_Gb_spoons_31 : decode yGb_spoons.2.1 31 = .ok (.aload_n 0, 1) := by decide +kernel
theorem d_Gb_spoons_32 : decode yGb_spoons.2.1 32 = .ok (.getfield 12, 3) := by decide +kernel
theorem d_Gb_spoons_35 : decode yGb_spoons.2.1 35 = .ok (.getfield 250, 3) := by decide +kernel
theorem d_Gb_spoons_38 : decode yGb_spoons.2.1 38 = .ok (.iload_n 1, 1) := by decide +kernel
theorem d_Gb_spoons_39 : decode yGb_spoons.2.1 39 = .ok (.invokevirtual 253, 3) := by decide +kernel
theorem d_Gb_spoons_42 : decode yGb_spoons.2.1 42 = .ok (.ireturn, 1) := by decide +kernel
theorem d_Gb_spoons_43 : decode yGb_spoons.2.1 43 = .ok (.iload_n 2, 1) := by decide +kernel
theorem d_Gb_spoons_44 : decode yGb_spoons.2.1 44 = .ok (.ifCond .ne 14, 3) := by decide +kernel
theorem d_Gb_spoons_47 : decode yGb_spoons.2.1 47 = .ok (.aload_n 0, 1) := by decide +kernel
theorem d_Gb_spoons_48 : decode yGb_spoons.2.1 48 = .ok (.getfield 60, 3) := by decide +kernel
theorem d_Gb_spoons_51 : decode yGb_spoons.2.1 51 = .ok (.iload_n 1, 1) := by decide +kernel
theorem d_Gb_spoons_52 : decode yGb_spoons.2.1 52 = .ok (.invokevirtual 257, 3) := by decide +kernel
theorem d_Gb_spoons_55 : decode yGb_spoons.2.1 55 = .ok (.goto 11, 3) := by decide +kernel
theorem d_Gb_spoons_58 : decode yGb_spoons.2.1 58 = .ok (.aload_n 0, 1) := by decide +kernel
theorem d_Gb_spoons_59 : decode yGb_spoons.2.1 59 = .ok (.getfield 60, 3) := by decide +kernel
theorem d_Gb_spoons_62 : decode yGb_spoons.2.1 62 = .ok (.iload_n 1, 1) := by decide +kernel
theorem d_Gb_spoons_63 : decode yGb_spoons.2.1 63 = .ok (.invokevirtual 260, 3) := by decide +kernel
theorem d_Gb_spoons_66 : decode yGb_spoons.2.1 66 = .ok (.ireturn, 1) := by decide +kernel
def F_Gb_spoons (x1 x2 : Int32) (I : gb_Mem) : Option (Int32) :=
  if (F_Gb_within x1 0 4095 I) = 0 then
    some (-1)
  else
    if (F_Gb_within x2 0 2 I) = 0 then
      some (-1)
    else
      if x2 = 2 then
        fbd (F_Re_nearestFlag 25 40 x1 I) fun r3 =>
        some r3
      else
        if x2 = 0 then
          fbd (F_Re_said x1 I) fun r2 =>
          some r2
        else
          fbd (F_Re_wrongRows x1 I) fun r1 =>
          some r1
set_option maxRecDepth 4000 in
theorem c_Gb_spoons (l : Launch) (d0 : Nat) (x1 x2 : Int32) (I : gb_Mem) {rz : Int32} (h : F_Gb_spoons x1 x2 I = some rz) : gb_Cs l yGb_spoons (d0 + 3) [.inr (some 0), .inl x1, .inl x2] shX I (some (.inl rz)) I := by
  refine gb_Ct.of (lv := [(0, .inr (some 0)), (1, .inl x1), (2, .inl x2)]) rfl (Nat.le_of_ble_eq_true rfl) rfl ?_
  unfold F_Gb_spoons at h
  show gb_Go l yGb_spoons (d0 + 3) 0 0 0 [(0, .inr (some 0)), (1, .inl x1), (2, .inl x2)] [] shX I (gb_po shX (some (.inl rz)) I)
  refine go_iload_n (k := 1) d_Gb_spoons_0 rfl rfl ?_
  refine go_iconst (v := 0) d_Gb_spoons_1 (by decide) ?_
  refine go_sipush (v := 4095) d_Gb_spoons_2 (by decide) ?_
  refine go_callS (y := yGb_within) (asr := [.inl x1, .inl 0, .inl 4095]) (v := some (.inl (F_Gb_within x1 0 4095 I))) (I' := I) (st1 := [.inl (F_Gb_within x1 0 4095 I)]) d_Gb_spoons_5 s_yGb_within m_Gb_84 rfl (Nat.le_of_ble_eq_true rfl) rfl rfl (c_Gb_within l (d0 + 2) x1 0 4095 I) ?_
  refine go_if_eq (tgt := 20) d_Gb_spoons_8 (by decide) (fun hc => ?_) (fun hc => ?_)
  · rw [if_pos hc] at h
    refine go_iconst (v := (-1)) d_Gb_spoons_20 (by decide) ?_
    cases h
    exact go_ireturn d_Gb_spoons_21 rfl gb_po_i
  · rw [if_neg hc] at h
    refine go_iload_n (k := 2) d_Gb_spoons_11 rfl rfl ?_
    refine go_iconst (v := 0) d_Gb_spoons_12 (by decide) ?_
    refine go_iconst (v := 2) d_Gb_spoons_13 (by decide) ?_
    refine go_callS (y := yGb_within) (asr := [.inl x2, .inl 0, .inl 2]) (v := some (.inl (F_Gb_within x2 0 2 I))) (I' := I) (st1 := [.inl (F_Gb_within x2 0 2 I)]) d_Gb_spoons_14 s_yGb_within m_Gb_84 rfl (Nat.le_of_ble_eq_true rfl) rfl rfl (c_Gb_within l (d0 + 2) x2 0 2 I) ?_
    refine go_if_ne (tgt := 22) d_Gb_spoons_17 (by decide) (fun hc => ?_) (fun hc => ?_)
    · rw [if_neg hc] at h
      refine go_iload_n (k := 2) d_Gb_spoons_22 rfl rfl ?_
      refine go_iconst (v := 2) d_Gb_spoons_23 (by decide) ?_
      refine go_cmp_ne (tgt := 43) d_Gb_spoons_24 (by decide) (fun hc => ?_) (fun hc => ?_)
      · rw [if_neg hc] at h
        refine go_iload_n (k := 2) d_Gb_spoons_43 rfl rfl ?_
        refine go_if_ne (tgt := 58) d_Gb_spoons_44 (by decide) (fun hc => ?_) (fun hc => ?_)
        · rw [if_neg hc] at h
          refine go_aload_n (k := 0) d_Gb_spoons_58 rfl rfl ?_
          refine go_getr (ci := 0) (k := 8) (r := 106) d_Gb_spoons_59 a_X_0 rfl (by decide) f_Gb_60 rfl ?_
          refine go_iload_n (k := 1) d_Gb_spoons_62 rfl rfl ?_
          obtain ⟨r1, w1, h⟩ := fbd_e h
          refine go_callV (y := yRe_wrongRows) (asr := [.inl x1]) (v := some (.inl r1)) (I' := I) (st1 := [.inl r1]) d_Gb_spoons_63 s_yRe_wrongRows m_Gb_260 a_X_106 rfl rfl rfl (Nat.le_of_ble_eq_true rfl) rfl rfl (c_Re_wrongRows l (d0 + 2) x1 I w1) ?_
          cases h
          exact go_ireturn d_Gb_spoons_66 rfl gb_po_i
        · rw [if_pos hc] at h
          refine go_aload_n (k := 0) d_Gb_spoons_47 rfl rfl ?_
          refine go_getr (ci := 0) (k := 8) (r := 106) d_Gb_spoons_48 a_X_0 rfl (by decide) f_Gb_60 rfl ?_
          refine go_iload_n (k := 1) d_Gb_spoons_51 rfl rfl ?_
          obtain ⟨r2, w1, h⟩ := fbd_e h
          refine go_callV (y := yRe_said) (asr := [.inl x1]) (v := some (.inl r2)) (I' := I) (st1 := [.inl r2]) d_Gb_spoons_52 s_yRe_said m_Gb_257 a_X_106 rfl rfl rfl (Nat.le_of_ble_eq_true rfl) rfl rfl (c_Re_said l (d0 + 1) x1 I w1) ?_
          refine go_goto (tgt := 66) d_Gb_spoons_55 (by decide) ?_
          cases h
          exact go_ireturn d_Gb_spoons_66 rfl gb_po_i
      · rw [if_pos hc] at h
        refine go_aload_n (k := 0) d_Gb_spoons_27 rfl rfl ?_
        refine go_getr (ci := 0) (k := 8) (r := 106) d_Gb_spoons_28 a_X_0 rfl (by decide) f_Gb_60 rfl ?_
        refine go_aload_n (k := 0) d_Gb_spoons_31 rfl rfl ?_
        refine go_getr (ci := 0) (k := 0) (r := 1) d_Gb_spoons_32 a_X_0 rfl (by decide) f_Gb_12 rfl ?_
        refine go_getrN (ci := 1) (k := 9) (r := 25) d_Gb_spoons_35 a_X_1 rfl (by decide) f_Gb_250 rfl ?_
        refine go_iload_n (k := 1) d_Gb_spoons_38 rfl rfl ?_
        obtain ⟨r3, w1, h⟩ := fbd_e h
        refine go_callV (y := yRe_nearestFlag) (asr := [.inr (some 25), .inl x1]) (v := some (.inl r3)) (I' := I) (st1 := [.inl r3]) d_Gb_spoons_39 s_yRe_nearestFlag m_Gb_253 a_X_106 rfl rfl rfl (Nat.le_of_ble_eq_true rfl) rfl rfl (c_Re_nearestFlag l (d0 + 0) 25 40 isRo_25 x1 I w1) ?_
        cases h
        exact go_ireturn d_Gb_spoons_42 rfl gb_po_i
    · rw [if_pos hc] at h
      refine go_iconst (v := (-1)) d_Gb_spoons_20 (by decide) ?_
      cases h
      exact go_ireturn d_Gb_spoons_21 rfl gb_po_i
theorem d_Gb_sprouts_0 : decode yGb_sprouts.2.1 0 = .ok (.iload_n 1, 1) := by decide +kernel
theorem d_Gb_sprouts_1 : decode yGb_sprouts.2.1 1 = .ok (.iconst 0, 1) := by decide +kernel
theorem d_Gb_sprouts_2 : decode yGb_sprouts.2.1 2 = .ok (.iconst 1, 1) := by decide +kernel
theorem d_Gb_sprouts_3 : decode yGb_sprouts.2.1 3 = .ok (.invokestatic 84, 3) := by decide +kernel
theorem d_Gb_sprouts_6 : decode yGb_sprouts.2.1 6 = .ok (.ifCond .eq 30, 3) := by decide +kernel
theorem d_Gb_sprouts_9 : decode yGb_sprouts.2.1 9 = .ok (.aload_n 0, 1) := by decide +kernel
theorem d_Gb_sprouts_10 : decode yGb_sprouts.2.1 10 = .ok (.getfield 60, 3) := by decide +kernel
theorem d_Gb_sprouts_13 : decode yGb_sprouts.2.1 13 = .ok (.aload_n 0, 1) := by decide +kernel
theorem d_Gb_sprouts_14 : decode yGb_sprouts.2.1 14 = .ok (.getfield 12, 3) := by decide +kernel
theorem d_Gb_sprouts_17 : decode yGb_sprouts.2.1 17 = .ok (.getfield 285, 3) := by decide +kernel
theorem d_Gb_sprouts_20 : decode yGb_sprouts.2.1 20 = .ok (.iload_n 1, 1) := by decide +kernel
theorem d_Gb_sprouts_21 : decode yGb_sprouts.2.1 21 = .ok (.iconst 1, 1) := by decide +kernel
theorem d_Gb_sprouts_22 : decode yGb_sprouts.2.1 22 = .ok (.if_icmp .ne 7, 3) := by decide +kernel
theorem d_Gb_sprouts_25 : decode yGb_sprouts.2.1 25 = .ok (.iconst 1, 1) := by decide +kernel
theorem d_Gb_sprouts_26 : decode yGb_sprouts.2.1 26 = .ok (.goto 4, 3) := by decide +kernel
theorem d_Gb_sprouts_29 : decode yGb_sprouts.2.1 29 = .ok (.iconst 0, 1) := by decide +kernel
theorem d_Gb_sprouts_30 : decode yGb_sprouts.2.1 30 = .ok (.invokevirtual 288, 3) := by decide +kernel
theorem d_Gb_sprouts_33 : decode yGb_sprouts.2.1 33 = .ok (.goto 4, 3) := by decide +kernel
theorem d_Gb_sprouts_36 : decode yGb_sprouts.2.1 36 = .ok (.iconst (-1), 1) := by decide +kernel
theorem d_Gb_sprouts_37 : decode yGb_sprouts.2.1 37 = .ok (.ireturn, 1) := by decide +kernel
def J_Gb_sprouts_30 (s0 : Int32) (I : gb_Mem) : Option (Int32) :=
  fbd (F_Re_believed 31 32 s0 I) fun r1 =>
  some r1
set_option maxRecDepth 4000 in
theorem j_Gb_sprouts_30 (l : Launch) (d0 : Nat) (s0 : Int32) (I : gb_Mem) {rz : Int32} (h : J_Gb_sprouts_30 s0 I = some rz) : gb_Go l yGb_sprouts (d0 + 3) 0 0 30 [] [.inl s0, .inr (some 31), .inr (some 106)] shX I (gb_po shX (some (.inl rz)) I) := by
  unfold J_Gb_sprouts_30 at h
  obtain ⟨r1, w1, h⟩ := fbd_e h
  refine go_callV (y := yRe_believed) (asr := [.inr (some 31), .inl s0]) (v := some (.inl r1)) (I' := I) (st1 := [.inl r1]) d_Gb_sprouts_30 s_yRe_believed m_Gb_288 a_X_106 rfl rfl rfl (Nat.le_of_ble_eq_true rfl) rfl rfl (c_Re_believed l (d0 + 0) 31 32 isRo_31 s0 I w1) ?_
  refine go_goto (tgt := 37) d_Gb_sprouts_33 (by decide) ?_
  cases h
  exact go_ireturn d_Gb_sprouts_37 rfl gb_po_i
def F_Gb_sprouts (x1 : Int32) (I : gb_Mem) : Option (Int32) :=
  if (F_Gb_within x1 0 1 I) = 0 then
    some (-1)
  else
    if x1 = 1 then
      J_Gb_sprouts_30 1 I
    else
      J_Gb_sprouts_30 0 I
set_option maxRecDepth 4000 in
theorem c_Gb_sprouts (l : Launch) (d0 : Nat) (x1 : Int32) (I : gb_Mem) {rz : Int32} (h : F_Gb_sprouts x1 I = some rz) : gb_Cs l yGb_sprouts (d0 + 3) [.inr (some 0), .inl x1] shX I (some (.inl rz)) I := by
  refine gb_Ct.of (lv := [(0, .inr (some 0)), (1, .inl x1)]) rfl (Nat.le_of_ble_eq_true rfl) rfl ?_
  unfold F_Gb_sprouts at h
  show gb_Go l yGb_sprouts (d0 + 3) 0 0 0 [(0, .inr (some 0)), (1, .inl x1)] [] shX I (gb_po shX (some (.inl rz)) I)
  refine go_iload_n (k := 1) d_Gb_sprouts_0 rfl rfl ?_
  refine go_iconst (v := 0) d_Gb_sprouts_1 (by decide) ?_
  refine go_iconst (v := 1) d_Gb_sprouts_2 (by decide) ?_
  refine go_callS (y := yGb_within) (asr := [.inl x1, .inl 0, .inl 1]) (v := some (.inl (F_Gb_within x1 0 1 I))) (I' := I) (st1 := [.inl (F_Gb_within x1 0 1 I)]) d_Gb_sprouts_3 s_yGb_within m_Gb_84 rfl (Nat.le_of_ble_eq_true rfl) rfl rfl (c_Gb_within l (d0 + 2) x1 0 1 I) ?_
  refine go_if_eq (tgt := 36) d_Gb_sprouts_6 (by decide) (fun hc => ?_) (fun hc => ?_)
  · rw [if_pos hc] at h
    refine go_iconst (v := (-1)) d_Gb_sprouts_36 (by decide) ?_
    cases h
    exact go_ireturn d_Gb_sprouts_37 rfl gb_po_i
  · rw [if_neg hc] at h
    refine go_aload_n (k := 0) d_Gb_sprouts_9 rfl rfl ?_
    refine go_getr (ci := 0) (k := 8) (r := 106) d_Gb_sprouts_10 a_X_0 rfl (by decide) f_Gb_60 rfl ?_
    refine go_aload_n (k := 0) d_Gb_sprouts_13 rfl rfl ?_
    refine go_getr (ci := 0) (k := 0) (r := 1) d_Gb_sprouts_14 a_X_0 rfl (by decide) f_Gb_12 rfl ?_
    refine go_getrN (ci := 1) (k := 12) (r := 31) d_Gb_sprouts_17 a_X_1 rfl (by decide) f_Gb_285 rfl ?_
    refine go_iload_n (k := 1) d_Gb_sprouts_20 rfl rfl ?_
    refine go_iconst (v := 1) d_Gb_sprouts_21 (by decide) ?_
    refine go_cmp_ne (tgt := 29) d_Gb_sprouts_22 (by decide) (fun hc => ?_) (fun hc => ?_)
    · rw [if_neg hc] at h
      refine go_iconst (v := 0) d_Gb_sprouts_29 (by decide) ?_
      exact go_lv [] rfl (j_Gb_sprouts_30 l d0 0 I h)
    · rw [if_pos hc] at h
      refine go_iconst (v := 1) d_Gb_sprouts_25 (by decide) ?_
      refine go_goto (tgt := 30) d_Gb_sprouts_26 (by decide) ?_
      exact go_lv [] rfl (j_Gb_sprouts_30 l d0 1 I h)
theorem d_Gb_stained_0 : decode yGb_stained.2.1 0 = .ok (.iload_n 1, 1) := by decide +kernel
theorem d_Gb_stained_1 : decode yGb_stained.2.1 1 = .ok (.iconst 0, 1) := by decide +kernel
theorem d_Gb_stained_2 : decode yGb_stained.2.1 2 = .ok (.iconst 2, 1) := by decide +kernel
theorem d_Gb_stained_3 : decode yGb_stained.2.1 3 = .ok (.invokestatic 84, 3) := by decide +kernel
theorem d_Gb_stained_6 : decode yGb_stained.2.1 6 = .ok (.ifCond .eq 14, 3) := by decide +kernel
theorem d_Gb_stained_9 : decode yGb_stained.2.1 9 = .ok (.aload_n 0, 1) := by decide +kernel
theorem d_Gb_stained_10 : decode yGb_stained.2.1 10 = .ok (.getfield 53, 3) := by decide +kernel
theorem d_Gb_stained_13 : decode yGb_stained.2.1 13 = .ok (.iload_n 1, 1) := by decide +kernel
theorem d_Gb_stained_14 : decode yGb_stained.2.1 14 = .ok (.invokevirtual 236, 3) := by decide +kernel
theorem d_Gb_stained_17 : decode yGb_stained.2.1 17 = .ok (.goto 4, 3) := by decide +kernel
theorem d_Gb_stained_20 : decode yGb_stained.2.1 20 = .ok (.iconst (-1), 1) := by decide +kernel
theorem d_Gb_stained_21 : decode yGb_stained.2.1 21 = .ok (.ireturn, 1) := by decide +kernel
def F_Gb_stained (x1 : Int32) (I : gb_Mem) : Option (Int32) :=
  if (F_Gb_within x1 0 2 I) = 0 then
    some (-1)
  else
    fbd (F_Se_stainsJoined x1 I) fun r1 =>
    some r1
set_option maxRecDepth 4000 in
theorem c_Gb_stained (l : Launch) (d0 : Nat) (x1 : Int32) (I : gb_Mem) {rz : Int32} (h : F_Gb_stained x1 I = some rz) : gb_Cs l yGb_stained (d0 + 3) [.inr (some 0), .inl x1] shX I (some (.inl rz)) I := by
  refine gb_Ct.of (lv := [(0, .inr (some 0)), (1, .inl x1)]) rfl (Nat.le_of_ble_eq_true rfl) rfl ?_
  unfold F_Gb_stained at h
  show gb_Go l yGb_stained (d0 + 3) 0 0 0 [(0, .inr (some 0)), (1, .inl x1)] [] shX I (gb_po shX (some (.inl rz)) I)
  refine go_iload_n (k := 1) d_Gb_stained_0 rfl rfl ?_
  refine go_iconst (v := 0) d_Gb_stained_1 (by decide) ?_
  refine go_iconst (v := 2) d_Gb_stained_2 (by decide) ?_
  refine go_callS (y := yGb_within) (asr := [.inl x1, .inl 0, .inl 2]) (v := some (.inl (F_Gb_within x1 0 2 I))) (I' := I) (st1 := [.inl (F_Gb_within x1 0 2 I)]) d_Gb_stained_3 s_yGb_within m_Gb_84 rfl (Nat.le_of_ble_eq_true rfl) rfl rfl (c_Gb_within l (d0 + 2) x1 0 2 I) ?_
  refine go_if_eq (tgt := 20) d_Gb_stained_6 (by decide) (fun hc => ?_) (fun hc => ?_)
  · rw [if_pos hc] at h
    refine go_iconst (v := (-1)) d_Gb_stained_20 (by decide) ?_
    cases h
    exact go_ireturn d_Gb_stained_21 rfl gb_po_i
  · rw [if_neg hc] at h
    refine go_aload_n (k := 0) d_Gb_stained_9 rfl rfl ?_
    refine go_getr (ci := 0) (k := 7) (r := 104) d_Gb_stained_10 a_X_0 rfl (by decide) f_Gb_53 rfl ?_
    refine go_iload_n (k := 1) d_Gb_stained_13 rfl rfl ?_
    obtain ⟨r1, w1, h⟩ := fbd_e h
    refine go_callV (y := ySe_stainsJoined) (asr := [.inl x1]) (v := some (.inl r1)) (I' := I) (st1 := [.inl r1]) d_Gb_stained_14 s_ySe_stainsJoined m_Gb_236 a_X_104 rfl rfl rfl (Nat.le_of_ble_eq_true rfl) rfl rfl (c_Se_stainsJoined l (d0 + 0) x1 I w1) ?_
    refine go_goto (tgt := 21) d_Gb_stained_17 (by decide) ?_
    cases h
    exact go_ireturn d_Gb_stained_21 rfl gb_po_i
theorem d_Gb_stowed_0 : decode yGb_stowed.2.1 0 = .ok (.iload_n 1, 1) := by decide +kernel
theorem d_Gb_stowed_1 : decode yGb_stowed.2.1 1 = .ok (.iconst 0, 1) := by decide +kernel
theorem d_Gb_stowed_2 : decode yGb_stowed.2.1 2 = .ok (.bipush 99, 2) := by decide +kernel
theorem d_Gb_stowed_4 : decode yGb_stowed.2.1 4 = .ok (.invokestatic 84, 3) := by decide +kernel
theorem d_Gb_stowed_7 : decode yGb_stowed.2.1 7 = .ok (.ifCond .eq 22, 3) := by decide +kernel
theorem d_Gb_stowed_10 : decode yGb_stowed.2.1 10 = .ok (.iload_n 2, 1) := by decide +kernel
theorem d_Gb_stowed_11 : decode yGb_stowed.2.1 11 = .ok (.iconst 0, 1) := by decide +kernel
theorem d_Gb_stowed_12 : decode yGb_stowed.2.1 12 = .ok (.bipush 99, 2) := by decide +kernel
theorem d_Gb_stowed_14 : decode yGb_stowed.2.1 14 = .ok (.invokestatic 84, 3) := by decide +kernel
theorem d_Gb_stowed_17 : decode yGb_stowed.2.1 17 = .ok (.ifCond .eq 12, 3) := by decide +kernel
theorem d_Gb_stowed_20 : decode yGb_stowed.2.1 20 = .ok (.iload_n 3, 1) := by decide +kernel
theorem d_Gb_stowed_21 : decode yGb_stowed.2.1 21 = .ok (.iconst 0, 1) := by decide +kernel
theorem d_Gb_stowed_22 : decode yGb_stowed.2.1 22 = .ok (.iconst 1, 1) := by decide +kernel
theorem d_Gb_stowed_23 : decode yGb_stowed.2.1 23 = .ok (.invokestatic 84, 3) := by decide +kernel
theorem d_Gb_stowed_26 : decode yGb_stowed.2.1 26 = .ok (.ifCond .ne 5, 3) := by decide +kernel
theorem d_Gb_stowed_29 : decode yGb_stowed.2.1 29 = .ok (.iconst (-1), 1) := by decide +kernel
theorem d_Gb_stowed_30 : decode yGb_stowed.2.1 30 = .ok (.ireturn, 1) := by decide +kernel
theorem d_Gb_stowed_31 : decode yGb_stowed.2.1 31 = .ok (.aload_n 0, 1) := by decide +kernel
theorem d_Gb_stowed_32 : decode yGb_stowed.2.1 32 = .ok (.getfield 60, 3) := by decide +kernel
theorem d_Gb_stowed_35 : decode yGb_stowed.2.1 35 = .ok (.aload_n 0, 1) := by decide +kernel
theorem d_Gb_stowed_36 : decode yGb_stowed.2.1 36 = .ok (.getfield 12, 3) := by decide +kernel
theorem d_Gb_stowed_39 : decode yGb_stowed.2.1 39 = .ok (.getfield 291, 3) := by decide +kernel
theorem d_Gb_stowed_42 : decode yGb_stowed.2.1 42 = .ok (.iload_n 1, 1) := by decide +kernel
theorem d_Gb_stowed_43 : decode yGb_stowed.2.1 43 = .ok (.iload_n 2, 1) := by decide +kernel
theorem d_Gb_stowed_44 : decode yGb_stowed.2.1 44 = .ok (.iload_n 3, 1) := by decide +kernel
theorem d_Gb_stowed_45 : decode yGb_stowed.2.1 45 = .ok (.iconst 1, 1) := by decide +kernel
theorem d_Gb_stowed_46 : decode yGb_stowed.2.1 46 = .ok (.if_icmp .ne 7, 3) := by decide +kernel
theorem d_Gb_stowed_49 : decode yGb_stowed.2.1 49 = .ok (.iconst 1, 1) := by decide +kernel
theorem d_Gb_stowed_50 : decode yGb_stowed.2.1 50 = .ok (.goto 4, 3) := by decide +kernel
theorem d_Gb_stowed_53 : decode yGb_stowed.2.1 53 = .ok (.iconst 0, 1) := by decide +kernel
theorem d_Gb_stowed_54 : decode yGb_stowed.2.1 54 = .ok (.invokevirtual 294, 3) := by decide +kernel
theorem d_Gb_stowed_57 : decode yGb_stowed.2.1 57 = .ok (.ireturn, 1) := by decide +kernel
def J_Gb_stowed_54 (s0 s1 s2 : Int32) (I : gb_Mem) : Option (Int32 × gb_Mem) :=
  fbd (F_Re_stowing 33 36 s2 s1 s0 I) fun (r2, I1) =>
  some (r2, I1)
set_option maxRecDepth 4000 in
theorem j_Gb_stowed_54 (l : Launch) (d0 : Nat) (s0 s1 s2 : Int32) (I : gb_Mem) {rz : Int32} {Iz : gb_Mem} (h : J_Gb_stowed_54 s0 s1 s2 I = some (rz, Iz)) : gb_Go l yGb_stowed (d0 + 3) 0 0 54 [] [.inl s0, .inl s1, .inl s2, .inr (some 33), .inr (some 106)] shX I (gb_po shX (some (.inl rz)) Iz) := by
  unfold J_Gb_stowed_54 at h
  obtain ⟨⟨r2, I1⟩, w1, h⟩ := fbd_e h
  try dsimp only at h
  refine go_callV (y := yRe_stowing) (asr := [.inr (some 33), .inl s2, .inl s1, .inl s0]) (v := some (.inl r2)) (I' := I1) (st1 := [.inl r2]) d_Gb_stowed_54 s_yRe_stowing m_Gb_294 a_X_106 rfl rfl rfl (Nat.le_of_ble_eq_true rfl) rfl rfl (c_Re_stowing l (d0 + 0) 33 36 isRo_33 s2 s1 s0 I w1) ?_
  cases h
  exact go_ireturn d_Gb_stowed_57 rfl gb_po_i
def F_Gb_stowed (x1 x2 x3 : Int32) (I : gb_Mem) : Option (Int32 × gb_Mem) :=
  if (F_Gb_within x1 0 99 I) = 0 then
    some ((-1), I)
  else
    if (F_Gb_within x2 0 99 I) = 0 then
      some ((-1), I)
    else
      if (F_Gb_within x3 0 1 I) = 0 then
        some ((-1), I)
      else
        if x3 = 1 then
          J_Gb_stowed_54 1 x2 x1 I
        else
          J_Gb_stowed_54 0 x2 x1 I
set_option maxRecDepth 4000 in
theorem c_Gb_stowed (l : Launch) (d0 : Nat) (x1 x2 x3 : Int32) (I : gb_Mem) {rz : Int32} {Iz : gb_Mem} (h : F_Gb_stowed x1 x2 x3 I = some (rz, Iz)) : gb_Cs l yGb_stowed (d0 + 3) [.inr (some 0), .inl x1, .inl x2, .inl x3] shX I (some (.inl rz)) Iz := by
  refine gb_Ct.of (lv := [(0, .inr (some 0)), (1, .inl x1), (2, .inl x2), (3, .inl x3)]) rfl (Nat.le_of_ble_eq_true rfl) rfl ?_
  unfold F_Gb_stowed at h
  show gb_Go l yGb_stowed (d0 + 3) 0 0 0 [(0, .inr (some 0)), (1, .inl x1), (2, .inl x2), (3, .inl x3)] [] shX I (gb_po shX (some (.inl rz)) Iz)
  refine go_iload_n (k := 1) d_Gb_stowed_0 rfl rfl ?_
  refine go_iconst (v := 0) d_Gb_stowed_1 (by decide) ?_
  refine go_bipush (v := 99) d_Gb_stowed_2 (by decide) ?_
  refine go_callS (y := yGb_within) (asr := [.inl x1, .inl 0, .inl 99]) (v := some (.inl (F_Gb_within x1 0 99 I))) (I' := I) (st1 := [.inl (F_Gb_within x1 0 99 I)]) d_Gb_stowed_4 s_yGb_within m_Gb_84 rfl (Nat.le_of_ble_eq_true rfl) rfl rfl (c_Gb_within l (d0 + 2) x1 0 99 I) ?_
  refine go_if_eq (tgt := 29) d_Gb_stowed_7 (by decide) (fun hc => ?_) (fun hc => ?_)
  · rw [if_pos hc] at h
    refine go_iconst (v := (-1)) d_Gb_stowed_29 (by decide) ?_
    cases h
    exact go_ireturn d_Gb_stowed_30 rfl gb_po_i
  · rw [if_neg hc] at h
    refine go_iload_n (k := 2) d_Gb_stowed_10 rfl rfl ?_
    refine go_iconst (v := 0) d_Gb_stowed_11 (by decide) ?_
    refine go_bipush (v := 99) d_Gb_stowed_12 (by decide) ?_
    refine go_callS (y := yGb_within) (asr := [.inl x2, .inl 0, .inl 99]) (v := some (.inl (F_Gb_within x2 0 99 I))) (I' := I) (st1 := [.inl (F_Gb_within x2 0 99 I)]) d_Gb_stowed_14 s_yGb_within m_Gb_84 rfl (Nat.le_of_ble_eq_true rfl) rfl rfl (c_Gb_within l (d0 + 2) x2 0 99 I) ?_
    refine go_if_eq (tgt := 29) d_Gb_stowed_17 (by decide) (fun hc => ?_) (fun hc => ?_)
    · rw [if_pos hc] at h
      refine go_iconst (v := (-1)) d_Gb_stowed_29 (by decide) ?_
      cases h
      exact go_ireturn d_Gb_stowed_30 rfl gb_po_i
    · rw [if_neg hc] at h
      refine go_iload_n (k := 3) d_Gb_stowed_20 rfl rfl ?_
      refine go_iconst (v := 0) d_Gb_stowed_21 (by decide) ?_
      refine go_iconst (v := 1) d_Gb_stowed_22 (by decide) ?_
      refine go_callS (y := yGb_within) (asr := [.inl x3, .inl 0, .inl 1]) (v := some (.inl (F_Gb_within x3 0 1 I))) (I' := I) (st1 := [.inl (F_Gb_within x3 0 1 I)]) d_Gb_stowed_23 s_yGb_within m_Gb_84 rfl (Nat.le_of_ble_eq_true rfl) rfl rfl (c_Gb_within l (d0 + 2) x3 0 1 I) ?_
      refine go_if_ne (tgt := 31) d_Gb_stowed_26 (by decide) (fun hc => ?_) (fun hc => ?_)
      · rw [if_neg hc] at h
        refine go_aload_n (k := 0) d_Gb_stowed_31 rfl rfl ?_
        refine go_getr (ci := 0) (k := 8) (r := 106) d_Gb_stowed_32 a_X_0 rfl (by decide) f_Gb_60 rfl ?_
        refine go_aload_n (k := 0) d_Gb_stowed_35 rfl rfl ?_
        refine go_getr (ci := 0) (k := 0) (r := 1) d_Gb_stowed_36 a_X_0 rfl (by decide) f_Gb_12 rfl ?_
        refine go_getrN (ci := 1) (k := 13) (r := 33) d_Gb_stowed_39 a_X_1 rfl (by decide) f_Gb_291 rfl ?_
        refine go_iload_n (k := 1) d_Gb_stowed_42 rfl rfl ?_
        refine go_iload_n (k := 2) d_Gb_stowed_43 rfl rfl ?_
        refine go_iload_n (k := 3) d_Gb_stowed_44 rfl rfl ?_
        refine go_iconst (v := 1) d_Gb_stowed_45 (by decide) ?_
        refine go_cmp_ne (tgt := 53) d_Gb_stowed_46 (by decide) (fun hc => ?_) (fun hc => ?_)
        · rw [if_neg hc] at h
          refine go_iconst (v := 0) d_Gb_stowed_53 (by decide) ?_
          exact go_lv [] rfl (j_Gb_stowed_54 l d0 0 x2 x1 I h)
        · rw [if_pos hc] at h
          refine go_iconst (v := 1) d_Gb_stowed_49 (by decide) ?_
          refine go_goto (tgt := 54) d_Gb_stowed_50 (by decide) ?_
          exact go_lv [] rfl (j_Gb_stowed_54 l d0 1 x2 x1 I h)
      · rw [if_pos hc] at h
        refine go_iconst (v := (-1)) d_Gb_stowed_29 (by decide) ?_
        cases h
        exact go_ireturn d_Gb_stowed_30 rfl gb_po_i
theorem d_Gb_undo_0 : decode yGb_undo.2.1 0 = .ok (.aload_n 0, 1) := by decide +kernel
theorem d_Gb_undo_1 : decode yGb_undo.2.1 1 = .ok (.getfield 22, 3) := by decide +kernel
theorem d_Gb_undo_4 : decode yGb_undo.2.1 4 = .ok (.aload_n 0, 1) := by decide +kernel
theorem d_Gb_undo_5 : decode yGb_undo.2.1 5 = .ok (.getfield 12, 3) := by decide +kernel
theorem d_Gb_undo_8 : decode yGb_undo.2.1 8 = .ok (.invokevirtual 301, 3) := by decide +kernel
theorem d_Gb_undo_11 : decode yGb_undo.2.1 11 = .ok (.ireturn, 1) := by decide +kernel
def F_Gb_undo (I : gb_Mem) : Option (Int32 × gb_Mem) :=
  fbd (F_Pa_goBack 1 I) fun (r2, I1) =>
  fgd (decide (r2 = 0 ∨ r2 = 1)) <|
  some (r2, I1)
set_option maxRecDepth 4000 in
theorem c_Gb_undo (l : Launch) (d0 : Nat) (I : gb_Mem) {rz : Int32} {Iz : gb_Mem} (h : F_Gb_undo I = some (rz, Iz)) : gb_Cs l yGb_undo (d0 + 3) [.inr (some 0)] shX I (some (.inl rz)) Iz := by
  refine gb_Ct.of (lv := [(0, .inr (some 0))]) rfl (Nat.le_of_ble_eq_true rfl) rfl ?_
  unfold F_Gb_undo at h
  show gb_Go l yGb_undo (d0 + 3) 0 0 0 [(0, .inr (some 0))] [] shX I (gb_po shX (some (.inl rz)) Iz)
  refine go_aload_n (k := 0) d_Gb_undo_0 rfl rfl ?_
  refine go_getr (ci := 0) (k := 3) (r := 69) d_Gb_undo_1 a_X_0 rfl (by decide) f_Gb_22 rfl ?_
  refine go_aload_n (k := 0) d_Gb_undo_4 rfl rfl ?_
  refine go_getr (ci := 0) (k := 0) (r := 1) d_Gb_undo_5 a_X_0 rfl (by decide) f_Gb_12 rfl ?_
  obtain ⟨⟨r2, I1⟩, w1, h⟩ := fbd_e h
  try dsimp only at h
  refine go_callV (y := yPa_goBack) (asr := [.inr (some 1)]) (v := some (.inl r2)) (I' := I1) (st1 := [.inl r2]) d_Gb_undo_8 s_yPa_goBack m_Gb_301 a_X_69 rfl rfl rfl (Nat.le_of_ble_eq_true rfl) rfl rfl (c_Pa_goBack l (d0 + 0) 1 isWo_1 I w1) ?_
  obtain ⟨hz, h⟩ := fgd_e h
  cases h
  exact go_zreturn d_Gb_undo_11 rfl (of_decide_eq_true hz) gb_po_i
theorem d_Gb_way_0 : decode yGb_way.2.1 0 = .ok (.iload_n 1, 1) := by decide +kernel
theorem d_Gb_way_1 : decode yGb_way.2.1 1 = .ok (.iconst 0, 1) := by decide +kernel
theorem d_Gb_way_2 : decode yGb_way.2.1 2 = .ok (.iconst 1, 1) := by decide +kernel
theorem d_Gb_way_3 : decode yGb_way.2.1 3 = .ok (.invokestatic 84, 3) := by decide +kernel
theorem d_Gb_way_6 : decode yGb_way.2.1 6 = .ok (.ifCond .ne 5, 3) := by decide +kernel
theorem d_Gb_way_9 : decode yGb_way.2.1 9 = .ok (.iconst (-1), 1) := by decide +kernel
theorem d_Gb_way_10 : decode yGb_way.2.1 10 = .ok (.ireturn, 1) := by decide +kernel
theorem d_Gb_way_11 : decode yGb_way.2.1 11 = .ok (.iload_n 1, 1) := by decide +kernel
theorem d_Gb_way_12 : decode yGb_way.2.1 12 = .ok (.ifCond .ne 20, 3) := by decide +kernel
theorem d_Gb_way_15 : decode yGb_way.2.1 15 = .ok (.aload_n 0, 1) := by decide +kernel
theorem d_Gb_way_16 : decode yGb_way.2.1 16 = .ok (.getfield 60, 3) := by decide +kernel
theorem d_Gb_way_19 : decode yGb_way.2.1 19 = .ok (.aload_n 0, 1) := by decide +kernel
theorem d_Gb_way_20 : decode yGb_way.2.1 20 = .ok (.getfield 12, 3) := by decide +kernel
theorem d_Gb_way_23 : decode yGb_way.2.1 23 = .ok (.getfield 266, 3) := by decide +kernel
theorem d_Gb_way_26 : decode yGb_way.2.1 26 = .ok (.invokevirtual 269, 3) := by decide +kernel
theorem d_Gb_way_29 : decode yGb_way.2.1 29 = .ok (.goto 17, 3) := by decide +kernel
theorem d_Gb_way_32 : decode yGb_way.2.1 32 = .ok (.aload_n 0, 1) := by decide +kernel
theorem d_Gb_way_33 : decode yGb_way.2.1 33 = .ok (.getfield 60, 3) := by decide +kernel
theorem d_Gb_way_36 : decode yGb_way.2.1 36 = .ok (.aload_n 0, 1) := by decide +kernel
theorem d_Gb_way_37 : decode yGb_way.2.1 37 = .ok (.getfield 12, 3) := by decide +kernel
theorem d_Gb_way_40 : decode yGb_way.2.1 40 = .ok (.getfield 266, 3) := by decide +kernel
theorem d_Gb_way_43 : decode yGb_way.2.1 43 = .ok (.invokevirtual 273, 3) := by decide +kernel
theorem d_Gb_way_46 : decode yGb_way.2.1 46 = .ok (.ireturn, 1) := by decide +kernel
def F_Gb_way (x1 : Int32) (I : gb_Mem) : Option (Int32) :=
  if (F_Gb_within x1 0 1 I) = 0 then
    some (-1)
  else
    if x1 = 0 then
      fbd (F_Re_firstOnes 27 64 I) fun r2 =>
      some r2
    else
      fbd (F_Re_roundGoers 27 64 I) fun r1 =>
      some r1
set_option maxRecDepth 4000 in
theorem c_Gb_way (l : Launch) (d0 : Nat) (x1 : Int32) (I : gb_Mem) {rz : Int32} (h : F_Gb_way x1 I = some rz) : gb_Cs l yGb_way (d0 + 3) [.inr (some 0), .inl x1] shX I (some (.inl rz)) I := by
  refine gb_Ct.of (lv := [(0, .inr (some 0)), (1, .inl x1)]) rfl (Nat.le_of_ble_eq_true rfl) rfl ?_
  unfold F_Gb_way at h
  show gb_Go l yGb_way (d0 + 3) 0 0 0 [(0, .inr (some 0)), (1, .inl x1)] [] shX I (gb_po shX (some (.inl rz)) I)
  refine go_iload_n (k := 1) d_Gb_way_0 rfl rfl ?_
  refine go_iconst (v := 0) d_Gb_way_1 (by decide) ?_
  refine go_iconst (v := 1) d_Gb_way_2 (by decide) ?_
  refine go_callS (y := yGb_within) (asr := [.inl x1, .inl 0, .inl 1]) (v := some (.inl (F_Gb_within x1 0 1 I))) (I' := I) (st1 := [.inl (F_Gb_within x1 0 1 I)]) d_Gb_way_3 s_yGb_within m_Gb_84 rfl (Nat.le_of_ble_eq_true rfl) rfl rfl (c_Gb_within l (d0 + 2) x1 0 1 I) ?_
  refine go_if_ne (tgt := 11) d_Gb_way_6 (by decide) (fun hc => ?_) (fun hc => ?_)
  · rw [if_neg hc] at h
    refine go_iload_n (k := 1) d_Gb_way_11 rfl rfl ?_
    refine go_if_ne (tgt := 32) d_Gb_way_12 (by decide) (fun hc => ?_) (fun hc => ?_)
    · rw [if_neg hc] at h
      refine go_aload_n (k := 0) d_Gb_way_32 rfl rfl ?_
      refine go_getr (ci := 0) (k := 8) (r := 106) d_Gb_way_33 a_X_0 rfl (by decide) f_Gb_60 rfl ?_
      refine go_aload_n (k := 0) d_Gb_way_36 rfl rfl ?_
      refine go_getr (ci := 0) (k := 0) (r := 1) d_Gb_way_37 a_X_0 rfl (by decide) f_Gb_12 rfl ?_
      refine go_getrN (ci := 1) (k := 10) (r := 27) d_Gb_way_40 a_X_1 rfl (by decide) f_Gb_266 rfl ?_
      obtain ⟨r1, w1, h⟩ := fbd_e h
      refine go_callV (y := yRe_roundGoers) (asr := [.inr (some 27)]) (v := some (.inl r1)) (I' := I) (st1 := [.inl r1]) d_Gb_way_43 s_yRe_roundGoers m_Gb_273 a_X_106 rfl rfl rfl (Nat.le_of_ble_eq_true rfl) rfl rfl (c_Re_roundGoers l (d0 + 0) 27 64 isRo_27 I w1) ?_
      cases h
      exact go_ireturn d_Gb_way_46 rfl gb_po_i
    · rw [if_pos hc] at h
      refine go_aload_n (k := 0) d_Gb_way_15 rfl rfl ?_
      refine go_getr (ci := 0) (k := 8) (r := 106) d_Gb_way_16 a_X_0 rfl (by decide) f_Gb_60 rfl ?_
      refine go_aload_n (k := 0) d_Gb_way_19 rfl rfl ?_
      refine go_getr (ci := 0) (k := 0) (r := 1) d_Gb_way_20 a_X_0 rfl (by decide) f_Gb_12 rfl ?_
      refine go_getrN (ci := 1) (k := 10) (r := 27) d_Gb_way_23 a_X_1 rfl (by decide) f_Gb_266 rfl ?_
      obtain ⟨r2, w1, h⟩ := fbd_e h
      refine go_callV (y := yRe_firstOnes) (asr := [.inr (some 27)]) (v := some (.inl r2)) (I' := I) (st1 := [.inl r2]) d_Gb_way_26 s_yRe_firstOnes m_Gb_269 a_X_106 rfl rfl rfl (Nat.le_of_ble_eq_true rfl) rfl rfl (c_Re_firstOnes l (d0 + 0) 27 64 isRo_27 I w1) ?_
      refine go_goto (tgt := 46) d_Gb_way_29 (by decide) ?_
      cases h
      exact go_ireturn d_Gb_way_46 rfl gb_po_i
  · rw [if_pos hc] at h
    refine go_iconst (v := (-1)) d_Gb_way_9 (by decide) ?_
    cases h
    exact go_ireturn d_Gb_way_10 rfl gb_po_i
theorem d_La_reckon_0 : decode yLa_reckon.2.1 0 = .ok (.aload_n 0, 1) := by decide +kernel
theorem d_La_reckon_1 : decode yLa_reckon.2.1 1 = .ok (.iconst 0, 1) := by decide +kernel
theorem d_La_reckon_2 : decode yLa_reckon.2.1 2 = .ok (.putfield 65, 3) := by decide +kernel
theorem d_La_reckon_5 : decode yLa_reckon.2.1 5 = .ok (.iconst 0, 1) := by decide +kernel
theorem d_La_reckon_6 : decode yLa_reckon.2.1 6 = .ok (.iload_n 3, 1) := by decide +kernel
theorem d_La_reckon_7 : decode yLa_reckon.2.1 7 = .ok (.invokestatic 68, 3) := by decide +kernel
theorem d_La_reckon_10 : decode yLa_reckon.2.1 10 = .ok (.istore 5, 2) := by decide +kernel
theorem d_La_reckon_12 : decode yLa_reckon.2.1 12 = .ok (.iload 5, 2) := by decide +kernel
theorem d_La_reckon_14 : decode yLa_reckon.2.1 14 = .ok (.iload 4, 2) := by decide +kernel
theorem d_La_reckon_16 : decode yLa_reckon.2.1 16 = .ok (.if_icmp .ge 153, 3) := by decide +kernel
theorem d_La_reckon_19 : decode yLa_reckon.2.1 19 = .ok (.iload 5, 2) := by decide +kernel
theorem d_La_reckon_21 : decode yLa_reckon.2.1 21 = .ok (.aload_n 0, 1) := by decide +kernel
theorem d_La_reckon_22 : decode yLa_reckon.2.1 22 = .ok (.getfield 9, 3) := by decide +kernel
theorem d_La_reckon_25 : decode yLa_reckon.2.1 25 = .ok (.arraylength, 1) := by decide +kernel
theorem d_La_reckon_26 : decode yLa_reckon.2.1 26 = .ok (.if_icmp .ge 143, 3) := by decide +kernel
theorem d_La_reckon_29 : decode yLa_reckon.2.1 29 = .ok (.aload_n 0, 1) := by decide +kernel
theorem d_La_reckon_30 : decode yLa_reckon.2.1 30 = .ok (.getfield 9, 3) := by decide +kernel
theorem d_La_reckon_33 : decode yLa_reckon.2.1 33 = .ok (.iload 5, 2) := by decide +kernel
theorem d_La_reckon_35 : decode yLa_reckon.2.1 35 = .ok (.iaload, 1) := by decide +kernel
theorem d_La_reckon_36 : decode yLa_reckon.2.1 36 = .ok (.bipush 14, 2) := by decide +kernel
theorem d_La_reckon_38 : decode yLa_reckon.2.1 38 = .ok (.iushr, 1) := by decide +kernel
theorem d_La_reckon_39 : decode yLa_reckon.2.1 39 = .ok (.istore 6, 2) := by decide +kernel
theorem d_La_reckon_41 : decode yLa_reckon.2.1 41 = .ok (.aload_n 0, 1) := by decide +kernel
theorem d_La_reckon_42 : decode yLa_reckon.2.1 42 = .ok (.getfield 9, 3) := by decide +kernel
theorem d_La_reckon_45 : decode yLa_reckon.2.1 45 = .ok (.iload 5, 2) := by decide +kernel
theorem d_La_reckon_47 : decode yLa_reckon.2.1 47 = .ok (.iaload, 1) := by decide +kernel
theorem d_La_reckon_48 : decode yLa_reckon.2.1 48 = .ok (.sipush 16383, 3) := by decide +kernel
theorem d_La_reckon_51 : decode yLa_reckon.2.1 51 = .ok (.iand, 1) := by decide +kernel
theorem d_La_reckon_52 : decode yLa_reckon.2.1 52 = .ok (.istore 7, 2) := by decide +kernel
theorem d_La_reckon_54 : decode yLa_reckon.2.1 54 = .ok (.iload 6, 2) := by decide +kernel
theorem d_La_reckon_56 : decode yLa_reckon.2.1 56 = .ok (.ifCond .ne 12, 3) := by decide +kernel
theorem d_La_reckon_59 : decode yLa_reckon.2.1 59 = .ok (.aload_n 0, 1) := by decide +kernel
theorem d_La_reckon_60 : decode yLa_reckon.2.1 60 = .ok (.iload 7, 2) := by decide +kernel
theorem d_La_reckon_62 : decode yLa_reckon.2.1 62 = .ok (.invokevirtual 73, 3) := by decide +kernel
theorem d_La_reckon_65 : decode yLa_reckon.2.1 65 = .ok (.goto 98, 3) := by decide +kernel
theorem d_La_reckon_68 : decode yLa_reckon.2.1 68 = .ok (.iload 6, 2) := by decide +kernel
theorem d_La_reckon_70 : decode yLa_reckon.2.1 70 = .ok (.iconst 1, 1) := by decide +kernel
theorem d_La_reckon_71 : decode yLa_reckon.2.1 71 = .ok (.if_icmp .ne 17, 3) := by decide +kernel
theorem d_La_reckon_74 : decode yLa_reckon.2.1 74 = .ok (.aload_n 0, 1) := by decide +kernel
theorem d_La_reckon_75 : decode yLa_reckon.2.1 75 = .ok (.aload_n 1, 1) := by decide +kernel
theorem d_La_reckon_76 : decode yLa_reckon.2.1 76 = .ok (.iload_n 2, 1) := by decide +kernel
theorem d_La_reckon_77 : decode yLa_reckon.2.1 77 = .ok (.iload 7, 2) := by decide +kernel
theorem d_La_reckon_79 : decode yLa_reckon.2.1 79 = .ok (.invokestatic 77, 3) := by decide +kernel
theorem d_La_reckon_82 : decode yLa_reckon.2.1 82 = .ok (.invokevirtual 73, 3) := by decide +kernel
theorem d_La_reckon_85 : decode yLa_reckon.2.1 85 = .ok (.goto 78, 3) := by decide +kernel
theorem d_La_reckon_88 : decode yLa_reckon.2.1 88 = .ok (.iload 6, 2) := by decide +kernel
theorem d_La_reckon_90 : decode yLa_reckon.2.1 90 = .ok (.iconst 2, 1) := by decide +kernel
theorem d_La_reckon_91 : decode yLa_reckon.2.1 91 = .ok (.if_icmp .ne 26, 3) := by decide +kernel
theorem d_La_reckon_94 : decode yLa_reckon.2.1 94 = .ok (.aload_n 0, 1) := by decide +kernel
theorem d_La_reckon_95 : decode yLa_reckon.2.1 95 = .ok (.iload 7, 2) := by decide +kernel
theorem d_La_reckon_97 : decode yLa_reckon.2.1 97 = .ok (.ifCond .ne 7, 3) := by decide +kernel
theorem d_La_reckon_100 : decode yLa_reckon.2.1 100 = .ok (.iconst 0, 1) := by decide +kernel
theorem d_La_reckon_101 : decode yLa_reckon.2.1 101 = .ok (.goto 10, 3) := by decide +kernel
theorem d_La_reckon_104 : decode yLa_reckon.2.1 104 = .ok (.aload_n 0, 1) := by decide +kernel
theorem d_La_reckon_105 : decode yLa_reckon.2.1 105 = .ok (.invokevirtual 80, 3) := by decide +kernel
theorem d_La_reckon_108 : decode yLa_reckon.2.1 108 = .ok (.iload 7, 2) := by decide +kernel
theorem d_La_reckon_110 : decode yLa_reckon.2.1 110 = .ok (.idiv, 1) := by decide +kernel
theorem d_La_reckon_111 : decode yLa_reckon.2.1 111 = .ok (.invokevirtual 73, 3) := by decide +kernel
theorem d_La_reckon_114 : decode yLa_reckon.2.1 114 = .ok (.goto 49, 3) := by decide +kernel
theorem d_La_reckon_117 : decode yLa_reckon.2.1 117 = .ok (.iload 6, 2) := by decide +kernel
theorem d_La_reckon_119 : decode yLa_reckon.2.1 119 = .ok (.iconst 3, 1) := by decide +kernel
theorem d_La_reckon_120 : decode yLa_reckon.2.1 120 = .ok (.if_icmp .ne 22, 3) := by decide +kernel
theorem d_La_reckon_123 : decode yLa_reckon.2.1 123 = .ok (.aload_n 0, 1) := by decide +kernel
theorem d_La_reckon_124 : decode yLa_reckon.2.1 124 = .ok (.aload_n 0, 1) := by decide +kernel
theorem d_La_reckon_125 : decode yLa_reckon.2.1 125 = .ok (.invokevirtual 80, 3) := by decide +kernel
theorem d_La_reckon_128 : decode yLa_reckon.2.1 128 = .ok (.ifCond .ne 7, 3) := by decide +kernel
theorem d_La_reckon_131 : decode yLa_reckon.2.1 131 = .ok (.iconst 1, 1) := by decide +kernel
theorem d_La_reckon_132 : decode yLa_reckon.2.1 132 = .ok (.goto 4, 3) := by decide +kernel
theorem d_La_reckon_135 : decode yLa_reckon.2.1 135 = .ok (.iconst 0, 1) := by decide +kernel
theorem d_La_reckon_136 : decode yLa_reckon.2.1 136 = .ok (.invokevirtual 73, 3) := by decide +kernel
theorem d_La_reckon_139 : decode yLa_reckon.2.1 139 = .ok (.goto 24, 3) := by decide +kernel
theorem d_La_reckon_142 : decode yLa_reckon.2.1 142 = .ok (.aload_n 0, 1) := by decide +kernel
theorem d_La_reckon_143 : decode yLa_reckon.2.1 143 = .ok (.invokevirtual 80, 3) := by decide +kernel
theorem d_La_reckon_146 : decode yLa_reckon.2.1 146 = .ok (.istore 8, 2) := by decide +kernel
theorem d_La_reckon_148 : decode yLa_reckon.2.1 148 = .ok (.aload_n 0, 1) := by decide +kernel
theorem d_La_reckon_149 : decode yLa_reckon.2.1 149 = .ok (.iload 6, 2) := by decide +kernel
theorem d_La_reckon_151 : decode yLa_reckon.2.1 151 = .ok (.aload_n 0, 1) := by decide +kernel
theorem d_La_reckon_152 : decode yLa_reckon.2.1 152 = .ok (.invokevirtual 80, 3) := by decide +kernel
theorem d_La_reckon_155 : decode yLa_reckon.2.1 155 = .ok (.iload 8, 2) := by decide +kernel
theorem d_La_reckon_157 : decode yLa_reckon.2.1 157 = .ok (.invokestatic 84, 3) := by decide +kernel
theorem d_La_reckon_160 : decode yLa_reckon.2.1 160 = .ok (.invokevirtual 73, 3) := by decide +kernel
theorem d_La_reckon_163 : decode yLa_reckon.2.1 163 = .ok (.iinc 5 1, 3) := by decide +kernel
theorem d_La_reckon_166 : decode yLa_reckon.2.1 166 = .ok (.goto (-154), 3) := by decide +kernel
theorem d_La_reckon_169 : decode yLa_reckon.2.1 169 = .ok (.aload_n 0, 1) := by decide +kernel
theorem d_La_reckon_170 : decode yLa_reckon.2.1 170 = .ok (.invokevirtual 80, 3) := by decide +kernel
theorem d_La_reckon_173 : decode yLa_reckon.2.1 173 = .ok (.ireturn, 1) := by decide +kernel
def J_La_reckon_163 (h0 h1 : Nat) (k : Int32 → gb_Mem → Option (gb_Mem)) (x2 x4 x5 : Int32) (I : gb_Mem) : Option (gb_Mem) :=
  k (x5 + 1) I
set_option maxRecDepth 4000 in
theorem j_La_reckon_163 (l : Launch) (d0 : Nat) (h0 h1 : Nat) (H0 : isLa h0) (H1 : isTa h1) {post : Option gb_AV → List gb_Ce → gb_Mem → Prop} (k : Int32 → gb_Mem → Option (gb_Mem)) (x2 x4 x5 : Int32) (I : gb_Mem) {ρ : gb_Mem} (h : J_La_reckon_163 h0 h1 k x2 x4 x5 I = some ρ) (hk : ∀ (z5 : Int32) (Iw : gb_Mem), k z5 Iw = some ρ → gb_Go l yLa_reckon (d0 + 3) 0 0 12 [(0, .inr (some h0)), (1, .inr (some h1)), (2, .inl x2), (4, .inl x4), (5, .inl z5)] [] shX Iw post) (hX : ∀ (I2 : gb_Mem), ρ = I2 → gb_Go l yLa_reckon (d0 + 3) 0 0 169 [(0, .inr (some h0))] [] shX I2 post) : gb_Go l yLa_reckon (d0 + 3) 0 0 163 [(0, .inr (some h0)), (1, .inr (some h1)), (2, .inl x2), (4, .inl x4), (5, .inl x5)] [] shX I post := by
  unfold J_La_reckon_163 at h
  refine go_iinc (k := 4) (v := x5 + 1) (lv' := [(5, .inl (x5 + 1)), (0, .inr (some h0)), (1, .inr (some h1)), (2, .inl x2), (4, .inl x4)]) d_La_reckon_163 rfl rfl (by decide) rfl ?_
  refine go_goto (tgt := 12) d_La_reckon_166 (by decide) ?_
  exact go_lv [1, 2, 3, 4, 0] rfl (hk _ _ h)
def J_La_reckon_136 (h0 h1 : Nat) (k : Int32 → gb_Mem → Option (gb_Mem)) (x2 x4 x5 s0 : Int32) (I : gb_Mem) : Option (gb_Mem) :=
  fbd (F_La_push h0 s0 I) fun I12 =>
  J_La_reckon_163 h0 h1 k x2 x4 x5 I12
set_option maxRecDepth 4000 in
theorem j_La_reckon_136 (l : Launch) (d0 : Nat) (h0 h1 : Nat) (H0 : isLa h0) (H1 : isTa h1) {post : Option gb_AV → List gb_Ce → gb_Mem → Prop} (k : Int32 → gb_Mem → Option (gb_Mem)) (x2 x4 x5 s0 : Int32) (I : gb_Mem) {ρ : gb_Mem} (h : J_La_reckon_136 h0 h1 k x2 x4 x5 s0 I = some ρ) (hk : ∀ (z5 : Int32) (Iw : gb_Mem), k z5 Iw = some ρ → gb_Go l yLa_reckon (d0 + 3) 0 0 12 [(0, .inr (some h0)), (1, .inr (some h1)), (2, .inl x2), (4, .inl x4), (5, .inl z5)] [] shX Iw post) (hX : ∀ (I2 : gb_Mem), ρ = I2 → gb_Go l yLa_reckon (d0 + 3) 0 0 169 [(0, .inr (some h0))] [] shX I2 post) : gb_Go l yLa_reckon (d0 + 3) 0 0 136 [(0, .inr (some h0)), (1, .inr (some h1)), (2, .inl x2), (4, .inl x4), (5, .inl x5)] [.inl s0, .inr (some h0)] shX I post := by
  unfold J_La_reckon_136 at h
  obtain ⟨I12, w1, h⟩ := fbd_e h
  refine go_callV (y := yLa_push) (asr := [.inl s0]) (v := none) (I' := I12) (st1 := []) d_La_reckon_136 s_yLa_push m_La_73 H0.1 rfl rfl rfl (Nat.le_of_ble_eq_true rfl) rfl rfl (c_La_push l (d0 + 1) h0 H0 s0 I w1) ?_
  refine go_goto (tgt := 163) d_La_reckon_139 (by decide) ?_
  exact go_lv [0, 1, 2, 3, 4] rfl (j_La_reckon_163 l d0 h0 h1 H0 H1 k x2 x4 x5 I12 h hk hX)
def J_La_reckon_111 (h0 h1 : Nat) (k : Int32 → gb_Mem → Option (gb_Mem)) (x2 x4 x5 s0 : Int32) (I : gb_Mem) : Option (gb_Mem) :=
  fbd (F_La_push h0 s0 I) fun I15 =>
  J_La_reckon_163 h0 h1 k x2 x4 x5 I15
set_option maxRecDepth 4000 in
theorem j_La_reckon_111 (l : Launch) (d0 : Nat) (h0 h1 : Nat) (H0 : isLa h0) (H1 : isTa h1) {post : Option gb_AV → List gb_Ce → gb_Mem → Prop} (k : Int32 → gb_Mem → Option (gb_Mem)) (x2 x4 x5 s0 : Int32) (I : gb_Mem) {ρ : gb_Mem} (h : J_La_reckon_111 h0 h1 k x2 x4 x5 s0 I = some ρ) (hk : ∀ (z5 : Int32) (Iw : gb_Mem), k z5 Iw = some ρ → gb_Go l yLa_reckon (d0 + 3) 0 0 12 [(0, .inr (some h0)), (1, .inr (some h1)), (2, .inl x2), (4, .inl x4), (5, .inl z5)] [] shX Iw post) (hX : ∀ (I2 : gb_Mem), ρ = I2 → gb_Go l yLa_reckon (d0 + 3) 0 0 169 [(0, .inr (some h0))] [] shX I2 post) : gb_Go l yLa_reckon (d0 + 3) 0 0 111 [(0, .inr (some h0)), (1, .inr (some h1)), (2, .inl x2), (4, .inl x4), (5, .inl x5)] [.inl s0, .inr (some h0)] shX I post := by
  unfold J_La_reckon_111 at h
  obtain ⟨I15, w1, h⟩ := fbd_e h
  refine go_callV (y := yLa_push) (asr := [.inl s0]) (v := none) (I' := I15) (st1 := []) d_La_reckon_111 s_yLa_push m_La_73 H0.1 rfl rfl rfl (Nat.le_of_ble_eq_true rfl) rfl rfl (c_La_push l (d0 + 1) h0 H0 s0 I w1) ?_
  refine go_goto (tgt := 163) d_La_reckon_114 (by decide) ?_
  exact go_lv [0, 1, 2, 3, 4] rfl (j_La_reckon_163 l d0 h0 h1 H0 H1 k x2 x4 x5 I15 h hk hX)
def L_La_reckon_12 (h0 h1 : Nat) (x2 x4 : Int32) : Nat → Int32 → gb_Mem → Option (gb_Mem)
  | 0, _, _ => none
  | n + 1, x5, I =>
    if x4 ≤ x5 then
      some I
    else
      if 400 ≤ x5 then
        some I
      else
        flod I (h0 + 1) 400 x5 fun v2 =>
        flt (((v2).toUInt32 >>> (Int32.toUInt32 14 &&& Int32.toUInt32 31)).toInt32) fun y3 =>
        flod I (h0 + 1) 400 x5 fun v4 =>
        if y3 = 0 then
          fbd (F_La_push h0 (v4 &&& 16383) I) fun I18 =>
          J_La_reckon_163 h0 h1 (L_La_reckon_12 h0 h1 x2 x4 n) x2 x4 x5 I18
        else
          if y3 = 1 then
            fbd (F_La_worth h1 x2 (v4 &&& 16383) I) fun r16 =>
            fbd (F_La_push h0 r16 I) fun I17 =>
            J_La_reckon_163 h0 h1 (L_La_reckon_12 h0 h1 x2 x4 n) x2 x4 x5 I17
          else
            if y3 = 2 then
              if (v4 &&& 16383) = 0 then
                J_La_reckon_111 h0 h1 (L_La_reckon_12 h0 h1 x2 x4 n) x2 x4 x5 0 I
              else
                fbd (F_La_pop h0 I) fun (r14, I13) =>
                fgd (decide (¬ v4 &&& 16383 = 0)) <|
                J_La_reckon_111 h0 h1 (L_La_reckon_12 h0 h1 x2 x4 n) x2 x4 x5 (r14 / (v4 &&& 16383)) I13
            else
              if y3 = 3 then
                fbd (F_La_pop h0 I) fun (r11, I10) =>
                if r11 = 0 then
                  J_La_reckon_136 h0 h1 (L_La_reckon_12 h0 h1 x2 x4 n) x2 x4 x5 1 I10
                else
                  J_La_reckon_136 h0 h1 (L_La_reckon_12 h0 h1 x2 x4 n) x2 x4 x5 0 I10
              else
                fbd (F_La_pop h0 I) fun (r6, I5) =>
                fbd (F_La_pop h0 I5) fun (r8, I7) =>
                fbd (F_La_push h0 (F_La_joined y3 r8 r6 I7) I7) fun I9 =>
                J_La_reckon_163 h0 h1 (L_La_reckon_12 h0 h1 x2 x4 n) x2 x4 x5 I9
set_option maxRecDepth 4000 in
theorem l_La_reckon_12 (l : Launch) (d0 : Nat) (h0 h1 : Nat) (H0 : isLa h0) (H1 : isTa h1) (x2 x4 : Int32) {post : Option gb_AV → List gb_Ce → gb_Mem → Prop} : ∀ (n : Nat) (x5 : Int32) (I : gb_Mem) {ρ : gb_Mem} (h : L_La_reckon_12 h0 h1 x2 x4 n x5 I = some ρ) (hX : ∀ (I2 : gb_Mem), ρ = I2 → gb_Go l yLa_reckon (d0 + 3) 0 0 169 [(0, .inr (some h0))] [] shX I2 post) , gb_Go l yLa_reckon (d0 + 3) 0 0 12 [(0, .inr (some h0)), (1, .inr (some h1)), (2, .inl x2), (4, .inl x4), (5, .inl x5)] [] shX I post := by
  intro n
  induction n with
  | zero => intro x5 I ρ h hX; cases h
  | succ n ih =>
    intro x5 I ρ h hX
    rw [L_La_reckon_12] at h
    refine go_iload (k := 4) d_La_reckon_12 rfl ?_
    refine go_iload (k := 3) d_La_reckon_14 rfl ?_
    refine go_cmp_ge (tgt := 169) d_La_reckon_16 (by decide) (fun hc => ?_) (fun hc => ?_)
    · rw [if_pos hc] at h
      exact go_lv [0] rfl (hX _ (Option.some.inj h).symm)
    · rw [if_neg hc] at h
      refine go_iload (k := 4) d_La_reckon_19 rfl ?_
      refine go_aload_n (k := 0) d_La_reckon_21 rfl rfl ?_
      refine go_getr (ci := 3) (k := 0) (r := (h0 + 1)) d_La_reckon_22 H0.1 rfl (by decide) f_La_9 rfl ?_
      refine go_alen d_La_reckon_25 H0.2.1 ?_
      refine go_top (v := 400) rfl ?_
      refine go_cmp_ge (tgt := 169) d_La_reckon_26 (by decide) (fun hc => ?_) (fun hc => ?_)
      · rw [if_pos hc] at h
        exact go_lv [0] rfl (hX _ (Option.some.inj h).symm)
      · rw [if_neg hc] at h
        refine go_aload_n (k := 0) d_La_reckon_29 rfl rfl ?_
        refine go_getr (ci := 3) (k := 0) (r := (h0 + 1)) d_La_reckon_30 H0.1 rfl (by decide) f_La_9 rfl ?_
        refine go_iload (k := 4) d_La_reckon_33 rfl ?_
        obtain ⟨hi, v2, ev2, h⟩ := flod_e h
        refine go_iald2 d_La_reckon_35 H0.2.1 hi ev2 ?_
        refine go_bipush (v := 14) d_La_reckon_36 (by decide) ?_
        refine go_iushr d_La_reckon_38 ?_
        obtain ⟨y3, ey3, h⟩ := flt_e h
        refine go_top ey3 ?_
        refine go_istore (lv' := [(6, .inl y3), (0, .inr (some h0)), (1, .inr (some h1)), (2, .inl x2), (4, .inl x4), (5, .inl x5)]) d_La_reckon_39 (by decide) rfl ?_
        refine go_aload_n (k := 1) d_La_reckon_41 rfl rfl ?_
        refine go_getr (ci := 3) (k := 0) (r := (h0 + 1)) d_La_reckon_42 H0.1 rfl (by decide) f_La_9 rfl ?_
        refine go_iload (k := 5) d_La_reckon_45 rfl ?_
        obtain ⟨hi, v4, ev4, h⟩ := flod_e h
        refine go_iald2 d_La_reckon_47 H0.2.1 hi ev4 ?_
        refine go_sipush (v := 16383) d_La_reckon_48 (by decide) ?_
        refine go_iand d_La_reckon_51 ?_
        refine go_istore (lv' := [(7, .inl (v4 &&& 16383)), (6, .inl y3), (0, .inr (some h0)), (1, .inr (some h1)), (2, .inl x2), (4, .inl x4), (5, .inl x5)]) d_La_reckon_52 (by decide) rfl ?_
        refine go_iload (k := 1) d_La_reckon_54 rfl ?_
        refine go_if_ne (tgt := 68) d_La_reckon_56 (by decide) (fun hc => ?_) (fun hc => ?_)
        · rw [if_neg hc] at h
          refine go_iload (k := 1) d_La_reckon_68 rfl ?_
          refine go_iconst (v := 1) d_La_reckon_70 (by decide) ?_
          refine go_cmp_ne (tgt := 88) d_La_reckon_71 (by decide) (fun hc => ?_) (fun hc => ?_)
          · rw [if_neg hc] at h
            refine go_iload (k := 1) d_La_reckon_88 rfl ?_
            refine go_iconst (v := 2) d_La_reckon_90 (by decide) ?_
            refine go_cmp_ne (tgt := 117) d_La_reckon_91 (by decide) (fun hc => ?_) (fun hc => ?_)
            · rw [if_neg hc] at h
              refine go_iload (k := 1) d_La_reckon_117 rfl ?_
              refine go_iconst (v := 3) d_La_reckon_119 (by decide) ?_
              refine go_cmp_ne (tgt := 142) d_La_reckon_120 (by decide) (fun hc => ?_) (fun hc => ?_)
              · rw [if_neg hc] at h
                refine go_aload_n (k := 2) d_La_reckon_142 rfl rfl ?_
                obtain ⟨⟨r6, I5⟩, w1, h⟩ := fbd_e h
                try dsimp only at h
                refine go_callV (y := yLa_pop) (asr := []) (v := some (.inl r6)) (I' := I5) (st1 := [.inl r6]) d_La_reckon_143 s_yLa_pop m_La_80 H0.1 rfl rfl rfl (Nat.le_of_ble_eq_true rfl) rfl rfl (c_La_pop l (d0 + 1) h0 H0 I w1) ?_
                refine go_istore (lv' := [(8, .inl r6), (7, .inl (v4 &&& 16383)), (6, .inl y3), (0, .inr (some h0)), (1, .inr (some h1)), (2, .inl x2), (4, .inl x4), (5, .inl x5)]) d_La_reckon_146 (by decide) rfl ?_
                refine go_aload_n (k := 3) d_La_reckon_148 rfl rfl ?_
                refine go_iload (k := 2) d_La_reckon_149 rfl ?_
                refine go_aload_n (k := 3) d_La_reckon_151 rfl rfl ?_
                obtain ⟨⟨r8, I7⟩, w1, h⟩ := fbd_e h
                try dsimp only at h
                refine go_callV (y := yLa_pop) (asr := []) (v := some (.inl r8)) (I' := I7) (st1 := [.inl r8, .inl y3, .inr (some h0)]) d_La_reckon_152 s_yLa_pop m_La_80 H0.1 rfl rfl rfl (Nat.le_of_ble_eq_true rfl) rfl rfl (c_La_pop l (d0 + 1) h0 H0 I5 w1) ?_
                refine go_iload (k := 0) d_La_reckon_155 rfl ?_
                refine go_callS (y := yLa_joined) (asr := [.inl y3, .inl r8, .inl r6]) (v := some (.inl (F_La_joined y3 r8 r6 I7))) (I' := I7) (st1 := [.inl (F_La_joined y3 r8 r6 I7), .inr (some h0)]) d_La_reckon_157 s_yLa_joined m_La_84 rfl (Nat.le_of_ble_eq_true rfl) rfl rfl (c_La_joined l (d0 + 2) y3 r8 r6 I7) ?_
                obtain ⟨I9, w1, h⟩ := fbd_e h
                refine go_callV (y := yLa_push) (asr := [.inl (F_La_joined y3 r8 r6 I7)]) (v := none) (I' := I9) (st1 := []) d_La_reckon_160 s_yLa_push m_La_73 H0.1 rfl rfl rfl (Nat.le_of_ble_eq_true rfl) rfl rfl (c_La_push l (d0 + 1) h0 H0 (F_La_joined y3 r8 r6 I7) I7 w1) ?_
                exact go_lv [3, 4, 5, 6, 7] rfl (j_La_reckon_163 l d0 h0 h1 H0 H1 (L_La_reckon_12 h0 h1 x2 x4 n) x2 x4 x5 I9 h (fun z5 Iw hh => ih z5 Iw hh hX) hX)
              · rw [if_pos hc] at h
                refine go_aload_n (k := 2) d_La_reckon_123 rfl rfl ?_
                refine go_aload_n (k := 2) d_La_reckon_124 rfl rfl ?_
                obtain ⟨⟨r11, I10⟩, w1, h⟩ := fbd_e h
                try dsimp only at h
                refine go_callV (y := yLa_pop) (asr := []) (v := some (.inl r11)) (I' := I10) (st1 := [.inl r11, .inr (some h0)]) d_La_reckon_125 s_yLa_pop m_La_80 H0.1 rfl rfl rfl (Nat.le_of_ble_eq_true rfl) rfl rfl (c_La_pop l (d0 + 1) h0 H0 I w1) ?_
                refine go_if_ne (tgt := 135) d_La_reckon_128 (by decide) (fun hc => ?_) (fun hc => ?_)
                · rw [if_neg hc] at h
                  refine go_iconst (v := 0) d_La_reckon_135 (by decide) ?_
                  exact go_lv [2, 3, 4, 5, 6] rfl (j_La_reckon_136 l d0 h0 h1 H0 H1 (L_La_reckon_12 h0 h1 x2 x4 n) x2 x4 x5 0 I10 h (fun z5 Iw hh => ih z5 Iw hh hX) hX)
                · rw [if_pos hc] at h
                  refine go_iconst (v := 1) d_La_reckon_131 (by decide) ?_
                  refine go_goto (tgt := 136) d_La_reckon_132 (by decide) ?_
                  exact go_lv [2, 3, 4, 5, 6] rfl (j_La_reckon_136 l d0 h0 h1 H0 H1 (L_La_reckon_12 h0 h1 x2 x4 n) x2 x4 x5 1 I10 h (fun z5 Iw hh => ih z5 Iw hh hX) hX)
            · rw [if_pos hc] at h
              refine go_aload_n (k := 2) d_La_reckon_94 rfl rfl ?_
              refine go_iload (k := 0) d_La_reckon_95 rfl ?_
              refine go_if_ne (tgt := 104) d_La_reckon_97 (by decide) (fun hc => ?_) (fun hc => ?_)
              · rw [if_neg hc] at h
                refine go_aload_n (k := 2) d_La_reckon_104 rfl rfl ?_
                obtain ⟨⟨r14, I13⟩, w1, h⟩ := fbd_e h
                try dsimp only at h
                refine go_callV (y := yLa_pop) (asr := []) (v := some (.inl r14)) (I' := I13) (st1 := [.inl r14, .inr (some h0)]) d_La_reckon_105 s_yLa_pop m_La_80 H0.1 rfl rfl rfl (Nat.le_of_ble_eq_true rfl) rfl rfl (c_La_pop l (d0 + 1) h0 H0 I w1) ?_
                refine go_iload (k := 0) d_La_reckon_108 rfl ?_
                obtain ⟨hz, h⟩ := fgd_e h
                refine go_idiv d_La_reckon_110 (of_decide_eq_true hz) ?_
                exact go_lv [2, 3, 4, 5, 6] rfl (j_La_reckon_111 l d0 h0 h1 H0 H1 (L_La_reckon_12 h0 h1 x2 x4 n) x2 x4 x5 (r14 / (v4 &&& 16383)) I13 h (fun z5 Iw hh => ih z5 Iw hh hX) hX)
              · rw [if_pos hc] at h
                refine go_iconst (v := 0) d_La_reckon_100 (by decide) ?_
                refine go_goto (tgt := 111) d_La_reckon_101 (by decide) ?_
                exact go_lv [2, 3, 4, 5, 6] rfl (j_La_reckon_111 l d0 h0 h1 H0 H1 (L_La_reckon_12 h0 h1 x2 x4 n) x2 x4 x5 0 I h (fun z5 Iw hh => ih z5 Iw hh hX) hX)
          · rw [if_pos hc] at h
            refine go_aload_n (k := 2) d_La_reckon_74 rfl rfl ?_
            refine go_aload_n (k := 3) d_La_reckon_75 rfl rfl ?_
            refine go_iload_n (k := 4) d_La_reckon_76 rfl rfl ?_
            refine go_iload (k := 0) d_La_reckon_77 rfl ?_
            obtain ⟨r16, w1, h⟩ := fbd_e h
            refine go_callS (y := yLa_worth) (asr := [.inr (some h1), .inl x2, .inl (v4 &&& 16383)]) (v := some (.inl r16)) (I' := I) (st1 := [.inl r16, .inr (some h0)]) d_La_reckon_79 s_yLa_worth m_La_77 rfl (Nat.le_of_ble_eq_true rfl) rfl rfl (c_La_worth l (d0 + 0) h1 H1 x2 (v4 &&& 16383) I w1) ?_
            obtain ⟨I17, w1, h⟩ := fbd_e h
            refine go_callV (y := yLa_push) (asr := [.inl r16]) (v := none) (I' := I17) (st1 := []) d_La_reckon_82 s_yLa_push m_La_73 H0.1 rfl rfl rfl (Nat.le_of_ble_eq_true rfl) rfl rfl (c_La_push l (d0 + 1) h0 H0 r16 I w1) ?_
            refine go_goto (tgt := 163) d_La_reckon_85 (by decide) ?_
            exact go_lv [2, 3, 4, 5, 6] rfl (j_La_reckon_163 l d0 h0 h1 H0 H1 (L_La_reckon_12 h0 h1 x2 x4 n) x2 x4 x5 I17 h (fun z5 Iw hh => ih z5 Iw hh hX) hX)
        · rw [if_pos hc] at h
          refine go_aload_n (k := 2) d_La_reckon_59 rfl rfl ?_
          refine go_iload (k := 0) d_La_reckon_60 rfl ?_
          obtain ⟨I18, w1, h⟩ := fbd_e h
          refine go_callV (y := yLa_push) (asr := [.inl (v4 &&& 16383)]) (v := none) (I' := I18) (st1 := []) d_La_reckon_62 s_yLa_push m_La_73 H0.1 rfl rfl rfl (Nat.le_of_ble_eq_true rfl) rfl rfl (c_La_push l (d0 + 1) h0 H0 (v4 &&& 16383) I w1) ?_
          refine go_goto (tgt := 163) d_La_reckon_65 (by decide) ?_
          exact go_lv [2, 3, 4, 5, 6] rfl (j_La_reckon_163 l d0 h0 h1 H0 H1 (L_La_reckon_12 h0 h1 x2 x4 n) x2 x4 x5 I18 h (fun z5 Iw hh => ih z5 Iw hh hX) hX)
def J_La_reckon_169 (h0 h1 : Nat) (I : gb_Mem) : Option (Int32 × gb_Mem) :=
  fbd (F_La_pop h0 I) fun (r21, I20) =>
  some (r21, I20)
set_option maxRecDepth 4000 in
theorem j_La_reckon_169 (l : Launch) (d0 : Nat) (h0 h1 : Nat) (H0 : isLa h0) (H1 : isTa h1) (I : gb_Mem) {rz : Int32} {Iz : gb_Mem} (h : J_La_reckon_169 h0 h1 I = some (rz, Iz)) : gb_Go l yLa_reckon (d0 + 3) 0 0 169 [(0, .inr (some h0))] [] shX I (gb_po shX (some (.inl rz)) Iz) := by
  unfold J_La_reckon_169 at h
  refine go_aload_n (k := 0) d_La_reckon_169 rfl rfl ?_
  obtain ⟨⟨r21, I20⟩, w1, h⟩ := fbd_e h
  try dsimp only at h
  refine go_callV (y := yLa_pop) (asr := []) (v := some (.inl r21)) (I' := I20) (st1 := [.inl r21]) d_La_reckon_170 s_yLa_pop m_La_80 H0.1 rfl rfl rfl (Nat.le_of_ble_eq_true rfl) rfl rfl (c_La_pop l (d0 + 1) h0 H0 I w1) ?_
  cases h
  exact go_ireturn d_La_reckon_173 rfl gb_po_i
def F_La_reckon (h0 h1 : Nat) (x2 x3 x4 : Int32) (I : gb_Mem) : Option (Int32 × gb_Mem) :=
  fstf I h0 6 0 fun I1 =>
  fbd (L_La_reckon_12 h0 h1 x2 x4 5000 (mx 0 x3) I1) fun I19 =>
  J_La_reckon_169 h0 h1 I19
set_option maxRecDepth 4000 in
theorem c_La_reckon (l : Launch) (d0 : Nat) (h0 h1 : Nat) (H0 : isLa h0) (H1 : isTa h1) (x2 x3 x4 : Int32) (I : gb_Mem) {rz : Int32} {Iz : gb_Mem} (h : F_La_reckon h0 h1 x2 x3 x4 I = some (rz, Iz)) : gb_Cs l yLa_reckon (d0 + 3) [.inr (some h0), .inr (some h1), .inl x2, .inl x3, .inl x4] shX I (some (.inl rz)) Iz := by
  refine gb_Ct.of (lv := [(0, .inr (some h0)), (1, .inr (some h1)), (2, .inl x2), (3, .inl x3), (4, .inl x4)]) rfl (Nat.le_of_ble_eq_true rfl) rfl ?_
  unfold F_La_reckon at h
  show gb_Go l yLa_reckon (d0 + 3) 0 0 0 [(0, .inr (some h0)), (1, .inr (some h1)), (2, .inl x2), (3, .inl x3), (4, .inl x4)] [] shX I (gb_po shX (some (.inl rz)) Iz)
  refine go_aload_n (k := 0) d_La_reckon_0 rfl rfl ?_
  refine go_iconst (v := 0) d_La_reckon_1 (by decide) ?_
  obtain ⟨I1, eI1, h⟩ := fstf_e h
  refine go_putT (ci := 3) (k := 6) (I' := I1) d_La_reckon_2 H0.1 rfl (by decide) f_La_65 rfl rfl rfl rfl rfl eI1 ?_
  refine go_iconst (v := 0) d_La_reckon_5 (by decide) ?_
  refine go_iload_n (k := 3) d_La_reckon_6 rfl rfl ?_
  refine go_mmax d_La_reckon_7 m_La_68 (Nat.le_of_ble_eq_true rfl) ?_
  refine go_istore (lv' := [(5, .inl (mx 0 x3)), (0, .inr (some h0)), (1, .inr (some h1)), (2, .inl x2), (3, .inl x3), (4, .inl x4)]) d_La_reckon_10 (by decide) rfl ?_
  refine go_lv [1, 2, 3, 5, 0] (lv' := [(0, .inr (some h0)), (1, .inr (some h1)), (2, .inl x2), (4, .inl x4), (5, .inl (mx 0 x3))]) rfl ?_
  obtain ⟨I19, w1, h⟩ := fbd_e h
  refine l_La_reckon_12 l d0 h0 h1 H0 H1 x2 x4 5000 (mx 0 x3) I1 w1 (fun I19_ e => ?_)
  cases e
  exact go_lv [0] rfl (j_La_reckon_169 l d0 h0 h1 H0 H1 I19 h)
theorem d_Rd_readSum_0 : decode yRd_readSum.2.1 0 = .ok (.aload_n 0, 1) := by decide +kernel
theorem d_Rd_readSum_1 : decode yRd_readSum.2.1 1 = .ok (.invokevirtual 125, 3) := by decide +kernel
theorem d_Rd_readSum_4 : decode yRd_readSum.2.1 4 = .ok (.iconst 0, 1) := by decide +kernel
theorem d_Rd_readSum_5 : decode yRd_readSum.2.1 5 = .ok (.istore_n 1, 1) := by decide +kernel
theorem d_Rd_readSum_6 : decode yRd_readSum.2.1 6 = .ok (.iload_n 1, 1) := by decide +kernel
theorem d_Rd_readSum_7 : decode yRd_readSum.2.1 7 = .ok (.sipush 400, 3) := by decide +kernel
theorem d_Rd_readSum_10 : decode yRd_readSum.2.1 10 = .ok (.if_icmp .ge 72, 3) := by decide +kernel
theorem d_Rd_readSum_13 : decode yRd_readSum.2.1 13 = .ok (.aload_n 0, 1) := by decide +kernel
theorem d_Rd_readSum_14 : decode yRd_readSum.2.1 14 = .ok (.getfield 53, 3) := by decide +kernel
theorem d_Rd_readSum_17 : decode yRd_readSum.2.1 17 = .ok (.ifCond .ne 65, 3) := by decide +kernel
theorem d_Rd_readSum_20 : decode yRd_readSum.2.1 20 = .ok (.aload_n 0, 1) := by decide +kernel
theorem d_Rd_readSum_21 : decode yRd_readSum.2.1 21 = .ok (.invokevirtual 62, 3) := by decide +kernel
theorem d_Rd_readSum_24 : decode yRd_readSum.2.1 24 = .ok (.bipush 43, 2) := by decide +kernel
theorem d_Rd_readSum_26 : decode yRd_readSum.2.1 26 = .ok (.if_icmp .eq 12, 3) := by decide +kernel
theorem d_Rd_readSum_29 : decode yRd_readSum.2.1 29 = .ok (.aload_n 0, 1) := by decide +kernel
theorem d_Rd_readSum_30 : decode yRd_readSum.2.1 30 = .ok (.invokevirtual 62, 3) := by decide +kernel
theorem d_Rd_readSum_33 : decode yRd_readSum.2.1 33 = .ok (.bipush 45, 2) := by decide +kernel
theorem d_Rd_readSum_35 : decode yRd_readSum.2.1 35 = .ok (.if_icmp .ne 47, 3) := by decide +kernel
theorem d_Rd_readSum_38 : decode yRd_readSum.2.1 38 = .ok (.aload_n 0, 1) := by decide +kernel
theorem d_Rd_readSum_39 : decode yRd_readSum.2.1 39 = .ok (.invokevirtual 62, 3) := by decide +kernel
theorem d_Rd_readSum_42 : decode yRd_readSum.2.1 42 = .ok (.bipush 43, 2) := by decide +kernel
theorem d_Rd_readSum_44 : decode yRd_readSum.2.1 44 = .ok (.if_icmp .ne 7, 3) := by decide +kernel
theorem d_Rd_readSum_47 : decode yRd_readSum.2.1 47 = .ok (.iconst 4, 1) := by decide +kernel
theorem d_Rd_readSum_48 : decode yRd_readSum.2.1 48 = .ok (.goto 4, 3) := by decide +kernel
theorem d_Rd_readSum_51 : decode yRd_readSum.2.1 51 = .ok (.iconst 5, 1) := by decide +kernel
theorem d_Rd_readSum_52 : decode yRd_readSum.2.1 52 = .ok (.istore_n 2, 1) := by decide +kernel
theorem d_Rd_readSum_53 : decode yRd_readSum.2.1 53 = .ok (.aload_n 0, 1) := by decide +kernel
theorem d_Rd_readSum_54 : decode yRd_readSum.2.1 54 = .ok (.dup, 1) := by decide +kernel
theorem d_Rd_readSum_55 : decode yRd_readSum.2.1 55 = .ok (.getfield 80, 3) := by decide +kernel
theorem d_Rd_readSum_58 : decode yRd_readSum.2.1 58 = .ok (.iconst 1, 1) := by decide +kernel
theorem d_Rd_readSum_59 : decode yRd_readSum.2.1 59 = .ok (.iadd, 1) := by decide +kernel
theorem d_Rd_readSum_60 : decode yRd_readSum.2.1 60 = .ok (.putfield 80, 3) := by decide +kernel
theorem d_Rd_readSum_63 : decode yRd_readSum.2.1 63 = .ok (.aload_n 0, 1) := by decide +kernel
theorem d_Rd_readSum_64 : decode yRd_readSum.2.1 64 = .ok (.invokevirtual 125, 3) := by decide +kernel
theorem d_Rd_readSum_67 : decode yRd_readSum.2.1 67 = .ok (.aload_n 0, 1) := by decide +kernel
theorem d_Rd_readSum_68 : decode yRd_readSum.2.1 68 = .ok (.getfield 25, 3) := by decide +kernel
theorem d_Rd_readSum_71 : decode yRd_readSum.2.1 71 = .ok (.iload_n 2, 1) := by decide +kernel
theorem d_Rd_readSum_72 : decode yRd_readSum.2.1 72 = .ok (.iconst 0, 1) := by decide +kernel
theorem d_Rd_readSum_73 : decode yRd_readSum.2.1 73 = .ok (.invokevirtual 122, 3) := by decide +kernel
theorem d_Rd_readSum_76 : decode yRd_readSum.2.1 76 = .ok (.iinc 1 1, 3) := by decide +kernel
theorem d_Rd_readSum_79 : decode yRd_readSum.2.1 79 = .ok (.goto (-73), 3) := by decide +kernel
theorem d_Rd_readSum_82 : decode yRd_readSum.2.1 82 = .ok (.return_, 1) := by decide +kernel
def J_Rd_readSum_52 (k : Int32 → gb_Mem → Option (gb_Mem)) (x1 s0 : Int32) (I : gb_Mem) : Option (gb_Mem) :=
  fstf I 111 6 ((I 111 6) + 1) fun I4 =>
  fbd (F_Rd_readProduct  I4) fun I5 =>
  fbd (F_La_emit 114 s0 0 I5) fun I6 =>
  k (x1 + 1) I6
set_option maxRecDepth 4000 in
theorem j_Rd_readSum_52 (l : Launch) (d0 : Nat) {post : Option gb_AV → List gb_Ce → gb_Mem → Prop} (k : Int32 → gb_Mem → Option (gb_Mem)) (x1 s0 : Int32) (I : gb_Mem) {ρ : gb_Mem} (h : J_Rd_readSum_52 k x1 s0 I = some ρ) (hk : ∀ (z1 : Int32) (Iw : gb_Mem), k z1 Iw = some ρ → gb_Go l yRd_readSum (d0 + 3) 0 0 6 [(0, .inr (some 111)), (1, .inl z1)] [] shX Iw post) (hX : ∀ (I2 : gb_Mem), ρ = I2 → gb_Go l yRd_readSum (d0 + 3) 0 0 82 [] [] shX I2 post) : gb_Go l yRd_readSum (d0 + 3) 0 0 52 [(0, .inr (some 111)), (1, .inl x1)] [.inl s0] shX I post := by
  unfold J_Rd_readSum_52 at h
  refine go_istore_n (lv' := [(2, .inl s0), (0, .inr (some 111)), (1, .inl x1)]) d_Rd_readSum_52 rfl (by decide) rfl ?_
  refine go_aload_n (k := 1) d_Rd_readSum_53 rfl rfl ?_
  refine go_dup d_Rd_readSum_54 ?_
  refine go_geti (ci := 9) (k := 6) d_Rd_readSum_55 a_X_111 rfl (by decide) f_Rd_80 rfl ?_
  refine go_iconst (v := 1) d_Rd_readSum_58 (by decide) ?_
  refine go_iadd d_Rd_readSum_59 ?_
  obtain ⟨I4, eI4, h⟩ := fstf_e h
  refine go_putT (ci := 9) (k := 6) (I' := I4) d_Rd_readSum_60 a_X_111 rfl (by decide) f_Rd_80 rfl rfl rfl rfl rfl eI4 ?_
  refine go_aload_n (k := 1) d_Rd_readSum_63 rfl rfl ?_
  obtain ⟨I5, w1, h⟩ := fbd_e h
  refine go_callV (y := yRd_readProduct) (asr := []) (v := none) (I' := I5) (st1 := []) d_Rd_readSum_64 s_yRd_readProduct m_Rd_125 a_X_111 rfl rfl rfl (Nat.le_of_ble_eq_true rfl) rfl rfl (c_Rd_readProduct l (d0 + 0)  I4 w1) ?_
  refine go_aload_n (k := 1) d_Rd_readSum_67 rfl rfl ?_
  refine go_getr (ci := 9) (k := 9) (r := 114) d_Rd_readSum_68 a_X_111 rfl (by decide) f_Rd_25 rfl ?_
  refine go_iload_n (k := 0) d_Rd_readSum_71 rfl rfl ?_
  refine go_iconst (v := 0) d_Rd_readSum_72 (by decide) ?_
  obtain ⟨I6, w1, h⟩ := fbd_e h
  refine go_callV (y := yLa_emit) (asr := [.inl s0, .inl 0]) (v := none) (I' := I6) (st1 := []) d_Rd_readSum_73 s_yLa_emit m_Rd_122 a_X_114 rfl rfl rfl (Nat.le_of_ble_eq_true rfl) rfl rfl (c_La_emit l (d0 + 2) 114 isLa_114 s0 0 I5 w1) ?_
  refine go_iinc (k := 2) (v := x1 + 1) (lv' := [(1, .inl (x1 + 1)), (2, .inl s0), (0, .inr (some 111))]) d_Rd_readSum_76 rfl rfl (by decide) rfl ?_
  refine go_goto (tgt := 6) d_Rd_readSum_79 (by decide) ?_
  exact go_lv [2, 0] rfl (hk _ _ h)
def J_Rd_readSum_38 (k : Int32 → gb_Mem → Option (gb_Mem)) (x1 : Int32) (I : gb_Mem) : Option (gb_Mem) :=
  fbd (F_Rd_now  I) fun r3 =>
  if r3 = 43 then
    J_Rd_readSum_52 k x1 4 I
  else
    J_Rd_readSum_52 k x1 5 I
set_option maxRecDepth 4000 in
theorem j_Rd_readSum_38 (l : Launch) (d0 : Nat) {post : Option gb_AV → List gb_Ce → gb_Mem → Prop} (k : Int32 → gb_Mem → Option (gb_Mem)) (x1 : Int32) (I : gb_Mem) {ρ : gb_Mem} (h : J_Rd_readSum_38 k x1 I = some ρ) (hk : ∀ (z1 : Int32) (Iw : gb_Mem), k z1 Iw = some ρ → gb_Go l yRd_readSum (d0 + 3) 0 0 6 [(0, .inr (some 111)), (1, .inl z1)] [] shX Iw post) (hX : ∀ (I2 : gb_Mem), ρ = I2 → gb_Go l yRd_readSum (d0 + 3) 0 0 82 [] [] shX I2 post) : gb_Go l yRd_readSum (d0 + 3) 0 0 38 [(0, .inr (some 111)), (1, .inl x1)] [] shX I post := by
  unfold J_Rd_readSum_38 at h
  refine go_aload_n (k := 0) d_Rd_readSum_38 rfl rfl ?_
  obtain ⟨r3, w1, h⟩ := fbd_e h
  refine go_callV (y := yRd_now) (asr := []) (v := some (.inl r3)) (I' := I) (st1 := [.inl r3]) d_Rd_readSum_39 s_yRd_now m_Rd_62 a_X_111 rfl rfl rfl (Nat.le_of_ble_eq_true rfl) rfl rfl (c_Rd_now l (d0 + 2)  I w1) ?_
  refine go_bipush (v := 43) d_Rd_readSum_42 (by decide) ?_
  refine go_cmp_ne (tgt := 51) d_Rd_readSum_44 (by decide) (fun hc => ?_) (fun hc => ?_)
  · rw [if_neg hc] at h
    refine go_iconst (v := 5) d_Rd_readSum_51 (by decide) ?_
    exact go_lv [0, 1] rfl (j_Rd_readSum_52 l d0 k x1 5 I h hk hX)
  · rw [if_pos hc] at h
    refine go_iconst (v := 4) d_Rd_readSum_47 (by decide) ?_
    refine go_goto (tgt := 52) d_Rd_readSum_48 (by decide) ?_
    exact go_lv [0, 1] rfl (j_Rd_readSum_52 l d0 k x1 4 I h hk hX)
def L_Rd_readSum_6 : Nat → Int32 → gb_Mem → Option (gb_Mem)
  | 0, _, _ => none
  | n + 1, x1, I =>
    if 400 ≤ x1 then
      some I
    else
      if (I 111 7) = 0 then
        fbd (F_Rd_now  I) fun r2 =>
        if r2 = 43 then
          J_Rd_readSum_38 (L_Rd_readSum_6 n) x1 I
        else
          fbd (F_Rd_now  I) fun r7 =>
          if r7 = 45 then
            J_Rd_readSum_38 (L_Rd_readSum_6 n) x1 I
          else
            some I
      else
        some I
set_option maxRecDepth 4000 in
theorem l_Rd_readSum_6 (l : Launch) (d0 : Nat) {post : Option gb_AV → List gb_Ce → gb_Mem → Prop} : ∀ (n : Nat) (x1 : Int32) (I : gb_Mem) {ρ : gb_Mem} (h : L_Rd_readSum_6 n x1 I = some ρ) (hX : ∀ (I2 : gb_Mem), ρ = I2 → gb_Go l yRd_readSum (d0 + 3) 0 0 82 [] [] shX I2 post) , gb_Go l yRd_readSum (d0 + 3) 0 0 6 [(0, .inr (some 111)), (1, .inl x1)] [] shX I post := by
  intro n
  induction n with
  | zero => intro x1 I ρ h hX; cases h
  | succ n ih =>
    intro x1 I ρ h hX
    rw [L_Rd_readSum_6] at h
    refine go_iload_n (k := 1) d_Rd_readSum_6 rfl rfl ?_
    refine go_sipush (v := 400) d_Rd_readSum_7 (by decide) ?_
    refine go_cmp_ge (tgt := 82) d_Rd_readSum_10 (by decide) (fun hc => ?_) (fun hc => ?_)
    · rw [if_pos hc] at h
      exact go_lv [] rfl (hX _ (Option.some.inj h).symm)
    · rw [if_neg hc] at h
      refine go_aload_n (k := 0) d_Rd_readSum_13 rfl rfl ?_
      refine go_geti (ci := 9) (k := 7) d_Rd_readSum_14 a_X_111 rfl (by decide) f_Rd_53 rfl ?_
      refine go_if_ne (tgt := 82) d_Rd_readSum_17 (by decide) (fun hc => ?_) (fun hc => ?_)
      · rw [if_neg hc] at h
        exact go_lv [] rfl (hX _ (Option.some.inj h).symm)
      · rw [if_pos hc] at h
        refine go_aload_n (k := 0) d_Rd_readSum_20 rfl rfl ?_
        obtain ⟨r2, w1, h⟩ := fbd_e h
        refine go_callV (y := yRd_now) (asr := []) (v := some (.inl r2)) (I' := I) (st1 := [.inl r2]) d_Rd_readSum_21 s_yRd_now m_Rd_62 a_X_111 rfl rfl rfl (Nat.le_of_ble_eq_true rfl) rfl rfl (c_Rd_now l (d0 + 2)  I w1) ?_
        refine go_bipush (v := 43) d_Rd_readSum_24 (by decide) ?_
        refine go_cmp_eq (tgt := 38) d_Rd_readSum_26 (by decide) (fun hc => ?_) (fun hc => ?_)
        · rw [if_pos hc] at h
          exact go_lv [0, 1] rfl (j_Rd_readSum_38 l d0 (L_Rd_readSum_6 n) x1 I h (fun z1 Iw hh => ih z1 Iw hh hX) hX)
        · rw [if_neg hc] at h
          refine go_aload_n (k := 0) d_Rd_readSum_29 rfl rfl ?_
          obtain ⟨r7, w1, h⟩ := fbd_e h
          refine go_callV (y := yRd_now) (asr := []) (v := some (.inl r7)) (I' := I) (st1 := [.inl r7]) d_Rd_readSum_30 s_yRd_now m_Rd_62 a_X_111 rfl rfl rfl (Nat.le_of_ble_eq_true rfl) rfl rfl (c_Rd_now l (d0 + 2)  I w1) ?_
          refine go_bipush (v := 45) d_Rd_readSum_33 (by decide) ?_
          refine go_cmp_ne (tgt := 82) d_Rd_readSum_35 (by decide) (fun hc => ?_) (fun hc => ?_)
          · rw [if_neg hc] at h
            exact go_lv [] rfl (hX _ (Option.some.inj h).symm)
          · rw [if_pos hc] at h
            exact go_lv [0, 1] rfl (j_Rd_readSum_38 l d0 (L_Rd_readSum_6 n) x1 I h (fun z1 Iw hh => ih z1 Iw hh hX) hX)
def F_Rd_readSum (I : gb_Mem) : Option (gb_Mem) :=
  fbd (F_Rd_readProduct  I) fun I1 =>
  fbd (L_Rd_readSum_6 5000 0 I1) fun I8 =>
  some I8
set_option maxRecDepth 4000 in
theorem c_Rd_readSum (l : Launch) (d0 : Nat) (I : gb_Mem) {Iz : gb_Mem} (h : F_Rd_readSum I = some Iz) : gb_Cs l yRd_readSum (d0 + 3) [.inr (some 111)] shX I none Iz := by
  refine gb_Ct.of (lv := [(0, .inr (some 111))]) rfl (Nat.le_of_ble_eq_true rfl) rfl ?_
  unfold F_Rd_readSum at h
  show gb_Go l yRd_readSum (d0 + 3) 0 0 0 [(0, .inr (some 111))] [] shX I (gb_po shX none Iz)
  refine go_aload_n (k := 0) d_Rd_readSum_0 rfl rfl ?_
  obtain ⟨I1, w1, h⟩ := fbd_e h
  refine go_callV (y := yRd_readProduct) (asr := []) (v := none) (I' := I1) (st1 := []) d_Rd_readSum_1 s_yRd_readProduct m_Rd_125 a_X_111 rfl rfl rfl (Nat.le_of_ble_eq_true rfl) rfl rfl (c_Rd_readProduct l (d0 + 0)  I w1) ?_
  refine go_iconst (v := 0) d_Rd_readSum_4 (by decide) ?_
  refine go_istore_n (lv' := [(1, .inl 0), (0, .inr (some 111))]) d_Rd_readSum_5 rfl (by decide) rfl ?_
  refine go_lv [1, 0] (lv' := [(0, .inr (some 111)), (1, .inl 0)]) rfl ?_
  obtain ⟨I8, w1, h⟩ := fbd_e h
  refine l_Rd_readSum_6 l d0  5000 0 I1 w1 (fun I8_ e => ?_)
  cases e
  cases h
  exact go_return d_Rd_readSum_82 rfl gb_po_i
theorem d_Re_fewestGivenUp_0 : decode yRe_fewestGivenUp.2.1 0 = .ok (.aload_n 1, 1) := by decide +kernel
theorem d_Re_fewestGivenUp_1 : decode yRe_fewestGivenUp.2.1 1 = .ok (.getfield 21, 3) := by decide +kernel
theorem d_Re_fewestGivenUp_4 : decode yRe_fewestGivenUp.2.1 4 = .ok (.istore_n 3, 1) := by decide +kernel
theorem d_Re_fewestGivenUp_5 : decode yRe_fewestGivenUp.2.1 5 = .ok (.iconst 0, 1) := by decide +kernel
theorem d_Re_fewestGivenUp_6 : decode yRe_fewestGivenUp.2.1 6 = .ok (.istore 4, 2) := by decide +kernel
theorem d_Re_fewestGivenUp_8 : decode yRe_fewestGivenUp.2.1 8 = .ok (.iload 4, 2) := by decide +kernel
theorem d_Re_fewestGivenUp_10 : decode yRe_fewestGivenUp.2.1 10 = .ok (.iload_n 2, 1) := by decide +kernel
theorem d_Re_fewestGivenUp_11 : decode yRe_fewestGivenUp.2.1 11 = .ok (.iadd, 1) := by decide +kernel
theorem d_Re_fewestGivenUp_12 : decode yRe_fewestGivenUp.2.1 12 = .ok (.bipush 100, 2) := by decide +kernel
theorem d_Re_fewestGivenUp_14 : decode yRe_fewestGivenUp.2.1 14 = .ok (.if_icmp .gt 22, 3) := by decide +kernel
theorem d_Re_fewestGivenUp_17 : decode yRe_fewestGivenUp.2.1 17 = .ok (.iload_n 3, 1) := by decide +kernel
theorem d_Re_fewestGivenUp_18 : decode yRe_fewestGivenUp.2.1 18 = .ok (.aload_n 0, 1) := by decide +kernel
theorem d_Re_fewestGivenUp_19 : decode yRe_fewestGivenUp.2.1 19 = .ok (.aload_n 1, 1) := by decide +kernel
theorem d_Re_fewestGivenUp_20 : decode yRe_fewestGivenUp.2.1 20 = .ok (.iload 4, 2) := by decide +kernel
theorem d_Re_fewestGivenUp_22 : decode yRe_fewestGivenUp.2.1 22 = .ok (.iload_n 2, 1) := by decide +kernel
theorem d_Re_fewestGivenUp_23 : decode yRe_fewestGivenUp.2.1 23 = .ok (.invokevirtual 57, 3) := by decide +kernel
theorem d_Re_fewestGivenUp_26 : decode yRe_fewestGivenUp.2.1 26 = .ok (.invokestatic 43, 3) := by decide +kernel
theorem d_Re_fewestGivenUp_29 : decode yRe_fewestGivenUp.2.1 29 = .ok (.istore_n 3, 1) := by decide +kernel
theorem d_Re_fewestGivenUp_30 : decode yRe_fewestGivenUp.2.1 30 = .ok (.iinc 4 1, 3) := by decide +kernel
theorem d_Re_fewestGivenUp_33 : decode yRe_fewestGivenUp.2.1 33 = .ok (.goto (-25), 3) := by decide +kernel
theorem d_Re_fewestGivenUp_36 : decode yRe_fewestGivenUp.2.1 36 = .ok (.iload_n 3, 1) := by decide +kernel
theorem d_Re_fewestGivenUp_37 : decode yRe_fewestGivenUp.2.1 37 = .ok (.ireturn, 1) := by decide +kernel
def L_Re_fewestGivenUp_8 (h1 n1 : Nat) (x2 : Int32) (I : gb_Mem) : Nat → Int32 → Int32 → Option (Int32)
  | 0, _, _ => none
  | n + 1, x3, x4 =>
    if 100 < (x4 + x2) then
      some x3
    else
      fbd (F_Re_inTheWay h1 n1 x4 x2 I) fun r1 =>
      L_Re_fewestGivenUp_8 h1 n1 x2 I n (mn x3 r1) (x4 + 1)
set_option maxRecDepth 4000 in
theorem l_Re_fewestGivenUp_8 (l : Launch) (d0 : Nat) (h1 n1 : Nat) (H1 : isRo h1 n1) (x2 : Int32) (I : gb_Mem) {post : Option gb_AV → List gb_Ce → gb_Mem → Prop} : ∀ (n : Nat) (x3 x4 : Int32) {ρ : Int32} (h : L_Re_fewestGivenUp_8 h1 n1 x2 I n x3 x4 = some ρ) (hX : ∀ (o3 : Int32), ρ = o3 → gb_Go l yRe_fewestGivenUp (d0 + 3) 0 0 36 [(3, .inl o3)] [] shX I post) , gb_Go l yRe_fewestGivenUp (d0 + 3) 0 0 8 [(0, .inr (some 106)), (1, .inr (some h1)), (2, .inl x2), (3, .inl x3), (4, .inl x4)] [] shX I post := by
  intro n
  induction n with
  | zero => intro x3 x4 ρ h hX; cases h
  | succ n ih =>
    intro x3 x4 ρ h hX
    rw [L_Re_fewestGivenUp_8] at h
    refine go_iload (k := 4) d_Re_fewestGivenUp_8 rfl ?_
    refine go_iload_n (k := 2) d_Re_fewestGivenUp_10 rfl rfl ?_
    refine go_iadd d_Re_fewestGivenUp_11 ?_
    refine go_bipush (v := 100) d_Re_fewestGivenUp_12 (by decide) ?_
    refine go_cmp_gt (tgt := 36) d_Re_fewestGivenUp_14 (by decide) (fun hc => ?_) (fun hc => ?_)
    · rw [if_pos hc] at h
      exact go_lv [3] rfl (hX _ (Option.some.inj h).symm)
    · rw [if_neg hc] at h
      refine go_iload_n (k := 3) d_Re_fewestGivenUp_17 rfl rfl ?_
      refine go_aload_n (k := 0) d_Re_fewestGivenUp_18 rfl rfl ?_
      refine go_aload_n (k := 1) d_Re_fewestGivenUp_19 rfl rfl ?_
      refine go_iload (k := 4) d_Re_fewestGivenUp_20 rfl ?_
      refine go_iload_n (k := 2) d_Re_fewestGivenUp_22 rfl rfl ?_
      obtain ⟨r1, w1, h⟩ := fbd_e h
      refine go_callV (y := yRe_inTheWay) (asr := [.inr (some h1), .inl x4, .inl x2]) (v := some (.inl r1)) (I' := I) (st1 := [.inl r1, .inl x3]) d_Re_fewestGivenUp_23 s_yRe_inTheWay m_Re_57 a_X_106 rfl rfl rfl (Nat.le_of_ble_eq_true rfl) rfl rfl (c_Re_inTheWay l (d0 + 0) h1 n1 H1 x4 x2 I w1) ?_
      refine go_mmin d_Re_fewestGivenUp_26 m_Re_43 (Nat.le_of_ble_eq_true rfl) ?_
      refine go_istore_n (lv' := [(3, .inl (mn x3 r1)), (0, .inr (some 106)), (1, .inr (some h1)), (2, .inl x2), (4, .inl x4)]) d_Re_fewestGivenUp_29 rfl (by decide) rfl ?_
      refine go_iinc (k := 4) (v := x4 + 1) (lv' := [(4, .inl (x4 + 1)), (3, .inl (mn x3 r1)), (0, .inr (some 106)), (1, .inr (some h1)), (2, .inl x2)]) d_Re_fewestGivenUp_30 rfl rfl (by decide) rfl ?_
      refine go_goto (tgt := 8) d_Re_fewestGivenUp_33 (by decide) ?_
      exact go_lv [2, 3, 4, 1, 0] rfl (ih (mn x3 r1) (x4 + 1) h hX)
def F_Re_fewestGivenUp (h1 n1 : Nat) (x2 : Int32) (I : gb_Mem) : Option (Int32) :=
  fbd (L_Re_fewestGivenUp_8 h1 n1 x2 I 5000 (I h1 2) 0) fun o2 =>
  some o2
set_option maxRecDepth 4000 in
theorem c_Re_fewestGivenUp (l : Launch) (d0 : Nat) (h1 n1 : Nat) (H1 : isRo h1 n1) (x2 : Int32) (I : gb_Mem) {rz : Int32} (h : F_Re_fewestGivenUp h1 n1 x2 I = some rz) : gb_Cs l yRe_fewestGivenUp (d0 + 3) [.inr (some 106), .inr (some h1), .inl x2] shX I (some (.inl rz)) I := by
  refine gb_Ct.of (lv := [(0, .inr (some 106)), (1, .inr (some h1)), (2, .inl x2)]) rfl (Nat.le_of_ble_eq_true rfl) rfl ?_
  unfold F_Re_fewestGivenUp at h
  show gb_Go l yRe_fewestGivenUp (d0 + 3) 0 0 0 [(0, .inr (some 106)), (1, .inr (some h1)), (2, .inl x2)] [] shX I (gb_po shX (some (.inl rz)) I)
  refine go_aload_n (k := 1) d_Re_fewestGivenUp_0 rfl rfl ?_
  refine go_getiN (ci := 4) (k := 2) d_Re_fewestGivenUp_1 H1.1 rfl (by decide) f_Re_21 rfl ?_
  refine go_istore_n (lv' := [(3, .inl (I h1 2)), (0, .inr (some 106)), (1, .inr (some h1)), (2, .inl x2)]) d_Re_fewestGivenUp_4 rfl (by decide) rfl ?_
  refine go_iconst (v := 0) d_Re_fewestGivenUp_5 (by decide) ?_
  refine go_istore (lv' := [(4, .inl 0), (3, .inl (I h1 2)), (0, .inr (some 106)), (1, .inr (some h1)), (2, .inl x2)]) d_Re_fewestGivenUp_6 (by decide) rfl ?_
  refine go_lv [2, 3, 4, 1, 0] (lv' := [(0, .inr (some 106)), (1, .inr (some h1)), (2, .inl x2), (3, .inl (I h1 2)), (4, .inl 0)]) rfl ?_
  obtain ⟨o2, w1, h⟩ := fbd_e h
  refine l_Re_fewestGivenUp_8 l d0 h1 n1 H1 x2 I 5000 (I h1 2) 0 w1 (fun o2_ e => ?_)
  cases e
  refine go_iload_n (k := 0) d_Re_fewestGivenUp_36 rfl rfl ?_
  cases h
  exact go_ireturn d_Re_fewestGivenUp_37 rfl gb_po_i
theorem d_Re_freeHour_0 : decode yRe_freeHour.2.1 0 = .ok (.iconst 0, 1) := by decide +kernel
theorem d_Re_freeHour_1 : decode yRe_freeHour.2.1 1 = .ok (.istore_n 3, 1) := by decide +kernel
theorem d_Re_freeHour_2 : decode yRe_freeHour.2.1 2 = .ok (.iload_n 3, 1) := by decide +kernel
theorem d_Re_freeHour_3 : decode yRe_freeHour.2.1 3 = .ok (.iload_n 2, 1) := by decide +kernel
theorem d_Re_freeHour_4 : decode yRe_freeHour.2.1 4 = .ok (.iadd, 1) := by decide +kernel
theorem d_Re_freeHour_5 : decode yRe_freeHour.2.1 5 = .ok (.bipush 100, 2) := by decide +kernel
theorem d_Re_freeHour_7 : decode yRe_freeHour.2.1 7 = .ok (.if_icmp .gt 21, 3) := by decide +kernel
theorem d_Re_freeHour_10 : decode yRe_freeHour.2.1 10 = .ok (.aload_n 0, 1) := by decide +kernel
theorem d_Re_freeHour_11 : decode yRe_freeHour.2.1 11 = .ok (.aload_n 1, 1) := by decide +kernel
theorem d_Re_freeHour_12 : decode yRe_freeHour.2.1 12 = .ok (.iload_n 3, 1) := by decide +kernel
theorem d_Re_freeHour_13 : decode yRe_freeHour.2.1 13 = .ok (.iload_n 2, 1) := by decide +kernel
theorem d_Re_freeHour_14 : decode yRe_freeHour.2.1 14 = .ok (.invokevirtual 57, 3) := by decide +kernel
theorem d_Re_freeHour_17 : decode yRe_freeHour.2.1 17 = .ok (.ifCond .ne 5, 3) := by decide +kernel
theorem d_Re_freeHour_20 : decode yRe_freeHour.2.1 20 = .ok (.iload_n 3, 1) := by decide +kernel
theorem d_Re_freeHour_21 : decode yRe_freeHour.2.1 21 = .ok (.ireturn, 1) := by decide +kernel
theorem d_Re_freeHour_22 : decode yRe_freeHour.2.1 22 = .ok (.iinc 3 1, 3) := by decide +kernel
theorem d_Re_freeHour_25 : decode yRe_freeHour.2.1 25 = .ok (.goto (-23), 3) := by decide +kernel
theorem d_Re_freeHour_28 : decode yRe_freeHour.2.1 28 = .ok (.iconst (-1), 1) := by decide +kernel
theorem d_Re_freeHour_29 : decode yRe_freeHour.2.1 29 = .ok (.ireturn, 1) := by decide +kernel
def L_Re_freeHour_2 (h1 n1 : Nat) (x2 : Int32) (I : gb_Mem) : Nat → Int32 → Option ((Unit) ⊕ (Int32))
  | 0, _ => none
  | n + 1, x3 =>
    if 100 < (x3 + x2) then
      some (.inl ())
    else
      fbd (F_Re_inTheWay h1 n1 x3 x2 I) fun r1 =>
      if r1 = 0 then
        some (.inr x3)
      else
        L_Re_freeHour_2 h1 n1 x2 I n (x3 + 1)
set_option maxRecDepth 4000 in
theorem l_Re_freeHour_2 (l : Launch) (d0 : Nat) (h1 n1 : Nat) (H1 : isRo h1 n1) (x2 : Int32) (I : gb_Mem) {post : Option gb_AV → List gb_Ce → gb_Mem → Prop} : ∀ (n : Nat) (x3 : Int32) {ρ : (Unit) ⊕ (Int32)} (h : L_Re_freeHour_2 h1 n1 x2 I n x3 = some ρ) (hX : ρ = .inl () → gb_Go l yRe_freeHour (d0 + 3) 0 0 28 [] [] shX I post) (hR : ∀ (v : Int32), ρ = .inr v → post (some (.inl v)) shX I) , gb_Go l yRe_freeHour (d0 + 3) 0 0 2 [(0, .inr (some 106)), (1, .inr (some h1)), (2, .inl x2), (3, .inl x3)] [] shX I post := by
  intro n
  induction n with
  | zero => intro x3 ρ h hX hR; cases h
  | succ n ih =>
    intro x3 ρ h hX hR
    rw [L_Re_freeHour_2] at h
    refine go_iload_n (k := 3) d_Re_freeHour_2 rfl rfl ?_
    refine go_iload_n (k := 2) d_Re_freeHour_3 rfl rfl ?_
    refine go_iadd d_Re_freeHour_4 ?_
    refine go_bipush (v := 100) d_Re_freeHour_5 (by decide) ?_
    refine go_cmp_gt (tgt := 28) d_Re_freeHour_7 (by decide) (fun hc => ?_) (fun hc => ?_)
    · rw [if_pos hc] at h
      exact go_lv [] rfl (hX (Option.some.inj h).symm)
    · rw [if_neg hc] at h
      refine go_aload_n (k := 0) d_Re_freeHour_10 rfl rfl ?_
      refine go_aload_n (k := 1) d_Re_freeHour_11 rfl rfl ?_
      refine go_iload_n (k := 3) d_Re_freeHour_12 rfl rfl ?_
      refine go_iload_n (k := 2) d_Re_freeHour_13 rfl rfl ?_
      obtain ⟨r1, w1, h⟩ := fbd_e h
      refine go_callV (y := yRe_inTheWay) (asr := [.inr (some h1), .inl x3, .inl x2]) (v := some (.inl r1)) (I' := I) (st1 := [.inl r1]) d_Re_freeHour_14 s_yRe_inTheWay m_Re_57 a_X_106 rfl rfl rfl (Nat.le_of_ble_eq_true rfl) rfl rfl (c_Re_inTheWay l (d0 + 0) h1 n1 H1 x3 x2 I w1) ?_
      refine go_if_ne (tgt := 22) d_Re_freeHour_17 (by decide) (fun hc => ?_) (fun hc => ?_)
      · rw [if_neg hc] at h
        refine go_iinc (k := 3) (v := x3 + 1) (lv' := [(3, .inl (x3 + 1)), (0, .inr (some 106)), (1, .inr (some h1)), (2, .inl x2)]) d_Re_freeHour_22 rfl rfl (by decide) rfl ?_
        refine go_goto (tgt := 2) d_Re_freeHour_25 (by decide) ?_
        exact go_lv [1, 2, 3, 0] rfl (ih (x3 + 1) h hX hR)
      · rw [if_pos hc] at h
        refine go_iload_n (k := 3) d_Re_freeHour_20 rfl rfl ?_
        exact go_ireturn d_Re_freeHour_21 rfl (hR _ (Option.some.inj h).symm)
def F_Re_freeHour (h1 n1 : Nat) (x2 : Int32) (I : gb_Mem) : Option (Int32) :=
  fbr (L_Re_freeHour_2 h1 n1 x2 I 5000 0) (fun _ =>
    some (-1))
    (fun q2 => some q2)
set_option maxRecDepth 4000 in
theorem c_Re_freeHour (l : Launch) (d0 : Nat) (h1 n1 : Nat) (H1 : isRo h1 n1) (x2 : Int32) (I : gb_Mem) {rz : Int32} (h : F_Re_freeHour h1 n1 x2 I = some rz) : gb_Cs l yRe_freeHour (d0 + 3) [.inr (some 106), .inr (some h1), .inl x2] shX I (some (.inl rz)) I := by
  refine gb_Ct.of (lv := [(0, .inr (some 106)), (1, .inr (some h1)), (2, .inl x2)]) rfl (Nat.le_of_ble_eq_true rfl) rfl ?_
  unfold F_Re_freeHour at h
  show gb_Go l yRe_freeHour (d0 + 3) 0 0 0 [(0, .inr (some 106)), (1, .inr (some h1)), (2, .inl x2)] [] shX I (gb_po shX (some (.inl rz)) I)
  refine go_iconst (v := 0) d_Re_freeHour_0 (by decide) ?_
  refine go_istore_n (lv' := [(3, .inl 0), (0, .inr (some 106)), (1, .inr (some h1)), (2, .inl x2)]) d_Re_freeHour_1 rfl (by decide) rfl ?_
  refine go_lv [1, 2, 3, 0] (lv' := [(0, .inr (some 106)), (1, .inr (some h1)), (2, .inl x2), (3, .inl 0)]) rfl ?_
  obtain ⟨ρ, w1, w2, w3⟩ := fbr_e2 h
  refine l_Re_freeHour_2 l d0 h1 n1 H1 x2 I 5000 0 w1 (fun  e => ?_) (fun q2 e => ?_)
  · have h := w2 _ e
    try dsimp only at h
    refine go_iconst (v := (-1)) d_Re_freeHour_28 (by decide) ?_
    cases h
    exact go_ireturn d_Re_freeHour_29 rfl gb_po_i
  · have h := w3 _ e
    try dsimp only at h
    cases h
    exact gb_po_i
theorem d_Se_nextEdge_0 : decode ySe_nextEdge.2.1 0 = .ok (.iconst 0, 1) := by decide +kernel
theorem d_Se_nextEdge_1 : decode ySe_nextEdge.2.1 1 = .ok (.istore_n 3, 1) := by decide +kernel
theorem d_Se_nextEdge_2 : decode ySe_nextEdge.2.1 2 = .ok (.iconst 0, 1) := by decide +kernel
theorem d_Se_nextEdge_3 : decode ySe_nextEdge.2.1 3 = .ok (.istore 4, 2) := by decide +kernel
theorem d_Se_nextEdge_5 : decode ySe_nextEdge.2.1 5 = .ok (.iload 4, 2) := by decide +kernel
theorem d_Se_nextEdge_7 : decode ySe_nextEdge.2.1 7 = .ok (.bipush 12, 2) := by decide +kernel
theorem d_Se_nextEdge_9 : decode ySe_nextEdge.2.1 9 = .ok (.if_icmp .ge 126, 3) := by decide +kernel
theorem d_Se_nextEdge_12 : decode ySe_nextEdge.2.1 12 = .ok (.iload_n 1, 1) := by decide +kernel
theorem d_Se_nextEdge_13 : decode ySe_nextEdge.2.1 13 = .ok (.iload 4, 2) := by decide +kernel
theorem d_Se_nextEdge_15 : decode ySe_nextEdge.2.1 15 = .ok (.ishr, 1) := by decide +kernel
theorem d_Se_nextEdge_16 : decode ySe_nextEdge.2.1 16 = .ok (.iconst 1, 1) := by decide +kernel
theorem d_Se_nextEdge_17 : decode ySe_nextEdge.2.1 17 = .ok (.iand, 1) := by decide +kernel
theorem d_Se_nextEdge_18 : decode ySe_nextEdge.2.1 18 = .ok (.iconst 1, 1) := by decide +kernel
theorem d_Se_nextEdge_19 : decode ySe_nextEdge.2.1 19 = .ok (.if_icmp .ne 16, 3) := by decide +kernel
theorem d_Se_nextEdge_22 : decode ySe_nextEdge.2.1 22 = .ok (.aload_n 0, 1) := by decide +kernel
theorem d_Se_nextEdge_23 : decode ySe_nextEdge.2.1 23 = .ok (.iload 4, 2) := by decide +kernel
theorem d_Se_nextEdge_25 : decode ySe_nextEdge.2.1 25 = .ok (.invokevirtual 45, 3) := by decide +kernel
theorem d_Se_nextEdge_28 : decode ySe_nextEdge.2.1 28 = .ok (.iload_n 2, 1) := by decide +kernel
theorem d_Se_nextEdge_29 : decode ySe_nextEdge.2.1 29 = .ok (.iconst (-1), 1) := by decide +kernel
theorem d_Se_nextEdge_30 : decode ySe_nextEdge.2.1 30 = .ok (.ixor, 1) := by decide +kernel
theorem d_Se_nextEdge_31 : decode ySe_nextEdge.2.1 31 = .ok (.iand, 1) := by decide +kernel
theorem d_Se_nextEdge_32 : decode ySe_nextEdge.2.1 32 = .ok (.goto 4, 3) := by decide +kernel
theorem d_Se_nextEdge_35 : decode ySe_nextEdge.2.1 35 = .ok (.iconst 0, 1) := by decide +kernel
theorem d_Se_nextEdge_36 : decode ySe_nextEdge.2.1 36 = .ok (.istore 5, 2) := by decide +kernel
theorem d_Se_nextEdge_38 : decode ySe_nextEdge.2.1 38 = .ok (.iconst 0, 1) := by decide +kernel
theorem d_Se_nextEdge_39 : decode ySe_nextEdge.2.1 39 = .ok (.istore 6, 2) := by decide +kernel
theorem d_Se_nextEdge_41 : decode ySe_nextEdge.2.1 41 = .ok (.iload 6, 2) := by decide +kernel
theorem d_Se_nextEdge_43 : decode ySe_nextEdge.2.1 43 = .ok (.bipush 12, 2) := by decide +kernel
theorem d_Se_nextEdge_45 : decode ySe_nextEdge.2.1 45 = .ok (.if_icmp .ge 84, 3) := by decide +kernel
theorem d_Se_nextEdge_48 : decode ySe_nextEdge.2.1 48 = .ok (.iload 5, 2) := by decide +kernel
theorem d_Se_nextEdge_50 : decode ySe_nextEdge.2.1 50 = .ok (.iload 6, 2) := by decide +kernel
theorem d_Se_nextEdge_52 : decode ySe_nextEdge.2.1 52 = .ok (.ishr, 1) := by decide +kernel
theorem d_Se_nextEdge_53 : decode ySe_nextEdge.2.1 53 = .ok (.iconst 1, 1) := by decide +kernel
theorem d_Se_nextEdge_54 : decode ySe_nextEdge.2.1 54 = .ok (.iand, 1) := by decide +kernel
theorem d_Se_nextEdge_55 : decode ySe_nextEdge.2.1 55 = .ok (.iconst 1, 1) := by decide +kernel
theorem d_Se_nextEdge_56 : decode ySe_nextEdge.2.1 56 = .ok (.if_icmp .ne 67, 3) := by decide +kernel
theorem d_Se_nextEdge_59 : decode ySe_nextEdge.2.1 59 = .ok (.aload_n 0, 1) := by decide +kernel
theorem d_Se_nextEdge_60 : decode ySe_nextEdge.2.1 60 = .ok (.getfield 9, 3) := by decide +kernel
theorem d_Se_nextEdge_63 : decode ySe_nextEdge.2.1 63 = .ok (.iload 4, 2) := by decide +kernel
theorem d_Se_nextEdge_65 : decode ySe_nextEdge.2.1 65 = .ok (.iaload, 1) := by decide +kernel
theorem d_Se_nextEdge_66 : decode ySe_nextEdge.2.1 66 = .ok (.aload_n 0, 1) := by decide +kernel
theorem d_Se_nextEdge_67 : decode ySe_nextEdge.2.1 67 = .ok (.getfield 15, 3) := by decide +kernel
theorem d_Se_nextEdge_70 : decode ySe_nextEdge.2.1 70 = .ok (.getfield 49, 3) := by decide +kernel
theorem d_Se_nextEdge_73 : decode ySe_nextEdge.2.1 73 = .ok (.iconst 0, 1) := by decide +kernel
theorem d_Se_nextEdge_74 : decode ySe_nextEdge.2.1 74 = .ok (.iload 6, 2) := by decide +kernel
theorem d_Se_nextEdge_76 : decode ySe_nextEdge.2.1 76 = .ok (.invokevirtual 53, 3) := by decide +kernel
theorem d_Se_nextEdge_79 : decode ySe_nextEdge.2.1 79 = .ok (.iadd, 1) := by decide +kernel
theorem d_Se_nextEdge_80 : decode ySe_nextEdge.2.1 80 = .ok (.istore 7, 2) := by decide +kernel
theorem d_Se_nextEdge_82 : decode ySe_nextEdge.2.1 82 = .ok (.aload_n 0, 1) := by decide +kernel
theorem d_Se_nextEdge_83 : decode ySe_nextEdge.2.1 83 = .ok (.getfield 9, 3) := by decide +kernel
theorem d_Se_nextEdge_86 : decode ySe_nextEdge.2.1 86 = .ok (.iload 6, 2) := by decide +kernel
theorem d_Se_nextEdge_88 : decode ySe_nextEdge.2.1 88 = .ok (.iload_n 3, 1) := by decide +kernel
theorem d_Se_nextEdge_89 : decode ySe_nextEdge.2.1 89 = .ok (.iload 6, 2) := by decide +kernel
theorem d_Se_nextEdge_91 : decode ySe_nextEdge.2.1 91 = .ok (.ishr, 1) := by decide +kernel
theorem d_Se_nextEdge_92 : decode ySe_nextEdge.2.1 92 = .ok (.iconst 1, 1) := by decide +kernel
theorem d_Se_nextEdge_93 : decode ySe_nextEdge.2.1 93 = .ok (.iand, 1) := by decide +kernel
theorem d_Se_nextEdge_94 : decode ySe_nextEdge.2.1 94 = .ok (.iconst 1, 1) := by decide +kernel
theorem d_Se_nextEdge_95 : decode ySe_nextEdge.2.1 95 = .ok (.if_icmp .ne 18, 3) := by decide +kernel
theorem d_Se_nextEdge_98 : decode ySe_nextEdge.2.1 98 = .ok (.aload_n 0, 1) := by decide +kernel
theorem d_Se_nextEdge_99 : decode ySe_nextEdge.2.1 99 = .ok (.getfield 9, 3) := by decide +kernel
theorem d_Se_nextEdge_102 : decode ySe_nextEdge.2.1 102 = .ok (.iload 6, 2) := by decide +kernel
theorem d_Se_nextEdge_104 : decode ySe_nextEdge.2.1 104 = .ok (.iaload, 1) := by decide +kernel
theorem d_Se_nextEdge_105 : decode ySe_nextEdge.2.1 105 = .ok (.iload 7, 2) := by decide +kernel
theorem d_Se_nextEdge_107 : decode ySe_nextEdge.2.1 107 = .ok (.invokestatic 58, 3) := by decide +kernel
theorem d_Se_nextEdge_110 : decode ySe_nextEdge.2.1 110 = .ok (.goto 5, 3) := by decide +kernel
theorem d_Se_nextEdge_113 : decode ySe_nextEdge.2.1 113 = .ok (.iload 7, 2) := by decide +kernel
theorem d_Se_nextEdge_115 : decode ySe_nextEdge.2.1 115 = .ok (.iastore, 1) := by decide +kernel
theorem d_Se_nextEdge_116 : decode ySe_nextEdge.2.1 116 = .ok (.iload_n 3, 1) := by decide +kernel
theorem d_Se_nextEdge_117 : decode ySe_nextEdge.2.1 117 = .ok (.iconst 1, 1) := by decide +kernel
theorem d_Se_nextEdge_118 : decode ySe_nextEdge.2.1 118 = .ok (.iload 6, 2) := by decide +kernel
theorem d_Se_nextEdge_120 : decode ySe_nextEdge.2.1 120 = .ok (.ishl, 1) := by decide +kernel
theorem d_Se_nextEdge_121 : decode ySe_nextEdge.2.1 121 = .ok (.ior, 1) := by decide +kernel
theorem d_Se_nextEdge_122 : decode ySe_nextEdge.2.1 122 = .ok (.istore_n 3, 1) := by decide +kernel
theorem d_Se_nextEdge_123 : decode ySe_nextEdge.2.1 123 = .ok (.iinc 6 1, 3) := by decide +kernel
theorem d_Se_nextEdge_126 : decode ySe_nextEdge.2.1 126 = .ok (.goto (-85), 3) := by decide +kernel
theorem d_Se_nextEdge_129 : decode ySe_nextEdge.2.1 129 = .ok (.iinc 4 1, 3) := by decide +kernel
theorem d_Se_nextEdge_132 : decode ySe_nextEdge.2.1 132 = .ok (.goto (-127), 3) := by decide +kernel
theorem d_Se_nextEdge_135 : decode ySe_nextEdge.2.1 135 = .ok (.iload_n 3, 1) := by decide +kernel
theorem d_Se_nextEdge_136 : decode ySe_nextEdge.2.1 136 = .ok (.ireturn, 1) := by decide +kernel
def J_Se_nextEdge_123 (k : Int32 → Int32 → gb_Mem → Option (Int32 × gb_Mem)) (x1 x2 x3 x4 x5 x6 : Int32) (I : gb_Mem) : Option (Int32 × gb_Mem) :=
  k x3 (x6 + 1) I
set_option maxRecDepth 4000 in
theorem j_Se_nextEdge_123 (l : Launch) (d0 : Nat) {post : Option gb_AV → List gb_Ce → gb_Mem → Prop} (k : Int32 → Int32 → gb_Mem → Option (Int32 × gb_Mem)) (x1 x2 x3 x4 x5 x6 : Int32) (I : gb_Mem) {ρ : Int32 × gb_Mem} (h : J_Se_nextEdge_123 k x1 x2 x3 x4 x5 x6 I = some ρ) (hk : ∀ (z3 z6 : Int32) (Iw : gb_Mem), k z3 z6 Iw = some ρ → gb_Go l ySe_nextEdge (d0 + 3) 0 0 41 [(0, .inr (some 104)), (1, .inl x1), (2, .inl x2), (3, .inl z3), (4, .inl x4), (5, .inl x5), (6, .inl z6)] [] shX Iw post) (hX : ∀ (o3 : Int32) (I2 : gb_Mem), ρ = (o3, I2) → gb_Go l ySe_nextEdge (d0 + 3) 0 0 129 [(0, .inr (some 104)), (1, .inl x1), (2, .inl x2), (3, .inl o3), (4, .inl x4)] [] shX I2 post) : gb_Go l ySe_nextEdge (d0 + 3) 0 0 123 [(0, .inr (some 104)), (1, .inl x1), (2, .inl x2), (3, .inl x3), (4, .inl x4), (5, .inl x5), (6, .inl x6)] [] shX I post := by
  unfold J_Se_nextEdge_123 at h
  refine go_iinc (k := 6) (v := x6 + 1) (lv' := [(6, .inl (x6 + 1)), (0, .inr (some 104)), (1, .inl x1), (2, .inl x2), (3, .inl x3), (4, .inl x4), (5, .inl x5)]) d_Se_nextEdge_123 rfl rfl (by decide) rfl ?_
  refine go_goto (tgt := 41) d_Se_nextEdge_126 (by decide) ?_
  exact go_lv [1, 2, 3, 4, 5, 6, 0] rfl (hk _ _ _ h)
def J_Se_nextEdge_115 (k : Int32 → Int32 → gb_Mem → Option (Int32 × gb_Mem)) (x1 x2 x3 x4 x5 x6 s0 s1 : Int32) (I : gb_Mem) : Option (Int32 × gb_Mem) :=
  fsto I 105 12 s1 s0 fun I3 =>
  flt (x3 ||| (1 <<< (x6 &&& 31))) fun y4 =>
  J_Se_nextEdge_123 k x1 x2 y4 x4 x5 x6 I3
set_option maxRecDepth 4000 in
theorem j_Se_nextEdge_115 (l : Launch) (d0 : Nat) {post : Option gb_AV → List gb_Ce → gb_Mem → Prop} (k : Int32 → Int32 → gb_Mem → Option (Int32 × gb_Mem)) (x1 x2 x3 x4 x5 x6 s0 s1 : Int32) (I : gb_Mem) {ρ : Int32 × gb_Mem} (h : J_Se_nextEdge_115 k x1 x2 x3 x4 x5 x6 s0 s1 I = some ρ) (hk : ∀ (z3 z6 : Int32) (Iw : gb_Mem), k z3 z6 Iw = some ρ → gb_Go l ySe_nextEdge (d0 + 3) 0 0 41 [(0, .inr (some 104)), (1, .inl x1), (2, .inl x2), (3, .inl z3), (4, .inl x4), (5, .inl x5), (6, .inl z6)] [] shX Iw post) (hX : ∀ (o3 : Int32) (I2 : gb_Mem), ρ = (o3, I2) → gb_Go l ySe_nextEdge (d0 + 3) 0 0 129 [(0, .inr (some 104)), (1, .inl x1), (2, .inl x2), (3, .inl o3), (4, .inl x4)] [] shX I2 post) : gb_Go l ySe_nextEdge (d0 + 3) 0 0 115 [(0, .inr (some 104)), (1, .inl x1), (2, .inl x2), (3, .inl x3), (4, .inl x4), (5, .inl x5), (6, .inl x6)] [.inl s0, .inl s1, .inr (some 105)] shX I post := by
  unfold J_Se_nextEdge_115 at h
  obtain ⟨hi, I3, eI3, h⟩ := fsto_e h
  refine go_iast (I' := I3) d_Se_nextEdge_115 a_X_105 hi eI3 ?_
  refine go_iload_n (k := 3) d_Se_nextEdge_116 rfl rfl ?_
  refine go_iconst (v := 1) d_Se_nextEdge_117 (by decide) ?_
  refine go_iload (k := 6) d_Se_nextEdge_118 rfl ?_
  refine go_ishl d_Se_nextEdge_120 ?_
  refine go_ior d_Se_nextEdge_121 ?_
  obtain ⟨y4, ey4, h⟩ := flt_e h
  refine go_top ey4 ?_
  refine go_istore_n (lv' := [(3, .inl y4), (0, .inr (some 104)), (1, .inl x1), (2, .inl x2), (4, .inl x4), (5, .inl x5), (6, .inl x6)]) d_Se_nextEdge_122 rfl (by decide) rfl ?_
  exact go_lv [1, 2, 3, 0, 4, 5, 6] rfl (j_Se_nextEdge_123 l d0 k x1 x2 y4 x4 x5 x6 I3 h hk hX)
def L_Se_nextEdge_41 (x1 x2 x4 x5 : Int32) : Nat → Int32 → Int32 → gb_Mem → Option (Int32 × gb_Mem)
  | 0, _, _, _ => none
  | n + 1, x3, x6, I =>
    if 12 ≤ x6 then
      some (x3, I)
    else
      if ((x5 >>> (x6 &&& 31)) &&& 1) = 1 then
        flod I 105 12 x4 fun v1 =>
        fbd (F_Ta_ofSeat 2 0 x6 I) fun r2 =>
        if ((x3 >>> (x6 &&& 31)) &&& 1) = 1 then
          flod I 105 12 x6 fun v5 =>
          J_Se_nextEdge_115 (L_Se_nextEdge_41 x1 x2 x4 x5 n) x1 x2 x3 x4 x5 x6 (mx v5 (v1 + r2)) x6 I
        else
          J_Se_nextEdge_115 (L_Se_nextEdge_41 x1 x2 x4 x5 n) x1 x2 x3 x4 x5 x6 (v1 + r2) x6 I
      else
        J_Se_nextEdge_123 (L_Se_nextEdge_41 x1 x2 x4 x5 n) x1 x2 x3 x4 x5 x6 I
set_option maxRecDepth 4000 in
theorem l_Se_nextEdge_41 (l : Launch) (d0 : Nat) (x1 x2 x4 x5 : Int32) {post : Option gb_AV → List gb_Ce → gb_Mem → Prop} : ∀ (n : Nat) (x3 x6 : Int32) (I : gb_Mem) {ρ : Int32 × gb_Mem} (h : L_Se_nextEdge_41 x1 x2 x4 x5 n x3 x6 I = some ρ) (hX : ∀ (o3 : Int32) (I2 : gb_Mem), ρ = (o3, I2) → gb_Go l ySe_nextEdge (d0 + 3) 0 0 129 [(0, .inr (some 104)), (1, .inl x1), (2, .inl x2), (3, .inl o3), (4, .inl x4)] [] shX I2 post) , gb_Go l ySe_nextEdge (d0 + 3) 0 0 41 [(0, .inr (some 104)), (1, .inl x1), (2, .inl x2), (3, .inl x3), (4, .inl x4), (5, .inl x5), (6, .inl x6)] [] shX I post := by
  intro n
  induction n with
  | zero => intro x3 x6 I ρ h hX; cases h
  | succ n ih =>
    intro x3 x6 I ρ h hX
    rw [L_Se_nextEdge_41] at h
    refine go_iload (k := 6) d_Se_nextEdge_41 rfl ?_
    refine go_bipush (v := 12) d_Se_nextEdge_43 (by decide) ?_
    refine go_cmp_ge (tgt := 129) d_Se_nextEdge_45 (by decide) (fun hc => ?_) (fun hc => ?_)
    · rw [if_pos hc] at h
      exact go_lv [0, 1, 2, 3, 4] rfl (hX _ _ (Option.some.inj h).symm)
    · rw [if_neg hc] at h
      refine go_iload (k := 5) d_Se_nextEdge_48 rfl ?_
      refine go_iload (k := 6) d_Se_nextEdge_50 rfl ?_
      refine go_ishr d_Se_nextEdge_52 ?_
      refine go_iconst (v := 1) d_Se_nextEdge_53 (by decide) ?_
      refine go_iand d_Se_nextEdge_54 ?_
      refine go_iconst (v := 1) d_Se_nextEdge_55 (by decide) ?_
      refine go_cmp_ne (tgt := 123) d_Se_nextEdge_56 (by decide) (fun hc => ?_) (fun hc => ?_)
      · rw [if_neg hc] at h
        exact go_lv [0, 1, 2, 3, 4, 5, 6] rfl (j_Se_nextEdge_123 l d0 (L_Se_nextEdge_41 x1 x2 x4 x5 n) x1 x2 x3 x4 x5 x6 I h (fun z3 z6 Iw hh => ih z3 z6 Iw hh hX) hX)
      · rw [if_pos hc] at h
        refine go_aload_n (k := 0) d_Se_nextEdge_59 rfl rfl ?_
        refine go_getr (ci := 7) (k := 1) (r := 105) d_Se_nextEdge_60 a_X_104 rfl (by decide) f_Se_9 rfl ?_
        refine go_iload (k := 4) d_Se_nextEdge_63 rfl ?_
        obtain ⟨hi, v1, ev1, h⟩ := flod_e h
        refine go_iald2 d_Se_nextEdge_65 a_X_105 hi ev1 ?_
        refine go_aload_n (k := 0) d_Se_nextEdge_66 rfl rfl ?_
        refine go_getr (ci := 7) (k := 0) (r := 1) d_Se_nextEdge_67 a_X_104 rfl (by decide) f_Se_15 rfl ?_
        refine go_getrN (ci := 1) (k := 0) (r := 2) d_Se_nextEdge_70 a_X_1 rfl (by decide) f_Se_49 rfl ?_
        refine go_iconst (v := 0) d_Se_nextEdge_73 (by decide) ?_
        refine go_iload (k := 6) d_Se_nextEdge_74 rfl ?_
        obtain ⟨r2, w1, h⟩ := fbd_e h
        refine go_callV (y := yTa_ofSeat) (asr := [.inl 0, .inl x6]) (v := some (.inl r2)) (I' := I) (st1 := [.inl r2, .inl v1]) d_Se_nextEdge_76 s_yTa_ofSeat m_Se_53 a_X_2 rfl rfl rfl (Nat.le_of_ble_eq_true rfl) rfl rfl (c_Ta_ofSeat l (d0 + 1) 2 isTa_2 0 x6 I w1) ?_
        refine go_iadd d_Se_nextEdge_79 ?_
        refine go_istore (lv' := [(7, .inl (v1 + r2)), (0, .inr (some 104)), (1, .inl x1), (2, .inl x2), (3, .inl x3), (4, .inl x4), (5, .inl x5), (6, .inl x6)]) d_Se_nextEdge_80 (by decide) rfl ?_
        refine go_aload_n (k := 1) d_Se_nextEdge_82 rfl rfl ?_
        refine go_getr (ci := 7) (k := 1) (r := 105) d_Se_nextEdge_83 a_X_104 rfl (by decide) f_Se_9 rfl ?_
        refine go_iload (k := 7) d_Se_nextEdge_86 rfl ?_
        refine go_iload_n (k := 4) d_Se_nextEdge_88 rfl rfl ?_
        refine go_iload (k := 7) d_Se_nextEdge_89 rfl ?_
        refine go_ishr d_Se_nextEdge_91 ?_
        refine go_iconst (v := 1) d_Se_nextEdge_92 (by decide) ?_
        refine go_iand d_Se_nextEdge_93 ?_
        refine go_iconst (v := 1) d_Se_nextEdge_94 (by decide) ?_
        refine go_cmp_ne (tgt := 113) d_Se_nextEdge_95 (by decide) (fun hc => ?_) (fun hc => ?_)
        · rw [if_neg hc] at h
          refine go_iload (k := 0) d_Se_nextEdge_113 rfl ?_
          exact go_lv [1, 2, 3, 4, 5, 6, 7] rfl (j_Se_nextEdge_115 l d0 (L_Se_nextEdge_41 x1 x2 x4 x5 n) x1 x2 x3 x4 x5 x6 (v1 + r2) x6 I h (fun z3 z6 Iw hh => ih z3 z6 Iw hh hX) hX)
        · rw [if_pos hc] at h
          refine go_aload_n (k := 1) d_Se_nextEdge_98 rfl rfl ?_
          refine go_getr (ci := 7) (k := 1) (r := 105) d_Se_nextEdge_99 a_X_104 rfl (by decide) f_Se_9 rfl ?_
          refine go_iload (k := 7) d_Se_nextEdge_102 rfl ?_
          obtain ⟨hi, v5, ev5, h⟩ := flod_e h
          refine go_iald2 d_Se_nextEdge_104 a_X_105 hi ev5 ?_
          refine go_iload (k := 0) d_Se_nextEdge_105 rfl ?_
          refine go_mmax d_Se_nextEdge_107 m_Se_58 (Nat.le_of_ble_eq_true rfl) ?_
          refine go_goto (tgt := 115) d_Se_nextEdge_110 (by decide) ?_
          exact go_lv [1, 2, 3, 4, 5, 6, 7] rfl (j_Se_nextEdge_115 l d0 (L_Se_nextEdge_41 x1 x2 x4 x5 n) x1 x2 x3 x4 x5 x6 (mx v5 (v1 + r2)) x6 I h (fun z3 z6 Iw hh => ih z3 z6 Iw hh hX) hX)
def J_Se_nextEdge_36 (k : Int32 → Int32 → gb_Mem → Option (Int32 × gb_Mem)) (x1 x2 x3 x4 s0 : Int32) (I : gb_Mem) : Option (Int32 × gb_Mem) :=
  fbd (L_Se_nextEdge_41 x1 x2 x4 s0 5000 x3 0 I) fun (o6, I7) =>
  k o6 (x4 + 1) I7
set_option maxRecDepth 4000 in
theorem j_Se_nextEdge_36 (l : Launch) (d0 : Nat) {post : Option gb_AV → List gb_Ce → gb_Mem → Prop} (k : Int32 → Int32 → gb_Mem → Option (Int32 × gb_Mem)) (x1 x2 x3 x4 s0 : Int32) (I : gb_Mem) {ρ : Int32 × gb_Mem} (h : J_Se_nextEdge_36 k x1 x2 x3 x4 s0 I = some ρ) (hk : ∀ (z3 z4 : Int32) (Iw : gb_Mem), k z3 z4 Iw = some ρ → gb_Go l ySe_nextEdge (d0 + 3) 0 0 5 [(0, .inr (some 104)), (1, .inl x1), (2, .inl x2), (3, .inl z3), (4, .inl z4)] [] shX Iw post) (hX : ∀ (o3 : Int32) (I2 : gb_Mem), ρ = (o3, I2) → gb_Go l ySe_nextEdge (d0 + 3) 0 0 135 [(3, .inl o3)] [] shX I2 post) : gb_Go l ySe_nextEdge (d0 + 3) 0 0 36 [(0, .inr (some 104)), (1, .inl x1), (2, .inl x2), (3, .inl x3), (4, .inl x4)] [.inl s0] shX I post := by
  unfold J_Se_nextEdge_36 at h
  refine go_istore (lv' := [(5, .inl s0), (0, .inr (some 104)), (1, .inl x1), (2, .inl x2), (3, .inl x3), (4, .inl x4)]) d_Se_nextEdge_36 (by decide) rfl ?_
  refine go_iconst (v := 0) d_Se_nextEdge_38 (by decide) ?_
  refine go_istore (lv' := [(6, .inl 0), (5, .inl s0), (0, .inr (some 104)), (1, .inl x1), (2, .inl x2), (3, .inl x3), (4, .inl x4)]) d_Se_nextEdge_39 (by decide) rfl ?_
  refine go_lv [2, 3, 4, 5, 6, 1, 0] (lv' := [(0, .inr (some 104)), (1, .inl x1), (2, .inl x2), (3, .inl x3), (4, .inl x4), (5, .inl s0), (6, .inl 0)]) rfl ?_
  obtain ⟨⟨o6, I7⟩, w1, h⟩ := fbd_e h
  try dsimp only at h
  refine l_Se_nextEdge_41 l d0 x1 x2 x4 s0 5000 x3 0 I w1 (fun o6_ I7_ e => ?_)
  cases e
  refine go_iinc (k := 4) (v := x4 + 1) (lv' := [(4, .inl (x4 + 1)), (0, .inr (some 104)), (1, .inl x1), (2, .inl x2), (3, .inl o6)]) d_Se_nextEdge_129 rfl rfl (by decide) rfl ?_
  refine go_goto (tgt := 5) d_Se_nextEdge_132 (by decide) ?_
  exact go_lv [1, 2, 3, 4, 0] rfl (hk _ _ _ h)
def L_Se_nextEdge_5 (x1 x2 : Int32) : Nat → Int32 → Int32 → gb_Mem → Option (Int32 × gb_Mem)
  | 0, _, _, _ => none
  | n + 1, x3, x4, I =>
    if 12 ≤ x4 then
      some (x3, I)
    else
      if ((x1 >>> (x4 &&& 31)) &&& 1) = 1 then
        fbd (F_Se_reachedFrom x4 I) fun r8 =>
        J_Se_nextEdge_36 (L_Se_nextEdge_5 x1 x2 n) x1 x2 x3 x4 (r8 &&& (x2 ^^^ (-1))) I
      else
        J_Se_nextEdge_36 (L_Se_nextEdge_5 x1 x2 n) x1 x2 x3 x4 0 I
set_option maxRecDepth 4000 in
theorem l_Se_nextEdge_5 (l : Launch) (d0 : Nat) (x1 x2 : Int32) {post : Option gb_AV → List gb_Ce → gb_Mem → Prop} : ∀ (n : Nat) (x3 x4 : Int32) (I : gb_Mem) {ρ : Int32 × gb_Mem} (h : L_Se_nextEdge_5 x1 x2 n x3 x4 I = some ρ) (hX : ∀ (o3 : Int32) (I2 : gb_Mem), ρ = (o3, I2) → gb_Go l ySe_nextEdge (d0 + 3) 0 0 135 [(3, .inl o3)] [] shX I2 post) , gb_Go l ySe_nextEdge (d0 + 3) 0 0 5 [(0, .inr (some 104)), (1, .inl x1), (2, .inl x2), (3, .inl x3), (4, .inl x4)] [] shX I post := by
  intro n
  induction n with
  | zero => intro x3 x4 I ρ h hX; cases h
  | succ n ih =>
    intro x3 x4 I ρ h hX
    rw [L_Se_nextEdge_5] at h
    refine go_iload (k := 4) d_Se_nextEdge_5 rfl ?_
    refine go_bipush (v := 12) d_Se_nextEdge_7 (by decide) ?_
    refine go_cmp_ge (tgt := 135) d_Se_nextEdge_9 (by decide) (fun hc => ?_) (fun hc => ?_)
    · rw [if_pos hc] at h
      exact go_lv [3] rfl (hX _ _ (Option.some.inj h).symm)
    · rw [if_neg hc] at h
      refine go_iload_n (k := 1) d_Se_nextEdge_12 rfl rfl ?_
      refine go_iload (k := 4) d_Se_nextEdge_13 rfl ?_
      refine go_ishr d_Se_nextEdge_15 ?_
      refine go_iconst (v := 1) d_Se_nextEdge_16 (by decide) ?_
      refine go_iand d_Se_nextEdge_17 ?_
      refine go_iconst (v := 1) d_Se_nextEdge_18 (by decide) ?_
      refine go_cmp_ne (tgt := 35) d_Se_nextEdge_19 (by decide) (fun hc => ?_) (fun hc => ?_)
      · rw [if_neg hc] at h
        refine go_iconst (v := 0) d_Se_nextEdge_35 (by decide) ?_
        exact go_lv [0, 1, 2, 3, 4] rfl (j_Se_nextEdge_36 l d0 (L_Se_nextEdge_5 x1 x2 n) x1 x2 x3 x4 0 I h (fun z3 z4 Iw hh => ih z3 z4 Iw hh hX) hX)
      · rw [if_pos hc] at h
        refine go_aload_n (k := 0) d_Se_nextEdge_22 rfl rfl ?_
        refine go_iload (k := 4) d_Se_nextEdge_23 rfl ?_
        obtain ⟨r8, w1, h⟩ := fbd_e h
        refine go_callV (y := ySe_reachedFrom) (asr := [.inl x4]) (v := some (.inl r8)) (I' := I) (st1 := [.inl r8]) d_Se_nextEdge_25 s_ySe_reachedFrom m_Se_45 a_X_104 rfl rfl rfl (Nat.le_of_ble_eq_true rfl) rfl rfl (c_Se_reachedFrom l (d0 + 0) x4 I w1) ?_
        refine go_iload_n (k := 2) d_Se_nextEdge_28 rfl rfl ?_
        refine go_iconst (v := (-1)) d_Se_nextEdge_29 (by decide) ?_
        refine go_ixor d_Se_nextEdge_30 ?_
        refine go_iand d_Se_nextEdge_31 ?_
        refine go_goto (tgt := 36) d_Se_nextEdge_32 (by decide) ?_
        exact go_lv [0, 1, 2, 3, 4] rfl (j_Se_nextEdge_36 l d0 (L_Se_nextEdge_5 x1 x2 n) x1 x2 x3 x4 (r8 &&& (x2 ^^^ (-1))) I h (fun z3 z4 Iw hh => ih z3 z4 Iw hh hX) hX)
def F_Se_nextEdge (x1 x2 : Int32) (I : gb_Mem) : Option (Int32 × gb_Mem) :=
  fbd (L_Se_nextEdge_5 x1 x2 5000 0 0 I) fun (o9, I10) =>
  some (o9, I10)
set_option maxRecDepth 4000 in
theorem c_Se_nextEdge (l : Launch) (d0 : Nat) (x1 x2 : Int32) (I : gb_Mem) {rz : Int32} {Iz : gb_Mem} (h : F_Se_nextEdge x1 x2 I = some (rz, Iz)) : gb_Cs l ySe_nextEdge (d0 + 3) [.inr (some 104), .inl x1, .inl x2] shX I (some (.inl rz)) Iz := by
  refine gb_Ct.of (lv := [(0, .inr (some 104)), (1, .inl x1), (2, .inl x2)]) rfl (Nat.le_of_ble_eq_true rfl) rfl ?_
  unfold F_Se_nextEdge at h
  show gb_Go l ySe_nextEdge (d0 + 3) 0 0 0 [(0, .inr (some 104)), (1, .inl x1), (2, .inl x2)] [] shX I (gb_po shX (some (.inl rz)) Iz)
  refine go_iconst (v := 0) d_Se_nextEdge_0 (by decide) ?_
  refine go_istore_n (lv' := [(3, .inl 0), (0, .inr (some 104)), (1, .inl x1), (2, .inl x2)]) d_Se_nextEdge_1 rfl (by decide) rfl ?_
  refine go_iconst (v := 0) d_Se_nextEdge_2 (by decide) ?_
  refine go_istore (lv' := [(4, .inl 0), (3, .inl 0), (0, .inr (some 104)), (1, .inl x1), (2, .inl x2)]) d_Se_nextEdge_3 (by decide) rfl ?_
  refine go_lv [2, 3, 4, 1, 0] (lv' := [(0, .inr (some 104)), (1, .inl x1), (2, .inl x2), (3, .inl 0), (4, .inl 0)]) rfl ?_
  obtain ⟨⟨o9, I10⟩, w1, h⟩ := fbd_e h
  try dsimp only at h
  refine l_Se_nextEdge_5 l d0 x1 x2 5000 0 0 I w1 (fun o9_ I10_ e => ?_)
  cases e
  refine go_iload_n (k := 0) d_Se_nextEdge_135 rfl rfl ?_
  cases h
  exact go_ireturn d_Se_nextEdge_136 rfl gb_po_i
theorem d_Co_land_0 : decode yCo_land.2.1 0 = .ok (.iconst 0, 1) := by decide +kernel
theorem d_Co_land_1 : decode yCo_land.2.1 1 = .ok (.aload_n 0, 1) := by decide +kernel
theorem d_Co_land_2 : decode yCo_land.2.1 2 = .ok (.getfield 19, 3) := by decide +kernel
theorem d_Co_land_5 : decode yCo_land.2.1 5 = .ok (.iconst 1, 1) := by decide +kernel
theorem d_Co_land_6 : decode yCo_land.2.1 6 = .ok (.iload_n 1, 1) := by decide +kernel
theorem d_Co_land_7 : decode yCo_land.2.1 7 = .ok (.invokevirtual 68, 3) := by decide +kernel
theorem d_Co_land_10 : decode yCo_land.2.1 10 = .ok (.aload_n 0, 1) := by decide +kernel
theorem d_Co_land_11 : decode yCo_land.2.1 11 = .ok (.getfield 19, 3) := by decide +kernel
theorem d_Co_land_14 : decode yCo_land.2.1 14 = .ok (.iconst 4, 1) := by decide +kernel
theorem d_Co_land_15 : decode yCo_land.2.1 15 = .ok (.iload_n 1, 1) := by decide +kernel
theorem d_Co_land_16 : decode yCo_land.2.1 16 = .ok (.invokevirtual 68, 3) := by decide +kernel
theorem d_Co_land_19 : decode yCo_land.2.1 19 = .ok (.isub, 1) := by decide +kernel
theorem d_Co_land_20 : decode yCo_land.2.1 20 = .ok (.invokestatic 141, 3) := by decide +kernel
theorem d_Co_land_23 : decode yCo_land.2.1 23 = .ok (.istore_n 2, 1) := by decide +kernel
theorem d_Co_land_24 : decode yCo_land.2.1 24 = .ok (.aload_n 0, 1) := by decide +kernel
theorem d_Co_land_25 : decode yCo_land.2.1 25 = .ok (.getfield 19, 3) := by decide +kernel
theorem d_Co_land_28 : decode yCo_land.2.1 28 = .ok (.aload_n 0, 1) := by decide +kernel
theorem d_Co_land_29 : decode yCo_land.2.1 29 = .ok (.getfield 19, 3) := by decide +kernel
theorem d_Co_land_32 : decode yCo_land.2.1 32 = .ok (.iconst 2, 1) := by decide +kernel
theorem d_Co_land_33 : decode yCo_land.2.1 33 = .ok (.iload_n 1, 1) := by decide +kernel
theorem d_Co_land_34 : decode yCo_land.2.1 34 = .ok (.invokevirtual 68, 3) := by decide +kernel
theorem d_Co_land_37 : decode yCo_land.2.1 37 = .ok (.aload_n 0, 1) := by decide +kernel
theorem d_Co_land_38 : decode yCo_land.2.1 38 = .ok (.getfield 19, 3) := by decide +kernel
theorem d_Co_land_41 : decode yCo_land.2.1 41 = .ok (.iconst 0, 1) := by decide +kernel
theorem d_Co_land_42 : decode yCo_land.2.1 42 = .ok (.iload_n 1, 1) := by decide +kernel
theorem d_Co_land_43 : decode yCo_land.2.1 43 = .ok (.invokevirtual 68, 3) := by decide +kernel
theorem d_Co_land_46 : decode yCo_land.2.1 46 = .ok (.iload_n 2, 1) := by decide +kernel
theorem d_Co_land_47 : decode yCo_land.2.1 47 = .ok (.invokevirtual 144, 3) := by decide +kernel
theorem d_Co_land_50 : decode yCo_land.2.1 50 = .ok (.aload_n 0, 1) := by decide +kernel
theorem d_Co_land_51 : decode yCo_land.2.1 51 = .ok (.getfield 19, 3) := by decide +kernel
theorem d_Co_land_54 : decode yCo_land.2.1 54 = .ok (.iconst 5, 1) := by decide +kernel
theorem d_Co_land_55 : decode yCo_land.2.1 55 = .ok (.iload_n 1, 1) := by decide +kernel
theorem d_Co_land_56 : decode yCo_land.2.1 56 = .ok (.aload_n 0, 1) := by decide +kernel
theorem d_Co_land_57 : decode yCo_land.2.1 57 = .ok (.getfield 19, 3) := by decide +kernel
theorem d_Co_land_60 : decode yCo_land.2.1 60 = .ok (.iconst 5, 1) := by decide +kernel
theorem d_Co_land_61 : decode yCo_land.2.1 61 = .ok (.iload_n 1, 1) := by decide +kernel
theorem d_Co_land_62 : decode yCo_land.2.1 62 = .ok (.invokevirtual 68, 3) := by decide +kernel
theorem d_Co_land_65 : decode yCo_land.2.1 65 = .ok (.iconst 1, 1) := by decide +kernel
theorem d_Co_land_66 : decode yCo_land.2.1 66 = .ok (.iadd, 1) := by decide +kernel
theorem d_Co_land_67 : decode yCo_land.2.1 67 = .ok (.invokevirtual 57, 3) := by decide +kernel
theorem d_Co_land_70 : decode yCo_land.2.1 70 = .ok (.aload_n 0, 1) := by decide +kernel
theorem d_Co_land_71 : decode yCo_land.2.1 71 = .ok (.getfield 19, 3) := by decide +kernel
theorem d_Co_land_74 : decode yCo_land.2.1 74 = .ok (.iconst 1, 1) := by decide +kernel
theorem d_Co_land_75 : decode yCo_land.2.1 75 = .ok (.iload_n 1, 1) := by decide +kernel
theorem d_Co_land_76 : decode yCo_land.2.1 76 = .ok (.iconst 0, 1) := by decide +kernel
theorem d_Co_land_77 : decode yCo_land.2.1 77 = .ok (.invokevirtual 57, 3) := by decide +kernel
theorem d_Co_land_80 : decode yCo_land.2.1 80 = .ok (.aload_n 0, 1) := by decide +kernel
theorem d_Co_land_81 : decode yCo_land.2.1 81 = .ok (.getfield 19, 3) := by decide +kernel
theorem d_Co_land_84 : decode yCo_land.2.1 84 = .ok (.iconst 4, 1) := by decide +kernel
theorem d_Co_land_85 : decode yCo_land.2.1 85 = .ok (.iload_n 1, 1) := by decide +kernel
theorem d_Co_land_86 : decode yCo_land.2.1 86 = .ok (.iconst 0, 1) := by decide +kernel
theorem d_Co_land_87 : decode yCo_land.2.1 87 = .ok (.invokevirtual 57, 3) := by decide +kernel
theorem d_Co_land_90 : decode yCo_land.2.1 90 = .ok (.iload_n 1, 1) := by decide +kernel
theorem d_Co_land_91 : decode yCo_land.2.1 91 = .ok (.iconst 0, 1) := by decide +kernel
theorem d_Co_land_92 : decode yCo_land.2.1 92 = .ok (.bipush 7, 2) := by decide +kernel
theorem d_Co_land_94 : decode yCo_land.2.1 94 = .ok (.invokestatic 27, 3) := by decide +kernel
theorem d_Co_land_97 : decode yCo_land.2.1 97 = .ok (.ifCond .eq 10, 3) := by decide +kernel
theorem d_Co_land_100 : decode yCo_land.2.1 100 = .ok (.aload_n 0, 1) := by decide +kernel
theorem d_Co_land_101 : decode yCo_land.2.1 101 = .ok (.getfield 9, 3) := by decide +kernel
theorem d_Co_land_104 : decode yCo_land.2.1 104 = .ok (.iload_n 1, 1) := by decide +kernel
theorem d_Co_land_105 : decode yCo_land.2.1 105 = .ok (.iload_n 2, 1) := by decide +kernel
theorem d_Co_land_106 : decode yCo_land.2.1 106 = .ok (.iastore, 1) := by decide +kernel
theorem d_Co_land_107 : decode yCo_land.2.1 107 = .ok (.aload_n 0, 1) := by decide +kernel
theorem d_Co_land_108 : decode yCo_land.2.1 108 = .ok (.iconst 2, 1) := by decide +kernel
theorem d_Co_land_109 : decode yCo_land.2.1 109 = .ok (.iload_n 1, 1) := by decide +kernel
theorem d_Co_land_110 : decode yCo_land.2.1 110 = .ok (.iload_n 2, 1) := by decide +kernel
theorem d_Co_land_111 : decode yCo_land.2.1 111 = .ok (.invokevirtual 61, 3) := by decide +kernel
theorem d_Co_land_114 : decode yCo_land.2.1 114 = .ok (.aload_n 0, 1) := by decide +kernel
theorem d_Co_land_115 : decode yCo_land.2.1 115 = .ok (.iload_n 1, 1) := by decide +kernel
theorem d_Co_land_116 : decode yCo_land.2.1 116 = .ok (.invokevirtual 147, 3) := by decide +kernel
theorem d_Co_land_119 : decode yCo_land.2.1 119 = .ok (.return_, 1) := by decide +kernel
def J_Co_land_107 (h0 t0 : Nat) (x1 x2 : Int32) (I : gb_Mem) : Option (gb_Mem) :=
  fbd (F_Co_write h0 t0 2 x1 x2 I) fun I10 =>
  fbd (F_Co_setOutAgain h0 t0 x1 I10) fun I11 =>
  some I11
set_option maxRecDepth 4000 in
theorem j_Co_land_107 (l : Launch) (d0 : Nat) (h0 t0 : Nat) (H0 : isCo h0 t0) (x1 x2 : Int32) (I : gb_Mem) {Iz : gb_Mem} (h : J_Co_land_107 h0 t0 x1 x2 I = some Iz) : gb_Go l yCo_land (d0 + 4) 0 0 107 [(0, .inr (some h0)), (1, .inl x1), (2, .inl x2)] [] shX I (gb_po shX none Iz) := by
  unfold J_Co_land_107 at h
  refine go_aload_n (k := 0) d_Co_land_107 rfl rfl ?_
  refine go_iconst (v := 2) d_Co_land_108 (by decide) ?_
  refine go_iload_n (k := 1) d_Co_land_109 rfl rfl ?_
  refine go_iload_n (k := 2) d_Co_land_110 rfl rfl ?_
  obtain ⟨I10, w1, h⟩ := fbd_e h
  refine go_callV (y := yCo_write) (asr := [.inl 2, .inl x1, .inl x2]) (v := none) (I' := I10) (st1 := []) d_Co_land_111 s_yCo_write m_Co_61 H0.1 rfl rfl rfl (Nat.le_of_ble_eq_true rfl) rfl rfl (c_Co_write l (d0 + 2) h0 t0 H0 2 x1 x2 I w1) ?_
  refine go_aload_n (k := 0) d_Co_land_114 rfl rfl ?_
  refine go_iload_n (k := 1) d_Co_land_115 rfl rfl ?_
  obtain ⟨I11, w1, h⟩ := fbd_e h
  refine go_callV (y := yCo_setOutAgain) (asr := [.inl x1]) (v := none) (I' := I11) (st1 := []) d_Co_land_116 s_yCo_setOutAgain m_Co_147 H0.1 rfl rfl rfl (Nat.le_of_ble_eq_true rfl) rfl rfl (c_Co_setOutAgain l (d0 + 0) h0 t0 H0 x1 I10 w1) ?_
  cases h
  exact go_return d_Co_land_119 rfl gb_po_i
def F_Co_land (h0 t0 : Nat) (x1 : Int32) (I : gb_Mem) : Option (gb_Mem) :=
  fbd (F_Ta_ofBoat t0 1 x1 I) fun r1 =>
  fbd (F_Ta_ofBoat t0 4 x1 I) fun r2 =>
  fbd (F_Ta_ofBoat t0 2 x1 I) fun r3 =>
  fbd (F_Ta_ofBoat t0 0 x1 I) fun r4 =>
  fbd (F_Ta_addGot t0 r3 r4 (mx 0 (r1 - r2)) I) fun I5 =>
  fbd (F_Ta_ofBoat t0 5 x1 I5) fun r6 =>
  fbd (F_Ta_putBoat t0 5 x1 (r6 + 1) I5) fun I7 =>
  fbd (F_Ta_putBoat t0 1 x1 0 I7) fun I8 =>
  fbd (F_Ta_putBoat t0 4 x1 0 I8) fun I9 =>
  if (F_Gb_within x1 0 7 I9) = 0 then
    J_Co_land_107 h0 t0 x1 (mx 0 (r1 - r2)) I9
  else
    fsto I9 (h0 + 1) 8 x1 (mx 0 (r1 - r2)) fun I12 =>
    J_Co_land_107 h0 t0 x1 (mx 0 (r1 - r2)) I12
set_option maxRecDepth 4000 in
theorem c_Co_land (l : Launch) (d0 : Nat) (h0 t0 : Nat) (H0 : isCo h0 t0) (x1 : Int32) (I : gb_Mem) {Iz : gb_Mem} (h : F_Co_land h0 t0 x1 I = some Iz) : gb_Cs l yCo_land (d0 + 4) [.inr (some h0), .inl x1] shX I none Iz := by
  refine gb_Ct.of (lv := [(0, .inr (some h0)), (1, .inl x1)]) rfl (Nat.le_of_ble_eq_true rfl) rfl ?_
  unfold F_Co_land at h
  show gb_Go l yCo_land (d0 + 4) 0 0 0 [(0, .inr (some h0)), (1, .inl x1)] [] shX I (gb_po shX none Iz)
  refine go_iconst (v := 0) d_Co_land_0 (by decide) ?_
  refine go_aload_n (k := 0) d_Co_land_1 rfl rfl ?_
  refine go_getr (ci := 6) (k := 1) (r := t0) d_Co_land_2 H0.1 rfl (by decide) f_Co_19 rfl ?_
  refine go_iconst (v := 1) d_Co_land_5 (by decide) ?_
  refine go_iload_n (k := 1) d_Co_land_6 rfl rfl ?_
  obtain ⟨r1, w1, h⟩ := fbd_e h
  refine go_callV (y := yTa_ofBoat) (asr := [.inl 1, .inl x1]) (v := some (.inl r1)) (I' := I) (st1 := [.inl r1, .inl 0]) d_Co_land_7 s_yTa_ofBoat m_Co_68 H0.2.2.1 rfl rfl rfl (Nat.le_of_ble_eq_true rfl) rfl rfl (c_Ta_ofBoat l (d0 + 2) t0 H0.2.2 1 x1 I w1) ?_
  refine go_aload_n (k := 0) d_Co_land_10 rfl rfl ?_
  refine go_getr (ci := 6) (k := 1) (r := t0) d_Co_land_11 H0.1 rfl (by decide) f_Co_19 rfl ?_
  refine go_iconst (v := 4) d_Co_land_14 (by decide) ?_
  refine go_iload_n (k := 1) d_Co_land_15 rfl rfl ?_
  obtain ⟨r2, w1, h⟩ := fbd_e h
  refine go_callV (y := yTa_ofBoat) (asr := [.inl 4, .inl x1]) (v := some (.inl r2)) (I' := I) (st1 := [.inl r2, .inl r1, .inl 0]) d_Co_land_16 s_yTa_ofBoat m_Co_68 H0.2.2.1 rfl rfl rfl (Nat.le_of_ble_eq_true rfl) rfl rfl (c_Ta_ofBoat l (d0 + 2) t0 H0.2.2 4 x1 I w1) ?_
  refine go_isub d_Co_land_19 ?_
  refine go_mmax d_Co_land_20 m_Co_141 (Nat.le_of_ble_eq_true rfl) ?_
  refine go_istore_n (lv' := [(2, .inl (mx 0 (r1 - r2))), (0, .inr (some h0)), (1, .inl x1)]) d_Co_land_23 rfl (by decide) rfl ?_
  refine go_aload_n (k := 1) d_Co_land_24 rfl rfl ?_
  refine go_getr (ci := 6) (k := 1) (r := t0) d_Co_land_25 H0.1 rfl (by decide) f_Co_19 rfl ?_
  refine go_aload_n (k := 1) d_Co_land_28 rfl rfl ?_
  refine go_getr (ci := 6) (k := 1) (r := t0) d_Co_land_29 H0.1 rfl (by decide) f_Co_19 rfl ?_
  refine go_iconst (v := 2) d_Co_land_32 (by decide) ?_
  refine go_iload_n (k := 2) d_Co_land_33 rfl rfl ?_
  obtain ⟨r3, w1, h⟩ := fbd_e h
  refine go_callV (y := yTa_ofBoat) (asr := [.inl 2, .inl x1]) (v := some (.inl r3)) (I' := I) (st1 := [.inl r3, .inr (some t0)]) d_Co_land_34 s_yTa_ofBoat m_Co_68 H0.2.2.1 rfl rfl rfl (Nat.le_of_ble_eq_true rfl) rfl rfl (c_Ta_ofBoat l (d0 + 2) t0 H0.2.2 2 x1 I w1) ?_
  refine go_aload_n (k := 1) d_Co_land_37 rfl rfl ?_
  refine go_getr (ci := 6) (k := 1) (r := t0) d_Co_land_38 H0.1 rfl (by decide) f_Co_19 rfl ?_
  refine go_iconst (v := 0) d_Co_land_41 (by decide) ?_
  refine go_iload_n (k := 2) d_Co_land_42 rfl rfl ?_
  obtain ⟨r4, w1, h⟩ := fbd_e h
  refine go_callV (y := yTa_ofBoat) (asr := [.inl 0, .inl x1]) (v := some (.inl r4)) (I' := I) (st1 := [.inl r4, .inl r3, .inr (some t0)]) d_Co_land_43 s_yTa_ofBoat m_Co_68 H0.2.2.1 rfl rfl rfl (Nat.le_of_ble_eq_true rfl) rfl rfl (c_Ta_ofBoat l (d0 + 2) t0 H0.2.2 0 x1 I w1) ?_
  refine go_iload_n (k := 0) d_Co_land_46 rfl rfl ?_
  obtain ⟨I5, w1, h⟩ := fbd_e h
  refine go_callV (y := yTa_addGot) (asr := [.inl r3, .inl r4, .inl (mx 0 (r1 - r2))]) (v := none) (I' := I5) (st1 := []) d_Co_land_47 s_yTa_addGot m_Co_144 H0.2.2.1 rfl rfl rfl (Nat.le_of_ble_eq_true rfl) rfl rfl (c_Ta_addGot l (d0 + 2) t0 H0.2.2 r3 r4 (mx 0 (r1 - r2)) I w1) ?_
  refine go_aload_n (k := 1) d_Co_land_50 rfl rfl ?_
  refine go_getr (ci := 6) (k := 1) (r := t0) d_Co_land_51 H0.1 rfl (by decide) f_Co_19 rfl ?_
  refine go_iconst (v := 5) d_Co_land_54 (by decide) ?_
  refine go_iload_n (k := 2) d_Co_land_55 rfl rfl ?_
  refine go_aload_n (k := 1) d_Co_land_56 rfl rfl ?_
  refine go_getr (ci := 6) (k := 1) (r := t0) d_Co_land_57 H0.1 rfl (by decide) f_Co_19 rfl ?_
  refine go_iconst (v := 5) d_Co_land_60 (by decide) ?_
  refine go_iload_n (k := 2) d_Co_land_61 rfl rfl ?_
  obtain ⟨r6, w1, h⟩ := fbd_e h
  refine go_callV (y := yTa_ofBoat) (asr := [.inl 5, .inl x1]) (v := some (.inl r6)) (I' := I5) (st1 := [.inl r6, .inl x1, .inl 5, .inr (some t0)]) d_Co_land_62 s_yTa_ofBoat m_Co_68 H0.2.2.1 rfl rfl rfl (Nat.le_of_ble_eq_true rfl) rfl rfl (c_Ta_ofBoat l (d0 + 2) t0 H0.2.2 5 x1 I5 w1) ?_
  refine go_iconst (v := 1) d_Co_land_65 (by decide) ?_
  refine go_iadd d_Co_land_66 ?_
  obtain ⟨I7, w1, h⟩ := fbd_e h
  refine go_callV (y := yTa_putBoat) (asr := [.inl 5, .inl x1, .inl (r6 + 1)]) (v := none) (I' := I7) (st1 := []) d_Co_land_67 s_yTa_putBoat m_Co_57 H0.2.2.1 rfl rfl rfl (Nat.le_of_ble_eq_true rfl) rfl rfl (c_Ta_putBoat l (d0 + 2) t0 H0.2.2 5 x1 (r6 + 1) I5 w1) ?_
  refine go_aload_n (k := 1) d_Co_land_70 rfl rfl ?_
  refine go_getr (ci := 6) (k := 1) (r := t0) d_Co_land_71 H0.1 rfl (by decide) f_Co_19 rfl ?_
  refine go_iconst (v := 1) d_Co_land_74 (by decide) ?_
  refine go_iload_n (k := 2) d_Co_land_75 rfl rfl ?_
  refine go_iconst (v := 0) d_Co_land_76 (by decide) ?_
  obtain ⟨I8, w1, h⟩ := fbd_e h
  refine go_callV (y := yTa_putBoat) (asr := [.inl 1, .inl x1, .inl 0]) (v := none) (I' := I8) (st1 := []) d_Co_land_77 s_yTa_putBoat m_Co_57 H0.2.2.1 rfl rfl rfl (Nat.le_of_ble_eq_true rfl) rfl rfl (c_Ta_putBoat l (d0 + 2) t0 H0.2.2 1 x1 0 I7 w1) ?_
  refine go_aload_n (k := 1) d_Co_land_80 rfl rfl ?_
  refine go_getr (ci := 6) (k := 1) (r := t0) d_Co_land_81 H0.1 rfl (by decide) f_Co_19 rfl ?_
  refine go_iconst (v := 4) d_Co_land_84 (by decide) ?_
  refine go_iload_n (k := 2) d_Co_land_85 rfl rfl ?_
  refine go_iconst (v := 0) d_Co_land_86 (by decide) ?_
  obtain ⟨I9, w1, h⟩ := fbd_e h
  refine go_callV (y := yTa_putBoat) (asr := [.inl 4, .inl x1, .inl 0]) (v := none) (I' := I9) (st1 := []) d_Co_land_87 s_yTa_putBoat m_Co_57 H0.2.2.1 rfl rfl rfl (Nat.le_of_ble_eq_true rfl) rfl rfl (c_Ta_putBoat l (d0 + 2) t0 H0.2.2 4 x1 0 I8 w1) ?_
  refine go_iload_n (k := 2) d_Co_land_90 rfl rfl ?_
  refine go_iconst (v := 0) d_Co_land_91 (by decide) ?_
  refine go_bipush (v := 7) d_Co_land_92 (by decide) ?_
  refine go_callSN (y := yGb_within) (asr := [.inl x1, .inl 0, .inl 7]) (v := some (.inl (F_Gb_within x1 0 7 I9))) (I' := I9) (st1 := [.inl (F_Gb_within x1 0 7 I9)]) d_Co_land_94 s_yGb_within m_Co_27 rfl (Nat.le_of_ble_eq_true rfl) rfl rfl (c_Gb_within l (d0 + 3) x1 0 7 I9) ?_
  refine go_if_eq (tgt := 107) d_Co_land_97 (by decide) (fun hc => ?_) (fun hc => ?_)
  · rw [if_pos hc] at h
    exact go_lv [1, 2, 0] rfl (j_Co_land_107 l d0 h0 t0 H0 x1 (mx 0 (r1 - r2)) I9 h)
  · rw [if_neg hc] at h
    refine go_aload_n (k := 1) d_Co_land_100 rfl rfl ?_
    refine go_getr (ci := 6) (k := 3) (r := (h0 + 1)) d_Co_land_101 H0.1 rfl (by decide) f_Co_9 rfl ?_
    refine go_iload_n (k := 2) d_Co_land_104 rfl rfl ?_
    refine go_iload_n (k := 0) d_Co_land_105 rfl rfl ?_
    obtain ⟨hi, I12, eI12, h⟩ := fsto_e h
    refine go_iast (I' := I12) d_Co_land_106 H0.2.1 hi eI12 ?_
    exact go_lv [1, 2, 0] rfl (j_Co_land_107 l d0 h0 t0 H0 x1 (mx 0 (r1 - r2)) I12 h)
theorem d_Co_serve_0 : decode yCo_serve.2.1 0 = .ok (.aload_n 0, 1) := by decide +kernel
theorem d_Co_serve_1 : decode yCo_serve.2.1 1 = .ok (.getfield 15, 3) := by decide +kernel
theorem d_Co_serve_4 : decode yCo_serve.2.1 4 = .ok (.getfield 81, 3) := by decide +kernel
theorem d_Co_serve_7 : decode yCo_serve.2.1 7 = .ok (.astore_n 1, 1) := by decide +kernel
theorem d_Co_serve_8 : decode yCo_serve.2.1 8 = .ok (.iconst 0, 1) := by decide +kernel
theorem d_Co_serve_9 : decode yCo_serve.2.1 9 = .ok (.istore_n 2, 1) := by decide +kernel
theorem d_Co_serve_10 : decode yCo_serve.2.1 10 = .ok (.iload_n 2, 1) := by decide +kernel
theorem d_Co_serve_11 : decode yCo_serve.2.1 11 = .ok (.aload_n 1, 1) := by decide +kernel
theorem d_Co_serve_12 : decode yCo_serve.2.1 12 = .ok (.getfield 87, 3) := by decide +kernel
theorem d_Co_serve_15 : decode yCo_serve.2.1 15 = .ok (.if_icmp .ge 47, 3) := by decide +kernel
theorem d_Co_serve_18 : decode yCo_serve.2.1 18 = .ok (.aload_n 1, 1) := by decide +kernel
theorem d_Co_serve_19 : decode yCo_serve.2.1 19 = .ok (.iload_n 2, 1) := by decide +kernel
theorem d_Co_serve_20 : decode yCo_serve.2.1 20 = .ok (.iconst 0, 1) := by decide +kernel
theorem d_Co_serve_21 : decode yCo_serve.2.1 21 = .ok (.invokevirtual 92, 3) := by decide +kernel
theorem d_Co_serve_24 : decode yCo_serve.2.1 24 = .ok (.aload_n 0, 1) := by decide +kernel
theorem d_Co_serve_25 : decode yCo_serve.2.1 25 = .ok (.getfield 19, 3) := by decide +kernel
theorem d_Co_serve_28 : decode yCo_serve.2.1 28 = .ok (.getfield 54, 3) := by decide +kernel
theorem d_Co_serve_31 : decode yCo_serve.2.1 31 = .ok (.if_icmp .ne 25, 3) := by decide +kernel
theorem d_Co_serve_34 : decode yCo_serve.2.1 34 = .ok (.aload_n 0, 1) := by decide +kernel
theorem d_Co_serve_35 : decode yCo_serve.2.1 35 = .ok (.aload_n 1, 1) := by decide +kernel
theorem d_Co_serve_36 : decode yCo_serve.2.1 36 = .ok (.iload_n 2, 1) := by decide +kernel
theorem d_Co_serve_37 : decode yCo_serve.2.1 37 = .ok (.iconst 1, 1) := by decide +kernel
theorem d_Co_serve_38 : decode yCo_serve.2.1 38 = .ok (.invokevirtual 92, 3) := by decide +kernel
theorem d_Co_serve_41 : decode yCo_serve.2.1 41 = .ok (.aload_n 1, 1) := by decide +kernel
theorem d_Co_serve_42 : decode yCo_serve.2.1 42 = .ok (.iload_n 2, 1) := by decide +kernel
theorem d_Co_serve_43 : decode yCo_serve.2.1 43 = .ok (.iconst 2, 1) := by decide +kernel
theorem d_Co_serve_44 : decode yCo_serve.2.1 44 = .ok (.invokevirtual 92, 3) := by decide +kernel
theorem d_Co_serve_47 : decode yCo_serve.2.1 47 = .ok (.aload_n 1, 1) := by decide +kernel
theorem d_Co_serve_48 : decode yCo_serve.2.1 48 = .ok (.iload_n 2, 1) := by decide +kernel
theorem d_Co_serve_49 : decode yCo_serve.2.1 49 = .ok (.iconst 3, 1) := by decide +kernel
theorem d_Co_serve_50 : decode yCo_serve.2.1 50 = .ok (.invokevirtual 92, 3) := by decide +kernel
theorem d_Co_serve_53 : decode yCo_serve.2.1 53 = .ok (.invokevirtual 95, 3) := by decide +kernel
theorem d_Co_serve_56 : decode yCo_serve.2.1 56 = .ok (.iinc 2 1, 3) := by decide +kernel
theorem d_Co_serve_59 : decode yCo_serve.2.1 59 = .ok (.goto (-49), 3) := by decide +kernel
theorem d_Co_serve_62 : decode yCo_serve.2.1 62 = .ok (.return_, 1) := by decide +kernel
def J_Co_serve_56 (h0 t0 : Nat) (k : Int32 → gb_Mem → Option (gb_Mem)) (x2 : Int32) (I : gb_Mem) : Option (gb_Mem) :=
  k (x2 + 1) I
set_option maxRecDepth 4000 in
theorem j_Co_serve_56 (l : Launch) (d0 : Nat) (h0 t0 : Nat) (H0 : isCo h0 t0) {post : Option gb_AV → List gb_Ce → gb_Mem → Prop} (k : Int32 → gb_Mem → Option (gb_Mem)) (x2 : Int32) (I : gb_Mem) {ρ : gb_Mem} (h : J_Co_serve_56 h0 t0 k x2 I = some ρ) (hk : ∀ (z2 : Int32) (Iw : gb_Mem), k z2 Iw = some ρ → gb_Go l yCo_serve (d0 + 4) 0 0 10 [(0, .inr (some h0)), (1, .inr (some 13)), (2, .inl z2)] [] shX Iw post) (hX : ∀ (I2 : gb_Mem), ρ = I2 → gb_Go l yCo_serve (d0 + 4) 0 0 62 [] [] shX I2 post) : gb_Go l yCo_serve (d0 + 4) 0 0 56 [(0, .inr (some h0)), (1, .inr (some 13)), (2, .inl x2)] [] shX I post := by
  unfold J_Co_serve_56 at h
  refine go_iinc (k := 2) (v := x2 + 1) (lv' := [(2, .inl (x2 + 1)), (0, .inr (some h0)), (1, .inr (some 13))]) d_Co_serve_56 rfl rfl (by decide) rfl ?_
  refine go_goto (tgt := 10) d_Co_serve_59 (by decide) ?_
  exact go_lv [1, 2, 0] rfl (hk _ _ h)
def L_Co_serve_10 (h0 t0 : Nat) : Nat → Int32 → gb_Mem → Option (gb_Mem)
  | 0, _, _ => none
  | n + 1, x2, I =>
    if (I 13 2) ≤ x2 then
      some I
    else
      fbd (F_Ro_cell 13 64 x2 0 I) fun r1 =>
      if r1 = (I t0 4) then
        fbd (F_Ro_cell 13 64 x2 1 I) fun r2 =>
        fbd (F_Ro_cell 13 64 x2 2 I) fun r3 =>
        fbd (F_Ro_cell 13 64 x2 3 I) fun r4 =>
        fbd (F_Co_serveLine h0 t0 r2 r3 r4 I) fun I5 =>
        J_Co_serve_56 h0 t0 (L_Co_serve_10 h0 t0 n) x2 I5
      else
        J_Co_serve_56 h0 t0 (L_Co_serve_10 h0 t0 n) x2 I
set_option maxRecDepth 4000 in
theorem l_Co_serve_10 (l : Launch) (d0 : Nat) (h0 t0 : Nat) (H0 : isCo h0 t0) {post : Option gb_AV → List gb_Ce → gb_Mem → Prop} : ∀ (n : Nat) (x2 : Int32) (I : gb_Mem) {ρ : gb_Mem} (h : L_Co_serve_10 h0 t0 n x2 I = some ρ) (hX : ∀ (I2 : gb_Mem), ρ = I2 → gb_Go l yCo_serve (d0 + 4) 0 0 62 [] [] shX I2 post) , gb_Go l yCo_serve (d0 + 4) 0 0 10 [(0, .inr (some h0)), (1, .inr (some 13)), (2, .inl x2)] [] shX I post := by
  intro n
  induction n with
  | zero => intro x2 I ρ h hX; cases h
  | succ n ih =>
    intro x2 I ρ h hX
    rw [L_Co_serve_10] at h
    refine go_iload_n (k := 2) d_Co_serve_10 rfl rfl ?_
    refine go_aload_n (k := 1) d_Co_serve_11 rfl rfl ?_
    refine go_getiN (ci := 4) (k := 2) d_Co_serve_12 a_X_13 rfl (by decide) f_Co_87 rfl ?_
    refine go_cmp_ge (tgt := 62) d_Co_serve_15 (by decide) (fun hc => ?_) (fun hc => ?_)
    · rw [if_pos hc] at h
      exact go_lv [] rfl (hX _ (Option.some.inj h).symm)
    · rw [if_neg hc] at h
      refine go_aload_n (k := 1) d_Co_serve_18 rfl rfl ?_
      refine go_iload_n (k := 2) d_Co_serve_19 rfl rfl ?_
      refine go_iconst (v := 0) d_Co_serve_20 (by decide) ?_
      obtain ⟨r1, w1, h⟩ := fbd_e h
      refine go_callV (y := yRo_cell) (asr := [.inl x2, .inl 0]) (v := some (.inl r1)) (I' := I) (st1 := [.inl r1]) d_Co_serve_21 s_yRo_cell m_Co_92 a_X_13 rfl rfl rfl (Nat.le_of_ble_eq_true rfl) rfl rfl (c_Ro_cell l (d0 + 2) 13 64 isRo_13 x2 0 I w1) ?_
      refine go_aload_n (k := 0) d_Co_serve_24 rfl rfl ?_
      refine go_getr (ci := 6) (k := 1) (r := t0) d_Co_serve_25 H0.1 rfl (by decide) f_Co_19 rfl ?_
      refine go_getiN (ci := 2) (k := 4) d_Co_serve_28 H0.2.2.1 rfl (by decide) f_Co_54 rfl ?_
      refine go_cmp_ne (tgt := 56) d_Co_serve_31 (by decide) (fun hc => ?_) (fun hc => ?_)
      · rw [if_neg hc] at h
        exact go_lv [0, 1, 2] rfl (j_Co_serve_56 l d0 h0 t0 H0 (L_Co_serve_10 h0 t0 n) x2 I h (fun z2 Iw hh => ih z2 Iw hh hX) hX)
      · rw [if_pos hc] at h
        refine go_aload_n (k := 0) d_Co_serve_34 rfl rfl ?_
        refine go_aload_n (k := 1) d_Co_serve_35 rfl rfl ?_
        refine go_iload_n (k := 2) d_Co_serve_36 rfl rfl ?_
        refine go_iconst (v := 1) d_Co_serve_37 (by decide) ?_
        obtain ⟨r2, w1, h⟩ := fbd_e h
        refine go_callV (y := yRo_cell) (asr := [.inl x2, .inl 1]) (v := some (.inl r2)) (I' := I) (st1 := [.inl r2, .inr (some h0)]) d_Co_serve_38 s_yRo_cell m_Co_92 a_X_13 rfl rfl rfl (Nat.le_of_ble_eq_true rfl) rfl rfl (c_Ro_cell l (d0 + 2) 13 64 isRo_13 x2 1 I w1) ?_
        refine go_aload_n (k := 1) d_Co_serve_41 rfl rfl ?_
        refine go_iload_n (k := 2) d_Co_serve_42 rfl rfl ?_
        refine go_iconst (v := 2) d_Co_serve_43 (by decide) ?_
        obtain ⟨r3, w1, h⟩ := fbd_e h
        refine go_callV (y := yRo_cell) (asr := [.inl x2, .inl 2]) (v := some (.inl r3)) (I' := I) (st1 := [.inl r3, .inl r2, .inr (some h0)]) d_Co_serve_44 s_yRo_cell m_Co_92 a_X_13 rfl rfl rfl (Nat.le_of_ble_eq_true rfl) rfl rfl (c_Ro_cell l (d0 + 2) 13 64 isRo_13 x2 2 I w1) ?_
        refine go_aload_n (k := 1) d_Co_serve_47 rfl rfl ?_
        refine go_iload_n (k := 2) d_Co_serve_48 rfl rfl ?_
        refine go_iconst (v := 3) d_Co_serve_49 (by decide) ?_
        obtain ⟨r4, w1, h⟩ := fbd_e h
        refine go_callV (y := yRo_cell) (asr := [.inl x2, .inl 3]) (v := some (.inl r4)) (I' := I) (st1 := [.inl r4, .inl r3, .inl r2, .inr (some h0)]) d_Co_serve_50 s_yRo_cell m_Co_92 a_X_13 rfl rfl rfl (Nat.le_of_ble_eq_true rfl) rfl rfl (c_Ro_cell l (d0 + 2) 13 64 isRo_13 x2 3 I w1) ?_
        obtain ⟨I5, w1, h⟩ := fbd_e h
        refine go_callV (y := yCo_serveLine) (asr := [.inl r2, .inl r3, .inl r4]) (v := none) (I' := I5) (st1 := []) d_Co_serve_53 s_yCo_serveLine m_Co_95 H0.1 rfl rfl rfl (Nat.le_of_ble_eq_true rfl) rfl rfl (c_Co_serveLine l (d0 + 0) h0 t0 H0 r2 r3 r4 I w1) ?_
        exact go_lv [0, 1, 2] rfl (j_Co_serve_56 l d0 h0 t0 H0 (L_Co_serve_10 h0 t0 n) x2 I5 h (fun z2 Iw hh => ih z2 Iw hh hX) hX)
def F_Co_serve (h0 t0 : Nat) (I : gb_Mem) : Option (gb_Mem) :=
  fbd (L_Co_serve_10 h0 t0 5000 0 I) fun I6 =>
  some I6
set_option maxRecDepth 4000 in
theorem c_Co_serve (l : Launch) (d0 : Nat) (h0 t0 : Nat) (H0 : isCo h0 t0) (I : gb_Mem) {Iz : gb_Mem} (h : F_Co_serve h0 t0 I = some Iz) : gb_Cs l yCo_serve (d0 + 4) [.inr (some h0)] shX I none Iz := by
  refine gb_Ct.of (lv := [(0, .inr (some h0))]) rfl (Nat.le_of_ble_eq_true rfl) rfl ?_
  unfold F_Co_serve at h
  show gb_Go l yCo_serve (d0 + 4) 0 0 0 [(0, .inr (some h0))] [] shX I (gb_po shX none Iz)
  refine go_aload_n (k := 0) d_Co_serve_0 rfl rfl ?_
  refine go_getr (ci := 6) (k := 0) (r := 1) d_Co_serve_1 H0.1 rfl (by decide) f_Co_15 rfl ?_
  refine go_getrN (ci := 1) (k := 3) (r := 13) d_Co_serve_4 a_X_1 rfl (by decide) f_Co_81 rfl ?_
  refine go_astore_n (lv' := [(1, .inr (some 13)), (0, .inr (some h0))]) d_Co_serve_7 rfl (by decide) rfl ?_
  refine go_iconst (v := 0) d_Co_serve_8 (by decide) ?_
  refine go_istore_n (lv' := [(2, .inl 0), (1, .inr (some 13)), (0, .inr (some h0))]) d_Co_serve_9 rfl (by decide) rfl ?_
  refine go_lv [2, 1, 0] (lv' := [(0, .inr (some h0)), (1, .inr (some 13)), (2, .inl 0)]) rfl ?_
  obtain ⟨I6, w1, h⟩ := fbd_e h
  refine l_Co_serve_10 l d0 h0 t0 H0 5000 0 I w1 (fun I6_ e => ?_)
  cases e
  cases h
  exact go_return d_Co_serve_62 rfl gb_po_i
theorem d_Gb_free_0 : decode yGb_free.2.1 0 = .ok (.iload_n 1, 1) := by decide +kernel
theorem d_Gb_free_1 : decode yGb_free.2.1 1 = .ok (.iconst 1, 1) := by decide +kernel
theorem d_Gb_free_2 : decode yGb_free.2.1 2 = .ok (.bipush 99, 2) := by decide +kernel
theorem d_Gb_free_4 : decode yGb_free.2.1 4 = .ok (.invokestatic 84, 3) := by decide +kernel
theorem d_Gb_free_7 : decode yGb_free.2.1 7 = .ok (.ifCond .eq 12, 3) := by decide +kernel
theorem d_Gb_free_10 : decode yGb_free.2.1 10 = .ok (.iload_n 2, 1) := by decide +kernel
theorem d_Gb_free_11 : decode yGb_free.2.1 11 = .ok (.iconst 0, 1) := by decide +kernel
theorem d_Gb_free_12 : decode yGb_free.2.1 12 = .ok (.iconst 1, 1) := by decide +kernel
theorem d_Gb_free_13 : decode yGb_free.2.1 13 = .ok (.invokestatic 84, 3) := by decide +kernel
theorem d_Gb_free_16 : decode yGb_free.2.1 16 = .ok (.ifCond .ne 5, 3) := by decide +kernel
theorem d_Gb_free_19 : decode yGb_free.2.1 19 = .ok (.iconst (-1), 1) := by decide +kernel
theorem d_Gb_free_20 : decode yGb_free.2.1 20 = .ok (.ireturn, 1) := by decide +kernel
theorem d_Gb_free_21 : decode yGb_free.2.1 21 = .ok (.iload_n 2, 1) := by decide +kernel
theorem d_Gb_free_22 : decode yGb_free.2.1 22 = .ok (.ifCond .ne 21, 3) := by decide +kernel
theorem d_Gb_free_25 : decode yGb_free.2.1 25 = .ok (.aload_n 0, 1) := by decide +kernel
theorem d_Gb_free_26 : decode yGb_free.2.1 26 = .ok (.getfield 60, 3) := by decide +kernel
theorem d_Gb_free_29 : decode yGb_free.2.1 29 = .ok (.aload_n 0, 1) := by decide +kernel
theorem d_Gb_free_30 : decode yGb_free.2.1 30 = .ok (.getfield 12, 3) := by decide +kernel
theorem d_Gb_free_33 : decode yGb_free.2.1 33 = .ok (.getfield 276, 3) := by decide +kernel
theorem d_Gb_free_36 : decode yGb_free.2.1 36 = .ok (.iload_n 1, 1) := by decide +kernel
theorem d_Gb_free_37 : decode yGb_free.2.1 37 = .ok (.invokevirtual 279, 3) := by decide +kernel
theorem d_Gb_free_40 : decode yGb_free.2.1 40 = .ok (.goto 18, 3) := by decide +kernel
theorem d_Gb_free_43 : decode yGb_free.2.1 43 = .ok (.aload_n 0, 1) := by decide +kernel
theorem d_Gb_free_44 : decode yGb_free.2.1 44 = .ok (.getfield 60, 3) := by decide +kernel
theorem d_Gb_free_47 : decode yGb_free.2.1 47 = .ok (.aload_n 0, 1) := by decide +kernel
theorem d_Gb_free_48 : decode yGb_free.2.1 48 = .ok (.getfield 12, 3) := by decide +kernel
theorem d_Gb_free_51 : decode yGb_free.2.1 51 = .ok (.getfield 276, 3) := by decide +kernel
theorem d_Gb_free_54 : decode yGb_free.2.1 54 = .ok (.iload_n 1, 1) := by decide +kernel
theorem d_Gb_free_55 : decode yGb_free.2.1 55 = .ok (.invokevirtual 282, 3) := by decide +kernel
theorem d_Gb_free_58 : decode yGb_free.2.1 58 = .ok (.ireturn, 1) := by decide +kernel
def F_Gb_free (x1 x2 : Int32) (I : gb_Mem) : Option (Int32) :=
  if (F_Gb_within x1 1 99 I) = 0 then
    some (-1)
  else
    if (F_Gb_within x2 0 1 I) = 0 then
      some (-1)
    else
      if x2 = 0 then
        fbd (F_Re_freeHour 29 36 x1 I) fun r2 =>
        some r2
      else
        fbd (F_Re_fewestGivenUp 29 36 x1 I) fun r1 =>
        some r1
set_option maxRecDepth 4000 in
theorem c_Gb_free (l : Launch) (d0 : Nat) (x1 x2 : Int32) (I : gb_Mem) {rz : Int32} (h : F_Gb_free x1 x2 I = some rz) : gb_Cs l yGb_free (d0 + 4) [.inr (some 0), .inl x1, .inl x2] shX I (some (.inl rz)) I := by
  refine gb_Ct.of (lv := [(0, .inr (some 0)), (1, .inl x1), (2, .inl x2)]) rfl (Nat.le_of_ble_eq_true rfl) rfl ?_
  unfold F_Gb_free at h
  show gb_Go l yGb_free (d0 + 4) 0 0 0 [(0, .inr (some 0)), (1, .inl x1), (2, .inl x2)] [] shX I (gb_po shX (some (.inl rz)) I)
  refine go_iload_n (k := 1) d_Gb_free_0 rfl rfl ?_
  refine go_iconst (v := 1) d_Gb_free_1 (by decide) ?_
  refine go_bipush (v := 99) d_Gb_free_2 (by decide) ?_
  refine go_callS (y := yGb_within) (asr := [.inl x1, .inl 1, .inl 99]) (v := some (.inl (F_Gb_within x1 1 99 I))) (I' := I) (st1 := [.inl (F_Gb_within x1 1 99 I)]) d_Gb_free_4 s_yGb_within m_Gb_84 rfl (Nat.le_of_ble_eq_true rfl) rfl rfl (c_Gb_within l (d0 + 3) x1 1 99 I) ?_
  refine go_if_eq (tgt := 19) d_Gb_free_7 (by decide) (fun hc => ?_) (fun hc => ?_)
  · rw [if_pos hc] at h
    refine go_iconst (v := (-1)) d_Gb_free_19 (by decide) ?_
    cases h
    exact go_ireturn d_Gb_free_20 rfl gb_po_i
  · rw [if_neg hc] at h
    refine go_iload_n (k := 2) d_Gb_free_10 rfl rfl ?_
    refine go_iconst (v := 0) d_Gb_free_11 (by decide) ?_
    refine go_iconst (v := 1) d_Gb_free_12 (by decide) ?_
    refine go_callS (y := yGb_within) (asr := [.inl x2, .inl 0, .inl 1]) (v := some (.inl (F_Gb_within x2 0 1 I))) (I' := I) (st1 := [.inl (F_Gb_within x2 0 1 I)]) d_Gb_free_13 s_yGb_within m_Gb_84 rfl (Nat.le_of_ble_eq_true rfl) rfl rfl (c_Gb_within l (d0 + 3) x2 0 1 I) ?_
    refine go_if_ne (tgt := 21) d_Gb_free_16 (by decide) (fun hc => ?_) (fun hc => ?_)
    · rw [if_neg hc] at h
      refine go_iload_n (k := 2) d_Gb_free_21 rfl rfl ?_
      refine go_if_ne (tgt := 43) d_Gb_free_22 (by decide) (fun hc => ?_) (fun hc => ?_)
      · rw [if_neg hc] at h
        refine go_aload_n (k := 0) d_Gb_free_43 rfl rfl ?_
        refine go_getr (ci := 0) (k := 8) (r := 106) d_Gb_free_44 a_X_0 rfl (by decide) f_Gb_60 rfl ?_
        refine go_aload_n (k := 0) d_Gb_free_47 rfl rfl ?_
        refine go_getr (ci := 0) (k := 0) (r := 1) d_Gb_free_48 a_X_0 rfl (by decide) f_Gb_12 rfl ?_
        refine go_getrN (ci := 1) (k := 11) (r := 29) d_Gb_free_51 a_X_1 rfl (by decide) f_Gb_276 rfl ?_
        refine go_iload_n (k := 1) d_Gb_free_54 rfl rfl ?_
        obtain ⟨r1, w1, h⟩ := fbd_e h
        refine go_callV (y := yRe_fewestGivenUp) (asr := [.inr (some 29), .inl x1]) (v := some (.inl r1)) (I' := I) (st1 := [.inl r1]) d_Gb_free_55 s_yRe_fewestGivenUp m_Gb_282 a_X_106 rfl rfl rfl (Nat.le_of_ble_eq_true rfl) rfl rfl (c_Re_fewestGivenUp l (d0 + 0) 29 36 isRo_29 x1 I w1) ?_
        cases h
        exact go_ireturn d_Gb_free_58 rfl gb_po_i
      · rw [if_pos hc] at h
        refine go_aload_n (k := 0) d_Gb_free_25 rfl rfl ?_
        refine go_getr (ci := 0) (k := 8) (r := 106) d_Gb_free_26 a_X_0 rfl (by decide) f_Gb_60 rfl ?_
        refine go_aload_n (k := 0) d_Gb_free_29 rfl rfl ?_
        refine go_getr (ci := 0) (k := 0) (r := 1) d_Gb_free_30 a_X_0 rfl (by decide) f_Gb_12 rfl ?_
        refine go_getrN (ci := 1) (k := 11) (r := 29) d_Gb_free_33 a_X_1 rfl (by decide) f_Gb_276 rfl ?_
        refine go_iload_n (k := 1) d_Gb_free_36 rfl rfl ?_
        obtain ⟨r2, w1, h⟩ := fbd_e h
        refine go_callV (y := yRe_freeHour) (asr := [.inr (some 29), .inl x1]) (v := some (.inl r2)) (I' := I) (st1 := [.inl r2]) d_Gb_free_37 s_yRe_freeHour m_Gb_279 a_X_106 rfl rfl rfl (Nat.le_of_ble_eq_true rfl) rfl rfl (c_Re_freeHour l (d0 + 0) 29 36 isRo_29 x1 I w1) ?_
        refine go_goto (tgt := 58) d_Gb_free_40 (by decide) ?_
        cases h
        exact go_ireturn d_Gb_free_58 rfl gb_po_i
    · rw [if_pos hc] at h
      refine go_iconst (v := (-1)) d_Gb_free_19 (by decide) ?_
      cases h
      exact go_ireturn d_Gb_free_20 rfl gb_po_i
theorem d_La_tells_0 : decode yLa_tells.2.1 0 = .ok (.iload_n 2, 1) := by decide +kernel
theorem d_La_tells_1 : decode yLa_tells.2.1 1 = .ok (.iconst 1, 1) := by decide +kernel
theorem d_La_tells_2 : decode yLa_tells.2.1 2 = .ok (.if_icmp .ne 8, 3) := by decide +kernel
theorem d_La_tells_5 : decode yLa_tells.2.1 5 = .ok (.bipush 99, 2) := by decide +kernel
theorem d_La_tells_7 : decode yLa_tells.2.1 7 = .ok (.goto 6, 3) := by decide +kernel
theorem d_La_tells_10 : decode yLa_tells.2.1 10 = .ok (.sipush 1000, 3) := by decide +kernel
theorem d_La_tells_13 : decode yLa_tells.2.1 13 = .ok (.istore 4, 2) := by decide +kernel
theorem d_La_tells_15 : decode yLa_tells.2.1 15 = .ok (.iconst 0, 1) := by decide +kernel
theorem d_La_tells_16 : decode yLa_tells.2.1 16 = .ok (.istore 5, 2) := by decide +kernel
theorem d_La_tells_18 : decode yLa_tells.2.1 18 = .ok (.iload 5, 2) := by decide +kernel
theorem d_La_tells_20 : decode yLa_tells.2.1 20 = .ok (.aload_n 0, 1) := by decide +kernel
theorem d_La_tells_21 : decode yLa_tells.2.1 21 = .ok (.getfield 28, 3) := by decide +kernel
theorem d_La_tells_24 : decode yLa_tells.2.1 24 = .ok (.if_icmp .ge 97, 3) := by decide +kernel
theorem d_La_tells_27 : decode yLa_tells.2.1 27 = .ok (.iload 5, 2) := by decide +kernel
theorem d_La_tells_29 : decode yLa_tells.2.1 29 = .ok (.bipush 16, 2) := by decide +kernel
theorem d_La_tells_31 : decode yLa_tells.2.1 31 = .ok (.if_icmp .ge 90, 3) := by decide +kernel
theorem d_La_tells_34 : decode yLa_tells.2.1 34 = .ok (.aload_n 0, 1) := by decide +kernel
theorem d_La_tells_35 : decode yLa_tells.2.1 35 = .ok (.getfield 18, 3) := by decide +kernel
theorem d_La_tells_38 : decode yLa_tells.2.1 38 = .ok (.iconst 2, 1) := by decide +kernel
theorem d_La_tells_39 : decode yLa_tells.2.1 39 = .ok (.iload 5, 2) := by decide +kernel
theorem d_La_tells_41 : decode yLa_tells.2.1 41 = .ok (.imul, 1) := by decide +kernel
theorem d_La_tells_42 : decode yLa_tells.2.1 42 = .ok (.iconst 1, 1) := by decide +kernel
theorem d_La_tells_43 : decode yLa_tells.2.1 43 = .ok (.iadd, 1) := by decide +kernel
theorem d_La_tells_44 : decode yLa_tells.2.1 44 = .ok (.iaload, 1) := by decide +kernel
theorem d_La_tells_45 : decode yLa_tells.2.1 45 = .ok (.istore 6, 2) := by decide +kernel
theorem d_La_tells_47 : decode yLa_tells.2.1 47 = .ok (.aload_n 0, 1) := by decide +kernel
theorem d_La_tells_48 : decode yLa_tells.2.1 48 = .ok (.getfield 18, 3) := by decide +kernel
theorem d_La_tells_51 : decode yLa_tells.2.1 51 = .ok (.iconst 2, 1) := by decide +kernel
theorem d_La_tells_52 : decode yLa_tells.2.1 52 = .ok (.iload 5, 2) := by decide +kernel
theorem d_La_tells_54 : decode yLa_tells.2.1 54 = .ok (.imul, 1) := by decide +kernel
theorem d_La_tells_55 : decode yLa_tells.2.1 55 = .ok (.iconst 2, 1) := by decide +kernel
theorem d_La_tells_56 : decode yLa_tells.2.1 56 = .ok (.iadd, 1) := by decide +kernel
theorem d_La_tells_57 : decode yLa_tells.2.1 57 = .ok (.iaload, 1) := by decide +kernel
theorem d_La_tells_58 : decode yLa_tells.2.1 58 = .ok (.istore 7, 2) := by decide +kernel
theorem d_La_tells_60 : decode yLa_tells.2.1 60 = .ok (.aload_n 0, 1) := by decide +kernel
theorem d_La_tells_61 : decode yLa_tells.2.1 61 = .ok (.getfield 15, 3) := by decide +kernel
theorem d_La_tells_64 : decode yLa_tells.2.1 64 = .ok (.iload 5, 2) := by decide +kernel
theorem d_La_tells_66 : decode yLa_tells.2.1 66 = .ok (.iaload, 1) := by decide +kernel
theorem d_La_tells_67 : decode yLa_tells.2.1 67 = .ok (.iload_n 2, 1) := by decide +kernel
theorem d_La_tells_68 : decode yLa_tells.2.1 68 = .ok (.if_icmp .ne 47, 3) := by decide +kernel
theorem d_La_tells_71 : decode yLa_tells.2.1 71 = .ok (.iload 6, 2) := by decide +kernel
theorem d_La_tells_73 : decode yLa_tells.2.1 73 = .ok (.iload 7, 2) := by decide +kernel
theorem d_La_tells_75 : decode yLa_tells.2.1 75 = .ok (.if_icmp .eq 16, 3) := by decide +kernel
theorem d_La_tells_78 : decode yLa_tells.2.1 78 = .ok (.aload_n 0, 1) := by decide +kernel
theorem d_La_tells_79 : decode yLa_tells.2.1 79 = .ok (.aload_n 1, 1) := by decide +kernel
theorem d_La_tells_80 : decode yLa_tells.2.1 80 = .ok (.iload_n 3, 1) := by decide +kernel
theorem d_La_tells_81 : decode yLa_tells.2.1 81 = .ok (.iload 6, 2) := by decide +kernel
theorem d_La_tells_83 : decode yLa_tells.2.1 83 = .ok (.iload 7, 2) := by decide +kernel
theorem d_La_tells_85 : decode yLa_tells.2.1 85 = .ok (.invokevirtual 41, 3) := by decide +kernel
theorem d_La_tells_88 : decode yLa_tells.2.1 88 = .ok (.ifCond .eq 27, 3) := by decide +kernel
theorem d_La_tells_91 : decode yLa_tells.2.1 91 = .ok (.aload_n 0, 1) := by decide +kernel
theorem d_La_tells_92 : decode yLa_tells.2.1 92 = .ok (.aload_n 1, 1) := by decide +kernel
theorem d_La_tells_93 : decode yLa_tells.2.1 93 = .ok (.iload_n 3, 1) := by decide +kernel
theorem d_La_tells_94 : decode yLa_tells.2.1 94 = .ok (.aload_n 0, 1) := by decide +kernel
theorem d_La_tells_95 : decode yLa_tells.2.1 95 = .ok (.getfield 18, 3) := by decide +kernel
theorem d_La_tells_98 : decode yLa_tells.2.1 98 = .ok (.iconst 2, 1) := by decide +kernel
theorem d_La_tells_99 : decode yLa_tells.2.1 99 = .ok (.iload 5, 2) := by decide +kernel
theorem d_La_tells_101 : decode yLa_tells.2.1 101 = .ok (.imul, 1) := by decide +kernel
theorem d_La_tells_102 : decode yLa_tells.2.1 102 = .ok (.iaload, 1) := by decide +kernel
theorem d_La_tells_103 : decode yLa_tells.2.1 103 = .ok (.iload 6, 2) := by decide +kernel
theorem d_La_tells_105 : decode yLa_tells.2.1 105 = .ok (.invokevirtual 41, 3) := by decide +kernel
theorem d_La_tells_108 : decode yLa_tells.2.1 108 = .ok (.iconst 0, 1) := by decide +kernel
theorem d_La_tells_109 : decode yLa_tells.2.1 109 = .ok (.iload 4, 2) := by decide +kernel
theorem d_La_tells_111 : decode yLa_tells.2.1 111 = .ok (.invokestatic 45, 3) := by decide +kernel
theorem d_La_tells_114 : decode yLa_tells.2.1 114 = .ok (.ireturn, 1) := by decide +kernel
theorem d_La_tells_115 : decode yLa_tells.2.1 115 = .ok (.iinc 5 1, 3) := by decide +kernel
theorem d_La_tells_118 : decode yLa_tells.2.1 118 = .ok (.goto (-100), 3) := by decide +kernel
theorem d_La_tells_121 : decode yLa_tells.2.1 121 = .ok (.aload_n 0, 1) := by decide +kernel
theorem d_La_tells_122 : decode yLa_tells.2.1 122 = .ok (.aload_n 1, 1) := by decide +kernel
theorem d_La_tells_123 : decode yLa_tells.2.1 123 = .ok (.iload_n 2, 1) := by decide +kernel
theorem d_La_tells_124 : decode yLa_tells.2.1 124 = .ok (.iload_n 3, 1) := by decide +kernel
theorem d_La_tells_125 : decode yLa_tells.2.1 125 = .ok (.invokevirtual 49, 3) := by decide +kernel
theorem d_La_tells_128 : decode yLa_tells.2.1 128 = .ok (.iconst 0, 1) := by decide +kernel
theorem d_La_tells_129 : decode yLa_tells.2.1 129 = .ok (.iload 4, 2) := by decide +kernel
theorem d_La_tells_131 : decode yLa_tells.2.1 131 = .ok (.invokestatic 45, 3) := by decide +kernel
theorem d_La_tells_134 : decode yLa_tells.2.1 134 = .ok (.ireturn, 1) := by decide +kernel
def J_La_tells_115 (h0 h1 : Nat) (k : Int32 → gb_Mem → Option ((gb_Mem) ⊕ (Int32 × gb_Mem))) (x2 x3 x4 x5 : Int32) (I : gb_Mem) : Option ((gb_Mem) ⊕ (Int32 × gb_Mem)) :=
  k (x5 + 1) I
set_option maxRecDepth 4000 in
theorem j_La_tells_115 (l : Launch) (d0 : Nat) (h0 h1 : Nat) (H0 : isLa h0) (H1 : isTa h1) {post : Option gb_AV → List gb_Ce → gb_Mem → Prop} (k : Int32 → gb_Mem → Option ((gb_Mem) ⊕ (Int32 × gb_Mem))) (x2 x3 x4 x5 : Int32) (I : gb_Mem) {ρ : (gb_Mem) ⊕ (Int32 × gb_Mem)} (h : J_La_tells_115 h0 h1 k x2 x3 x4 x5 I = some ρ) (hk : ∀ (z5 : Int32) (Iw : gb_Mem), k z5 Iw = some ρ → gb_Go l yLa_tells (d0 + 4) 0 0 18 [(0, .inr (some h0)), (1, .inr (some h1)), (2, .inl x2), (3, .inl x3), (4, .inl x4), (5, .inl z5)] [] shX Iw post) (hX : ∀ (I2 : gb_Mem), ρ = .inl I2 → gb_Go l yLa_tells (d0 + 4) 0 0 121 [(0, .inr (some h0)), (1, .inr (some h1)), (2, .inl x2), (3, .inl x3), (4, .inl x4)] [] shX I2 post) (hR : ∀ (v : Int32) (I3 : gb_Mem), ρ = .inr (v, I3) → post (some (.inl v)) shX I3) : gb_Go l yLa_tells (d0 + 4) 0 0 115 [(0, .inr (some h0)), (1, .inr (some h1)), (2, .inl x2), (3, .inl x3), (4, .inl x4), (5, .inl x5)] [] shX I post := by
  unfold J_La_tells_115 at h
  refine go_iinc (k := 5) (v := x5 + 1) (lv' := [(5, .inl (x5 + 1)), (0, .inr (some h0)), (1, .inr (some h1)), (2, .inl x2), (3, .inl x3), (4, .inl x4)]) d_La_tells_115 rfl rfl (by decide) rfl ?_
  refine go_goto (tgt := 18) d_La_tells_118 (by decide) ?_
  exact go_lv [1, 2, 3, 4, 5, 0] rfl (hk _ _ h)
def J_La_tells_91 (h0 h1 : Nat) (k : Int32 → gb_Mem → Option ((gb_Mem) ⊕ (Int32 × gb_Mem))) (x3 x4 x5 x6 : Int32) (I : gb_Mem) : Option ((gb_Mem) ⊕ (Int32 × gb_Mem)) :=
  flod I (h0 + 3) 33 (2 * x5) fun v4 =>
  fbd (F_La_reckon h0 h1 x3 v4 x6 I) fun (r6, I5) =>
  some (.inr (F_Gb_held r6 0 x4 I5, I5))
set_option maxRecDepth 4000 in
theorem j_La_tells_91 (l : Launch) (d0 : Nat) (h0 h1 : Nat) (H0 : isLa h0) (H1 : isTa h1) {post : Option gb_AV → List gb_Ce → gb_Mem → Prop} (k : Int32 → gb_Mem → Option ((gb_Mem) ⊕ (Int32 × gb_Mem))) (x3 x4 x5 x6 : Int32) (x2 : Int32) (I : gb_Mem) {ρ : (gb_Mem) ⊕ (Int32 × gb_Mem)} (h : J_La_tells_91 h0 h1 k x3 x4 x5 x6 I = some ρ) (hk : ∀ (z5 : Int32) (Iw : gb_Mem), k z5 Iw = some ρ → gb_Go l yLa_tells (d0 + 4) 0 0 18 [(0, .inr (some h0)), (1, .inr (some h1)), (2, .inl x2), (3, .inl x3), (4, .inl x4), (5, .inl z5)] [] shX Iw post) (hX : ∀ (I2 : gb_Mem), ρ = .inl I2 → gb_Go l yLa_tells (d0 + 4) 0 0 121 [(0, .inr (some h0)), (1, .inr (some h1)), (2, .inl x2), (3, .inl x3), (4, .inl x4)] [] shX I2 post) (hR : ∀ (v : Int32) (I3 : gb_Mem), ρ = .inr (v, I3) → post (some (.inl v)) shX I3) : gb_Go l yLa_tells (d0 + 4) 0 0 91 [(0, .inr (some h0)), (1, .inr (some h1)), (3, .inl x3), (4, .inl x4), (5, .inl x5), (6, .inl x6)] [] shX I post := by
  unfold J_La_tells_91 at h
  refine go_aload_n (k := 0) d_La_tells_91 rfl rfl ?_
  refine go_aload_n (k := 1) d_La_tells_92 rfl rfl ?_
  refine go_iload_n (k := 2) d_La_tells_93 rfl rfl ?_
  refine go_aload_n (k := 0) d_La_tells_94 rfl rfl ?_
  refine go_getr (ci := 3) (k := 3) (r := (h0 + 3)) d_La_tells_95 H0.1 rfl (by decide) f_La_18 rfl ?_
  refine go_iconst (v := 2) d_La_tells_98 (by decide) ?_
  refine go_iload (k := 4) d_La_tells_99 rfl ?_
  refine go_imul d_La_tells_101 ?_
  obtain ⟨hi, v4, ev4, h⟩ := flod_e h
  refine go_iald2 d_La_tells_102 H0.2.2.2.1 hi ev4 ?_
  refine go_iload (k := 5) d_La_tells_103 rfl ?_
  obtain ⟨⟨r6, I5⟩, w1, h⟩ := fbd_e h
  try dsimp only at h
  refine go_callV (y := yLa_reckon) (asr := [.inr (some h1), .inl x3, .inl v4, .inl x6]) (v := some (.inl r6)) (I' := I5) (st1 := [.inl r6]) d_La_tells_105 s_yLa_reckon m_La_41 H0.1 rfl rfl rfl (Nat.le_of_ble_eq_true rfl) rfl rfl (c_La_reckon l (d0 + 0) h0 h1 H0 H1 x3 v4 x6 I w1) ?_
  refine go_iconst (v := 0) d_La_tells_108 (by decide) ?_
  refine go_iload (k := 3) d_La_tells_109 rfl ?_
  refine go_callSN (y := yGb_held) (asr := [.inl r6, .inl 0, .inl x4]) (v := some (.inl (F_Gb_held r6 0 x4 I5))) (I' := I5) (st1 := [.inl (F_Gb_held r6 0 x4 I5)]) d_La_tells_111 s_yGb_held m_La_45 rfl (Nat.le_of_ble_eq_true rfl) rfl rfl (c_Gb_held l (d0 + 2) r6 0 x4 I5) ?_
  exact go_ireturn d_La_tells_114 rfl (hR _ _ (Option.some.inj h).symm)
def L_La_tells_18 (h0 h1 : Nat) (x2 x3 x4 : Int32) : Nat → Int32 → gb_Mem → Option ((gb_Mem) ⊕ (Int32 × gb_Mem))
  | 0, _, _ => none
  | n + 1, x5, I =>
    if (I h0 4) ≤ x5 then
      some (.inl I)
    else
      if 16 ≤ x5 then
        some (.inl I)
      else
        flod I (h0 + 3) 33 ((2 * x5) + 1) fun v1 =>
        flod I (h0 + 3) 33 ((2 * x5) + 2) fun v2 =>
        flod I (h0 + 2) 16 x5 fun v3 =>
        if v3 = x2 then
          if v1 = v2 then
            J_La_tells_91 h0 h1 (L_La_tells_18 h0 h1 x2 x3 x4 n) x3 x4 x5 v1 I
          else
            fbd (F_La_reckon h0 h1 x3 v1 v2 I) fun (r8, I7) =>
            if r8 = 0 then
              J_La_tells_115 h0 h1 (L_La_tells_18 h0 h1 x2 x3 x4 n) x2 x3 x4 x5 I7
            else
              J_La_tells_91 h0 h1 (L_La_tells_18 h0 h1 x2 x3 x4 n) x3 x4 x5 v1 I7
        else
          J_La_tells_115 h0 h1 (L_La_tells_18 h0 h1 x2 x3 x4 n) x2 x3 x4 x5 I
set_option maxRecDepth 4000 in
theorem l_La_tells_18 (l : Launch) (d0 : Nat) (h0 h1 : Nat) (H0 : isLa h0) (H1 : isTa h1) (x2 x3 x4 : Int32) {post : Option gb_AV → List gb_Ce → gb_Mem → Prop} : ∀ (n : Nat) (x5 : Int32) (I : gb_Mem) {ρ : (gb_Mem) ⊕ (Int32 × gb_Mem)} (h : L_La_tells_18 h0 h1 x2 x3 x4 n x5 I = some ρ) (hX : ∀ (I2 : gb_Mem), ρ = .inl I2 → gb_Go l yLa_tells (d0 + 4) 0 0 121 [(0, .inr (some h0)), (1, .inr (some h1)), (2, .inl x2), (3, .inl x3), (4, .inl x4)] [] shX I2 post) (hR : ∀ (v : Int32) (I3 : gb_Mem), ρ = .inr (v, I3) → post (some (.inl v)) shX I3) , gb_Go l yLa_tells (d0 + 4) 0 0 18 [(0, .inr (some h0)), (1, .inr (some h1)), (2, .inl x2), (3, .inl x3), (4, .inl x4), (5, .inl x5)] [] shX I post := by
  intro n
  induction n with
  | zero => intro x5 I ρ h hX hR; cases h
  | succ n ih =>
    intro x5 I ρ h hX hR
    rw [L_La_tells_18] at h
    refine go_iload (k := 5) d_La_tells_18 rfl ?_
    refine go_aload_n (k := 0) d_La_tells_20 rfl rfl ?_
    refine go_geti (ci := 3) (k := 4) d_La_tells_21 H0.1 rfl (by decide) f_La_28 rfl ?_
    refine go_cmp_ge (tgt := 121) d_La_tells_24 (by decide) (fun hc => ?_) (fun hc => ?_)
    · rw [if_pos hc] at h
      exact go_lv [0, 1, 2, 3, 4] rfl (hX _ (Option.some.inj h).symm)
    · rw [if_neg hc] at h
      refine go_iload (k := 5) d_La_tells_27 rfl ?_
      refine go_bipush (v := 16) d_La_tells_29 (by decide) ?_
      refine go_cmp_ge (tgt := 121) d_La_tells_31 (by decide) (fun hc => ?_) (fun hc => ?_)
      · rw [if_pos hc] at h
        exact go_lv [0, 1, 2, 3, 4] rfl (hX _ (Option.some.inj h).symm)
      · rw [if_neg hc] at h
        refine go_aload_n (k := 0) d_La_tells_34 rfl rfl ?_
        refine go_getr (ci := 3) (k := 3) (r := (h0 + 3)) d_La_tells_35 H0.1 rfl (by decide) f_La_18 rfl ?_
        refine go_iconst (v := 2) d_La_tells_38 (by decide) ?_
        refine go_iload (k := 5) d_La_tells_39 rfl ?_
        refine go_imul d_La_tells_41 ?_
        refine go_iconst (v := 1) d_La_tells_42 (by decide) ?_
        refine go_iadd d_La_tells_43 ?_
        obtain ⟨hi, v1, ev1, h⟩ := flod_e h
        refine go_iald2 d_La_tells_44 H0.2.2.2.1 hi ev1 ?_
        refine go_istore (lv' := [(6, .inl v1), (0, .inr (some h0)), (1, .inr (some h1)), (2, .inl x2), (3, .inl x3), (4, .inl x4), (5, .inl x5)]) d_La_tells_45 (by decide) rfl ?_
        refine go_aload_n (k := 1) d_La_tells_47 rfl rfl ?_
        refine go_getr (ci := 3) (k := 3) (r := (h0 + 3)) d_La_tells_48 H0.1 rfl (by decide) f_La_18 rfl ?_
        refine go_iconst (v := 2) d_La_tells_51 (by decide) ?_
        refine go_iload (k := 6) d_La_tells_52 rfl ?_
        refine go_imul d_La_tells_54 ?_
        refine go_iconst (v := 2) d_La_tells_55 (by decide) ?_
        refine go_iadd d_La_tells_56 ?_
        obtain ⟨hi, v2, ev2, h⟩ := flod_e h
        refine go_iald2 d_La_tells_57 H0.2.2.2.1 hi ev2 ?_
        refine go_istore (lv' := [(7, .inl v2), (6, .inl v1), (0, .inr (some h0)), (1, .inr (some h1)), (2, .inl x2), (3, .inl x3), (4, .inl x4), (5, .inl x5)]) d_La_tells_58 (by decide) rfl ?_
        refine go_aload_n (k := 2) d_La_tells_60 rfl rfl ?_
        refine go_getr (ci := 3) (k := 2) (r := (h0 + 2)) d_La_tells_61 H0.1 rfl (by decide) f_La_15 rfl ?_
        refine go_iload (k := 7) d_La_tells_64 rfl ?_
        obtain ⟨hi, v3, ev3, h⟩ := flod_e h
        refine go_iald2 d_La_tells_66 H0.2.2.1 hi ev3 ?_
        refine go_iload_n (k := 4) d_La_tells_67 rfl rfl ?_
        refine go_cmp_ne (tgt := 115) d_La_tells_68 (by decide) (fun hc => ?_) (fun hc => ?_)
        · rw [if_neg hc] at h
          exact go_lv [2, 3, 4, 5, 6, 7] rfl (j_La_tells_115 l d0 h0 h1 H0 H1 (L_La_tells_18 h0 h1 x2 x3 x4 n) x2 x3 x4 x5 I h (fun z5 Iw hh => ih z5 Iw hh hX hR) hX hR)
        · rw [if_pos hc] at h
          refine go_iload (k := 1) d_La_tells_71 rfl ?_
          refine go_iload (k := 0) d_La_tells_73 rfl ?_
          refine go_cmp_eq (tgt := 91) d_La_tells_75 (by decide) (fun hc => ?_) (fun hc => ?_)
          · rw [if_pos hc] at h
            exact go_lv [2, 3, 5, 6, 7, 1] rfl (j_La_tells_91 l d0 h0 h1 H0 H1 (L_La_tells_18 h0 h1 x2 x3 x4 n) x3 x4 x5 v1 x2 I h (fun z5 Iw hh => ih z5 Iw hh hX hR) hX hR)
          · rw [if_neg hc] at h
            refine go_aload_n (k := 2) d_La_tells_78 rfl rfl ?_
            refine go_aload_n (k := 3) d_La_tells_79 rfl rfl ?_
            refine go_iload_n (k := 5) d_La_tells_80 rfl rfl ?_
            refine go_iload (k := 1) d_La_tells_81 rfl ?_
            refine go_iload (k := 0) d_La_tells_83 rfl ?_
            obtain ⟨⟨r8, I7⟩, w1, h⟩ := fbd_e h
            try dsimp only at h
            refine go_callV (y := yLa_reckon) (asr := [.inr (some h1), .inl x3, .inl v1, .inl v2]) (v := some (.inl r8)) (I' := I7) (st1 := [.inl r8]) d_La_tells_85 s_yLa_reckon m_La_41 H0.1 rfl rfl rfl (Nat.le_of_ble_eq_true rfl) rfl rfl (c_La_reckon l (d0 + 0) h0 h1 H0 H1 x3 v1 v2 I w1) ?_
            refine go_if_eq (tgt := 115) d_La_tells_88 (by decide) (fun hc => ?_) (fun hc => ?_)
            · rw [if_pos hc] at h
              exact go_lv [2, 3, 4, 5, 6, 7] rfl (j_La_tells_115 l d0 h0 h1 H0 H1 (L_La_tells_18 h0 h1 x2 x3 x4 n) x2 x3 x4 x5 I7 h (fun z5 Iw hh => ih z5 Iw hh hX hR) hX hR)
            · rw [if_neg hc] at h
              exact go_lv [2, 3, 5, 6, 7, 1] rfl (j_La_tells_91 l d0 h0 h1 H0 H1 (L_La_tells_18 h0 h1 x2 x3 x4 n) x3 x4 x5 v1 x2 I7 h (fun z5 Iw hh => ih z5 Iw hh hX hR) hX hR)
def J_La_tells_121 (h0 h1 : Nat) (x2 x3 x4 : Int32) (I : gb_Mem) : Option (Int32 × gb_Mem) :=
  fbd (F_La_unwritten h0 h1 x2 x3 I) fun r12 =>
  some (F_Gb_held r12 0 x4 I, I)
set_option maxRecDepth 4000 in
theorem j_La_tells_121 (l : Launch) (d0 : Nat) (h0 h1 : Nat) (H0 : isLa h0) (H1 : isTa h1) (x2 x3 x4 : Int32) (I : gb_Mem) {rz : Int32} {Iz : gb_Mem} (h : J_La_tells_121 h0 h1 x2 x3 x4 I = some (rz, Iz)) : gb_Go l yLa_tells (d0 + 4) 0 0 121 [(0, .inr (some h0)), (1, .inr (some h1)), (2, .inl x2), (3, .inl x3), (4, .inl x4)] [] shX I (gb_po shX (some (.inl rz)) Iz) := by
  unfold J_La_tells_121 at h
  refine go_aload_n (k := 0) d_La_tells_121 rfl rfl ?_
  refine go_aload_n (k := 1) d_La_tells_122 rfl rfl ?_
  refine go_iload_n (k := 2) d_La_tells_123 rfl rfl ?_
  refine go_iload_n (k := 3) d_La_tells_124 rfl rfl ?_
  obtain ⟨r12, w1, h⟩ := fbd_e h
  refine go_callV (y := yLa_unwritten) (asr := [.inr (some h1), .inl x2, .inl x3]) (v := some (.inl r12)) (I' := I) (st1 := [.inl r12]) d_La_tells_125 s_yLa_unwritten m_La_49 H0.1 rfl rfl rfl (Nat.le_of_ble_eq_true rfl) rfl rfl (c_La_unwritten l (d0 + 1) h0 h1 H0 H1 x2 x3 I w1) ?_
  refine go_iconst (v := 0) d_La_tells_128 (by decide) ?_
  refine go_iload (k := 4) d_La_tells_129 rfl ?_
  refine go_callSN (y := yGb_held) (asr := [.inl r12, .inl 0, .inl x4]) (v := some (.inl (F_Gb_held r12 0 x4 I))) (I' := I) (st1 := [.inl (F_Gb_held r12 0 x4 I)]) d_La_tells_131 s_yGb_held m_La_45 rfl (Nat.le_of_ble_eq_true rfl) rfl rfl (c_Gb_held l (d0 + 2) r12 0 x4 I) ?_
  cases h
  exact go_ireturn d_La_tells_134 rfl gb_po_i
def J_La_tells_13 (h0 h1 : Nat) (x2 x3 s0 : Int32) (I : gb_Mem) : Option (Int32 × gb_Mem) :=
  fbr (L_La_tells_18 h0 h1 x2 x3 s0 5000 0 I) (fun I9 =>
    J_La_tells_121 h0 h1 x2 x3 s0 I9)
    (fun (q10, I11) => some (q10, I11))
set_option maxRecDepth 4000 in
theorem j_La_tells_13 (l : Launch) (d0 : Nat) (h0 h1 : Nat) (H0 : isLa h0) (H1 : isTa h1) (x2 x3 s0 : Int32) (I : gb_Mem) {rz : Int32} {Iz : gb_Mem} (h : J_La_tells_13 h0 h1 x2 x3 s0 I = some (rz, Iz)) : gb_Go l yLa_tells (d0 + 4) 0 0 13 [(0, .inr (some h0)), (1, .inr (some h1)), (2, .inl x2), (3, .inl x3)] [.inl s0] shX I (gb_po shX (some (.inl rz)) Iz) := by
  unfold J_La_tells_13 at h
  refine go_istore (lv' := [(4, .inl s0), (0, .inr (some h0)), (1, .inr (some h1)), (2, .inl x2), (3, .inl x3)]) d_La_tells_13 (by decide) rfl ?_
  refine go_iconst (v := 0) d_La_tells_15 (by decide) ?_
  refine go_istore (lv' := [(5, .inl 0), (4, .inl s0), (0, .inr (some h0)), (1, .inr (some h1)), (2, .inl x2), (3, .inl x3)]) d_La_tells_16 (by decide) rfl ?_
  refine go_lv [2, 3, 4, 5, 1, 0] (lv' := [(0, .inr (some h0)), (1, .inr (some h1)), (2, .inl x2), (3, .inl x3), (4, .inl s0), (5, .inl 0)]) rfl ?_
  obtain ⟨ρ, w1, w2, w3⟩ := fbr_e2 h
  refine l_La_tells_18 l d0 h0 h1 H0 H1 x2 x3 s0 5000 0 I w1 (fun I9 e => ?_) (fun q10 I11 e => ?_)
  · have h := w2 _ e
    try dsimp only at h
    exact go_lv [0, 1, 2, 3, 4] rfl (j_La_tells_121 l d0 h0 h1 H0 H1 x2 x3 s0 I9 h)
  · have h := w3 _ e
    try dsimp only at h
    cases h
    exact gb_po_i
def F_La_tells (h0 h1 : Nat) (x2 x3 : Int32) (I : gb_Mem) : Option (Int32 × gb_Mem) :=
  if x2 = 1 then
    J_La_tells_13 h0 h1 x2 x3 99 I
  else
    J_La_tells_13 h0 h1 x2 x3 1000 I
set_option maxRecDepth 4000 in
theorem c_La_tells (l : Launch) (d0 : Nat) (h0 h1 : Nat) (H0 : isLa h0) (H1 : isTa h1) (x2 x3 : Int32) (I : gb_Mem) {rz : Int32} {Iz : gb_Mem} (h : F_La_tells h0 h1 x2 x3 I = some (rz, Iz)) : gb_Cs l yLa_tells (d0 + 4) [.inr (some h0), .inr (some h1), .inl x2, .inl x3] shX I (some (.inl rz)) Iz := by
  refine gb_Ct.of (lv := [(0, .inr (some h0)), (1, .inr (some h1)), (2, .inl x2), (3, .inl x3)]) rfl (Nat.le_of_ble_eq_true rfl) rfl ?_
  unfold F_La_tells at h
  show gb_Go l yLa_tells (d0 + 4) 0 0 0 [(0, .inr (some h0)), (1, .inr (some h1)), (2, .inl x2), (3, .inl x3)] [] shX I (gb_po shX (some (.inl rz)) Iz)
  refine go_iload_n (k := 2) d_La_tells_0 rfl rfl ?_
  refine go_iconst (v := 1) d_La_tells_1 (by decide) ?_
  refine go_cmp_ne (tgt := 10) d_La_tells_2 (by decide) (fun hc => ?_) (fun hc => ?_)
  · rw [if_neg hc] at h
    refine go_sipush (v := 1000) d_La_tells_10 (by decide) ?_
    exact go_lv [0, 1, 2, 3] rfl (j_La_tells_13 l d0 h0 h1 H0 H1 x2 x3 1000 I h)
  · rw [if_pos hc] at h
    refine go_bipush (v := 99) d_La_tells_5 (by decide) ?_
    refine go_goto (tgt := 13) d_La_tells_7 (by decide) ?_
    exact go_lv [0, 1, 2, 3] rfl (j_La_tells_13 l d0 h0 h1 H0 H1 x2 x3 99 I h)
theorem d_Rd_isWordAt_0 : decode yRd_isWordAt.2.1 0 = .ok (.iload_n 2, 1) := by decide +kernel
theorem d_Rd_isWordAt_1 : decode yRd_isWordAt.2.1 1 = .ok (.istore 4, 2) := by decide +kernel
theorem d_Rd_isWordAt_3 : decode yRd_isWordAt.2.1 3 = .ok (.iload 4, 2) := by decide +kernel
theorem d_Rd_isWordAt_5 : decode yRd_isWordAt.2.1 5 = .ok (.iload_n 3, 1) := by decide +kernel
theorem d_Rd_isWordAt_6 : decode yRd_isWordAt.2.1 6 = .ok (.if_icmp .ge 51, 3) := by decide +kernel
theorem d_Rd_isWordAt_9 : decode yRd_isWordAt.2.1 9 = .ok (.iload_n 1, 1) := by decide +kernel
theorem d_Rd_isWordAt_10 : decode yRd_isWordAt.2.1 10 = .ok (.iload 4, 2) := by decide +kernel
theorem d_Rd_isWordAt_12 : decode yRd_isWordAt.2.1 12 = .ok (.iadd, 1) := by decide +kernel
theorem d_Rd_isWordAt_13 : decode yRd_isWordAt.2.1 13 = .ok (.iload_n 2, 1) := by decide +kernel
theorem d_Rd_isWordAt_14 : decode yRd_isWordAt.2.1 14 = .ok (.isub, 1) := by decide +kernel
theorem d_Rd_isWordAt_15 : decode yRd_isWordAt.2.1 15 = .ok (.istore 5, 2) := by decide +kernel
theorem d_Rd_isWordAt_17 : decode yRd_isWordAt.2.1 17 = .ok (.iload 5, 2) := by decide +kernel
theorem d_Rd_isWordAt_19 : decode yRd_isWordAt.2.1 19 = .ok (.iconst 0, 1) := by decide +kernel
theorem d_Rd_isWordAt_20 : decode yRd_isWordAt.2.1 20 = .ok (.ldc 166, 2) := by decide +kernel
theorem d_Rd_isWordAt_22 : decode yRd_isWordAt.2.1 22 = .ok (.invokevirtual 168, 3) := by decide +kernel
theorem d_Rd_isWordAt_25 : decode yRd_isWordAt.2.1 25 = .ok (.iconst 1, 1) := by decide +kernel
theorem d_Rd_isWordAt_26 : decode yRd_isWordAt.2.1 26 = .ok (.isub, 1) := by decide +kernel
theorem d_Rd_isWordAt_27 : decode yRd_isWordAt.2.1 27 = .ok (.invokestatic 66, 3) := by decide +kernel
theorem d_Rd_isWordAt_30 : decode yRd_isWordAt.2.1 30 = .ok (.ifCond .eq 19, 3) := by decide +kernel
theorem d_Rd_isWordAt_33 : decode yRd_isWordAt.2.1 33 = .ok (.ldc 166, 2) := by decide +kernel
theorem d_Rd_isWordAt_35 : decode yRd_isWordAt.2.1 35 = .ok (.iload 5, 2) := by decide +kernel
theorem d_Rd_isWordAt_37 : decode yRd_isWordAt.2.1 37 = .ok (.invokevirtual 170, 3) := by decide +kernel
theorem d_Rd_isWordAt_40 : decode yRd_isWordAt.2.1 40 = .ok (.aload_n 0, 1) := by decide +kernel
theorem d_Rd_isWordAt_41 : decode yRd_isWordAt.2.1 41 = .ok (.iload 4, 2) := by decide +kernel
theorem d_Rd_isWordAt_43 : decode yRd_isWordAt.2.1 43 = .ok (.invokevirtual 137, 3) := by decide +kernel
theorem d_Rd_isWordAt_46 : decode yRd_isWordAt.2.1 46 = .ok (.if_icmp .eq 5, 3) := by decide +kernel
theorem d_Rd_isWordAt_49 : decode yRd_isWordAt.2.1 49 = .ok (.iconst 0, 1) := by decide +kernel
theorem d_Rd_isWordAt_50 : decode yRd_isWordAt.2.1 50 = .ok (.ireturn, 1) := by decide +kernel
theorem d_Rd_isWordAt_51 : decode yRd_isWordAt.2.1 51 = .ok (.iinc 4 1, 3) := by decide +kernel
theorem d_Rd_isWordAt_54 : decode yRd_isWordAt.2.1 54 = .ok (.goto (-51), 3) := by decide +kernel
theorem d_Rd_isWordAt_57 : decode yRd_isWordAt.2.1 57 = .ok (.iconst 1, 1) := by decide +kernel
theorem d_Rd_isWordAt_58 : decode yRd_isWordAt.2.1 58 = .ok (.ireturn, 1) := by decide +kernel
def L_Rd_isWordAt_3 (x1 x2 x3 : Int32) (I : gb_Mem) : Nat → Int32 → Option ((Unit) ⊕ (Int32))
  | 0, _ => none
  | n + 1, x4 =>
    if x3 ≤ x4 then
      some (.inl ())
    else
      if (F_Gb_within ((x1 + x4) - x2) 0 ((F_Js_length  I) - 1) I) = 0 then
        some (.inr 0)
      else
        fbd (F_Js_charAt ((x1 + x4) - x2) I) fun r1 =>
        fbd (F_Rd_charAt x4 I) fun r2 =>
        if r1 = r2 then
          L_Rd_isWordAt_3 x1 x2 x3 I n (x4 + 1)
        else
          some (.inr 0)
set_option maxRecDepth 4000 in
theorem l_Rd_isWordAt_3 (l : Launch) (d0 : Nat) (x1 x2 x3 : Int32) (I : gb_Mem) {post : Option gb_AV → List gb_Ce → gb_Mem → Prop} : ∀ (n : Nat) (x4 : Int32) {ρ : (Unit) ⊕ (Int32)} (h : L_Rd_isWordAt_3 x1 x2 x3 I n x4 = some ρ) (hX : ρ = .inl () → gb_Go l yRd_isWordAt (d0 + 4) 0 0 57 [] [] shX I post) (hR : ∀ (v : Int32), ρ = .inr v → post (some (.inl v)) shX I) , gb_Go l yRd_isWordAt (d0 + 4) 0 0 3 [(0, .inr (some 111)), (1, .inl x1), (2, .inl x2), (3, .inl x3), (4, .inl x4)] [] shX I post := by
  intro n
  induction n with
  | zero => intro x4 ρ h hX hR; cases h
  | succ n ih =>
    intro x4 ρ h hX hR
    rw [L_Rd_isWordAt_3] at h
    refine go_iload (k := 4) d_Rd_isWordAt_3 rfl ?_
    refine go_iload_n (k := 3) d_Rd_isWordAt_5 rfl rfl ?_
    refine go_cmp_ge (tgt := 57) d_Rd_isWordAt_6 (by decide) (fun hc => ?_) (fun hc => ?_)
    · rw [if_pos hc] at h
      exact go_lv [] rfl (hX (Option.some.inj h).symm)
    · rw [if_neg hc] at h
      refine go_iload_n (k := 1) d_Rd_isWordAt_9 rfl rfl ?_
      refine go_iload (k := 4) d_Rd_isWordAt_10 rfl ?_
      refine go_iadd d_Rd_isWordAt_12 ?_
      refine go_iload_n (k := 2) d_Rd_isWordAt_13 rfl rfl ?_
      refine go_isub d_Rd_isWordAt_14 ?_
      refine go_istore (lv' := [(5, .inl ((x1 + x4) - x2)), (0, .inr (some 111)), (1, .inl x1), (2, .inl x2), (3, .inl x3), (4, .inl x4)]) d_Rd_isWordAt_15 (by decide) rfl ?_
      refine go_iload (k := 0) d_Rd_isWordAt_17 rfl ?_
      refine go_iconst (v := 0) d_Rd_isWordAt_19 (by decide) ?_
      refine go_ldcS0 d_Rd_isWordAt_20 rfl ?_
      refine go_callT (a := 1001) (y := yJs_length) (asr := []) (v := some (.inl (F_Js_length  I))) (I' := I) (st1 := [.inl (F_Js_length  I), .inl 0, .inl ((x1 + x4) - x2)]) (Or.inl rfl) d_Rd_isWordAt_22 s_yJs_length m_Rd_168 rfl rfl (Nat.le_of_ble_eq_true rfl) rfl rfl (c_Js_length l (d0 + 2)  I) ?_
      refine go_iconst (v := 1) d_Rd_isWordAt_25 (by decide) ?_
      refine go_isub d_Rd_isWordAt_26 ?_
      refine go_callSN (y := yGb_within) (asr := [.inl ((x1 + x4) - x2), .inl 0, .inl ((F_Js_length  I) - 1)]) (v := some (.inl (F_Gb_within ((x1 + x4) - x2) 0 ((F_Js_length  I) - 1) I))) (I' := I) (st1 := [.inl (F_Gb_within ((x1 + x4) - x2) 0 ((F_Js_length  I) - 1) I)]) d_Rd_isWordAt_27 s_yGb_within m_Rd_66 rfl (Nat.le_of_ble_eq_true rfl) rfl rfl (c_Gb_within l (d0 + 3) ((x1 + x4) - x2) 0 ((F_Js_length  I) - 1) I) ?_
      refine go_if_eq (tgt := 49) d_Rd_isWordAt_30 (by decide) (fun hc => ?_) (fun hc => ?_)
      · rw [if_pos hc] at h
        refine go_iconst (v := 0) d_Rd_isWordAt_49 (by decide) ?_
        exact go_zreturn d_Rd_isWordAt_50 rfl (Or.inl rfl) (hR _ (Option.some.inj h).symm)
      · rw [if_neg hc] at h
        refine go_ldcS0 d_Rd_isWordAt_33 rfl ?_
        refine go_iload (k := 0) d_Rd_isWordAt_35 rfl ?_
        obtain ⟨r1, w1, h⟩ := fbd_e h
        refine go_callT (a := 1001) (y := yJs_charAt) (asr := [.inl ((x1 + x4) - x2)]) (v := some (.inl r1)) (I' := I) (st1 := [.inl r1]) (Or.inl rfl) d_Rd_isWordAt_37 s_yJs_charAt m_Rd_170 rfl rfl (Nat.le_of_ble_eq_true rfl) rfl rfl (c_Js_charAt l (d0 + 0) ((x1 + x4) - x2) I w1) ?_
        refine go_aload_n (k := 1) d_Rd_isWordAt_40 rfl rfl ?_
        refine go_iload (k := 5) d_Rd_isWordAt_41 rfl ?_
        obtain ⟨r2, w1, h⟩ := fbd_e h
        refine go_callV (y := yRd_charAt) (asr := [.inl x4]) (v := some (.inl r2)) (I' := I) (st1 := [.inl r2, .inl r1]) d_Rd_isWordAt_43 s_yRd_charAt m_Rd_137 a_X_111 rfl rfl rfl (Nat.le_of_ble_eq_true rfl) rfl rfl (c_Rd_charAt l (d0 + 2) x4 I w1) ?_
        refine go_cmp_eq (tgt := 51) d_Rd_isWordAt_46 (by decide) (fun hc => ?_) (fun hc => ?_)
        · rw [if_pos hc] at h
          refine go_iinc (k := 5) (v := x4 + 1) (lv' := [(4, .inl (x4 + 1)), (5, .inl ((x1 + x4) - x2)), (0, .inr (some 111)), (1, .inl x1), (2, .inl x2), (3, .inl x3)]) d_Rd_isWordAt_51 rfl rfl (by decide) rfl ?_
          refine go_goto (tgt := 3) d_Rd_isWordAt_54 (by decide) ?_
          exact go_lv [2, 3, 4, 5, 0] rfl (ih (x4 + 1) h hX hR)
        · rw [if_neg hc] at h
          refine go_iconst (v := 0) d_Rd_isWordAt_49 (by decide) ?_
          exact go_zreturn d_Rd_isWordAt_50 rfl (Or.inl rfl) (hR _ (Option.some.inj h).symm)
def F_Rd_isWordAt (x1 x2 x3 : Int32) (I : gb_Mem) : Option (Int32) :=
  fbr (L_Rd_isWordAt_3 x1 x2 x3 I 5000 x2) (fun _ =>
    some 1)
    (fun q3 => some q3)
set_option maxRecDepth 4000 in
theorem c_Rd_isWordAt (l : Launch) (d0 : Nat) (x1 x2 x3 : Int32) (I : gb_Mem) {rz : Int32} (h : F_Rd_isWordAt x1 x2 x3 I = some rz) : gb_Cs l yRd_isWordAt (d0 + 4) [.inr (some 111), .inl x1, .inl x2, .inl x3] shX I (some (.inl rz)) I := by
  refine gb_Ct.of (lv := [(0, .inr (some 111)), (1, .inl x1), (2, .inl x2), (3, .inl x3)]) rfl (Nat.le_of_ble_eq_true rfl) rfl ?_
  unfold F_Rd_isWordAt at h
  show gb_Go l yRd_isWordAt (d0 + 4) 0 0 0 [(0, .inr (some 111)), (1, .inl x1), (2, .inl x2), (3, .inl x3)] [] shX I (gb_po shX (some (.inl rz)) I)
  refine go_iload_n (k := 2) d_Rd_isWordAt_0 rfl rfl ?_
  refine go_istore (lv' := [(4, .inl x2), (0, .inr (some 111)), (1, .inl x1), (2, .inl x2), (3, .inl x3)]) d_Rd_isWordAt_1 (by decide) rfl ?_
  refine go_lv [1, 2, 3, 4, 0] (lv' := [(0, .inr (some 111)), (1, .inl x1), (2, .inl x2), (3, .inl x3), (4, .inl x2)]) rfl ?_
  obtain ⟨ρ, w1, w2, w3⟩ := fbr_e2 h
  refine l_Rd_isWordAt_3 l d0 x1 x2 x3 I 5000 x2 w1 (fun  e => ?_) (fun q3 e => ?_)
  · have h := w2 _ e
    try dsimp only at h
    refine go_iconst (v := 1) d_Rd_isWordAt_57 (by decide) ?_
    cases h
    exact go_zreturn d_Rd_isWordAt_58 rfl (Or.inr rfl) gb_po_i
  · have h := w3 _ e
    try dsimp only at h
    cases h
    exact gb_po_i
theorem d_Se_shortest_0 : decode ySe_shortest.2.1 0 = .ok (.iload_n 1, 1) := by decide +kernel
theorem d_Se_shortest_1 : decode ySe_shortest.2.1 1 = .ok (.iconst 0, 1) := by decide +kernel
theorem d_Se_shortest_2 : decode ySe_shortest.2.1 2 = .ok (.bipush 11, 2) := by decide +kernel
theorem d_Se_shortest_4 : decode ySe_shortest.2.1 4 = .ok (.invokestatic 38, 3) := by decide +kernel
theorem d_Se_shortest_7 : decode ySe_shortest.2.1 7 = .ok (.ifCond .eq 13, 3) := by decide +kernel
theorem d_Se_shortest_10 : decode ySe_shortest.2.1 10 = .ok (.iload_n 2, 1) := by decide +kernel
theorem d_Se_shortest_11 : decode ySe_shortest.2.1 11 = .ok (.iconst 0, 1) := by decide +kernel
theorem d_Se_shortest_12 : decode ySe_shortest.2.1 12 = .ok (.bipush 11, 2) := by decide +kernel
theorem d_Se_shortest_14 : decode ySe_shortest.2.1 14 = .ok (.invokestatic 38, 3) := by decide +kernel
theorem d_Se_shortest_17 : decode ySe_shortest.2.1 17 = .ok (.ifCond .ne 5, 3) := by decide +kernel
theorem d_Se_shortest_20 : decode ySe_shortest.2.1 20 = .ok (.iconst (-1), 1) := by decide +kernel
theorem d_Se_shortest_21 : decode ySe_shortest.2.1 21 = .ok (.ireturn, 1) := by decide +kernel
theorem d_Se_shortest_22 : decode ySe_shortest.2.1 22 = .ok (.iconst 1, 1) := by decide +kernel
theorem d_Se_shortest_23 : decode ySe_shortest.2.1 23 = .ok (.iload_n 1, 1) := by decide +kernel
theorem d_Se_shortest_24 : decode ySe_shortest.2.1 24 = .ok (.ishl, 1) := by decide +kernel
theorem d_Se_shortest_25 : decode ySe_shortest.2.1 25 = .ok (.istore 4, 2) := by decide +kernel
theorem d_Se_shortest_27 : decode ySe_shortest.2.1 27 = .ok (.iload 4, 2) := by decide +kernel
theorem d_Se_shortest_29 : decode ySe_shortest.2.1 29 = .ok (.istore 5, 2) := by decide +kernel
theorem d_Se_shortest_31 : decode ySe_shortest.2.1 31 = .ok (.aload_n 0, 1) := by decide +kernel
theorem d_Se_shortest_32 : decode ySe_shortest.2.1 32 = .ok (.getfield 9, 3) := by decide +kernel
theorem d_Se_shortest_35 : decode ySe_shortest.2.1 35 = .ok (.iload_n 1, 1) := by decide +kernel
theorem d_Se_shortest_36 : decode ySe_shortest.2.1 36 = .ok (.iconst 0, 1) := by decide +kernel
theorem d_Se_shortest_37 : decode ySe_shortest.2.1 37 = .ok (.iastore, 1) := by decide +kernel
theorem d_Se_shortest_38 : decode ySe_shortest.2.1 38 = .ok (.iconst 0, 1) := by decide +kernel
theorem d_Se_shortest_39 : decode ySe_shortest.2.1 39 = .ok (.istore 6, 2) := by decide +kernel
theorem d_Se_shortest_41 : decode ySe_shortest.2.1 41 = .ok (.iload 6, 2) := by decide +kernel
theorem d_Se_shortest_43 : decode ySe_shortest.2.1 43 = .ok (.bipush 12, 2) := by decide +kernel
theorem d_Se_shortest_45 : decode ySe_shortest.2.1 45 = .ok (.if_icmp .ge 52, 3) := by decide +kernel
theorem d_Se_shortest_48 : decode ySe_shortest.2.1 48 = .ok (.iload 4, 2) := by decide +kernel
theorem d_Se_shortest_50 : decode ySe_shortest.2.1 50 = .ok (.iload_n 2, 1) := by decide +kernel
theorem d_Se_shortest_51 : decode ySe_shortest.2.1 51 = .ok (.ishr, 1) := by decide +kernel
theorem d_Se_shortest_52 : decode ySe_shortest.2.1 52 = .ok (.iconst 1, 1) := by decide +kernel
theorem d_Se_shortest_53 : decode ySe_shortest.2.1 53 = .ok (.iand, 1) := by decide +kernel
theorem d_Se_shortest_54 : decode ySe_shortest.2.1 54 = .ok (.iconst 1, 1) := by decide +kernel
theorem d_Se_shortest_55 : decode ySe_shortest.2.1 55 = .ok (.if_icmp .ne 19, 3) := by decide +kernel
theorem d_Se_shortest_58 : decode ySe_shortest.2.1 58 = .ok (.iload_n 3, 1) := by decide +kernel
theorem d_Se_shortest_59 : decode ySe_shortest.2.1 59 = .ok (.ifCond .eq 12, 3) := by decide +kernel
theorem d_Se_shortest_62 : decode ySe_shortest.2.1 62 = .ok (.aload_n 0, 1) := by decide +kernel
theorem d_Se_shortest_63 : decode ySe_shortest.2.1 63 = .ok (.getfield 9, 3) := by decide +kernel
theorem d_Se_shortest_66 : decode ySe_shortest.2.1 66 = .ok (.iload_n 2, 1) := by decide +kernel
theorem d_Se_shortest_67 : decode ySe_shortest.2.1 67 = .ok (.iaload, 1) := by decide +kernel
theorem d_Se_shortest_68 : decode ySe_shortest.2.1 68 = .ok (.goto 5, 3) := by decide +kernel
theorem d_Se_shortest_71 : decode ySe_shortest.2.1 71 = .ok (.iload 6, 2) := by decide +kernel
theorem d_Se_shortest_73 : decode ySe_shortest.2.1 73 = .ok (.ireturn, 1) := by decide +kernel
theorem d_Se_shortest_74 : decode ySe_shortest.2.1 74 = .ok (.aload_n 0, 1) := by decide +kernel
theorem d_Se_shortest_75 : decode ySe_shortest.2.1 75 = .ok (.iload 4, 2) := by decide +kernel
theorem d_Se_shortest_77 : decode ySe_shortest.2.1 77 = .ok (.iload 5, 2) := by decide +kernel
theorem d_Se_shortest_79 : decode ySe_shortest.2.1 79 = .ok (.invokevirtual 42, 3) := by decide +kernel
theorem d_Se_shortest_82 : decode ySe_shortest.2.1 82 = .ok (.istore 4, 2) := by decide +kernel
theorem d_Se_shortest_84 : decode ySe_shortest.2.1 84 = .ok (.iload 5, 2) := by decide +kernel
theorem d_Se_shortest_86 : decode ySe_shortest.2.1 86 = .ok (.iload 4, 2) := by decide +kernel
theorem d_Se_shortest_88 : decode ySe_shortest.2.1 88 = .ok (.ior, 1) := by decide +kernel
theorem d_Se_shortest_89 : decode ySe_shortest.2.1 89 = .ok (.istore 5, 2) := by decide +kernel
theorem d_Se_shortest_91 : decode ySe_shortest.2.1 91 = .ok (.iinc 6 1, 3) := by decide +kernel
theorem d_Se_shortest_94 : decode ySe_shortest.2.1 94 = .ok (.goto (-53), 3) := by decide +kernel
theorem d_Se_shortest_97 : decode ySe_shortest.2.1 97 = .ok (.iconst (-1), 1) := by decide +kernel
theorem d_Se_shortest_98 : decode ySe_shortest.2.1 98 = .ok (.ireturn, 1) := by decide +kernel
def L_Se_shortest_41 (x2 x3 : Int32) : Nat → Int32 → Int32 → Int32 → gb_Mem → Option ((gb_Mem) ⊕ (Int32 × gb_Mem))
  | 0, _, _, _, _ => none
  | n + 1, x4, x5, x6, I =>
    if 12 ≤ x6 then
      some (.inl I)
    else
      if ((x4 >>> (x2 &&& 31)) &&& 1) = 1 then
        if x3 = 0 then
          some (.inr (x6, I))
        else
          flod I 105 12 x2 fun v5 =>
          some (.inr (v5, I))
      else
        fbd (F_Se_nextEdge x4 x5 I) fun (r4, I3) =>
        L_Se_shortest_41 x2 x3 n r4 (x5 ||| r4) (x6 + 1) I3
set_option maxRecDepth 4000 in
theorem l_Se_shortest_41 (l : Launch) (d0 : Nat) (x2 x3 : Int32) {post : Option gb_AV → List gb_Ce → gb_Mem → Prop} : ∀ (n : Nat) (x4 x5 x6 : Int32) (I : gb_Mem) {ρ : (gb_Mem) ⊕ (Int32 × gb_Mem)} (h : L_Se_shortest_41 x2 x3 n x4 x5 x6 I = some ρ) (hX : ∀ (I2 : gb_Mem), ρ = .inl I2 → gb_Go l ySe_shortest (d0 + 4) 0 0 97 [] [] shX I2 post) (hR : ∀ (v : Int32) (I3 : gb_Mem), ρ = .inr (v, I3) → post (some (.inl v)) shX I3) , gb_Go l ySe_shortest (d0 + 4) 0 0 41 [(0, .inr (some 104)), (2, .inl x2), (3, .inl x3), (4, .inl x4), (5, .inl x5), (6, .inl x6)] [] shX I post := by
  intro n
  induction n with
  | zero => intro x4 x5 x6 I ρ h hX hR; cases h
  | succ n ih =>
    intro x4 x5 x6 I ρ h hX hR
    rw [L_Se_shortest_41] at h
    refine go_iload (k := 5) d_Se_shortest_41 rfl ?_
    refine go_bipush (v := 12) d_Se_shortest_43 (by decide) ?_
    refine go_cmp_ge (tgt := 97) d_Se_shortest_45 (by decide) (fun hc => ?_) (fun hc => ?_)
    · rw [if_pos hc] at h
      exact go_lv [] rfl (hX _ (Option.some.inj h).symm)
    · rw [if_neg hc] at h
      refine go_iload (k := 3) d_Se_shortest_48 rfl ?_
      refine go_iload_n (k := 1) d_Se_shortest_50 rfl rfl ?_
      refine go_ishr d_Se_shortest_51 ?_
      refine go_iconst (v := 1) d_Se_shortest_52 (by decide) ?_
      refine go_iand d_Se_shortest_53 ?_
      refine go_iconst (v := 1) d_Se_shortest_54 (by decide) ?_
      refine go_cmp_ne (tgt := 74) d_Se_shortest_55 (by decide) (fun hc => ?_) (fun hc => ?_)
      · rw [if_neg hc] at h
        refine go_aload_n (k := 0) d_Se_shortest_74 rfl rfl ?_
        refine go_iload (k := 3) d_Se_shortest_75 rfl ?_
        refine go_iload (k := 4) d_Se_shortest_77 rfl ?_
        obtain ⟨⟨r4, I3⟩, w1, h⟩ := fbd_e h
        try dsimp only at h
        refine go_callV (y := ySe_nextEdge) (asr := [.inl x4, .inl x5]) (v := some (.inl r4)) (I' := I3) (st1 := [.inl r4]) d_Se_shortest_79 s_ySe_nextEdge m_Se_42 a_X_104 rfl rfl rfl (Nat.le_of_ble_eq_true rfl) rfl rfl (c_Se_nextEdge l (d0 + 0) x4 x5 I w1) ?_
        refine go_istore (lv' := [(4, .inl r4), (0, .inr (some 104)), (2, .inl x2), (3, .inl x3), (5, .inl x5), (6, .inl x6)]) d_Se_shortest_82 (by decide) rfl ?_
        refine go_iload (k := 4) d_Se_shortest_84 rfl ?_
        refine go_iload (k := 0) d_Se_shortest_86 rfl ?_
        refine go_ior d_Se_shortest_88 ?_
        refine go_istore (lv' := [(5, .inl (x5 ||| r4)), (4, .inl r4), (0, .inr (some 104)), (2, .inl x2), (3, .inl x3), (6, .inl x6)]) d_Se_shortest_89 (by decide) rfl ?_
        refine go_iinc (k := 5) (v := x6 + 1) (lv' := [(6, .inl (x6 + 1)), (5, .inl (x5 ||| r4)), (4, .inl r4), (0, .inr (some 104)), (2, .inl x2), (3, .inl x3)]) d_Se_shortest_91 rfl rfl (by decide) rfl ?_
        refine go_goto (tgt := 41) d_Se_shortest_94 (by decide) ?_
        exact go_lv [3, 4, 5, 2, 1, 0] rfl (ih r4 (x5 ||| r4) (x6 + 1) I3 h hX hR)
      · rw [if_pos hc] at h
        refine go_iload_n (k := 2) d_Se_shortest_58 rfl rfl ?_
        refine go_if_eq (tgt := 71) d_Se_shortest_59 (by decide) (fun hc => ?_) (fun hc => ?_)
        · rw [if_pos hc] at h
          refine go_iload (k := 5) d_Se_shortest_71 rfl ?_
          exact go_ireturn d_Se_shortest_73 rfl (hR _ _ (Option.some.inj h).symm)
        · rw [if_neg hc] at h
          refine go_aload_n (k := 0) d_Se_shortest_62 rfl rfl ?_
          refine go_getr (ci := 7) (k := 1) (r := 105) d_Se_shortest_63 a_X_104 rfl (by decide) f_Se_9 rfl ?_
          refine go_iload_n (k := 1) d_Se_shortest_66 rfl rfl ?_
          obtain ⟨hi, v5, ev5, h⟩ := flod_e h
          refine go_iald2 d_Se_shortest_67 a_X_105 hi ev5 ?_
          refine go_goto (tgt := 73) d_Se_shortest_68 (by decide) ?_
          exact go_ireturn d_Se_shortest_73 rfl (hR _ _ (Option.some.inj h).symm)
def F_Se_shortest (x1 x2 x3 : Int32) (I : gb_Mem) : Option (Int32 × gb_Mem) :=
  if (F_Gb_within x1 0 11 I) = 0 then
    some ((-1), I)
  else
    if (F_Gb_within x2 0 11 I) = 0 then
      some ((-1), I)
    else
      flt (1 <<< (x1 &&& 31)) fun y1 =>
      fsto I 105 12 x1 0 fun I2 =>
      fbr (L_Se_shortest_41 x2 x3 5000 y1 y1 0 I2) (fun I6 =>
        some ((-1), I6))
        (fun (q7, I8) => some (q7, I8))
set_option maxRecDepth 4000 in
theorem c_Se_shortest (l : Launch) (d0 : Nat) (x1 x2 x3 : Int32) (I : gb_Mem) {rz : Int32} {Iz : gb_Mem} (h : F_Se_shortest x1 x2 x3 I = some (rz, Iz)) : gb_Cs l ySe_shortest (d0 + 4) [.inr (some 104), .inl x1, .inl x2, .inl x3] shX I (some (.inl rz)) Iz := by
  refine gb_Ct.of (lv := [(0, .inr (some 104)), (1, .inl x1), (2, .inl x2), (3, .inl x3)]) rfl (Nat.le_of_ble_eq_true rfl) rfl ?_
  unfold F_Se_shortest at h
  show gb_Go l ySe_shortest (d0 + 4) 0 0 0 [(0, .inr (some 104)), (1, .inl x1), (2, .inl x2), (3, .inl x3)] [] shX I (gb_po shX (some (.inl rz)) Iz)
  refine go_iload_n (k := 1) d_Se_shortest_0 rfl rfl ?_
  refine go_iconst (v := 0) d_Se_shortest_1 (by decide) ?_
  refine go_bipush (v := 11) d_Se_shortest_2 (by decide) ?_
  refine go_callSN (y := yGb_within) (asr := [.inl x1, .inl 0, .inl 11]) (v := some (.inl (F_Gb_within x1 0 11 I))) (I' := I) (st1 := [.inl (F_Gb_within x1 0 11 I)]) d_Se_shortest_4 s_yGb_within m_Se_38 rfl (Nat.le_of_ble_eq_true rfl) rfl rfl (c_Gb_within l (d0 + 3) x1 0 11 I) ?_
  refine go_if_eq (tgt := 20) d_Se_shortest_7 (by decide) (fun hc => ?_) (fun hc => ?_)
  · rw [if_pos hc] at h
    refine go_iconst (v := (-1)) d_Se_shortest_20 (by decide) ?_
    cases h
    exact go_ireturn d_Se_shortest_21 rfl gb_po_i
  · rw [if_neg hc] at h
    refine go_iload_n (k := 2) d_Se_shortest_10 rfl rfl ?_
    refine go_iconst (v := 0) d_Se_shortest_11 (by decide) ?_
    refine go_bipush (v := 11) d_Se_shortest_12 (by decide) ?_
    refine go_callSN (y := yGb_within) (asr := [.inl x2, .inl 0, .inl 11]) (v := some (.inl (F_Gb_within x2 0 11 I))) (I' := I) (st1 := [.inl (F_Gb_within x2 0 11 I)]) d_Se_shortest_14 s_yGb_within m_Se_38 rfl (Nat.le_of_ble_eq_true rfl) rfl rfl (c_Gb_within l (d0 + 3) x2 0 11 I) ?_
    refine go_if_ne (tgt := 22) d_Se_shortest_17 (by decide) (fun hc => ?_) (fun hc => ?_)
    · rw [if_neg hc] at h
      refine go_iconst (v := 1) d_Se_shortest_22 (by decide) ?_
      refine go_iload_n (k := 1) d_Se_shortest_23 rfl rfl ?_
      refine go_ishl d_Se_shortest_24 ?_
      obtain ⟨y1, ey1, h⟩ := flt_e h
      refine go_top ey1 ?_
      refine go_istore (lv' := [(4, .inl y1), (0, .inr (some 104)), (1, .inl x1), (2, .inl x2), (3, .inl x3)]) d_Se_shortest_25 (by decide) rfl ?_
      refine go_iload (k := 0) d_Se_shortest_27 rfl ?_
      refine go_istore (lv' := [(5, .inl y1), (4, .inl y1), (0, .inr (some 104)), (1, .inl x1), (2, .inl x2), (3, .inl x3)]) d_Se_shortest_29 (by decide) rfl ?_
      refine go_aload_n (k := 2) d_Se_shortest_31 rfl rfl ?_
      refine go_getr (ci := 7) (k := 1) (r := 105) d_Se_shortest_32 a_X_104 rfl (by decide) f_Se_9 rfl ?_
      refine go_iload_n (k := 3) d_Se_shortest_35 rfl rfl ?_
      refine go_iconst (v := 0) d_Se_shortest_36 (by decide) ?_
      obtain ⟨hi, I2, eI2, h⟩ := fsto_e h
      refine go_iast (I' := I2) d_Se_shortest_37 a_X_105 hi eI2 ?_
      refine go_iconst (v := 0) d_Se_shortest_38 (by decide) ?_
      refine go_istore (lv' := [(6, .inl 0), (5, .inl y1), (4, .inl y1), (0, .inr (some 104)), (1, .inl x1), (2, .inl x2), (3, .inl x3)]) d_Se_shortest_39 (by decide) rfl ?_
      refine go_lv [3, 5, 6, 2, 1, 0] (lv' := [(0, .inr (some 104)), (2, .inl x2), (3, .inl x3), (4, .inl y1), (5, .inl y1), (6, .inl 0)]) rfl ?_
      obtain ⟨ρ, w1, w2, w3⟩ := fbr_e2 h
      refine l_Se_shortest_41 l d0 x2 x3 5000 y1 y1 0 I2 w1 (fun I6 e => ?_) (fun q7 I8 e => ?_)
      · have h := w2 _ e
        try dsimp only at h
        refine go_iconst (v := (-1)) d_Se_shortest_97 (by decide) ?_
        cases h
        exact go_ireturn d_Se_shortest_98 rfl gb_po_i
      · have h := w3 _ e
        try dsimp only at h
        cases h
        exact gb_po_i
    · rw [if_pos hc] at h
      refine go_iconst (v := (-1)) d_Se_shortest_20 (by decide) ?_
      cases h
      exact go_ireturn d_Se_shortest_21 rfl gb_po_i
theorem d_Co_passByHand_0 : decode yCo_passByHand.2.1 0 = .ok (.aload_n 0, 1) := by decide +kernel
theorem d_Co_passByHand_1 : decode yCo_passByHand.2.1 1 = .ok (.getfield 19, 3) := by decide +kernel
theorem d_Co_passByHand_4 : decode yCo_passByHand.2.1 4 = .ok (.iconst 2, 1) := by decide +kernel
theorem d_Co_passByHand_5 : decode yCo_passByHand.2.1 5 = .ok (.iload_n 1, 1) := by decide +kernel
theorem d_Co_passByHand_6 : decode yCo_passByHand.2.1 6 = .ok (.iload_n 2, 1) := by decide +kernel
theorem d_Co_passByHand_7 : decode yCo_passByHand.2.1 7 = .ok (.invokevirtual 57, 3) := by decide +kernel
theorem d_Co_passByHand_10 : decode yCo_passByHand.2.1 10 = .ok (.aload_n 0, 1) := by decide +kernel
theorem d_Co_passByHand_11 : decode yCo_passByHand.2.1 11 = .ok (.iconst 3, 1) := by decide +kernel
theorem d_Co_passByHand_12 : decode yCo_passByHand.2.1 12 = .ok (.iload_n 1, 1) := by decide +kernel
theorem d_Co_passByHand_13 : decode yCo_passByHand.2.1 13 = .ok (.iload_n 2, 1) := by decide +kernel
theorem d_Co_passByHand_14 : decode yCo_passByHand.2.1 14 = .ok (.invokevirtual 61, 3) := by decide +kernel
theorem d_Co_passByHand_17 : decode yCo_passByHand.2.1 17 = .ok (.aload_n 0, 1) := by decide +kernel
theorem d_Co_passByHand_18 : decode yCo_passByHand.2.1 18 = .ok (.getfield 19, 3) := by decide +kernel
theorem d_Co_passByHand_21 : decode yCo_passByHand.2.1 21 = .ok (.iload_n 1, 1) := by decide +kernel
theorem d_Co_passByHand_22 : decode yCo_passByHand.2.1 22 = .ok (.invokevirtual 46, 3) := by decide +kernel
theorem d_Co_passByHand_25 : decode yCo_passByHand.2.1 25 = .ok (.ifCond .eq 8, 3) := by decide +kernel
theorem d_Co_passByHand_28 : decode yCo_passByHand.2.1 28 = .ok (.aload_n 0, 1) := by decide +kernel
theorem d_Co_passByHand_29 : decode yCo_passByHand.2.1 29 = .ok (.iload_n 1, 1) := by decide +kernel
theorem d_Co_passByHand_30 : decode yCo_passByHand.2.1 30 = .ok (.invokevirtual 64, 3) := by decide +kernel
theorem d_Co_passByHand_33 : decode yCo_passByHand.2.1 33 = .ok (.return_, 1) := by decide +kernel
def F_Co_passByHand (h0 t0 : Nat) (x1 x2 : Int32) (I : gb_Mem) : Option (gb_Mem) :=
  fbd (F_Ta_putBoat t0 2 x1 x2 I) fun I1 =>
  fbd (F_Co_write h0 t0 3 x1 x2 I1) fun I2 =>
  fbd (F_Ta_isAtItsShore t0 x1 I2) fun r3 =>
  if r3 = 0 then
    some I2
  else
    fbd (F_Co_land h0 t0 x1 I2) fun I4 =>
    some I4
set_option maxRecDepth 4000 in
theorem c_Co_passByHand (l : Launch) (d0 : Nat) (h0 t0 : Nat) (H0 : isCo h0 t0) (x1 x2 : Int32) (I : gb_Mem) {Iz : gb_Mem} (h : F_Co_passByHand h0 t0 x1 x2 I = some Iz) : gb_Cs l yCo_passByHand (d0 + 5) [.inr (some h0), .inl x1, .inl x2] shX I none Iz := by
  refine gb_Ct.of (lv := [(0, .inr (some h0)), (1, .inl x1), (2, .inl x2)]) rfl (Nat.le_of_ble_eq_true rfl) rfl ?_
  unfold F_Co_passByHand at h
  show gb_Go l yCo_passByHand (d0 + 5) 0 0 0 [(0, .inr (some h0)), (1, .inl x1), (2, .inl x2)] [] shX I (gb_po shX none Iz)
  refine go_aload_n (k := 0) d_Co_passByHand_0 rfl rfl ?_
  refine go_getr (ci := 6) (k := 1) (r := t0) d_Co_passByHand_1 H0.1 rfl (by decide) f_Co_19 rfl ?_
  refine go_iconst (v := 2) d_Co_passByHand_4 (by decide) ?_
  refine go_iload_n (k := 1) d_Co_passByHand_5 rfl rfl ?_
  refine go_iload_n (k := 2) d_Co_passByHand_6 rfl rfl ?_
  obtain ⟨I1, w1, h⟩ := fbd_e h
  refine go_callV (y := yTa_putBoat) (asr := [.inl 2, .inl x1, .inl x2]) (v := none) (I' := I1) (st1 := []) d_Co_passByHand_7 s_yTa_putBoat m_Co_57 H0.2.2.1 rfl rfl rfl (Nat.le_of_ble_eq_true rfl) rfl rfl (c_Ta_putBoat l (d0 + 3) t0 H0.2.2 2 x1 x2 I w1) ?_
  refine go_aload_n (k := 0) d_Co_passByHand_10 rfl rfl ?_
  refine go_iconst (v := 3) d_Co_passByHand_11 (by decide) ?_
  refine go_iload_n (k := 1) d_Co_passByHand_12 rfl rfl ?_
  refine go_iload_n (k := 2) d_Co_passByHand_13 rfl rfl ?_
  obtain ⟨I2, w1, h⟩ := fbd_e h
  refine go_callV (y := yCo_write) (asr := [.inl 3, .inl x1, .inl x2]) (v := none) (I' := I2) (st1 := []) d_Co_passByHand_14 s_yCo_write m_Co_61 H0.1 rfl rfl rfl (Nat.le_of_ble_eq_true rfl) rfl rfl (c_Co_write l (d0 + 3) h0 t0 H0 3 x1 x2 I1 w1) ?_
  refine go_aload_n (k := 0) d_Co_passByHand_17 rfl rfl ?_
  refine go_getr (ci := 6) (k := 1) (r := t0) d_Co_passByHand_18 H0.1 rfl (by decide) f_Co_19 rfl ?_
  refine go_iload_n (k := 1) d_Co_passByHand_21 rfl rfl ?_
  obtain ⟨r3, w1, h⟩ := fbd_e h
  refine go_callV (y := yTa_isAtItsShore) (asr := [.inl x1]) (v := some (.inl r3)) (I' := I2) (st1 := [.inl r3]) d_Co_passByHand_22 s_yTa_isAtItsShore m_Co_46 H0.2.2.1 rfl rfl rfl (Nat.le_of_ble_eq_true rfl) rfl rfl (c_Ta_isAtItsShore l (d0 + 2) t0 H0.2.2 x1 I2 w1) ?_
  refine go_if_eq (tgt := 33) d_Co_passByHand_25 (by decide) (fun hc => ?_) (fun hc => ?_)
  · rw [if_pos hc] at h
    cases h
    exact go_return d_Co_passByHand_33 rfl gb_po_i
  · rw [if_neg hc] at h
    refine go_aload_n (k := 0) d_Co_passByHand_28 rfl rfl ?_
    refine go_iload_n (k := 1) d_Co_passByHand_29 rfl rfl ?_
    obtain ⟨I4, w1, h⟩ := fbd_e h
    refine go_callV (y := yCo_land) (asr := [.inl x1]) (v := none) (I' := I4) (st1 := []) d_Co_passByHand_30 s_yCo_land m_Co_64 H0.1 rfl rfl rfl (Nat.le_of_ble_eq_true rfl) rfl rfl (c_Co_land l (d0 + 0) h0 t0 H0 x1 I2 w1) ?_
    cases h
    exact go_return d_Co_passByHand_33 rfl gb_po_i
