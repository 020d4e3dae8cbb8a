theorem d_Gb_set_0 : decode yGb_set.2.1 0 = .ok (.aload_n 0, 1) := by decide +kernel
theorem d_Gb_set_1 : decode yGb_set.2.1 1 = .ok (.iload_n 1, 1) := by decide +kernel
theorem d_Gb_set_2 : decode yGb_set.2.1 2 = .ok (.iload_n 2, 1) := by decide +kernel
theorem d_Gb_set_3 : decode yGb_set.2.1 3 = .ok (.iload_n 3, 1) := by decide +kernel
theorem d_Gb_set_4 : decode yGb_set.2.1 4 = .ok (.invokevirtual 102, 3) := by decide +kernel
theorem d_Gb_set_7 : decode yGb_set.2.1 7 = .ok (.ifCond .ne 5, 3) := by decide +kernel
theorem d_Gb_set_10 : decode yGb_set.2.1 10 = .ok (.iconst 0, 1) := by decide +kernel
theorem d_Gb_set_11 : decode yGb_set.2.1 11 = .ok (.ireturn, 1) := by decide +kernel
theorem d_Gb_set_12 : decode yGb_set.2.1 12 = .ok (.aload_n 0, 1) := by decide +kernel
theorem d_Gb_set_13 : decode yGb_set.2.1 13 = .ok (.getfield 22, 3) := by decide +kernel
theorem d_Gb_set_16 : decode yGb_set.2.1 16 = .ok (.invokevirtual 81, 3) := by decide +kernel
theorem d_Gb_set_19 : decode yGb_set.2.1 19 = .ok (.iload_n 1, 1) := by decide +kernel
theorem d_Gb_set_20 : decode yGb_set.2.1 20 = .ok (.bipush 7, 2) := by decide +kernel
theorem d_Gb_set_22 : decode yGb_set.2.1 22 = .ok (.if_icmp .ne 17, 3) := by decide +kernel
theorem d_Gb_set_25 : decode yGb_set.2.1 25 = .ok (.aload_n 0, 1) := by decide +kernel
theorem d_Gb_set_26 : decode yGb_set.2.1 26 = .ok (.getfield 12, 3) := by decide +kernel
theorem d_Gb_set_29 : decode yGb_set.2.1 29 = .ok (.getfield 35, 3) := by decide +kernel
theorem d_Gb_set_32 : decode yGb_set.2.1 32 = .ok (.iload_n 3, 1) := by decide +kernel
theorem d_Gb_set_33 : decode yGb_set.2.1 33 = .ok (.putfield 105, 3) := by decide +kernel
theorem d_Gb_set_36 : decode yGb_set.2.1 36 = .ok (.goto 59, 3) := by decide +kernel
theorem d_Gb_set_39 : decode yGb_set.2.1 39 = .ok (.iload_n 1, 1) := by decide +kernel
theorem d_Gb_set_40 : decode yGb_set.2.1 40 = .ok (.iconst 5, 1) := by decide +kernel
theorem d_Gb_set_41 : decode yGb_set.2.1 41 = .ok (.if_icmp .ne 19, 3) := by decide +kernel
theorem d_Gb_set_44 : decode yGb_set.2.1 44 = .ok (.aload_n 0, 1) := by decide +kernel
theorem d_Gb_set_45 : decode yGb_set.2.1 45 = .ok (.getfield 12, 3) := by decide +kernel
theorem d_Gb_set_48 : decode yGb_set.2.1 48 = .ok (.getfield 35, 3) := by decide +kernel
theorem d_Gb_set_51 : decode yGb_set.2.1 51 = .ok (.iconst 1, 1) := by decide +kernel
theorem d_Gb_set_52 : decode yGb_set.2.1 52 = .ok (.iload_n 2, 1) := by decide +kernel
theorem d_Gb_set_53 : decode yGb_set.2.1 53 = .ok (.iload_n 3, 1) := by decide +kernel
theorem d_Gb_set_54 : decode yGb_set.2.1 54 = .ok (.invokevirtual 98, 3) := by decide +kernel
theorem d_Gb_set_57 : decode yGb_set.2.1 57 = .ok (.goto 38, 3) := by decide +kernel
theorem d_Gb_set_60 : decode yGb_set.2.1 60 = .ok (.iload_n 1, 1) := by decide +kernel
theorem d_Gb_set_61 : decode yGb_set.2.1 61 = .ok (.bipush 6, 2) := by decide +kernel
theorem d_Gb_set_63 : decode yGb_set.2.1 63 = .ok (.if_icmp .ne 19, 3) := by decide +kernel
theorem d_Gb_set_66 : decode yGb_set.2.1 66 = .ok (.aload_n 0, 1) := by decide +kernel
theorem d_Gb_set_67 : decode yGb_set.2.1 67 = .ok (.getfield 12, 3) := by decide +kernel
theorem d_Gb_set_70 : decode yGb_set.2.1 70 = .ok (.getfield 35, 3) := by decide +kernel
theorem d_Gb_set_73 : decode yGb_set.2.1 73 = .ok (.iconst 4, 1) := by decide +kernel
theorem d_Gb_set_74 : decode yGb_set.2.1 74 = .ok (.iload_n 2, 1) := by decide +kernel
theorem d_Gb_set_75 : decode yGb_set.2.1 75 = .ok (.iload_n 3, 1) := by decide +kernel
theorem d_Gb_set_76 : decode yGb_set.2.1 76 = .ok (.invokevirtual 98, 3) := by decide +kernel
theorem d_Gb_set_79 : decode yGb_set.2.1 79 = .ok (.goto 16, 3) := by decide +kernel
theorem d_Gb_set_82 : decode yGb_set.2.1 82 = .ok (.aload_n 0, 1) := by decide +kernel
theorem d_Gb_set_83 : decode yGb_set.2.1 83 = .ok (.getfield 12, 3) := by decide +kernel
theorem d_Gb_set_86 : decode yGb_set.2.1 86 = .ok (.getfield 35, 3) := by decide +kernel
theorem d_Gb_set_89 : decode yGb_set.2.1 89 = .ok (.iload_n 1, 1) := by decide +kernel
theorem d_Gb_set_90 : decode yGb_set.2.1 90 = .ok (.iload_n 2, 1) := by decide +kernel
theorem d_Gb_set_91 : decode yGb_set.2.1 91 = .ok (.iload_n 3, 1) := by decide +kernel
theorem d_Gb_set_92 : decode yGb_set.2.1 92 = .ok (.invokevirtual 108, 3) := by decide +kernel
theorem d_Gb_set_95 : decode yGb_set.2.1 95 = .ok (.iconst 1, 1) := by decide +kernel
theorem d_Gb_set_96 : decode yGb_set.2.1 96 = .ok (.ireturn, 1) := by decide +kernel
def F_Gb_set (x1 x2 x3 : Int32) (I : gb_Mem) : Option (Int32 × gb_Mem) :=
  fbd (F_Gb_canSet x1 x2 x3 I) fun r1 =>
  if r1 = 0 then
    some (0, I)
  else
    fbd (F_Pa_forget  I) fun I2 =>
    if x1 = 7 then
      fstf I2 2 3 x3 fun I6 =>
      some (1, I6)
    else
      if x1 = 5 then
        fbd (F_Ta_putBoat 2 1 x2 x3 I2) fun I5 =>
        some (1, I5)
      else
        if x1 = 6 then
          fbd (F_Ta_putBoat 2 4 x2 x3 I2) fun I4 =>
          some (1, I4)
        else
          fbd (F_Ta_putSeat 2 x1 x2 x3 I2) fun I3 =>
          some (1, I3)
set_option maxRecDepth 4000 in
theorem c_Gb_set (l : Launch) (d0 : Nat) (x1 x2 x3 : Int32) (I : gb_Mem) {rz : Int32} {Iz : gb_Mem} (h : F_Gb_set x1 x2 x3 I = some (rz, Iz)) : gb_Cs l yGb_set (d0 + 2) [.inr (some 0), .inl x1, .inl x2, .inl x3] shX I (some (.inl rz)) Iz := by
  refine gb_Ct.of (lv := [(0, .inr (some 0)), (1, .inl x1), (2, .inl x2), (3, .inl x3)]) rfl (Nat.le_of_ble_eq_true rfl) rfl ?_
  unfold F_Gb_set at h
  show gb_Go l yGb_set (d0 + 2) 0 0 0 [(0, .inr (some 0)), (1, .inl x1), (2, .inl x2), (3, .inl x3)] [] shX I (gb_po shX (some (.inl rz)) Iz)
  refine go_aload_n (k := 0) d_Gb_set_0 rfl rfl ?_
  refine go_iload_n (k := 1) d_Gb_set_1 rfl rfl ?_
  refine go_iload_n (k := 2) d_Gb_set_2 rfl rfl ?_
  refine go_iload_n (k := 3) d_Gb_set_3 rfl rfl ?_
  obtain ⟨r1, w1, h⟩ := fbd_e h
  refine go_callV (y := yGb_canSet) (asr := [.inl x1, .inl x2, .inl x3]) (v := some (.inl r1)) (I' := I) (st1 := [.inl r1]) d_Gb_set_4 s_yGb_canSet m_Gb_102 a_X_0 rfl rfl rfl (Nat.le_of_ble_eq_true rfl) rfl rfl (c_Gb_canSet l (d0 + 0) x1 x2 x3 I w1) ?_
  refine go_if_ne (tgt := 12) d_Gb_set_7 (by decide) (fun hc => ?_) (fun hc => ?_)
  · rw [if_neg hc] at h
    refine go_aload_n (k := 0) d_Gb_set_12 rfl rfl ?_
    refine go_getr (ci := 0) (k := 3) (r := 69) d_Gb_set_13 a_X_0 rfl (by decide) f_Gb_22 rfl ?_
    obtain ⟨I2, w1, h⟩ := fbd_e h
    refine go_callV (y := yPa_forget) (asr := []) (v := none) (I' := I2) (st1 := []) d_Gb_set_16 s_yPa_forget m_Gb_81 a_X_69 rfl rfl rfl (Nat.le_of_ble_eq_true rfl) rfl rfl (c_Pa_forget l (d0 + 1)  I w1) ?_
    refine go_iload_n (k := 1) d_Gb_set_19 rfl rfl ?_
    refine go_bipush (v := 7) d_Gb_set_20 (by decide) ?_
    refine go_cmp_ne (tgt := 39) d_Gb_set_22 (by decide) (fun hc => ?_) (fun hc => ?_)
    · rw [if_neg hc] at h
      refine go_iload_n (k := 1) d_Gb_set_39 rfl rfl ?_
      refine go_iconst (v := 5) d_Gb_set_40 (by decide) ?_
      refine go_cmp_ne (tgt := 60) d_Gb_set_41 (by decide) (fun hc => ?_) (fun hc => ?_)
      · rw [if_neg hc] at h
        refine go_iload_n (k := 1) d_Gb_set_60 rfl rfl ?_
        refine go_bipush (v := 6) d_Gb_set_61 (by decide) ?_
        refine go_cmp_ne (tgt := 82) d_Gb_set_63 (by decide) (fun hc => ?_) (fun hc => ?_)
        · rw [if_neg hc] at h
          refine go_aload_n (k := 0) d_Gb_set_82 rfl rfl ?_
          refine go_getr (ci := 0) (k := 0) (r := 1) d_Gb_set_83 a_X_0 rfl (by decide) f_Gb_12 rfl ?_
          refine go_getrN (ci := 1) (k := 0) (r := 2) d_Gb_set_86 a_X_1 rfl (by decide) f_Gb_35 rfl ?_
          refine go_iload_n (k := 1) d_Gb_set_89 rfl rfl ?_
          refine go_iload_n (k := 2) d_Gb_set_90 rfl rfl ?_
          refine go_iload_n (k := 3) d_Gb_set_91 rfl rfl ?_
          obtain ⟨I3, w1, h⟩ := fbd_e h
          refine go_callV (y := yTa_putSeat) (asr := [.inl x1, .inl x2, .inl x3]) (v := none) (I' := I3) (st1 := []) d_Gb_set_92 s_yTa_putSeat m_Gb_108 a_X_2 rfl rfl rfl (Nat.le_of_ble_eq_true rfl) rfl rfl (c_Ta_putSeat l (d0 + 0) 2 isTa_2 x1 x2 x3 I2 w1) ?_
          refine go_iconst (v := 1) d_Gb_set_95 (by decide) ?_
          cases h
          exact go_zreturn d_Gb_set_96 rfl (Or.inr rfl) gb_po_i
        · rw [if_pos hc] at h
          refine go_aload_n (k := 0) d_Gb_set_66 rfl rfl ?_
          refine go_getr (ci := 0) (k := 0) (r := 1) d_Gb_set_67 a_X_0 rfl (by decide) f_Gb_12 rfl ?_
          refine go_getrN (ci := 1) (k := 0) (r := 2) d_Gb_set_70 a_X_1 rfl (by decide) f_Gb_35 rfl ?_
          refine go_iconst (v := 4) d_Gb_set_73 (by decide) ?_
          refine go_iload_n (k := 2) d_Gb_set_74 rfl rfl ?_
          refine go_iload_n (k := 3) d_Gb_set_75 rfl rfl ?_
          obtain ⟨I4, w1, h⟩ := fbd_e h
          refine go_callV (y := yTa_putBoat) (asr := [.inl 4, .inl x2, .inl x3]) (v := none) (I' := I4) (st1 := []) d_Gb_set_76 s_yTa_putBoat m_Gb_98 a_X_2 rfl rfl rfl (Nat.le_of_ble_eq_true rfl) rfl rfl (c_Ta_putBoat l (d0 + 0) 2 isTa_2 4 x2 x3 I2 w1) ?_
          refine go_goto (tgt := 95) d_Gb_set_79 (by decide) ?_
          refine go_iconst (v := 1) d_Gb_set_95 (by decide) ?_
          cases h
          exact go_zreturn d_Gb_set_96 rfl (Or.inr rfl) gb_po_i
      · rw [if_pos hc] at h
        refine go_aload_n (k := 0) d_Gb_set_44 rfl rfl ?_
        refine go_getr (ci := 0) (k := 0) (r := 1) d_Gb_set_45 a_X_0 rfl (by decide) f_Gb_12 rfl ?_
        refine go_getrN (ci := 1) (k := 0) (r := 2) d_Gb_set_48 a_X_1 rfl (by decide) f_Gb_35 rfl ?_
        refine go_iconst (v := 1) d_Gb_set_51 (by decide) ?_
        refine go_iload_n (k := 2) d_Gb_set_52 rfl rfl ?_
        refine go_iload_n (k := 3) d_Gb_set_53 rfl rfl ?_
        obtain ⟨I5, w1, h⟩ := fbd_e h
        refine go_callV (y := yTa_putBoat) (asr := [.inl 1, .inl x2, .inl x3]) (v := none) (I' := I5) (st1 := []) d_Gb_set_54 s_yTa_putBoat m_Gb_98 a_X_2 rfl rfl rfl (Nat.le_of_ble_eq_true rfl) rfl rfl (c_Ta_putBoat l (d0 + 0) 2 isTa_2 1 x2 x3 I2 w1) ?_
        refine go_goto (tgt := 95) d_Gb_set_57 (by decide) ?_
        refine go_iconst (v := 1) d_Gb_set_95 (by decide) ?_
        cases h
        exact go_zreturn d_Gb_set_96 rfl (Or.inr rfl) gb_po_i
    · rw [if_pos hc] at h
      refine go_aload_n (k := 0) d_Gb_set_25 rfl rfl ?_
      refine go_getr (ci := 0) (k := 0) (r := 1) d_Gb_set_26 a_X_0 rfl (by decide) f_Gb_12 rfl ?_
      refine go_getrN (ci := 1) (k := 0) (r := 2) d_Gb_set_29 a_X_1 rfl (by decide) f_Gb_35 rfl ?_
      refine go_iload_n (k := 3) d_Gb_set_32 rfl rfl ?_
      obtain ⟨I6, eI6, h⟩ := fstf_e h
      refine go_putTN (ci := 2) (k := 3) (I' := I6) d_Gb_set_33 a_X_2 rfl (by decide) f_Gb_105 rfl rfl rfl rfl rfl eI6 ?_
      refine go_goto (tgt := 95) d_Gb_set_36 (by decide) ?_
      refine go_iconst (v := 1) d_Gb_set_95 (by decide) ?_
      cases h
      exact go_zreturn d_Gb_set_96 rfl (Or.inr rfl) gb_po_i
  · rw [if_pos hc] at h
    refine go_iconst (v := 0) d_Gb_set_10 (by decide) ?_
    cases h
    exact go_zreturn d_Gb_set_11 rfl (Or.inl rfl) gb_po_i
theorem d_Gb_takeText_0 : decode yGb_takeText.2.1 0 = .ok (.iload_n 1, 1) := by decide +kernel
theorem d_Gb_takeText_1 : decode yGb_takeText.2.1 1 = .ok (.ifCond .ne 31, 3) := by decide +kernel
theorem d_Gb_takeText_4 : decode yGb_takeText.2.1 4 = .ok (.aload_n 0, 1) := by decide +kernel
theorem d_Gb_takeText_5 : decode yGb_takeText.2.1 5 = .ok (.getfield 12, 3) := by decide +kernel
theorem d_Gb_takeText_8 : decode yGb_takeText.2.1 8 = .ok (.getfield 166, 3) := by decide +kernel
theorem d_Gb_takeText_11 : decode yGb_takeText.2.1 11 = .ok (.aload_n 0, 1) := by decide +kernel
theorem d_Gb_takeText_12 : decode yGb_takeText.2.1 12 = .ok (.getfield 73, 3) := by decide +kernel
theorem d_Gb_takeText_15 : decode yGb_takeText.2.1 15 = .ok (.getfield 329, 3) := by decide +kernel
theorem d_Gb_takeText_18 : decode yGb_takeText.2.1 18 = .ok (.invokevirtual 330, 3) := by decide +kernel
theorem d_Gb_takeText_21 : decode yGb_takeText.2.1 21 = .ok (.aload_n 0, 1) := by decide +kernel
theorem d_Gb_takeText_22 : decode yGb_takeText.2.1 22 = .ok (.getfield 12, 3) := by decide +kernel
theorem d_Gb_takeText_25 : decode yGb_takeText.2.1 25 = .ok (.getfield 166, 3) := by decide +kernel
theorem d_Gb_takeText_28 : decode yGb_takeText.2.1 28 = .ok (.getfield 314, 3) := by decide +kernel
theorem d_Gb_takeText_31 : decode yGb_takeText.2.1 31 = .ok (.ireturn, 1) := by decide +kernel
theorem d_Gb_takeText_32 : decode yGb_takeText.2.1 32 = .ok (.iload_n 1, 1) := by decide +kernel
theorem d_Gb_takeText_33 : decode yGb_takeText.2.1 33 = .ok (.iconst 1, 1) := by decide +kernel
theorem d_Gb_takeText_34 : decode yGb_takeText.2.1 34 = .ok (.if_icmp .ne 13, 3) := by decide +kernel
theorem d_Gb_takeText_37 : decode yGb_takeText.2.1 37 = .ok (.aload_n 0, 1) := by decide +kernel
theorem d_Gb_takeText_38 : decode yGb_takeText.2.1 38 = .ok (.getfield 12, 3) := by decide +kernel
theorem d_Gb_takeText_41 : decode yGb_takeText.2.1 41 = .ok (.getfield 317, 3) := by decide +kernel
theorem d_Gb_takeText_44 : decode yGb_takeText.2.1 44 = .ok (.goto 25, 3) := by decide +kernel
theorem d_Gb_takeText_47 : decode yGb_takeText.2.1 47 = .ok (.iload_n 1, 1) := by decide +kernel
theorem d_Gb_takeText_48 : decode yGb_takeText.2.1 48 = .ok (.iconst 2, 1) := by decide +kernel
theorem d_Gb_takeText_49 : decode yGb_takeText.2.1 49 = .ok (.if_icmp .ne 13, 3) := by decide +kernel
theorem d_Gb_takeText_52 : decode yGb_takeText.2.1 52 = .ok (.aload_n 0, 1) := by decide +kernel
theorem d_Gb_takeText_53 : decode yGb_takeText.2.1 53 = .ok (.getfield 12, 3) := by decide +kernel
theorem d_Gb_takeText_56 : decode yGb_takeText.2.1 56 = .ok (.getfield 320, 3) := by decide +kernel
theorem d_Gb_takeText_59 : decode yGb_takeText.2.1 59 = .ok (.goto 10, 3) := by decide +kernel
theorem d_Gb_takeText_62 : decode yGb_takeText.2.1 62 = .ok (.aload_n 0, 1) := by decide +kernel
theorem d_Gb_takeText_63 : decode yGb_takeText.2.1 63 = .ok (.getfield 12, 3) := by decide +kernel
theorem d_Gb_takeText_66 : decode yGb_takeText.2.1 66 = .ok (.getfield 323, 3) := by decide +kernel
theorem d_Gb_takeText_69 : decode yGb_takeText.2.1 69 = .ok (.astore_n 2, 1) := by decide +kernel
theorem d_Gb_takeText_70 : decode yGb_takeText.2.1 70 = .ok (.aload_n 2, 1) := by decide +kernel
theorem d_Gb_takeText_71 : decode yGb_takeText.2.1 71 = .ok (.aload_n 0, 1) := by decide +kernel
theorem d_Gb_takeText_72 : decode yGb_takeText.2.1 72 = .ok (.getfield 73, 3) := by decide +kernel
theorem d_Gb_takeText_75 : decode yGb_takeText.2.1 75 = .ok (.getfield 333, 3) := by decide +kernel
theorem d_Gb_takeText_78 : decode yGb_takeText.2.1 78 = .ok (.invokevirtual 336, 3) := by decide +kernel
theorem d_Gb_takeText_81 : decode yGb_takeText.2.1 81 = .ok (.iload_n 1, 1) := by decide +kernel
theorem d_Gb_takeText_82 : decode yGb_takeText.2.1 82 = .ok (.iconst 3, 1) := by decide +kernel
theorem d_Gb_takeText_83 : decode yGb_takeText.2.1 83 = .ok (.if_icmp .eq 10, 3) := by decide +kernel
theorem d_Gb_takeText_86 : decode yGb_takeText.2.1 86 = .ok (.aload_n 0, 1) := by decide +kernel
theorem d_Gb_takeText_87 : decode yGb_takeText.2.1 87 = .ok (.getfield 22, 3) := by decide +kernel
theorem d_Gb_takeText_90 : decode yGb_takeText.2.1 90 = .ok (.invokevirtual 81, 3) := by decide +kernel
theorem d_Gb_takeText_93 : decode yGb_takeText.2.1 93 = .ok (.aload_n 2, 1) := by decide +kernel
theorem d_Gb_takeText_94 : decode yGb_takeText.2.1 94 = .ok (.getfield 189, 3) := by decide +kernel
theorem d_Gb_takeText_97 : decode yGb_takeText.2.1 97 = .ok (.ireturn, 1) := by decide +kernel
def J_Gb_takeText_93 (I : gb_Mem) : Option (Int32 × gb_Mem) :=
  some (I 15 2, I)
set_option maxRecDepth 4000 in
theorem j_Gb_takeText_93 (l : Launch) (d0 : Nat) (I : gb_Mem) {rz : Int32} {Iz : gb_Mem} (h : J_Gb_takeText_93 I = some (rz, Iz)) : gb_Go l yGb_takeText (d0 + 2) 0 0 93 [(2, .inr (some 15))] [] shX I (gb_po shX (some (.inl rz)) Iz) := by
  unfold J_Gb_takeText_93 at h
  refine go_aload_n (k := 0) d_Gb_takeText_93 rfl rfl ?_
  refine go_getiN (ci := 4) (k := 2) d_Gb_takeText_94 a_X_15 rfl (by decide) f_Gb_189 rfl ?_
  cases h
  exact go_ireturn d_Gb_takeText_97 rfl gb_po_i
def J_Gb_takeText_69 (x1 : Int32) (I : gb_Mem) : Option (Int32 × gb_Mem) :=
  fbd (F_Ro_copyFrom 15 64 119 64 I) fun I1 =>
  if x1 = 3 then
    J_Gb_takeText_93 I1
  else
    fbd (F_Pa_forget  I1) fun I2 =>
    J_Gb_takeText_93 I2
set_option maxRecDepth 4000 in
theorem j_Gb_takeText_69 (l : Launch) (d0 : Nat) (x1 : Int32) (I : gb_Mem) {rz : Int32} {Iz : gb_Mem} (h : J_Gb_takeText_69 x1 I = some (rz, Iz)) : gb_Go l yGb_takeText (d0 + 2) 0 0 69 [(0, .inr (some 0)), (1, .inl x1)] [.inr (some 15)] shX I (gb_po shX (some (.inl rz)) Iz) := by
  unfold J_Gb_takeText_69 at h
  refine go_astore_n (lv' := [(2, .inr (some 15)), (0, .inr (some 0)), (1, .inl x1)]) d_Gb_takeText_69 rfl (by decide) rfl ?_
  refine go_aload_n (k := 0) d_Gb_takeText_70 rfl rfl ?_
  refine go_aload_n (k := 1) d_Gb_takeText_71 rfl rfl ?_
  refine go_getr (ci := 0) (k := 11) (r := 111) d_Gb_takeText_72 a_X_0 rfl (by decide) f_Gb_73 rfl ?_
  refine go_getrN (ci := 9) (k := 10) (r := 119) d_Gb_takeText_75 a_X_111 rfl (by decide) f_Gb_333 rfl ?_
  obtain ⟨I1, w1, h⟩ := fbd_e h
  refine go_callV (y := yRo_copyFrom) (asr := [.inr (some 119)]) (v := none) (I' := I1) (st1 := []) d_Gb_takeText_78 s_yRo_copyFrom m_Gb_336 a_X_15 rfl rfl rfl (Nat.le_of_ble_eq_true rfl) rfl rfl (c_Ro_copyFrom l (d0 + 0) 15 64 119 64 isRo_15 isRo_119 I w1) ?_
  refine go_iload_n (k := 2) d_Gb_takeText_81 rfl rfl ?_
  refine go_iconst (v := 3) d_Gb_takeText_82 (by decide) ?_
  refine go_cmp_eq (tgt := 93) d_Gb_takeText_83 (by decide) (fun hc => ?_) (fun hc => ?_)
  · rw [if_pos hc] at h
    exact go_lv [0] rfl (j_Gb_takeText_93 l d0 I1 h)
  · rw [if_neg hc] at h
    refine go_aload_n (k := 1) d_Gb_takeText_86 rfl rfl ?_
    refine go_getr (ci := 0) (k := 3) (r := 69) d_Gb_takeText_87 a_X_0 rfl (by decide) f_Gb_22 rfl ?_
    obtain ⟨I2, w1, h⟩ := fbd_e h
    refine go_callV (y := yPa_forget) (asr := []) (v := none) (I' := I2) (st1 := []) d_Gb_takeText_90 s_yPa_forget m_Gb_81 a_X_69 rfl rfl rfl (Nat.le_of_ble_eq_true rfl) rfl rfl (c_Pa_forget l (d0 + 1)  I1 w1) ?_
    exact go_lv [0] rfl (j_Gb_takeText_93 l d0 I2 h)
def F_Gb_takeText (x1 : Int32) (I : gb_Mem) : Option (Int32 × gb_Mem) :=
  if x1 = 0 then
    fbd (F_La_copyFrom 6 114 I) fun I7 =>
    some (I7 6 4, I7)
  else
    if x1 = 1 then
      fbd (F_Ro_copyFrom 11 64 119 64 I) fun I5 =>
      if x1 = 3 then
        some (I5 11 2, I5)
      else
        fbd (F_Pa_forget  I5) fun I6 =>
        some (I6 11 2, I6)
    else
      if x1 = 2 then
        fbd (F_Ro_copyFrom 13 64 119 64 I) fun I3 =>
        if x1 = 3 then
          some (I3 13 2, I3)
        else
          fbd (F_Pa_forget  I3) fun I4 =>
          some (I4 13 2, I4)
      else
        J_Gb_takeText_69 x1 I
set_option maxRecDepth 4000 in
theorem c_Gb_takeText (l : Launch) (d0 : Nat) (x1 : Int32) (I : gb_Mem) {rz : Int32} {Iz : gb_Mem} (h : F_Gb_takeText x1 I = some (rz, Iz)) : gb_Cs l yGb_takeText (d0 + 2) [.inr (some 0), .inl x1] shX I (some (.inl rz)) Iz := by
  refine gb_Ct.of (lv := [(0, .inr (some 0)), (1, .inl x1)]) rfl (Nat.le_of_ble_eq_true rfl) rfl ?_
  unfold F_Gb_takeText at h
  show gb_Go l yGb_takeText (d0 + 2) 0 0 0 [(0, .inr (some 0)), (1, .inl x1)] [] shX I (gb_po shX (some (.inl rz)) Iz)
  refine go_iload_n (k := 1) d_Gb_takeText_0 rfl rfl ?_
  refine go_if_ne (tgt := 32) d_Gb_takeText_1 (by decide) (fun hc => ?_) (fun hc => ?_)
  · rw [if_neg hc] at h
    refine go_iload_n (k := 1) d_Gb_takeText_32 rfl rfl ?_
    refine go_iconst (v := 1) d_Gb_takeText_33 (by decide) ?_
    refine go_cmp_ne (tgt := 47) d_Gb_takeText_34 (by decide) (fun hc => ?_) (fun hc => ?_)
    · rw [if_neg hc] at h
      refine go_iload_n (k := 1) d_Gb_takeText_47 rfl rfl ?_
      refine go_iconst (v := 2) d_Gb_takeText_48 (by decide) ?_
      refine go_cmp_ne (tgt := 62) d_Gb_takeText_49 (by decide) (fun hc => ?_) (fun hc => ?_)
      · rw [if_neg hc] at h
        refine go_aload_n (k := 0) d_Gb_takeText_62 rfl rfl ?_
        refine go_getr (ci := 0) (k := 0) (r := 1) d_Gb_takeText_63 a_X_0 rfl (by decide) f_Gb_12 rfl ?_
        refine go_getrN (ci := 1) (k := 4) (r := 15) d_Gb_takeText_66 a_X_1 rfl (by decide) f_Gb_323 rfl ?_
        exact go_lv [0, 1] rfl (j_Gb_takeText_69 l d0 x1 I h)
      · rw [if_pos hc] at h
        refine go_aload_n (k := 0) d_Gb_takeText_52 rfl rfl ?_
        refine go_getr (ci := 0) (k := 0) (r := 1) d_Gb_takeText_53 a_X_0 rfl (by decide) f_Gb_12 rfl ?_
        refine go_getrN (ci := 1) (k := 3) (r := 13) d_Gb_takeText_56 a_X_1 rfl (by decide) f_Gb_320 rfl ?_
        refine go_goto (tgt := 69) d_Gb_takeText_59 (by decide) ?_
        refine go_astore_n (lv' := [(2, .inr (some 13)), (0, .inr (some 0)), (1, .inl x1)]) d_Gb_takeText_69 rfl (by decide) rfl ?_
        refine go_aload_n (k := 0) d_Gb_takeText_70 rfl rfl ?_
        refine go_aload_n (k := 1) d_Gb_takeText_71 rfl rfl ?_
        refine go_getr (ci := 0) (k := 11) (r := 111) d_Gb_takeText_72 a_X_0 rfl (by decide) f_Gb_73 rfl ?_
        refine go_getrN (ci := 9) (k := 10) (r := 119) d_Gb_takeText_75 a_X_111 rfl (by decide) f_Gb_333 rfl ?_
        obtain ⟨I3, w1, h⟩ := fbd_e h
        refine go_callV (y := yRo_copyFrom) (asr := [.inr (some 119)]) (v := none) (I' := I3) (st1 := []) d_Gb_takeText_78 s_yRo_copyFrom m_Gb_336 a_X_13 rfl rfl rfl (Nat.le_of_ble_eq_true rfl) rfl rfl (c_Ro_copyFrom l (d0 + 0) 13 64 119 64 isRo_13 isRo_119 I w1) ?_
        refine go_iload_n (k := 2) d_Gb_takeText_81 rfl rfl ?_
        refine go_iconst (v := 3) d_Gb_takeText_82 (by decide) ?_
        refine go_cmp_eq (tgt := 93) d_Gb_takeText_83 (by decide) (fun hc => ?_) (fun hc => ?_)
        · rw [if_pos hc] at h
          refine go_aload_n (k := 0) d_Gb_takeText_93 rfl rfl ?_
          refine go_getiN (ci := 4) (k := 2) d_Gb_takeText_94 a_X_13 rfl (by decide) f_Gb_189 rfl ?_
          cases h
          exact go_ireturn d_Gb_takeText_97 rfl gb_po_i
        · rw [if_neg hc] at h
          refine go_aload_n (k := 1) d_Gb_takeText_86 rfl rfl ?_
          refine go_getr (ci := 0) (k := 3) (r := 69) d_Gb_takeText_87 a_X_0 rfl (by decide) f_Gb_22 rfl ?_
          obtain ⟨I4, w1, h⟩ := fbd_e h
          refine go_callV (y := yPa_forget) (asr := []) (v := none) (I' := I4) (st1 := []) d_Gb_takeText_90 s_yPa_forget m_Gb_81 a_X_69 rfl rfl rfl (Nat.le_of_ble_eq_true rfl) rfl rfl (c_Pa_forget l (d0 + 1)  I3 w1) ?_
          refine go_aload_n (k := 0) d_Gb_takeText_93 rfl rfl ?_
          refine go_getiN (ci := 4) (k := 2) d_Gb_takeText_94 a_X_13 rfl (by decide) f_Gb_189 rfl ?_
          cases h
          exact go_ireturn d_Gb_takeText_97 rfl gb_po_i
    · rw [if_pos hc] at h
      refine go_aload_n (k := 0) d_Gb_takeText_37 rfl rfl ?_
      refine go_getr (ci := 0) (k := 0) (r := 1) d_Gb_takeText_38 a_X_0 rfl (by decide) f_Gb_12 rfl ?_
      refine go_getrN (ci := 1) (k := 2) (r := 11) d_Gb_takeText_41 a_X_1 rfl (by decide) f_Gb_317 rfl ?_
      refine go_goto (tgt := 69) d_Gb_takeText_44 (by decide) ?_
      refine go_astore_n (lv' := [(2, .inr (some 11)), (0, .inr (some 0)), (1, .inl x1)]) d_Gb_takeText_69 rfl (by decide) rfl ?_
      refine go_aload_n (k := 0) d_Gb_takeText_70 rfl rfl ?_
      refine go_aload_n (k := 1) d_Gb_takeText_71 rfl rfl ?_
      refine go_getr (ci := 0) (k := 11) (r := 111) d_Gb_takeText_72 a_X_0 rfl (by decide) f_Gb_73 rfl ?_
      refine go_getrN (ci := 9) (k := 10) (r := 119) d_Gb_takeText_75 a_X_111 rfl (by decide) f_Gb_333 rfl ?_
      obtain ⟨I5, w1, h⟩ := fbd_e h
      refine go_callV (y := yRo_copyFrom) (asr := [.inr (some 119)]) (v := none) (I' := I5) (st1 := []) d_Gb_takeText_78 s_yRo_copyFrom m_Gb_336 a_X_11 rfl rfl rfl (Nat.le_of_ble_eq_true rfl) rfl rfl (c_Ro_copyFrom l (d0 + 0) 11 64 119 64 isRo_11 isRo_119 I w1) ?_
      refine go_iload_n (k := 2) d_Gb_takeText_81 rfl rfl ?_
      refine go_iconst (v := 3) d_Gb_takeText_82 (by decide) ?_
      refine go_cmp_eq (tgt := 93) d_Gb_takeText_83 (by decide) (fun hc => ?_) (fun hc => ?_)
      · rw [if_pos hc] at h
        refine go_aload_n (k := 0) d_Gb_takeText_93 rfl rfl ?_
        refine go_getiN (ci := 4) (k := 2) d_Gb_takeText_94 a_X_11 rfl (by decide) f_Gb_189 rfl ?_
        cases h
        exact go_ireturn d_Gb_takeText_97 rfl gb_po_i
      · rw [if_neg hc] at h
        refine go_aload_n (k := 1) d_Gb_takeText_86 rfl rfl ?_
        refine go_getr (ci := 0) (k := 3) (r := 69) d_Gb_takeText_87 a_X_0 rfl (by decide) f_Gb_22 rfl ?_
        obtain ⟨I6, w1, h⟩ := fbd_e h
        refine go_callV (y := yPa_forget) (asr := []) (v := none) (I' := I6) (st1 := []) d_Gb_takeText_90 s_yPa_forget m_Gb_81 a_X_69 rfl rfl rfl (Nat.le_of_ble_eq_true rfl) rfl rfl (c_Pa_forget l (d0 + 1)  I5 w1) ?_
        refine go_aload_n (k := 0) d_Gb_takeText_93 rfl rfl ?_
        refine go_getiN (ci := 4) (k := 2) d_Gb_takeText_94 a_X_11 rfl (by decide) f_Gb_189 rfl ?_
        cases h
        exact go_ireturn d_Gb_takeText_97 rfl gb_po_i
  · rw [if_pos hc] at h
    refine go_aload_n (k := 0) d_Gb_takeText_4 rfl rfl ?_
    refine go_getr (ci := 0) (k := 0) (r := 1) d_Gb_takeText_5 a_X_0 rfl (by decide) f_Gb_12 rfl ?_
    refine go_getrN (ci := 1) (k := 1) (r := 6) d_Gb_takeText_8 a_X_1 rfl (by decide) f_Gb_166 rfl ?_
    refine go_aload_n (k := 0) d_Gb_takeText_11 rfl rfl ?_
    refine go_getr (ci := 0) (k := 11) (r := 111) d_Gb_takeText_12 a_X_0 rfl (by decide) f_Gb_73 rfl ?_
    refine go_getrN (ci := 9) (k := 9) (r := 114) d_Gb_takeText_15 a_X_111 rfl (by decide) f_Gb_329 rfl ?_
    obtain ⟨I7, w1, h⟩ := fbd_e h
    refine go_callV (y := yLa_copyFrom) (asr := [.inr (some 114)]) (v := none) (I' := I7) (st1 := []) d_Gb_takeText_18 s_yLa_copyFrom m_Gb_330 a_X_6 rfl rfl rfl (Nat.le_of_ble_eq_true rfl) rfl rfl (c_La_copyFrom l (d0 + 0) 6 114 isLa_6 isLa_114 I w1) ?_
    refine go_aload_n (k := 0) d_Gb_takeText_21 rfl rfl ?_
    refine go_getr (ci := 0) (k := 0) (r := 1) d_Gb_takeText_22 a_X_0 rfl (by decide) f_Gb_12 rfl ?_
    refine go_getrN (ci := 1) (k := 1) (r := 6) d_Gb_takeText_25 a_X_1 rfl (by decide) f_Gb_166 rfl ?_
    refine go_getiN (ci := 3) (k := 4) d_Gb_takeText_28 a_X_6 rfl (by decide) f_Gb_314 rfl ?_
    cases h
    exact go_ireturn d_Gb_takeText_31 rfl gb_po_i
theorem d_Gb_treaty_0 : decode yGb_treaty.2.1 0 = .ok (.iload_n 1, 1) := by decide +kernel
theorem d_Gb_treaty_1 : decode yGb_treaty.2.1 1 = .ok (.iconst 1, 1) := by decide +kernel
theorem d_Gb_treaty_2 : decode yGb_treaty.2.1 2 = .ok (.bipush 40, 2) := by decide +kernel
theorem d_Gb_treaty_4 : decode yGb_treaty.2.1 4 = .ok (.invokestatic 84, 3) := by decide +kernel
theorem d_Gb_treaty_7 : decode yGb_treaty.2.1 7 = .ok (.ifCond .eq 22, 3) := by decide +kernel
theorem d_Gb_treaty_10 : decode yGb_treaty.2.1 10 = .ok (.iload_n 2, 1) := by decide +kernel
theorem d_Gb_treaty_11 : decode yGb_treaty.2.1 11 = .ok (.iconst 1, 1) := by decide +kernel
theorem d_Gb_treaty_12 : decode yGb_treaty.2.1 12 = .ok (.bipush 9, 2) := by decide +kernel
theorem d_Gb_treaty_14 : decode yGb_treaty.2.1 14 = .ok (.invokestatic 84, 3) := by decide +kernel
theorem d_Gb_treaty_17 : decode yGb_treaty.2.1 17 = .ok (.ifCond .eq 12, 3) := by decide +kernel
theorem d_Gb_treaty_20 : decode yGb_treaty.2.1 20 = .ok (.iload_n 3, 1) := by decide +kernel
theorem d_Gb_treaty_21 : decode yGb_treaty.2.1 21 = .ok (.iconst 0, 1) := by decide +kernel
theorem d_Gb_treaty_22 : decode yGb_treaty.2.1 22 = .ok (.iconst 1, 1) := by decide +kernel
theorem d_Gb_treaty_23 : decode yGb_treaty.2.1 23 = .ok (.invokestatic 84, 3) := by decide +kernel
theorem d_Gb_treaty_26 : decode yGb_treaty.2.1 26 = .ok (.ifCond .ne 5, 3) := by decide +kernel
theorem d_Gb_treaty_29 : decode yGb_treaty.2.1 29 = .ok (.iconst (-1), 1) := by decide +kernel
theorem d_Gb_treaty_30 : decode yGb_treaty.2.1 30 = .ok (.ireturn, 1) := by decide +kernel
theorem d_Gb_treaty_31 : decode yGb_treaty.2.1 31 = .ok (.aload_n 0, 1) := by decide +kernel
theorem d_Gb_treaty_32 : decode yGb_treaty.2.1 32 = .ok (.getfield 60, 3) := by decide +kernel
theorem d_Gb_treaty_35 : decode yGb_treaty.2.1 35 = .ok (.iload_n 1, 1) := by decide +kernel
theorem d_Gb_treaty_36 : decode yGb_treaty.2.1 36 = .ok (.iload_n 2, 1) := by decide +kernel
theorem d_Gb_treaty_37 : decode yGb_treaty.2.1 37 = .ok (.iload_n 3, 1) := by decide +kernel
theorem d_Gb_treaty_38 : decode yGb_treaty.2.1 38 = .ok (.iconst 1, 1) := by decide +kernel
theorem d_Gb_treaty_39 : decode yGb_treaty.2.1 39 = .ok (.if_icmp .ne 7, 3) := by decide +kernel
theorem d_Gb_treaty_42 : decode yGb_treaty.2.1 42 = .ok (.iconst 1, 1) := by decide +kernel
theorem d_Gb_treaty_43 : decode yGb_treaty.2.1 43 = .ok (.goto 4, 3) := by decide +kernel
theorem d_Gb_treaty_46 : decode yGb_treaty.2.1 46 = .ok (.iconst 0, 1) := by decide +kernel
theorem d_Gb_treaty_47 : decode yGb_treaty.2.1 47 = .ok (.invokevirtual 263, 3) := by decide +kernel
theorem d_Gb_treaty_50 : decode yGb_treaty.2.1 50 = .ok (.ireturn, 1) := by decide +kernel
def J_Gb_treaty_47 (s0 s1 s2 : Int32) (I : gb_Mem) : Option (Int32 × gb_Mem) :=
  fbd (F_Re_lumpings s2 s1 s0 I) fun (r2, I1) =>
  some (r2, I1)
set_option maxRecDepth 4000 in
theorem j_Gb_treaty_47 (l : Launch) (d0 : Nat) (s0 s1 s2 : Int32) (I : gb_Mem) {rz : Int32} {Iz : gb_Mem} (h : J_Gb_treaty_47 s0 s1 s2 I = some (rz, Iz)) : gb_Go l yGb_treaty (d0 + 2) 0 0 47 [] [.inl s0, .inl s1, .inl s2, .inr (some 106)] shX I (gb_po shX (some (.inl rz)) Iz) := by
  unfold J_Gb_treaty_47 at h
  obtain ⟨⟨r2, I1⟩, w1, h⟩ := fbd_e h
  try dsimp only at h
  refine go_callV (y := yRe_lumpings) (asr := [.inl s2, .inl s1, .inl s0]) (v := some (.inl r2)) (I' := I1) (st1 := [.inl r2]) d_Gb_treaty_47 s_yRe_lumpings m_Gb_263 a_X_106 rfl rfl rfl (Nat.le_of_ble_eq_true rfl) rfl rfl (c_Re_lumpings l (d0 + 0) s2 s1 s0 I w1) ?_
  cases h
  exact go_ireturn d_Gb_treaty_50 rfl gb_po_i
def F_Gb_treaty (x1 x2 x3 : Int32) (I : gb_Mem) : Option (Int32 × gb_Mem) :=
  if (F_Gb_within x1 1 40 I) = 0 then
    some ((-1), I)
  else
    if (F_Gb_within x2 1 9 I) = 0 then
      some ((-1), I)
    else
      if (F_Gb_within x3 0 1 I) = 0 then
        some ((-1), I)
      else
        if x3 = 1 then
          J_Gb_treaty_47 1 x2 x1 I
        else
          J_Gb_treaty_47 0 x2 x1 I
set_option maxRecDepth 4000 in
theorem c_Gb_treaty (l : Launch) (d0 : Nat) (x1 x2 x3 : Int32) (I : gb_Mem) {rz : Int32} {Iz : gb_Mem} (h : F_Gb_treaty x1 x2 x3 I = some (rz, Iz)) : gb_Cs l yGb_treaty (d0 + 2) [.inr (some 0), .inl x1, .inl x2, .inl x3] shX I (some (.inl rz)) Iz := by
  refine gb_Ct.of (lv := [(0, .inr (some 0)), (1, .inl x1), (2, .inl x2), (3, .inl x3)]) rfl (Nat.le_of_ble_eq_true rfl) rfl ?_
  unfold F_Gb_treaty at h
  show gb_Go l yGb_treaty (d0 + 2) 0 0 0 [(0, .inr (some 0)), (1, .inl x1), (2, .inl x2), (3, .inl x3)] [] shX I (gb_po shX (some (.inl rz)) Iz)
  refine go_iload_n (k := 1) d_Gb_treaty_0 rfl rfl ?_
  refine go_iconst (v := 1) d_Gb_treaty_1 (by decide) ?_
  refine go_bipush (v := 40) d_Gb_treaty_2 (by decide) ?_
  refine go_callS (y := yGb_within) (asr := [.inl x1, .inl 1, .inl 40]) (v := some (.inl (F_Gb_within x1 1 40 I))) (I' := I) (st1 := [.inl (F_Gb_within x1 1 40 I)]) d_Gb_treaty_4 s_yGb_within m_Gb_84 rfl (Nat.le_of_ble_eq_true rfl) rfl rfl (c_Gb_within l (d0 + 1) x1 1 40 I) ?_
  refine go_if_eq (tgt := 29) d_Gb_treaty_7 (by decide) (fun hc => ?_) (fun hc => ?_)
  · rw [if_pos hc] at h
    refine go_iconst (v := (-1)) d_Gb_treaty_29 (by decide) ?_
    cases h
    exact go_ireturn d_Gb_treaty_30 rfl gb_po_i
  · rw [if_neg hc] at h
    refine go_iload_n (k := 2) d_Gb_treaty_10 rfl rfl ?_
    refine go_iconst (v := 1) d_Gb_treaty_11 (by decide) ?_
    refine go_bipush (v := 9) d_Gb_treaty_12 (by decide) ?_
    refine go_callS (y := yGb_within) (asr := [.inl x2, .inl 1, .inl 9]) (v := some (.inl (F_Gb_within x2 1 9 I))) (I' := I) (st1 := [.inl (F_Gb_within x2 1 9 I)]) d_Gb_treaty_14 s_yGb_within m_Gb_84 rfl (Nat.le_of_ble_eq_true rfl) rfl rfl (c_Gb_within l (d0 + 1) x2 1 9 I) ?_
    refine go_if_eq (tgt := 29) d_Gb_treaty_17 (by decide) (fun hc => ?_) (fun hc => ?_)
    · rw [if_pos hc] at h
      refine go_iconst (v := (-1)) d_Gb_treaty_29 (by decide) ?_
      cases h
      exact go_ireturn d_Gb_treaty_30 rfl gb_po_i
    · rw [if_neg hc] at h
      refine go_iload_n (k := 3) d_Gb_treaty_20 rfl rfl ?_
      refine go_iconst (v := 0) d_Gb_treaty_21 (by decide) ?_
      refine go_iconst (v := 1) d_Gb_treaty_22 (by decide) ?_
      refine go_callS (y := yGb_within) (asr := [.inl x3, .inl 0, .inl 1]) (v := some (.inl (F_Gb_within x3 0 1 I))) (I' := I) (st1 := [.inl (F_Gb_within x3 0 1 I)]) d_Gb_treaty_23 s_yGb_within m_Gb_84 rfl (Nat.le_of_ble_eq_true rfl) rfl rfl (c_Gb_within l (d0 + 1) x3 0 1 I) ?_
      refine go_if_ne (tgt := 31) d_Gb_treaty_26 (by decide) (fun hc => ?_) (fun hc => ?_)
      · rw [if_neg hc] at h
        refine go_aload_n (k := 0) d_Gb_treaty_31 rfl rfl ?_
        refine go_getr (ci := 0) (k := 8) (r := 106) d_Gb_treaty_32 a_X_0 rfl (by decide) f_Gb_60 rfl ?_
        refine go_iload_n (k := 1) d_Gb_treaty_35 rfl rfl ?_
        refine go_iload_n (k := 2) d_Gb_treaty_36 rfl rfl ?_
        refine go_iload_n (k := 3) d_Gb_treaty_37 rfl rfl ?_
        refine go_iconst (v := 1) d_Gb_treaty_38 (by decide) ?_
        refine go_cmp_ne (tgt := 46) d_Gb_treaty_39 (by decide) (fun hc => ?_) (fun hc => ?_)
        · rw [if_neg hc] at h
          refine go_iconst (v := 0) d_Gb_treaty_46 (by decide) ?_
          exact go_lv [] rfl (j_Gb_treaty_47 l d0 0 x2 x1 I h)
        · rw [if_pos hc] at h
          refine go_iconst (v := 1) d_Gb_treaty_42 (by decide) ?_
          refine go_goto (tgt := 47) d_Gb_treaty_43 (by decide) ?_
          exact go_lv [] rfl (j_Gb_treaty_47 l d0 1 x2 x1 I h)
      · rw [if_pos hc] at h
        refine go_iconst (v := (-1)) d_Gb_treaty_29 (by decide) ?_
        cases h
        exact go_ireturn d_Gb_treaty_30 rfl gb_po_i
theorem d_La_unwritten_0 : decode yLa_unwritten.2.1 0 = .ok (.aload_n 1, 1) := by decide +kernel
theorem d_La_unwritten_1 : decode yLa_unwritten.2.1 1 = .ok (.iconst 2, 1) := by decide +kernel
theorem d_La_unwritten_2 : decode yLa_unwritten.2.1 2 = .ok (.iload_n 3, 1) := by decide +kernel
theorem d_La_unwritten_3 : decode yLa_unwritten.2.1 3 = .ok (.invokevirtual 53, 3) := by decide +kernel
theorem d_La_unwritten_6 : decode yLa_unwritten.2.1 6 = .ok (.istore 4, 2) := by decide +kernel
theorem d_La_unwritten_8 : decode yLa_unwritten.2.1 8 = .ok (.aload_n 1, 1) := by decide +kernel
theorem d_La_unwritten_9 : decode yLa_unwritten.2.1 9 = .ok (.iconst 0, 1) := by decide +kernel
theorem d_La_unwritten_10 : decode yLa_unwritten.2.1 10 = .ok (.iload 4, 2) := by decide +kernel
theorem d_La_unwritten_12 : decode yLa_unwritten.2.1 12 = .ok (.invokevirtual 59, 3) := by decide +kernel
theorem d_La_unwritten_15 : decode yLa_unwritten.2.1 15 = .ok (.istore 5, 2) := by decide +kernel
theorem d_La_unwritten_17 : decode yLa_unwritten.2.1 17 = .ok (.iload_n 2, 1) := by decide +kernel
theorem d_La_unwritten_18 : decode yLa_unwritten.2.1 18 = .ok (.iconst 1, 1) := by decide +kernel
theorem d_La_unwritten_19 : decode yLa_unwritten.2.1 19 = .ok (.if_icmp .ne 21, 3) := by decide +kernel
theorem d_La_unwritten_22 : decode yLa_unwritten.2.1 22 = .ok (.aload_n 1, 1) := by decide +kernel
theorem d_La_unwritten_23 : decode yLa_unwritten.2.1 23 = .ok (.iconst 1, 1) := by decide +kernel
theorem d_La_unwritten_24 : decode yLa_unwritten.2.1 24 = .ok (.iload 4, 2) := by decide +kernel
theorem d_La_unwritten_26 : decode yLa_unwritten.2.1 26 = .ok (.invokevirtual 59, 3) := by decide +kernel
theorem d_La_unwritten_29 : decode yLa_unwritten.2.1 29 = .ok (.iconst 5, 1) := by decide +kernel
theorem d_La_unwritten_30 : decode yLa_unwritten.2.1 30 = .ok (.aload_n 1, 1) := by decide +kernel
theorem d_La_unwritten_31 : decode yLa_unwritten.2.1 31 = .ok (.iconst 3, 1) := by decide +kernel
theorem d_La_unwritten_32 : decode yLa_unwritten.2.1 32 = .ok (.iload 4, 2) := by decide +kernel
theorem d_La_unwritten_34 : decode yLa_unwritten.2.1 34 = .ok (.invokevirtual 59, 3) := by decide +kernel
theorem d_La_unwritten_37 : decode yLa_unwritten.2.1 37 = .ok (.imul, 1) := by decide +kernel
theorem d_La_unwritten_38 : decode yLa_unwritten.2.1 38 = .ok (.iadd, 1) := by decide +kernel
theorem d_La_unwritten_39 : decode yLa_unwritten.2.1 39 = .ok (.ireturn, 1) := by decide +kernel
theorem d_La_unwritten_40 : decode yLa_unwritten.2.1 40 = .ok (.iload_n 2, 1) := by decide +kernel
theorem d_La_unwritten_41 : decode yLa_unwritten.2.1 41 = .ok (.iconst 2, 1) := by decide +kernel
theorem d_La_unwritten_42 : decode yLa_unwritten.2.1 42 = .ok (.if_icmp .ne 19, 3) := by decide +kernel
theorem d_La_unwritten_45 : decode yLa_unwritten.2.1 45 = .ok (.bipush 100, 2) := by decide +kernel
theorem d_La_unwritten_47 : decode yLa_unwritten.2.1 47 = .ok (.bipush 10, 2) := by decide +kernel
theorem d_La_unwritten_49 : decode yLa_unwritten.2.1 49 = .ok (.iload 5, 2) := by decide +kernel
theorem d_La_unwritten_51 : decode yLa_unwritten.2.1 51 = .ok (.imul, 1) := by decide +kernel
theorem d_La_unwritten_52 : decode yLa_unwritten.2.1 52 = .ok (.isub, 1) := by decide +kernel
theorem d_La_unwritten_53 : decode yLa_unwritten.2.1 53 = .ok (.aload_n 1, 1) := by decide +kernel
theorem d_La_unwritten_54 : decode yLa_unwritten.2.1 54 = .ok (.iconst 1, 1) := by decide +kernel
theorem d_La_unwritten_55 : decode yLa_unwritten.2.1 55 = .ok (.iload_n 3, 1) := by decide +kernel
theorem d_La_unwritten_56 : decode yLa_unwritten.2.1 56 = .ok (.invokevirtual 53, 3) := by decide +kernel
theorem d_La_unwritten_59 : decode yLa_unwritten.2.1 59 = .ok (.iadd, 1) := by decide +kernel
theorem d_La_unwritten_60 : decode yLa_unwritten.2.1 60 = .ok (.ireturn, 1) := by decide +kernel
theorem d_La_unwritten_61 : decode yLa_unwritten.2.1 61 = .ok (.aload_n 1, 1) := by decide +kernel
theorem d_La_unwritten_62 : decode yLa_unwritten.2.1 62 = .ok (.iconst 2, 1) := by decide +kernel
theorem d_La_unwritten_63 : decode yLa_unwritten.2.1 63 = .ok (.iload 4, 2) := by decide +kernel
theorem d_La_unwritten_65 : decode yLa_unwritten.2.1 65 = .ok (.invokevirtual 59, 3) := by decide +kernel
theorem d_La_unwritten_68 : decode yLa_unwritten.2.1 68 = .ok (.istore 6, 2) := by decide +kernel
theorem d_La_unwritten_70 : decode yLa_unwritten.2.1 70 = .ok (.aload_n 1, 1) := by decide +kernel
theorem d_La_unwritten_71 : decode yLa_unwritten.2.1 71 = .ok (.iconst 3, 1) := by decide +kernel
theorem d_La_unwritten_72 : decode yLa_unwritten.2.1 72 = .ok (.iload_n 3, 1) := by decide +kernel
theorem d_La_unwritten_73 : decode yLa_unwritten.2.1 73 = .ok (.invokevirtual 53, 3) := by decide +kernel
theorem d_La_unwritten_76 : decode yLa_unwritten.2.1 76 = .ok (.iconst 1, 1) := by decide +kernel
theorem d_La_unwritten_77 : decode yLa_unwritten.2.1 77 = .ok (.if_icmp .ne 8, 3) := by decide +kernel
theorem d_La_unwritten_80 : decode yLa_unwritten.2.1 80 = .ok (.iload 6, 2) := by decide +kernel
theorem d_La_unwritten_82 : decode yLa_unwritten.2.1 82 = .ok (.goto 6, 3) := by decide +kernel
theorem d_La_unwritten_85 : decode yLa_unwritten.2.1 85 = .ok (.iload 6, 2) := by decide +kernel
theorem d_La_unwritten_87 : decode yLa_unwritten.2.1 87 = .ok (.ineg, 1) := by decide +kernel
theorem d_La_unwritten_88 : decode yLa_unwritten.2.1 88 = .ok (.istore 7, 2) := by decide +kernel
theorem d_La_unwritten_90 : decode yLa_unwritten.2.1 90 = .ok (.sipush 500, 3) := by decide +kernel
theorem d_La_unwritten_93 : decode yLa_unwritten.2.1 93 = .ok (.bipush 40, 2) := by decide +kernel
theorem d_La_unwritten_95 : decode yLa_unwritten.2.1 95 = .ok (.iload 5, 2) := by decide +kernel
theorem d_La_unwritten_97 : decode yLa_unwritten.2.1 97 = .ok (.imul, 1) := by decide +kernel
theorem d_La_unwritten_98 : decode yLa_unwritten.2.1 98 = .ok (.iadd, 1) := by decide +kernel
theorem d_La_unwritten_99 : decode yLa_unwritten.2.1 99 = .ok (.bipush 50, 2) := by decide +kernel
theorem d_La_unwritten_101 : decode yLa_unwritten.2.1 101 = .ok (.aload_n 1, 1) := by decide +kernel
theorem d_La_unwritten_102 : decode yLa_unwritten.2.1 102 = .ok (.getfield 62, 3) := by decide +kernel
theorem d_La_unwritten_105 : decode yLa_unwritten.2.1 105 = .ok (.imul, 1) := by decide +kernel
theorem d_La_unwritten_106 : decode yLa_unwritten.2.1 106 = .ok (.isub, 1) := by decide +kernel
theorem d_La_unwritten_107 : decode yLa_unwritten.2.1 107 = .ok (.bipush 20, 2) := by decide +kernel
theorem d_La_unwritten_109 : decode yLa_unwritten.2.1 109 = .ok (.iload 7, 2) := by decide +kernel
theorem d_La_unwritten_111 : decode yLa_unwritten.2.1 111 = .ok (.imul, 1) := by decide +kernel
theorem d_La_unwritten_112 : decode yLa_unwritten.2.1 112 = .ok (.iadd, 1) := by decide +kernel
theorem d_La_unwritten_113 : decode yLa_unwritten.2.1 113 = .ok (.ireturn, 1) := by decide +kernel
def J_La_unwritten_88 (h0 h1 : Nat) (x5 s0 : Int32) (I : gb_Mem) : Option (Int32) :=
  some (((500 + (40 * x5)) - (50 * (I h1 3))) + (20 * s0))
set_option maxRecDepth 4000 in
theorem j_La_unwritten_88 (l : Launch) (d0 : Nat) (h0 h1 : Nat) (H0 : isLa h0) (H1 : isTa h1) (x5 s0 : Int32) (I : gb_Mem) {rz : Int32} (h : J_La_unwritten_88 h0 h1 x5 s0 I = some rz) : gb_Go l yLa_unwritten (d0 + 2) 0 0 88 [(1, .inr (some h1)), (5, .inl x5)] [.inl s0] shX I (gb_po shX (some (.inl rz)) I) := by
  unfold J_La_unwritten_88 at h
  refine go_istore (lv' := [(7, .inl s0), (1, .inr (some h1)), (5, .inl x5)]) d_La_unwritten_88 (by decide) rfl ?_
  refine go_sipush (v := 500) d_La_unwritten_90 (by decide) ?_
  refine go_bipush (v := 40) d_La_unwritten_93 (by decide) ?_
  refine go_iload (k := 2) d_La_unwritten_95 rfl ?_
  refine go_imul d_La_unwritten_97 ?_
  refine go_iadd d_La_unwritten_98 ?_
  refine go_bipush (v := 50) d_La_unwritten_99 (by decide) ?_
  refine go_aload_n (k := 1) d_La_unwritten_101 rfl rfl ?_
  refine go_getiN (ci := 2) (k := 3) d_La_unwritten_102 H1.1 rfl (by decide) f_La_62 rfl ?_
  refine go_imul d_La_unwritten_105 ?_
  refine go_isub d_La_unwritten_106 ?_
  refine go_bipush (v := 20) d_La_unwritten_107 (by decide) ?_
  refine go_iload (k := 0) d_La_unwritten_109 rfl ?_
  refine go_imul d_La_unwritten_111 ?_
  refine go_iadd d_La_unwritten_112 ?_
  cases h
  exact go_ireturn d_La_unwritten_113 rfl gb_po_i
def F_La_unwritten (h0 h1 : Nat) (x2 x3 : Int32) (I : gb_Mem) : Option (Int32) :=
  fbd (F_Ta_ofBoat h1 2 x3 I) fun r1 =>
  fbd (F_Ta_ofSeat h1 0 r1 I) fun r2 =>
  if x2 = 1 then
    fbd (F_Ta_ofSeat h1 1 r1 I) fun r6 =>
    fbd (F_Ta_ofSeat h1 3 r1 I) fun r7 =>
    some (r6 + (5 * r7))
  else
    if x2 = 2 then
      fbd (F_Ta_ofBoat h1 1 x3 I) fun r5 =>
      some ((100 - (10 * r2)) + r5)
    else
      fbd (F_Ta_ofSeat h1 2 r1 I) fun r3 =>
      fbd (F_Ta_ofBoat h1 3 x3 I) fun r4 =>
      if r4 = 1 then
        J_La_unwritten_88 h0 h1 r2 r3 I
      else
        J_La_unwritten_88 h0 h1 r2 (-r3) I
set_option maxRecDepth 4000 in
theorem c_La_unwritten (l : Launch) (d0 : Nat) (h0 h1 : Nat) (H0 : isLa h0) (H1 : isTa h1) (x2 x3 : Int32) (I : gb_Mem) {rz : Int32} (h : F_La_unwritten h0 h1 x2 x3 I = some rz) : gb_Cs l yLa_unwritten (d0 + 2) [.inr (some h0), .inr (some h1), .inl x2, .inl x3] shX I (some (.inl rz)) I := by
  refine gb_Ct.of (lv := [(0, .inr (some h0)), (1, .inr (some h1)), (2, .inl x2), (3, .inl x3)]) rfl (Nat.le_of_ble_eq_true rfl) rfl ?_
  unfold F_La_unwritten at h
  show gb_Go l yLa_unwritten (d0 + 2) 0 0 0 [(0, .inr (some h0)), (1, .inr (some h1)), (2, .inl x2), (3, .inl x3)] [] shX I (gb_po shX (some (.inl rz)) I)
  refine go_aload_n (k := 1) d_La_unwritten_0 rfl rfl ?_
  refine go_iconst (v := 2) d_La_unwritten_1 (by decide) ?_
  refine go_iload_n (k := 3) d_La_unwritten_2 rfl rfl ?_
  obtain ⟨r1, w1, h⟩ := fbd_e h
  refine go_callV (y := yTa_ofBoat) (asr := [.inl 2, .inl x3]) (v := some (.inl r1)) (I' := I) (st1 := [.inl r1]) d_La_unwritten_3 s_yTa_ofBoat m_La_53 H1.1 rfl rfl rfl (Nat.le_of_ble_eq_true rfl) rfl rfl (c_Ta_ofBoat l (d0 + 0) h1 H1 2 x3 I w1) ?_
  refine go_istore (lv' := [(4, .inl r1), (0, .inr (some h0)), (1, .inr (some h1)), (2, .inl x2), (3, .inl x3)]) d_La_unwritten_6 (by decide) rfl ?_
  refine go_aload_n (k := 2) d_La_unwritten_8 rfl rfl ?_
  refine go_iconst (v := 0) d_La_unwritten_9 (by decide) ?_
  refine go_iload (k := 0) d_La_unwritten_10 rfl ?_
  obtain ⟨r2, w1, h⟩ := fbd_e h
  refine go_callV (y := yTa_ofSeat) (asr := [.inl 0, .inl r1]) (v := some (.inl r2)) (I' := I) (st1 := [.inl r2]) d_La_unwritten_12 s_yTa_ofSeat m_La_59 H1.1 rfl rfl rfl (Nat.le_of_ble_eq_true rfl) rfl rfl (c_Ta_ofSeat l (d0 + 0) h1 H1 0 r1 I w1) ?_
  refine go_istore (lv' := [(5, .inl r2), (4, .inl r1), (0, .inr (some h0)), (1, .inr (some h1)), (2, .inl x2), (3, .inl x3)]) d_La_unwritten_15 (by decide) rfl ?_
  refine go_iload_n (k := 4) d_La_unwritten_17 rfl rfl ?_
  refine go_iconst (v := 1) d_La_unwritten_18 (by decide) ?_
  refine go_cmp_ne (tgt := 40) d_La_unwritten_19 (by decide) (fun hc => ?_) (fun hc => ?_)
  · rw [if_neg hc] at h
    refine go_iload_n (k := 4) d_La_unwritten_40 rfl rfl ?_
    refine go_iconst (v := 2) d_La_unwritten_41 (by decide) ?_
    refine go_cmp_ne (tgt := 61) d_La_unwritten_42 (by decide) (fun hc => ?_) (fun hc => ?_)
    · rw [if_neg hc] at h
      refine go_aload_n (k := 3) d_La_unwritten_61 rfl rfl ?_
      refine go_iconst (v := 2) d_La_unwritten_62 (by decide) ?_
      refine go_iload (k := 1) d_La_unwritten_63 rfl ?_
      obtain ⟨r3, w1, h⟩ := fbd_e h
      refine go_callV (y := yTa_ofSeat) (asr := [.inl 2, .inl r1]) (v := some (.inl r3)) (I' := I) (st1 := [.inl r3]) d_La_unwritten_65 s_yTa_ofSeat m_La_59 H1.1 rfl rfl rfl (Nat.le_of_ble_eq_true rfl) rfl rfl (c_Ta_ofSeat l (d0 + 0) h1 H1 2 r1 I w1) ?_
      refine go_istore (lv' := [(6, .inl r3), (5, .inl r2), (4, .inl r1), (0, .inr (some h0)), (1, .inr (some h1)), (2, .inl x2), (3, .inl x3)]) d_La_unwritten_68 (by decide) rfl ?_
      refine go_aload_n (k := 4) d_La_unwritten_70 rfl rfl ?_
      refine go_iconst (v := 3) d_La_unwritten_71 (by decide) ?_
      refine go_iload_n (k := 6) d_La_unwritten_72 rfl rfl ?_
      obtain ⟨r4, w1, h⟩ := fbd_e h
      refine go_callV (y := yTa_ofBoat) (asr := [.inl 3, .inl x3]) (v := some (.inl r4)) (I' := I) (st1 := [.inl r4]) d_La_unwritten_73 s_yTa_ofBoat m_La_53 H1.1 rfl rfl rfl (Nat.le_of_ble_eq_true rfl) rfl rfl (c_Ta_ofBoat l (d0 + 0) h1 H1 3 x3 I w1) ?_
      refine go_iconst (v := 1) d_La_unwritten_76 (by decide) ?_
      refine go_cmp_ne (tgt := 85) d_La_unwritten_77 (by decide) (fun hc => ?_) (fun hc => ?_)
      · rw [if_neg hc] at h
        refine go_iload (k := 0) d_La_unwritten_85 rfl ?_
        refine go_ineg d_La_unwritten_87 ?_
        exact go_lv [4, 1] rfl (j_La_unwritten_88 l d0 h0 h1 H0 H1 r2 (-r3) I h)
      · rw [if_pos hc] at h
        refine go_iload (k := 0) d_La_unwritten_80 rfl ?_
        refine go_goto (tgt := 88) d_La_unwritten_82 (by decide) ?_
        exact go_lv [4, 1] rfl (j_La_unwritten_88 l d0 h0 h1 H0 H1 r2 r3 I h)
    · rw [if_pos hc] at h
      refine go_bipush (v := 100) d_La_unwritten_45 (by decide) ?_
      refine go_bipush (v := 10) d_La_unwritten_47 (by decide) ?_
      refine go_iload (k := 0) d_La_unwritten_49 rfl ?_
      refine go_imul d_La_unwritten_51 ?_
      refine go_isub d_La_unwritten_52 ?_
      refine go_aload_n (k := 3) d_La_unwritten_53 rfl rfl ?_
      refine go_iconst (v := 1) d_La_unwritten_54 (by decide) ?_
      refine go_iload_n (k := 5) d_La_unwritten_55 rfl rfl ?_
      obtain ⟨r5, w1, h⟩ := fbd_e h
      refine go_callV (y := yTa_ofBoat) (asr := [.inl 1, .inl x3]) (v := some (.inl r5)) (I' := I) (st1 := [.inl r5, .inl (100 - (10 * r2))]) d_La_unwritten_56 s_yTa_ofBoat m_La_53 H1.1 rfl rfl rfl (Nat.le_of_ble_eq_true rfl) rfl rfl (c_Ta_ofBoat l (d0 + 0) h1 H1 1 x3 I w1) ?_
      refine go_iadd d_La_unwritten_59 ?_
      cases h
      exact go_ireturn d_La_unwritten_60 rfl gb_po_i
  · rw [if_pos hc] at h
    refine go_aload_n (k := 3) d_La_unwritten_22 rfl rfl ?_
    refine go_iconst (v := 1) d_La_unwritten_23 (by decide) ?_
    refine go_iload (k := 1) d_La_unwritten_24 rfl ?_
    obtain ⟨r6, w1, h⟩ := fbd_e h
    refine go_callV (y := yTa_ofSeat) (asr := [.inl 1, .inl r1]) (v := some (.inl r6)) (I' := I) (st1 := [.inl r6]) d_La_unwritten_26 s_yTa_ofSeat m_La_59 H1.1 rfl rfl rfl (Nat.le_of_ble_eq_true rfl) rfl rfl (c_Ta_ofSeat l (d0 + 0) h1 H1 1 r1 I w1) ?_
    refine go_iconst (v := 5) d_La_unwritten_29 (by decide) ?_
    refine go_aload_n (k := 3) d_La_unwritten_30 rfl rfl ?_
    refine go_iconst (v := 3) d_La_unwritten_31 (by decide) ?_
    refine go_iload (k := 1) d_La_unwritten_32 rfl ?_
    obtain ⟨r7, w1, h⟩ := fbd_e h
    refine go_callV (y := yTa_ofSeat) (asr := [.inl 3, .inl r1]) (v := some (.inl r7)) (I' := I) (st1 := [.inl r7, .inl 5, .inl r6]) d_La_unwritten_34 s_yTa_ofSeat m_La_59 H1.1 rfl rfl rfl (Nat.le_of_ble_eq_true rfl) rfl rfl (c_Ta_ofSeat l (d0 + 0) h1 H1 3 r1 I w1) ?_
    refine go_imul d_La_unwritten_37 ?_
    refine go_iadd d_La_unwritten_38 ?_
    cases h
    exact go_ireturn d_La_unwritten_39 rfl gb_po_i
theorem d_La_worth_0 : decode yLa_worth.2.1 0 = .ok (.aload_n 0, 1) := by decide +kernel
theorem d_La_worth_1 : decode yLa_worth.2.1 1 = .ok (.iconst 2, 1) := by decide +kernel
theorem d_La_worth_2 : decode yLa_worth.2.1 2 = .ok (.iload_n 1, 1) := by decide +kernel
theorem d_La_worth_3 : decode yLa_worth.2.1 3 = .ok (.invokevirtual 53, 3) := by decide +kernel
theorem d_La_worth_6 : decode yLa_worth.2.1 6 = .ok (.istore_n 3, 1) := by decide +kernel
theorem d_La_worth_7 : decode yLa_worth.2.1 7 = .ok (.iload_n 2, 1) := by decide +kernel
theorem d_La_worth_8 : decode yLa_worth.2.1 8 = .ok (.tableswitch 130 0 10 #[60, 67, 74, 81, 88, 95, 102, 109, 111, 118, 123], 60) := by decide +kernel
theorem d_La_worth_68 : decode yLa_worth.2.1 68 = .ok (.aload_n 0, 1) := by decide +kernel
theorem d_La_worth_69 : decode yLa_worth.2.1 69 = .ok (.iconst 0, 1) := by decide +kernel
theorem d_La_worth_70 : decode yLa_worth.2.1 70 = .ok (.iload_n 1, 1) := by decide +kernel
theorem d_La_worth_71 : decode yLa_worth.2.1 71 = .ok (.invokevirtual 53, 3) := by decide +kernel
theorem d_La_worth_74 : decode yLa_worth.2.1 74 = .ok (.ireturn, 1) := by decide +kernel
theorem d_La_worth_75 : decode yLa_worth.2.1 75 = .ok (.aload_n 0, 1) := by decide +kernel
theorem d_La_worth_76 : decode yLa_worth.2.1 76 = .ok (.iconst 1, 1) := by decide +kernel
theorem d_La_worth_77 : decode yLa_worth.2.1 77 = .ok (.iload_n 1, 1) := by decide +kernel
theorem d_La_worth_78 : decode yLa_worth.2.1 78 = .ok (.invokevirtual 53, 3) := by decide +kernel
theorem d_La_worth_81 : decode yLa_worth.2.1 81 = .ok (.ireturn, 1) := by decide +kernel
theorem d_La_worth_82 : decode yLa_worth.2.1 82 = .ok (.aload_n 0, 1) := by decide +kernel
theorem d_La_worth_83 : decode yLa_worth.2.1 83 = .ok (.iconst 4, 1) := by decide +kernel
theorem d_La_worth_84 : decode yLa_worth.2.1 84 = .ok (.iload_n 1, 1) := by decide +kernel
theorem d_La_worth_85 : decode yLa_worth.2.1 85 = .ok (.invokevirtual 53, 3) := by decide +kernel
theorem d_La_worth_88 : decode yLa_worth.2.1 88 = .ok (.ireturn, 1) := by decide +kernel
theorem d_La_worth_89 : decode yLa_worth.2.1 89 = .ok (.aload_n 0, 1) := by decide +kernel
theorem d_La_worth_90 : decode yLa_worth.2.1 90 = .ok (.iconst 0, 1) := by decide +kernel
theorem d_La_worth_91 : decode yLa_worth.2.1 91 = .ok (.iload_n 3, 1) := by decide +kernel
theorem d_La_worth_92 : decode yLa_worth.2.1 92 = .ok (.invokevirtual 59, 3) := by decide +kernel
theorem d_La_worth_95 : decode yLa_worth.2.1 95 = .ok (.ireturn, 1) := by decide +kernel
theorem d_La_worth_96 : decode yLa_worth.2.1 96 = .ok (.aload_n 0, 1) := by decide +kernel
theorem d_La_worth_97 : decode yLa_worth.2.1 97 = .ok (.iconst 1, 1) := by decide +kernel
theorem d_La_worth_98 : decode yLa_worth.2.1 98 = .ok (.iload_n 3, 1) := by decide +kernel
theorem d_La_worth_99 : decode yLa_worth.2.1 99 = .ok (.invokevirtual 59, 3) := by decide +kernel
theorem d_La_worth_102 : decode yLa_worth.2.1 102 = .ok (.ireturn, 1) := by decide +kernel
theorem d_La_worth_103 : decode yLa_worth.2.1 103 = .ok (.aload_n 0, 1) := by decide +kernel
theorem d_La_worth_104 : decode yLa_worth.2.1 104 = .ok (.iconst 2, 1) := by decide +kernel
theorem d_La_worth_105 : decode yLa_worth.2.1 105 = .ok (.iload_n 3, 1) := by decide +kernel
theorem d_La_worth_106 : decode yLa_worth.2.1 106 = .ok (.invokevirtual 59, 3) := by decide +kernel
theorem d_La_worth_109 : decode yLa_worth.2.1 109 = .ok (.ireturn, 1) := by decide +kernel
theorem d_La_worth_110 : decode yLa_worth.2.1 110 = .ok (.aload_n 0, 1) := by decide +kernel
theorem d_La_worth_111 : decode yLa_worth.2.1 111 = .ok (.iconst 3, 1) := by decide +kernel
theorem d_La_worth_112 : decode yLa_worth.2.1 112 = .ok (.iload_n 3, 1) := by decide +kernel
theorem d_La_worth_113 : decode yLa_worth.2.1 113 = .ok (.invokevirtual 59, 3) := by decide +kernel
theorem d_La_worth_116 : decode yLa_worth.2.1 116 = .ok (.ireturn, 1) := by decide +kernel
theorem d_La_worth_117 : decode yLa_worth.2.1 117 = .ok (.iload_n 3, 1) := by decide +kernel
theorem d_La_worth_118 : decode yLa_worth.2.1 118 = .ok (.ireturn, 1) := by decide +kernel
theorem d_La_worth_119 : decode yLa_worth.2.1 119 = .ok (.aload_n 0, 1) := by decide +kernel
theorem d_La_worth_120 : decode yLa_worth.2.1 120 = .ok (.iconst 3, 1) := by decide +kernel
theorem d_La_worth_121 : decode yLa_worth.2.1 121 = .ok (.iload_n 1, 1) := by decide +kernel
theorem d_La_worth_122 : decode yLa_worth.2.1 122 = .ok (.invokevirtual 53, 3) := by decide +kernel
theorem d_La_worth_125 : decode yLa_worth.2.1 125 = .ok (.ireturn, 1) := by decide +kernel
theorem d_La_worth_126 : decode yLa_worth.2.1 126 = .ok (.aload_n 0, 1) := by decide +kernel
theorem d_La_worth_127 : decode yLa_worth.2.1 127 = .ok (.getfield 62, 3) := by decide +kernel
theorem d_La_worth_130 : decode yLa_worth.2.1 130 = .ok (.ireturn, 1) := by decide +kernel
theorem d_La_worth_131 : decode yLa_worth.2.1 131 = .ok (.aload_n 0, 1) := by decide +kernel
theorem d_La_worth_132 : decode yLa_worth.2.1 132 = .ok (.iconst 4, 1) := by decide +kernel
theorem d_La_worth_133 : decode yLa_worth.2.1 133 = .ok (.iload_n 3, 1) := by decide +kernel
theorem d_La_worth_134 : decode yLa_worth.2.1 134 = .ok (.invokevirtual 59, 3) := by decide +kernel
theorem d_La_worth_137 : decode yLa_worth.2.1 137 = .ok (.ireturn, 1) := by decide +kernel
theorem d_La_worth_138 : decode yLa_worth.2.1 138 = .ok (.aload_n 0, 1) := by decide +kernel
theorem d_La_worth_139 : decode yLa_worth.2.1 139 = .ok (.getfield 87, 3) := by decide +kernel
theorem d_La_worth_142 : decode yLa_worth.2.1 142 = .ok (.ireturn, 1) := by decide +kernel
def F_La_worth (h0 : Nat) (x1 x2 : Int32) (I : gb_Mem) : Option (Int32) :=
  fbd (F_Ta_ofBoat h0 2 x1 I) fun r1 =>
  if x2 = 0 then
    fbd (F_Ta_ofBoat h0 0 x1 I) fun r2 =>
    some r2
  else
  if x2 = 1 then
    fbd (F_Ta_ofBoat h0 1 x1 I) fun r3 =>
    some r3
  else
  if x2 = 2 then
    fbd (F_Ta_ofBoat h0 4 x1 I) fun r4 =>
    some r4
  else
  if x2 = 3 then
    fbd (F_Ta_ofSeat h0 0 r1 I) fun r5 =>
    some r5
  else
  if x2 = 4 then
    fbd (F_Ta_ofSeat h0 1 r1 I) fun r6 =>
    some r6
  else
  if x2 = 5 then
    fbd (F_Ta_ofSeat h0 2 r1 I) fun r7 =>
    some r7
  else
  if x2 = 6 then
    fbd (F_Ta_ofSeat h0 3 r1 I) fun r8 =>
    some r8
  else
  if x2 = 7 then
    some r1
  else
  if x2 = 8 then
    fbd (F_Ta_ofBoat h0 3 x1 I) fun r9 =>
    some r9
  else
  if x2 = 9 then
    some (I h0 3)
  else
  if x2 = 10 then
    fbd (F_Ta_ofSeat h0 4 r1 I) fun r10 =>
    some r10
  else
  some (I h0 4)
set_option maxRecDepth 4000 in
theorem c_La_worth (l : Launch) (d0 : Nat) (h0 : Nat) (H0 : isTa h0) (x1 x2 : Int32) (I : gb_Mem) {rz : Int32} (h : F_La_worth h0 x1 x2 I = some rz) : gb_Cs l yLa_worth (d0 + 2) [.inr (some h0), .inl x1, .inl x2] shX I (some (.inl rz)) I := by
  refine gb_Ct.of (lv := [(0, .inr (some h0)), (1, .inl x1), (2, .inl x2)]) rfl (Nat.le_of_ble_eq_true rfl) rfl ?_
  unfold F_La_worth at h
  show gb_Go l yLa_worth (d0 + 2) 0 0 0 [(0, .inr (some h0)), (1, .inl x1), (2, .inl x2)] [] shX I (gb_po shX (some (.inl rz)) I)
  refine go_aload_n (k := 0) d_La_worth_0 rfl rfl ?_
  refine go_iconst (v := 2) d_La_worth_1 (by decide) ?_
  refine go_iload_n (k := 1) d_La_worth_2 rfl rfl ?_
  obtain ⟨r1, w1, h⟩ := fbd_e h
  refine go_callV (y := yTa_ofBoat) (asr := [.inl 2, .inl x1]) (v := some (.inl r1)) (I' := I) (st1 := [.inl r1]) d_La_worth_3 s_yTa_ofBoat m_La_53 H0.1 rfl rfl rfl (Nat.le_of_ble_eq_true rfl) rfl rfl (c_Ta_ofBoat l (d0 + 0) h0 H0 2 x1 I w1) ?_
  refine go_istore_n (lv' := [(3, .inl r1), (0, .inr (some h0)), (1, .inl x1), (2, .inl x2)]) d_La_worth_6 rfl (by decide) rfl ?_
  refine go_iload_n (k := 3) d_La_worth_7 rfl rfl ?_
  by_cases hc0 : x2 = 0
  · rw [if_pos hc0] at h
    refine go_tsIn (tgt := 68) d_La_worth_8 (by rw [hc0]; decide) (by rw [hc0]; decide) (by rw [hc0]; rfl) (by decide) ?_
    refine go_aload_n (k := 1) d_La_worth_68 rfl rfl ?_
    refine go_iconst (v := 0) d_La_worth_69 (by decide) ?_
    refine go_iload_n (k := 2) d_La_worth_70 rfl rfl ?_
    obtain ⟨r2, w1, h⟩ := fbd_e h
    refine go_callV (y := yTa_ofBoat) (asr := [.inl 0, .inl x1]) (v := some (.inl r2)) (I' := I) (st1 := [.inl r2]) d_La_worth_71 s_yTa_ofBoat m_La_53 H0.1 rfl rfl rfl (Nat.le_of_ble_eq_true rfl) rfl rfl (c_Ta_ofBoat l (d0 + 0) h0 H0 0 x1 I w1) ?_
    cases h
    exact go_ireturn d_La_worth_74 rfl gb_po_i
  · rw [if_neg hc0] at h
    by_cases hc1 : x2 = 1
    · rw [if_pos hc1] at h
      refine go_tsIn (tgt := 75) d_La_worth_8 (by rw [hc1]; decide) (by rw [hc1]; decide) (by rw [hc1]; rfl) (by decide) ?_
      refine go_aload_n (k := 1) d_La_worth_75 rfl rfl ?_
      refine go_iconst (v := 1) d_La_worth_76 (by decide) ?_
      refine go_iload_n (k := 2) d_La_worth_77 rfl rfl ?_
      obtain ⟨r3, w1, h⟩ := fbd_e h
      refine go_callV (y := yTa_ofBoat) (asr := [.inl 1, .inl x1]) (v := some (.inl r3)) (I' := I) (st1 := [.inl r3]) d_La_worth_78 s_yTa_ofBoat m_La_53 H0.1 rfl rfl rfl (Nat.le_of_ble_eq_true rfl) rfl rfl (c_Ta_ofBoat l (d0 + 0) h0 H0 1 x1 I w1) ?_
      cases h
      exact go_ireturn d_La_worth_81 rfl gb_po_i
    · rw [if_neg hc1] at h
      by_cases hc2 : x2 = 2
      · rw [if_pos hc2] at h
        refine go_tsIn (tgt := 82) d_La_worth_8 (by rw [hc2]; decide) (by rw [hc2]; decide) (by rw [hc2]; rfl) (by decide) ?_
        refine go_aload_n (k := 1) d_La_worth_82 rfl rfl ?_
        refine go_iconst (v := 4) d_La_worth_83 (by decide) ?_
        refine go_iload_n (k := 2) d_La_worth_84 rfl rfl ?_
        obtain ⟨r4, w1, h⟩ := fbd_e h
        refine go_callV (y := yTa_ofBoat) (asr := [.inl 4, .inl x1]) (v := some (.inl r4)) (I' := I) (st1 := [.inl r4]) d_La_worth_85 s_yTa_ofBoat m_La_53 H0.1 rfl rfl rfl (Nat.le_of_ble_eq_true rfl) rfl rfl (c_Ta_ofBoat l (d0 + 0) h0 H0 4 x1 I w1) ?_
        cases h
        exact go_ireturn d_La_worth_88 rfl gb_po_i
      · rw [if_neg hc2] at h
        by_cases hc3 : x2 = 3
        · rw [if_pos hc3] at h
          refine go_tsIn (tgt := 89) d_La_worth_8 (by rw [hc3]; decide) (by rw [hc3]; decide) (by rw [hc3]; rfl) (by decide) ?_
          refine go_aload_n (k := 1) d_La_worth_89 rfl rfl ?_
          refine go_iconst (v := 0) d_La_worth_90 (by decide) ?_
          refine go_iload_n (k := 0) d_La_worth_91 rfl rfl ?_
          obtain ⟨r5, w1, h⟩ := fbd_e h
          refine go_callV (y := yTa_ofSeat) (asr := [.inl 0, .inl r1]) (v := some (.inl r5)) (I' := I) (st1 := [.inl r5]) d_La_worth_92 s_yTa_ofSeat m_La_59 H0.1 rfl rfl rfl (Nat.le_of_ble_eq_true rfl) rfl rfl (c_Ta_ofSeat l (d0 + 0) h0 H0 0 r1 I w1) ?_
          cases h
          exact go_ireturn d_La_worth_95 rfl gb_po_i
        · rw [if_neg hc3] at h
          by_cases hc4 : x2 = 4
          · rw [if_pos hc4] at h
            refine go_tsIn (tgt := 96) d_La_worth_8 (by rw [hc4]; decide) (by rw [hc4]; decide) (by rw [hc4]; rfl) (by decide) ?_
            refine go_aload_n (k := 1) d_La_worth_96 rfl rfl ?_
            refine go_iconst (v := 1) d_La_worth_97 (by decide) ?_
            refine go_iload_n (k := 0) d_La_worth_98 rfl rfl ?_
            obtain ⟨r6, w1, h⟩ := fbd_e h
            refine go_callV (y := yTa_ofSeat) (asr := [.inl 1, .inl r1]) (v := some (.inl r6)) (I' := I) (st1 := [.inl r6]) d_La_worth_99 s_yTa_ofSeat m_La_59 H0.1 rfl rfl rfl (Nat.le_of_ble_eq_true rfl) rfl rfl (c_Ta_ofSeat l (d0 + 0) h0 H0 1 r1 I w1) ?_
            cases h
            exact go_ireturn d_La_worth_102 rfl gb_po_i
          · rw [if_neg hc4] at h
            by_cases hc5 : x2 = 5
            · rw [if_pos hc5] at h
              refine go_tsIn (tgt := 103) d_La_worth_8 (by rw [hc5]; decide) (by rw [hc5]; decide) (by rw [hc5]; rfl) (by decide) ?_
              refine go_aload_n (k := 1) d_La_worth_103 rfl rfl ?_
              refine go_iconst (v := 2) d_La_worth_104 (by decide) ?_
              refine go_iload_n (k := 0) d_La_worth_105 rfl rfl ?_
              obtain ⟨r7, w1, h⟩ := fbd_e h
              refine go_callV (y := yTa_ofSeat) (asr := [.inl 2, .inl r1]) (v := some (.inl r7)) (I' := I) (st1 := [.inl r7]) d_La_worth_106 s_yTa_ofSeat m_La_59 H0.1 rfl rfl rfl (Nat.le_of_ble_eq_true rfl) rfl rfl (c_Ta_ofSeat l (d0 + 0) h0 H0 2 r1 I w1) ?_
              cases h
              exact go_ireturn d_La_worth_109 rfl gb_po_i
            · rw [if_neg hc5] at h
              by_cases hc6 : x2 = 6
              · rw [if_pos hc6] at h
                refine go_tsIn (tgt := 110) d_La_worth_8 (by rw [hc6]; decide) (by rw [hc6]; decide) (by rw [hc6]; rfl) (by decide) ?_
                refine go_aload_n (k := 1) d_La_worth_110 rfl rfl ?_
                refine go_iconst (v := 3) d_La_worth_111 (by decide) ?_
                refine go_iload_n (k := 0) d_La_worth_112 rfl rfl ?_
                obtain ⟨r8, w1, h⟩ := fbd_e h
                refine go_callV (y := yTa_ofSeat) (asr := [.inl 3, .inl r1]) (v := some (.inl r8)) (I' := I) (st1 := [.inl r8]) d_La_worth_113 s_yTa_ofSeat m_La_59 H0.1 rfl rfl rfl (Nat.le_of_ble_eq_true rfl) rfl rfl (c_Ta_ofSeat l (d0 + 0) h0 H0 3 r1 I w1) ?_
                cases h
                exact go_ireturn d_La_worth_116 rfl gb_po_i
              · rw [if_neg hc6] at h
                by_cases hc7 : x2 = 7
                · rw [if_pos hc7] at h
                  refine go_tsIn (tgt := 117) d_La_worth_8 (by rw [hc7]; decide) (by rw [hc7]; decide) (by rw [hc7]; rfl) (by decide) ?_
                  refine go_iload_n (k := 0) d_La_worth_117 rfl rfl ?_
                  cases h
                  exact go_ireturn d_La_worth_118 rfl gb_po_i
                · rw [if_neg hc7] at h
                  by_cases hc8 : x2 = 8
                  · rw [if_pos hc8] at h
                    refine go_tsIn (tgt := 119) d_La_worth_8 (by rw [hc8]; decide) (by rw [hc8]; decide) (by rw [hc8]; rfl) (by decide) ?_
                    refine go_aload_n (k := 1) d_La_worth_119 rfl rfl ?_
                    refine go_iconst (v := 3) d_La_worth_120 (by decide) ?_
                    refine go_iload_n (k := 2) d_La_worth_121 rfl rfl ?_
                    obtain ⟨r9, w1, h⟩ := fbd_e h
                    refine go_callV (y := yTa_ofBoat) (asr := [.inl 3, .inl x1]) (v := some (.inl r9)) (I' := I) (st1 := [.inl r9]) d_La_worth_122 s_yTa_ofBoat m_La_53 H0.1 rfl rfl rfl (Nat.le_of_ble_eq_true rfl) rfl rfl (c_Ta_ofBoat l (d0 + 0) h0 H0 3 x1 I w1) ?_
                    cases h
                    exact go_ireturn d_La_worth_125 rfl gb_po_i
                  · rw [if_neg hc8] at h
                    by_cases hc9 : x2 = 9
                    · rw [if_pos hc9] at h
                      refine go_tsIn (tgt := 126) d_La_worth_8 (by rw [hc9]; decide) (by rw [hc9]; decide) (by rw [hc9]; rfl) (by decide) ?_
                      refine go_aload_n (k := 1) d_La_worth_126 rfl rfl ?_
                      refine go_getiN (ci := 2) (k := 3) d_La_worth_127 H0.1 rfl (by decide) f_La_62 rfl ?_
                      cases h
                      exact go_ireturn d_La_worth_130 rfl gb_po_i
                    · rw [if_neg hc9] at h
                      by_cases hc10 : x2 = 10
                      · rw [if_pos hc10] at h
                        refine go_tsIn (tgt := 131) d_La_worth_8 (by rw [hc10]; decide) (by rw [hc10]; decide) (by rw [hc10]; rfl) (by decide) ?_
                        refine go_aload_n (k := 1) d_La_worth_131 rfl rfl ?_
                        refine go_iconst (v := 4) d_La_worth_132 (by decide) ?_
                        refine go_iload_n (k := 0) d_La_worth_133 rfl rfl ?_
                        obtain ⟨r10, w1, h⟩ := fbd_e h
                        refine go_callV (y := yTa_ofSeat) (asr := [.inl 4, .inl r1]) (v := some (.inl r10)) (I' := I) (st1 := [.inl r10]) d_La_worth_134 s_yTa_ofSeat m_La_59 H0.1 rfl rfl rfl (Nat.le_of_ble_eq_true rfl) rfl rfl (c_Ta_ofSeat l (d0 + 0) h0 H0 4 r1 I w1) ?_
                        cases h
                        exact go_ireturn d_La_worth_137 rfl gb_po_i
                      · rw [if_neg hc10] at h
                        refine go_tsOut (tgt := 138) d_La_worth_8 (by have ehc0 := lv_neT hc0 (a := 0) (by decide); have ehc1 := lv_neT hc1 (a := 1) (by decide); have ehc2 := lv_neT hc2 (a := 2) (by decide); have ehc3 := lv_neT hc3 (a := 3) (by decide); have ehc4 := lv_neT hc4 (a := 4) (by decide); have ehc5 := lv_neT hc5 (a := 5) (by decide); have ehc6 := lv_neT hc6 (a := 6) (by decide); have ehc7 := lv_neT hc7 (a := 7) (by decide); have ehc8 := lv_neT hc8 (a := 8) (by decide); have ehc9 := lv_neT hc9 (a := 9) (by decide); have ehc10 := lv_neT hc10 (a := 10) (by decide); omega) (by decide) ?_
                        refine go_aload_n (k := 1) d_La_worth_138 rfl rfl ?_
                        refine go_getiN (ci := 2) (k := 4) d_La_worth_139 H0.1 rfl (by decide) f_La_87 rfl ?_
                        cases h
                        exact go_ireturn d_La_worth_142 rfl gb_po_i
theorem d_Pa_goBack_0 : decode yPa_goBack.2.1 0 = .ok (.aload_n 0, 1) := by decide +kernel
theorem d_Pa_goBack_1 : decode yPa_goBack.2.1 1 = .ok (.getfield 26, 3) := by decide +kernel
theorem d_Pa_goBack_4 : decode yPa_goBack.2.1 4 = .ok (.bipush 6, 2) := by decide +kernel
theorem d_Pa_goBack_6 : decode yPa_goBack.2.1 6 = .ok (.iadd, 1) := by decide +kernel
theorem d_Pa_goBack_7 : decode yPa_goBack.2.1 7 = .ok (.iconst 1, 1) := by decide +kernel
theorem d_Pa_goBack_8 : decode yPa_goBack.2.1 8 = .ok (.isub, 1) := by decide +kernel
theorem d_Pa_goBack_9 : decode yPa_goBack.2.1 9 = .ok (.bipush 6, 2) := by decide +kernel
theorem d_Pa_goBack_11 : decode yPa_goBack.2.1 11 = .ok (.irem, 1) := by decide +kernel
theorem d_Pa_goBack_12 : decode yPa_goBack.2.1 12 = .ok (.istore_n 2, 1) := by decide +kernel
theorem d_Pa_goBack_13 : decode yPa_goBack.2.1 13 = .ok (.aload_n 0, 1) := by decide +kernel
theorem d_Pa_goBack_14 : decode yPa_goBack.2.1 14 = .ok (.getfield 22, 3) := by decide +kernel
theorem d_Pa_goBack_17 : decode yPa_goBack.2.1 17 = .ok (.ifCond .eq 21, 3) := by decide +kernel
theorem d_Pa_goBack_20 : decode yPa_goBack.2.1 20 = .ok (.iload_n 2, 1) := by decide +kernel
theorem d_Pa_goBack_21 : decode yPa_goBack.2.1 21 = .ok (.iconst 0, 1) := by decide +kernel
theorem d_Pa_goBack_22 : decode yPa_goBack.2.1 22 = .ok (.iconst 5, 1) := by decide +kernel
theorem d_Pa_goBack_23 : decode yPa_goBack.2.1 23 = .ok (.invokestatic 29, 3) := by decide +kernel
theorem d_Pa_goBack_26 : decode yPa_goBack.2.1 26 = .ok (.ifCond .eq 12, 3) := by decide +kernel
theorem d_Pa_goBack_29 : decode yPa_goBack.2.1 29 = .ok (.aload_n 0, 1) := by decide +kernel
theorem d_Pa_goBack_30 : decode yPa_goBack.2.1 30 = .ok (.getfield 11, 3) := by decide +kernel
theorem d_Pa_goBack_33 : decode yPa_goBack.2.1 33 = .ok (.iload_n 2, 1) := by decide +kernel
theorem d_Pa_goBack_34 : decode yPa_goBack.2.1 34 = .ok (.aaload, 1) := by decide +kernel
theorem d_Pa_goBack_35 : decode yPa_goBack.2.1 35 = .ok (.ifnonnull 5, 3) := by decide +kernel
theorem d_Pa_goBack_38 : decode yPa_goBack.2.1 38 = .ok (.iconst 0, 1) := by decide +kernel
theorem d_Pa_goBack_39 : decode yPa_goBack.2.1 39 = .ok (.ireturn, 1) := by decide +kernel
theorem d_Pa_goBack_40 : decode yPa_goBack.2.1 40 = .ok (.aload_n 1, 1) := by decide +kernel
theorem d_Pa_goBack_41 : decode yPa_goBack.2.1 41 = .ok (.getfield 33, 3) := by decide +kernel
theorem d_Pa_goBack_44 : decode yPa_goBack.2.1 44 = .ok (.aload_n 0, 1) := by decide +kernel
theorem d_Pa_goBack_45 : decode yPa_goBack.2.1 45 = .ok (.getfield 11, 3) := by decide +kernel
theorem d_Pa_goBack_48 : decode yPa_goBack.2.1 48 = .ok (.iload_n 2, 1) := by decide +kernel
theorem d_Pa_goBack_49 : decode yPa_goBack.2.1 49 = .ok (.aaload, 1) := by decide +kernel
theorem d_Pa_goBack_50 : decode yPa_goBack.2.1 50 = .ok (.invokevirtual 39, 3) := by decide +kernel
theorem d_Pa_goBack_53 : decode yPa_goBack.2.1 53 = .ok (.aload_n 1, 1) := by decide +kernel
theorem d_Pa_goBack_54 : decode yPa_goBack.2.1 54 = .ok (.getfield 43, 3) := by decide +kernel
theorem d_Pa_goBack_57 : decode yPa_goBack.2.1 57 = .ok (.aload_n 0, 1) := by decide +kernel
theorem d_Pa_goBack_58 : decode yPa_goBack.2.1 58 = .ok (.getfield 17, 3) := by decide +kernel
theorem d_Pa_goBack_61 : decode yPa_goBack.2.1 61 = .ok (.iload_n 2, 1) := by decide +kernel
theorem d_Pa_goBack_62 : decode yPa_goBack.2.1 62 = .ok (.iaload, 1) := by decide +kernel
theorem d_Pa_goBack_63 : decode yPa_goBack.2.1 63 = .ok (.putfield 47, 3) := by decide +kernel
theorem d_Pa_goBack_66 : decode yPa_goBack.2.1 66 = .ok (.aload_n 0, 1) := by decide +kernel
theorem d_Pa_goBack_67 : decode yPa_goBack.2.1 67 = .ok (.iload_n 2, 1) := by decide +kernel
theorem d_Pa_goBack_68 : decode yPa_goBack.2.1 68 = .ok (.putfield 26, 3) := by decide +kernel
theorem d_Pa_goBack_71 : decode yPa_goBack.2.1 71 = .ok (.aload_n 0, 1) := by decide +kernel
theorem d_Pa_goBack_72 : decode yPa_goBack.2.1 72 = .ok (.dup, 1) := by decide +kernel
theorem d_Pa_goBack_73 : decode yPa_goBack.2.1 73 = .ok (.getfield 22, 3) := by decide +kernel
theorem d_Pa_goBack_76 : decode yPa_goBack.2.1 76 = .ok (.iconst 1, 1) := by decide +kernel
theorem d_Pa_goBack_77 : decode yPa_goBack.2.1 77 = .ok (.isub, 1) := by decide +kernel
theorem d_Pa_goBack_78 : decode yPa_goBack.2.1 78 = .ok (.putfield 22, 3) := by decide +kernel
theorem d_Pa_goBack_81 : decode yPa_goBack.2.1 81 = .ok (.iconst 1, 1) := by decide +kernel
theorem d_Pa_goBack_82 : decode yPa_goBack.2.1 82 = .ok (.ireturn, 1) := by decide +kernel
def F_Pa_goBack (h1 : Nat) (I : gb_Mem) : Option (Int32 × gb_Mem) :=
  flt ((((I 69 2) + 6) - 1) - (((I 69 2) + 6) - 1) / 6 * 6) fun y1 =>
  if (I 69 3) = 0 then
    some (0, I)
  else
    if (F_Gb_within y1 0 5 I) = 0 then
      some (0, I)
    else
      ftab y1 fun t2 =>
      ftab y1 fun t3 =>
      fbd (F_Ta_copyFrom (h1 + 1) t3 I) fun I4 =>
      flod I4 71 6 y1 fun v5 =>
      fstf I4 (h1 + 16) 2 v5 fun I6 =>
      fstf I6 69 2 y1 fun I7 =>
      fstf I7 69 3 ((I7 69 3) - 1) fun I8 =>
      some (1, I8)
set_option maxRecDepth 4000 in
theorem c_Pa_goBack (l : Launch) (d0 : Nat) (h1 : Nat) (H1 : isWo h1) (I : gb_Mem) {rz : Int32} {Iz : gb_Mem} (h : F_Pa_goBack h1 I = some (rz, Iz)) : gb_Cs l yPa_goBack (d0 + 2) [.inr (some 69), .inr (some h1)] shX I (some (.inl rz)) Iz := by
  refine gb_Ct.of (lv := [(0, .inr (some 69)), (1, .inr (some h1))]) rfl (Nat.le_of_ble_eq_true rfl) rfl ?_
  unfold F_Pa_goBack at h
  show gb_Go l yPa_goBack (d0 + 2) 0 0 0 [(0, .inr (some 69)), (1, .inr (some h1))] [] shX I (gb_po shX (some (.inl rz)) Iz)
  refine go_aload_n (k := 0) d_Pa_goBack_0 rfl rfl ?_
  refine go_geti (ci := 5) (k := 2) d_Pa_goBack_1 a_X_69 rfl (by decide) f_Pa_26 rfl ?_
  refine go_bipush (v := 6) d_Pa_goBack_4 (by decide) ?_
  refine go_iadd d_Pa_goBack_6 ?_
  refine go_iconst (v := 1) d_Pa_goBack_7 (by decide) ?_
  refine go_isub d_Pa_goBack_8 ?_
  refine go_bipush (v := 6) d_Pa_goBack_9 (by decide) ?_
  refine go_irem d_Pa_goBack_11 (by decide) ?_
  obtain ⟨y1, ey1, h⟩ := flt_e h
  refine go_top ey1 ?_
  refine go_istore_n (lv' := [(2, .inl y1), (0, .inr (some 69)), (1, .inr (some h1))]) d_Pa_goBack_12 rfl (by decide) rfl ?_
  refine go_aload_n (k := 1) d_Pa_goBack_13 rfl rfl ?_
  refine go_geti (ci := 5) (k := 3) d_Pa_goBack_14 a_X_69 rfl (by decide) f_Pa_22 rfl ?_
  refine go_if_eq (tgt := 38) d_Pa_goBack_17 (by decide) (fun hc => ?_) (fun hc => ?_)
  · rw [if_pos hc] at h
    refine go_iconst (v := 0) d_Pa_goBack_38 (by decide) ?_
    cases h
    exact go_zreturn d_Pa_goBack_39 rfl (Or.inl rfl) gb_po_i
  · rw [if_neg hc] at h
    refine go_iload_n (k := 0) d_Pa_goBack_20 rfl rfl ?_
    refine go_iconst (v := 0) d_Pa_goBack_21 (by decide) ?_
    refine go_iconst (v := 5) d_Pa_goBack_22 (by decide) ?_
    refine go_callSN (y := yGb_within) (asr := [.inl y1, .inl 0, .inl 5]) (v := some (.inl (F_Gb_within y1 0 5 I))) (I' := I) (st1 := [.inl (F_Gb_within y1 0 5 I)]) d_Pa_goBack_23 s_yGb_within m_Pa_29 rfl (Nat.le_of_ble_eq_true rfl) rfl rfl (c_Gb_within l (d0 + 1) y1 0 5 I) ?_
    refine go_if_eq (tgt := 38) d_Pa_goBack_26 (by decide) (fun hc => ?_) (fun hc => ?_)
    · rw [if_pos hc] at h
      refine go_iconst (v := 0) d_Pa_goBack_38 (by decide) ?_
      cases h
      exact go_zreturn d_Pa_goBack_39 rfl (Or.inl rfl) gb_po_i
    · rw [if_neg hc] at h
      refine go_aload_n (k := 1) d_Pa_goBack_29 rfl rfl ?_
      refine go_getr (ci := 5) (k := 0) (r := 70) d_Pa_goBack_30 a_X_69 rfl (by decide) f_Pa_11 rfl ?_
      refine go_iload_n (k := 0) d_Pa_goBack_33 rfl rfl ?_
      obtain ⟨hi, t2, et2, h⟩ := ftab_e h
      refine go_aald (r := t2) d_Pa_goBack_34 a_X_70 hi (gb_tabs hi et2).1 ?_
      have Ht2 := (gb_tabs hi et2).2
      refine go_ifnonnull (tgt := 40) d_Pa_goBack_35 (by decide) ?_
      refine go_aload_n (k := 2) d_Pa_goBack_40 rfl rfl ?_
      refine go_getrN (ci := 1) (k := 0) (r := (h1 + 1)) d_Pa_goBack_41 H1.1 rfl (by decide) f_Pa_33 rfl ?_
      refine go_aload_n (k := 1) d_Pa_goBack_44 rfl rfl ?_
      refine go_getr (ci := 5) (k := 0) (r := 70) d_Pa_goBack_45 a_X_69 rfl (by decide) f_Pa_11 rfl ?_
      refine go_iload_n (k := 0) d_Pa_goBack_48 rfl rfl ?_
      obtain ⟨hi, t3, et3, h⟩ := ftab_e h
      refine go_aald (r := t3) d_Pa_goBack_49 a_X_70 hi (gb_tabs hi et3).1 ?_
      have Ht3 := (gb_tabs hi et3).2
      obtain ⟨I4, w1, h⟩ := fbd_e h
      refine go_callV (y := yTa_copyFrom) (asr := [.inr (some t3)]) (v := none) (I' := I4) (st1 := []) d_Pa_goBack_50 s_yTa_copyFrom m_Pa_39 H1.2.1.1 rfl rfl rfl (Nat.le_of_ble_eq_true rfl) rfl rfl (c_Ta_copyFrom l (d0 + 0) (h1 + 1) t3 H1.2.1 Ht3 I w1) ?_
      refine go_aload_n (k := 2) d_Pa_goBack_53 rfl rfl ?_
      refine go_getrN (ci := 1) (k := 5) (r := (h1 + 16)) d_Pa_goBack_54 H1.1 rfl (by decide) f_Pa_43 rfl ?_
      refine go_aload_n (k := 1) d_Pa_goBack_57 rfl rfl ?_
      refine go_getr (ci := 5) (k := 1) (r := 71) d_Pa_goBack_58 a_X_69 rfl (by decide) f_Pa_17 rfl ?_
      refine go_iload_n (k := 0) d_Pa_goBack_61 rfl rfl ?_
      obtain ⟨hi, v5, ev5, h⟩ := flod_e h
      refine go_iald2 d_Pa_goBack_62 a_X_71 hi ev5 ?_
      obtain ⟨I6, eI6, h⟩ := fstf_e h
      refine go_putTN (ci := 4) (k := 2) (I' := I6) d_Pa_goBack_63 H1.2.2.2.2.2.2.1.1 rfl (by decide) f_Pa_47 rfl rfl rfl rfl rfl eI6 ?_
      refine go_aload_n (k := 1) d_Pa_goBack_66 rfl rfl ?_
      refine go_iload_n (k := 0) d_Pa_goBack_67 rfl rfl ?_
      obtain ⟨I7, eI7, h⟩ := fstf_e h
      refine go_putT (ci := 5) (k := 2) (I' := I7) d_Pa_goBack_68 a_X_69 rfl (by decide) f_Pa_26 rfl rfl rfl rfl rfl eI7 ?_
      refine go_aload_n (k := 1) d_Pa_goBack_71 rfl rfl ?_
      refine go_dup d_Pa_goBack_72 ?_
      refine go_geti (ci := 5) (k := 3) d_Pa_goBack_73 a_X_69 rfl (by decide) f_Pa_22 rfl ?_
      refine go_iconst (v := 1) d_Pa_goBack_76 (by decide) ?_
      refine go_isub d_Pa_goBack_77 ?_
      obtain ⟨I8, eI8, h⟩ := fstf_e h
      refine go_putT (ci := 5) (k := 3) (I' := I8) d_Pa_goBack_78 a_X_69 rfl (by decide) f_Pa_22 rfl rfl rfl rfl rfl eI8 ?_
      refine go_iconst (v := 1) d_Pa_goBack_81 (by decide) ?_
      cases h
      exact go_zreturn d_Pa_goBack_82 rfl (Or.inr rfl) gb_po_i
theorem d_Pa_keep_0 : decode yPa_keep.2.1 0 = .ok (.aload_n 0, 1) := by decide +kernel
theorem d_Pa_keep_1 : decode yPa_keep.2.1 1 = .ok (.getfield 26, 3) := by decide +kernel
theorem d_Pa_keep_4 : decode yPa_keep.2.1 4 = .ok (.iconst 0, 1) := by decide +kernel
theorem d_Pa_keep_5 : decode yPa_keep.2.1 5 = .ok (.iconst 5, 1) := by decide +kernel
theorem d_Pa_keep_6 : decode yPa_keep.2.1 6 = .ok (.invokestatic 29, 3) := by decide +kernel
theorem d_Pa_keep_9 : decode yPa_keep.2.1 9 = .ok (.ifCond .eq 15, 3) := by decide +kernel
theorem d_Pa_keep_12 : decode yPa_keep.2.1 12 = .ok (.aload_n 0, 1) := by decide +kernel
theorem d_Pa_keep_13 : decode yPa_keep.2.1 13 = .ok (.getfield 11, 3) := by decide +kernel
theorem d_Pa_keep_16 : decode yPa_keep.2.1 16 = .ok (.aload_n 0, 1) := by decide +kernel
theorem d_Pa_keep_17 : decode yPa_keep.2.1 17 = .ok (.getfield 26, 3) := by decide +kernel
theorem d_Pa_keep_20 : decode yPa_keep.2.1 20 = .ok (.aaload, 1) := by decide +kernel
theorem d_Pa_keep_21 : decode yPa_keep.2.1 21 = .ok (.ifnonnull 4, 3) := by decide +kernel
theorem d_Pa_keep_24 : decode yPa_keep.2.1 24 = .ok (.return_, 1) := by decide +kernel
theorem d_Pa_keep_25 : decode yPa_keep.2.1 25 = .ok (.aload_n 0, 1) := by decide +kernel
theorem d_Pa_keep_26 : decode yPa_keep.2.1 26 = .ok (.getfield 11, 3) := by decide +kernel
theorem d_Pa_keep_29 : decode yPa_keep.2.1 29 = .ok (.aload_n 0, 1) := by decide +kernel
theorem d_Pa_keep_30 : decode yPa_keep.2.1 30 = .ok (.getfield 26, 3) := by decide +kernel
theorem d_Pa_keep_33 : decode yPa_keep.2.1 33 = .ok (.aaload, 1) := by decide +kernel
theorem d_Pa_keep_34 : decode yPa_keep.2.1 34 = .ok (.aload_n 1, 1) := by decide +kernel
theorem d_Pa_keep_35 : decode yPa_keep.2.1 35 = .ok (.getfield 33, 3) := by decide +kernel
theorem d_Pa_keep_38 : decode yPa_keep.2.1 38 = .ok (.invokevirtual 39, 3) := by decide +kernel
theorem d_Pa_keep_41 : decode yPa_keep.2.1 41 = .ok (.aload_n 0, 1) := by decide +kernel
theorem d_Pa_keep_42 : decode yPa_keep.2.1 42 = .ok (.getfield 17, 3) := by decide +kernel
theorem d_Pa_keep_45 : decode yPa_keep.2.1 45 = .ok (.aload_n 0, 1) := by decide +kernel
theorem d_Pa_keep_46 : decode yPa_keep.2.1 46 = .ok (.getfield 26, 3) := by decide +kernel
theorem d_Pa_keep_49 : decode yPa_keep.2.1 49 = .ok (.aload_n 1, 1) := by decide +kernel
theorem d_Pa_keep_50 : decode yPa_keep.2.1 50 = .ok (.getfield 43, 3) := by decide +kernel
theorem d_Pa_keep_53 : decode yPa_keep.2.1 53 = .ok (.getfield 47, 3) := by decide +kernel
theorem d_Pa_keep_56 : decode yPa_keep.2.1 56 = .ok (.iastore, 1) := by decide +kernel
theorem d_Pa_keep_57 : decode yPa_keep.2.1 57 = .ok (.aload_n 0, 1) := by decide +kernel
theorem d_Pa_keep_58 : decode yPa_keep.2.1 58 = .ok (.aload_n 0, 1) := by decide +kernel
theorem d_Pa_keep_59 : decode yPa_keep.2.1 59 = .ok (.getfield 26, 3) := by decide +kernel
theorem d_Pa_keep_62 : decode yPa_keep.2.1 62 = .ok (.iconst 1, 1) := by decide +kernel
theorem d_Pa_keep_63 : decode yPa_keep.2.1 63 = .ok (.iadd, 1) := by decide +kernel
theorem d_Pa_keep_64 : decode yPa_keep.2.1 64 = .ok (.bipush 6, 2) := by decide +kernel
theorem d_Pa_keep_66 : decode yPa_keep.2.1 66 = .ok (.irem, 1) := by decide +kernel
theorem d_Pa_keep_67 : decode yPa_keep.2.1 67 = .ok (.putfield 26, 3) := by decide +kernel
theorem d_Pa_keep_70 : decode yPa_keep.2.1 70 = .ok (.aload_n 0, 1) := by decide +kernel
theorem d_Pa_keep_71 : decode yPa_keep.2.1 71 = .ok (.bipush 6, 2) := by decide +kernel
theorem d_Pa_keep_73 : decode yPa_keep.2.1 73 = .ok (.aload_n 0, 1) := by decide +kernel
theorem d_Pa_keep_74 : decode yPa_keep.2.1 74 = .ok (.getfield 22, 3) := by decide +kernel
theorem d_Pa_keep_77 : decode yPa_keep.2.1 77 = .ok (.iconst 1, 1) := by decide +kernel
theorem d_Pa_keep_78 : decode yPa_keep.2.1 78 = .ok (.iadd, 1) := by decide +kernel
theorem d_Pa_keep_79 : decode yPa_keep.2.1 79 = .ok (.invokestatic 52, 3) := by decide +kernel
theorem d_Pa_keep_82 : decode yPa_keep.2.1 82 = .ok (.putfield 22, 3) := by decide +kernel
theorem d_Pa_keep_85 : decode yPa_keep.2.1 85 = .ok (.return_, 1) := by decide +kernel
def F_Pa_keep (h1 : Nat) (I : gb_Mem) : Option (gb_Mem) :=
  if (F_Gb_within (I 69 2) 0 5 I) = 0 then
    some I
  else
    ftab (I 69 2) fun t1 =>
    ftab (I 69 2) fun t2 =>
    fbd (F_Ta_copyFrom t2 (h1 + 1) I) fun I3 =>
    fsto I3 71 6 (I3 69 2) (I3 (h1 + 16) 2) fun I4 =>
    fstf I4 69 2 (((I4 69 2) + 1) - ((I4 69 2) + 1) / 6 * 6) fun I5 =>
    fstf I5 69 3 (mn 6 ((I5 69 3) + 1)) fun I6 =>
    some I6
set_option maxRecDepth 4000 in
theorem c_Pa_keep (l : Launch) (d0 : Nat) (h1 : Nat) (H1 : isWo h1) (I : gb_Mem) {Iz : gb_Mem} (h : F_Pa_keep h1 I = some Iz) : gb_Cs l yPa_keep (d0 + 2) [.inr (some 69), .inr (some h1)] shX I none Iz := by
  refine gb_Ct.of (lv := [(0, .inr (some 69)), (1, .inr (some h1))]) rfl (Nat.le_of_ble_eq_true rfl) rfl ?_
  unfold F_Pa_keep at h
  show gb_Go l yPa_keep (d0 + 2) 0 0 0 [(0, .inr (some 69)), (1, .inr (some h1))] [] shX I (gb_po shX none Iz)
  refine go_aload_n (k := 0) d_Pa_keep_0 rfl rfl ?_
  refine go_geti (ci := 5) (k := 2) d_Pa_keep_1 a_X_69 rfl (by decide) f_Pa_26 rfl ?_
  refine go_iconst (v := 0) d_Pa_keep_4 (by decide) ?_
  refine go_iconst (v := 5) d_Pa_keep_5 (by decide) ?_
  refine go_callSN (y := yGb_within) (asr := [.inl (I 69 2), .inl 0, .inl 5]) (v := some (.inl (F_Gb_within (I 69 2) 0 5 I))) (I' := I) (st1 := [.inl (F_Gb_within (I 69 2) 0 5 I)]) d_Pa_keep_6 s_yGb_within m_Pa_29 rfl (Nat.le_of_ble_eq_true rfl) rfl rfl (c_Gb_within l (d0 + 1) (I 69 2) 0 5 I) ?_
  refine go_if_eq (tgt := 24) d_Pa_keep_9 (by decide) (fun hc => ?_) (fun hc => ?_)
  · rw [if_pos hc] at h
    cases h
    exact go_return d_Pa_keep_24 rfl gb_po_i
  · rw [if_neg hc] at h
    refine go_aload_n (k := 0) d_Pa_keep_12 rfl rfl ?_
    refine go_getr (ci := 5) (k := 0) (r := 70) d_Pa_keep_13 a_X_69 rfl (by decide) f_Pa_11 rfl ?_
    refine go_aload_n (k := 0) d_Pa_keep_16 rfl rfl ?_
    refine go_geti (ci := 5) (k := 2) d_Pa_keep_17 a_X_69 rfl (by decide) f_Pa_26 rfl ?_
    obtain ⟨hi, t1, et1, h⟩ := ftab_e h
    refine go_aald (r := t1) d_Pa_keep_20 a_X_70 hi (gb_tabs hi et1).1 ?_
    have Ht1 := (gb_tabs hi et1).2
    refine go_ifnonnull (tgt := 25) d_Pa_keep_21 (by decide) ?_
    refine go_aload_n (k := 0) d_Pa_keep_25 rfl rfl ?_
    refine go_getr (ci := 5) (k := 0) (r := 70) d_Pa_keep_26 a_X_69 rfl (by decide) f_Pa_11 rfl ?_
    refine go_aload_n (k := 0) d_Pa_keep_29 rfl rfl ?_
    refine go_geti (ci := 5) (k := 2) d_Pa_keep_30 a_X_69 rfl (by decide) f_Pa_26 rfl ?_
    obtain ⟨hi, t2, et2, h⟩ := ftab_e h
    refine go_aald (r := t2) d_Pa_keep_33 a_X_70 hi (gb_tabs hi et2).1 ?_
    have Ht2 := (gb_tabs hi et2).2
    refine go_aload_n (k := 1) d_Pa_keep_34 rfl rfl ?_
    refine go_getrN (ci := 1) (k := 0) (r := (h1 + 1)) d_Pa_keep_35 H1.1 rfl (by decide) f_Pa_33 rfl ?_
    obtain ⟨I3, w1, h⟩ := fbd_e h
    refine go_callV (y := yTa_copyFrom) (asr := [.inr (some (h1 + 1))]) (v := none) (I' := I3) (st1 := []) d_Pa_keep_38 s_yTa_copyFrom m_Pa_39 Ht2.1 rfl rfl rfl (Nat.le_of_ble_eq_true rfl) rfl rfl (c_Ta_copyFrom l (d0 + 0) t2 (h1 + 1) Ht2 H1.2.1 I w1) ?_
    refine go_aload_n (k := 0) d_Pa_keep_41 rfl rfl ?_
    refine go_getr (ci := 5) (k := 1) (r := 71) d_Pa_keep_42 a_X_69 rfl (by decide) f_Pa_17 rfl ?_
    refine go_aload_n (k := 0) d_Pa_keep_45 rfl rfl ?_
    refine go_geti (ci := 5) (k := 2) d_Pa_keep_46 a_X_69 rfl (by decide) f_Pa_26 rfl ?_
    refine go_aload_n (k := 1) d_Pa_keep_49 rfl rfl ?_
    refine go_getrN (ci := 1) (k := 5) (r := (h1 + 16)) d_Pa_keep_50 H1.1 rfl (by decide) f_Pa_43 rfl ?_
    refine go_getiN (ci := 4) (k := 2) d_Pa_keep_53 H1.2.2.2.2.2.2.1.1 rfl (by decide) f_Pa_47 rfl ?_
    obtain ⟨hi, I4, eI4, h⟩ := fsto_e h
    refine go_iast (I' := I4) d_Pa_keep_56 a_X_71 hi eI4 ?_
    refine go_aload_n (k := 0) d_Pa_keep_57 rfl rfl ?_
    refine go_aload_n (k := 0) d_Pa_keep_58 rfl rfl ?_
    refine go_geti (ci := 5) (k := 2) d_Pa_keep_59 a_X_69 rfl (by decide) f_Pa_26 rfl ?_
    refine go_iconst (v := 1) d_Pa_keep_62 (by decide) ?_
    refine go_iadd d_Pa_keep_63 ?_
    refine go_bipush (v := 6) d_Pa_keep_64 (by decide) ?_
    refine go_irem d_Pa_keep_66 (by decide) ?_
    obtain ⟨I5, eI5, h⟩ := fstf_e h
    refine go_putT (ci := 5) (k := 2) (I' := I5) d_Pa_keep_67 a_X_69 rfl (by decide) f_Pa_26 rfl rfl rfl rfl rfl eI5 ?_
    refine go_aload_n (k := 0) d_Pa_keep_70 rfl rfl ?_
    refine go_bipush (v := 6) d_Pa_keep_71 (by decide) ?_
    refine go_aload_n (k := 0) d_Pa_keep_73 rfl rfl ?_
    refine go_geti (ci := 5) (k := 3) d_Pa_keep_74 a_X_69 rfl (by decide) f_Pa_22 rfl ?_
    refine go_iconst (v := 1) d_Pa_keep_77 (by decide) ?_
    refine go_iadd d_Pa_keep_78 ?_
    refine go_mmin d_Pa_keep_79 m_Pa_52 (Nat.le_of_ble_eq_true rfl) ?_
    obtain ⟨I6, eI6, h⟩ := fstf_e h
    refine go_putT (ci := 5) (k := 3) (I' := I6) d_Pa_keep_82 a_X_69 rfl (by decide) f_Pa_22 rfl rfl rfl rfl rfl eI6 ?_
    cases h
    exact go_return d_Pa_keep_85 rfl gb_po_i
theorem d_Rd_numberOf_0 : decode yRd_numberOf.2.1 0 = .ok (.iload_n 2, 1) := by decide +kernel
theorem d_Rd_numberOf_1 : decode yRd_numberOf.2.1 1 = .ok (.iload_n 1, 1) := by decide +kernel
theorem d_Rd_numberOf_2 : decode yRd_numberOf.2.1 2 = .ok (.isub, 1) := by decide +kernel
theorem d_Rd_numberOf_3 : decode yRd_numberOf.2.1 3 = .ok (.iconst 4, 1) := by decide +kernel
theorem d_Rd_numberOf_4 : decode yRd_numberOf.2.1 4 = .ok (.if_icmp .le 5, 3) := by decide +kernel
theorem d_Rd_numberOf_7 : decode yRd_numberOf.2.1 7 = .ok (.iconst 1, 1) := by decide +kernel
theorem d_Rd_numberOf_8 : decode yRd_numberOf.2.1 8 = .ok (.ireturn, 1) := by decide +kernel
theorem d_Rd_numberOf_9 : decode yRd_numberOf.2.1 9 = .ok (.iconst 0, 1) := by decide +kernel
theorem d_Rd_numberOf_10 : decode yRd_numberOf.2.1 10 = .ok (.istore_n 3, 1) := by decide +kernel
theorem d_Rd_numberOf_11 : decode yRd_numberOf.2.1 11 = .ok (.iload_n 1, 1) := by decide +kernel
theorem d_Rd_numberOf_12 : decode yRd_numberOf.2.1 12 = .ok (.istore 4, 2) := by decide +kernel
theorem d_Rd_numberOf_14 : decode yRd_numberOf.2.1 14 = .ok (.iload 4, 2) := by decide +kernel
theorem d_Rd_numberOf_16 : decode yRd_numberOf.2.1 16 = .ok (.iload_n 2, 1) := by decide +kernel
theorem d_Rd_numberOf_17 : decode yRd_numberOf.2.1 17 = .ok (.if_icmp .ge 24, 3) := by decide +kernel
theorem d_Rd_numberOf_20 : decode yRd_numberOf.2.1 20 = .ok (.bipush 10, 2) := by decide +kernel
theorem d_Rd_numberOf_22 : decode yRd_numberOf.2.1 22 = .ok (.iload_n 3, 1) := by decide +kernel
theorem d_Rd_numberOf_23 : decode yRd_numberOf.2.1 23 = .ok (.imul, 1) := by decide +kernel
theorem d_Rd_numberOf_24 : decode yRd_numberOf.2.1 24 = .ok (.aload_n 0, 1) := by decide +kernel
theorem d_Rd_numberOf_25 : decode yRd_numberOf.2.1 25 = .ok (.iload 4, 2) := by decide +kernel
theorem d_Rd_numberOf_27 : decode yRd_numberOf.2.1 27 = .ok (.invokevirtual 137, 3) := by decide +kernel
theorem d_Rd_numberOf_30 : decode yRd_numberOf.2.1 30 = .ok (.iadd, 1) := by decide +kernel
theorem d_Rd_numberOf_31 : decode yRd_numberOf.2.1 31 = .ok (.bipush 48, 2) := by decide +kernel
theorem d_Rd_numberOf_33 : decode yRd_numberOf.2.1 33 = .ok (.isub, 1) := by decide +kernel
theorem d_Rd_numberOf_34 : decode yRd_numberOf.2.1 34 = .ok (.istore_n 3, 1) := by decide +kernel
theorem d_Rd_numberOf_35 : decode yRd_numberOf.2.1 35 = .ok (.iinc 4 1, 3) := by decide +kernel
theorem d_Rd_numberOf_38 : decode yRd_numberOf.2.1 38 = .ok (.goto (-24), 3) := by decide +kernel
theorem d_Rd_numberOf_41 : decode yRd_numberOf.2.1 41 = .ok (.sipush 1000, 3) := by decide +kernel
theorem d_Rd_numberOf_44 : decode yRd_numberOf.2.1 44 = .ok (.iload_n 3, 1) := by decide +kernel
theorem d_Rd_numberOf_45 : decode yRd_numberOf.2.1 45 = .ok (.iadd, 1) := by decide +kernel
theorem d_Rd_numberOf_46 : decode yRd_numberOf.2.1 46 = .ok (.ireturn, 1) := by decide +kernel
def L_Rd_numberOf_14 (x2 : Int32) (I : gb_Mem) : Nat → Int32 → Int32 → Option (Int32)
  | 0, _, _ => none
  | n + 1, x3, x4 =>
    if x2 ≤ x4 then
      some x3
    else
      fbd (F_Rd_charAt x4 I) fun r1 =>
      flt (((10 * x3) + r1) - 48) fun y2 =>
      L_Rd_numberOf_14 x2 I n y2 (x4 + 1)
set_option maxRecDepth 4000 in
theorem l_Rd_numberOf_14 (l : Launch) (d0 : Nat) (x2 : Int32) (I : gb_Mem) {post : Option gb_AV → List gb_Ce → gb_Mem → Prop} : ∀ (n : Nat) (x3 x4 : Int32) {ρ : Int32} (h : L_Rd_numberOf_14 x2 I n x3 x4 = some ρ) (hX : ∀ (o3 : Int32), ρ = o3 → gb_Go l yRd_numberOf (d0 + 2) 0 0 41 [(3, .inl o3)] [] shX I post) , gb_Go l yRd_numberOf (d0 + 2) 0 0 14 [(0, .inr (some 111)), (2, .inl x2), (3, .inl x3), (4, .inl x4)] [] shX I post := by
  intro n
  induction n with
  | zero => intro x3 x4 ρ h hX; cases h
  | succ n ih =>
    intro x3 x4 ρ h hX
    rw [L_Rd_numberOf_14] at h
    refine go_iload (k := 3) d_Rd_numberOf_14 rfl ?_
    refine go_iload_n (k := 1) d_Rd_numberOf_16 rfl rfl ?_
    refine go_cmp_ge (tgt := 41) d_Rd_numberOf_17 (by decide) (fun hc => ?_) (fun hc => ?_)
    · rw [if_pos hc] at h
      exact go_lv [2] rfl (hX _ (Option.some.inj h).symm)
    · rw [if_neg hc] at h
      refine go_bipush (v := 10) d_Rd_numberOf_20 (by decide) ?_
      refine go_iload_n (k := 2) d_Rd_numberOf_22 rfl rfl ?_
      refine go_imul d_Rd_numberOf_23 ?_
      refine go_aload_n (k := 0) d_Rd_numberOf_24 rfl rfl ?_
      refine go_iload (k := 3) d_Rd_numberOf_25 rfl ?_
      obtain ⟨r1, w1, h⟩ := fbd_e h
      refine go_callV (y := yRd_charAt) (asr := [.inl x4]) (v := some (.inl r1)) (I' := I) (st1 := [.inl r1, .inl (10 * x3)]) d_Rd_numberOf_27 s_yRd_charAt m_Rd_137 a_X_111 rfl rfl rfl (Nat.le_of_ble_eq_true rfl) rfl rfl (c_Rd_charAt l (d0 + 0) x4 I w1) ?_
      refine go_iadd d_Rd_numberOf_30 ?_
      refine go_bipush (v := 48) d_Rd_numberOf_31 (by decide) ?_
      refine go_isub d_Rd_numberOf_33 ?_
      obtain ⟨y2, ey2, h⟩ := flt_e h
      refine go_top ey2 ?_
      refine go_istore_n (lv' := [(3, .inl y2), (0, .inr (some 111)), (2, .inl x2), (4, .inl x4)]) d_Rd_numberOf_34 rfl (by decide) rfl ?_
      refine go_iinc (k := 3) (v := x4 + 1) (lv' := [(4, .inl (x4 + 1)), (3, .inl y2), (0, .inr (some 111)), (2, .inl x2)]) d_Rd_numberOf_35 rfl rfl (by decide) rfl ?_
      refine go_goto (tgt := 14) d_Rd_numberOf_38 (by decide) ?_
      exact go_lv [2, 3, 1, 0] rfl (ih y2 (x4 + 1) h hX)
def F_Rd_numberOf (x1 x2 : Int32) (I : gb_Mem) : Option (Int32) :=
  if (x2 - x1) ≤ 4 then
    fbd (L_Rd_numberOf_14 x2 I 5000 0 x1) fun o3 =>
    some (1000 + o3)
  else
    some 1
set_option maxRecDepth 4000 in
theorem c_Rd_numberOf (l : Launch) (d0 : Nat) (x1 x2 : Int32) (I : gb_Mem) {rz : Int32} (h : F_Rd_numberOf x1 x2 I = some rz) : gb_Cs l yRd_numberOf (d0 + 2) [.inr (some 111), .inl x1, .inl x2] shX I (some (.inl rz)) I := by
  refine gb_Ct.of (lv := [(0, .inr (some 111)), (1, .inl x1), (2, .inl x2)]) rfl (Nat.le_of_ble_eq_true rfl) rfl ?_
  unfold F_Rd_numberOf at h
  show gb_Go l yRd_numberOf (d0 + 2) 0 0 0 [(0, .inr (some 111)), (1, .inl x1), (2, .inl x2)] [] shX I (gb_po shX (some (.inl rz)) I)
  refine go_iload_n (k := 2) d_Rd_numberOf_0 rfl rfl ?_
  refine go_iload_n (k := 1) d_Rd_numberOf_1 rfl rfl ?_
  refine go_isub d_Rd_numberOf_2 ?_
  refine go_iconst (v := 4) d_Rd_numberOf_3 (by decide) ?_
  refine go_cmp_le (tgt := 9) d_Rd_numberOf_4 (by decide) (fun hc => ?_) (fun hc => ?_)
  · rw [if_pos hc] at h
    refine go_iconst (v := 0) d_Rd_numberOf_9 (by decide) ?_
    refine go_istore_n (lv' := [(3, .inl 0), (0, .inr (some 111)), (1, .inl x1), (2, .inl x2)]) d_Rd_numberOf_10 rfl (by decide) rfl ?_
    refine go_iload_n (k := 2) d_Rd_numberOf_11 rfl rfl ?_
    refine go_istore (lv' := [(4, .inl x1), (3, .inl 0), (0, .inr (some 111)), (1, .inl x1), (2, .inl x2)]) d_Rd_numberOf_12 (by decide) rfl ?_
    refine go_lv [2, 4, 1, 0] (lv' := [(0, .inr (some 111)), (2, .inl x2), (3, .inl 0), (4, .inl x1)]) rfl ?_
    obtain ⟨o3, w1, h⟩ := fbd_e h
    refine l_Rd_numberOf_14 l d0 x2 I 5000 0 x1 w1 (fun o3_ e => ?_)
    cases e
    refine go_sipush (v := 1000) d_Rd_numberOf_41 (by decide) ?_
    refine go_iload_n (k := 0) d_Rd_numberOf_44 rfl rfl ?_
    refine go_iadd d_Rd_numberOf_45 ?_
    cases h
    exact go_ireturn d_Rd_numberOf_46 rfl gb_po_i
  · rw [if_neg hc] at h
    refine go_iconst (v := 1) d_Rd_numberOf_7 (by decide) ?_
    cases h
    exact go_ireturn d_Rd_numberOf_8 rfl gb_po_i
theorem d_Rd_readEvent_0 : decode yRd_readEvent.2.1 0 = .ok (.aload_n 0, 1) := by decide +kernel
theorem d_Rd_readEvent_1 : decode yRd_readEvent.2.1 1 = .ok (.iconst 0, 1) := by decide +kernel
theorem d_Rd_readEvent_2 : decode yRd_readEvent.2.1 2 = .ok (.sipush 999, 3) := by decide +kernel
theorem d_Rd_readEvent_5 : decode yRd_readEvent.2.1 5 = .ok (.invokevirtual 105, 3) := by decide +kernel
theorem d_Rd_readEvent_8 : decode yRd_readEvent.2.1 8 = .ok (.istore_n 1, 1) := by decide +kernel
theorem d_Rd_readEvent_9 : decode yRd_readEvent.2.1 9 = .ok (.aload_n 0, 1) := by decide +kernel
theorem d_Rd_readEvent_10 : decode yRd_readEvent.2.1 10 = .ok (.invokevirtual 62, 3) := by decide +kernel
theorem d_Rd_readEvent_13 : decode yRd_readEvent.2.1 13 = .ok (.istore_n 2, 1) := by decide +kernel
theorem d_Rd_readEvent_14 : decode yRd_readEvent.2.1 14 = .ok (.iload_n 2, 1) := by decide +kernel
theorem d_Rd_readEvent_15 : decode yRd_readEvent.2.1 15 = .ok (.sipush 212, 3) := by decide +kernel
theorem d_Rd_readEvent_18 : decode yRd_readEvent.2.1 18 = .ok (.if_icmp .eq 22, 3) := by decide +kernel
theorem d_Rd_readEvent_21 : decode yRd_readEvent.2.1 21 = .ok (.iload_n 2, 1) := by decide +kernel
theorem d_Rd_readEvent_22 : decode yRd_readEvent.2.1 22 = .ok (.sipush 222, 3) := by decide +kernel
theorem d_Rd_readEvent_25 : decode yRd_readEvent.2.1 25 = .ok (.sipush 225, 3) := by decide +kernel
theorem d_Rd_readEvent_28 : decode yRd_readEvent.2.1 28 = .ok (.invokestatic 66, 3) := by decide +kernel
theorem d_Rd_readEvent_31 : decode yRd_readEvent.2.1 31 = .ok (.ifCond .ne 9, 3) := by decide +kernel
theorem d_Rd_readEvent_34 : decode yRd_readEvent.2.1 34 = .ok (.aload_n 0, 1) := by decide +kernel
theorem d_Rd_readEvent_35 : decode yRd_readEvent.2.1 35 = .ok (.iconst 1, 1) := by decide +kernel
theorem d_Rd_readEvent_36 : decode yRd_readEvent.2.1 36 = .ok (.invokevirtual 112, 3) := by decide +kernel
theorem d_Rd_readEvent_39 : decode yRd_readEvent.2.1 39 = .ok (.return_, 1) := by decide +kernel
theorem d_Rd_readEvent_40 : decode yRd_readEvent.2.1 40 = .ok (.aload_n 0, 1) := by decide +kernel
theorem d_Rd_readEvent_41 : decode yRd_readEvent.2.1 41 = .ok (.iload_n 2, 1) := by decide +kernel
theorem d_Rd_readEvent_42 : decode yRd_readEvent.2.1 42 = .ok (.invokevirtual 86, 3) := by decide +kernel
theorem d_Rd_readEvent_45 : decode yRd_readEvent.2.1 45 = .ok (.iload_n 2, 1) := by decide +kernel
theorem d_Rd_readEvent_46 : decode yRd_readEvent.2.1 46 = .ok (.sipush 223, 3) := by decide +kernel
theorem d_Rd_readEvent_49 : decode yRd_readEvent.2.1 49 = .ok (.if_icmp .ne 8, 3) := by decide +kernel
theorem d_Rd_readEvent_52 : decode yRd_readEvent.2.1 52 = .ok (.bipush 11, 2) := by decide +kernel
theorem d_Rd_readEvent_54 : decode yRd_readEvent.2.1 54 = .ok (.goto 28, 3) := by decide +kernel
theorem d_Rd_readEvent_57 : decode yRd_readEvent.2.1 57 = .ok (.iload_n 2, 1) := by decide +kernel
theorem d_Rd_readEvent_58 : decode yRd_readEvent.2.1 58 = .ok (.sipush 224, 3) := by decide +kernel
theorem d_Rd_readEvent_61 : decode yRd_readEvent.2.1 61 = .ok (.if_icmp .eq 10, 3) := by decide +kernel
theorem d_Rd_readEvent_64 : decode yRd_readEvent.2.1 64 = .ok (.iload_n 2, 1) := by decide +kernel
theorem d_Rd_readEvent_65 : decode yRd_readEvent.2.1 65 = .ok (.sipush 225, 3) := by decide +kernel
theorem d_Rd_readEvent_68 : decode yRd_readEvent.2.1 68 = .ok (.if_icmp .ne 12, 3) := by decide +kernel
theorem d_Rd_readEvent_71 : decode yRd_readEvent.2.1 71 = .ok (.aload_n 0, 1) := by decide +kernel
theorem d_Rd_readEvent_72 : decode yRd_readEvent.2.1 72 = .ok (.getfield 50, 3) := by decide +kernel
theorem d_Rd_readEvent_75 : decode yRd_readEvent.2.1 75 = .ok (.iconst 1, 1) := by decide +kernel
theorem d_Rd_readEvent_76 : decode yRd_readEvent.2.1 76 = .ok (.isub, 1) := by decide +kernel
theorem d_Rd_readEvent_77 : decode yRd_readEvent.2.1 77 = .ok (.goto 5, 3) := by decide +kernel
theorem d_Rd_readEvent_80 : decode yRd_readEvent.2.1 80 = .ok (.bipush 9, 2) := by decide +kernel
theorem d_Rd_readEvent_82 : decode yRd_readEvent.2.1 82 = .ok (.istore_n 3, 1) := by decide +kernel
theorem d_Rd_readEvent_83 : decode yRd_readEvent.2.1 83 = .ok (.aload_n 0, 1) := by decide +kernel
theorem d_Rd_readEvent_84 : decode yRd_readEvent.2.1 84 = .ok (.iconst 0, 1) := by decide +kernel
theorem d_Rd_readEvent_85 : decode yRd_readEvent.2.1 85 = .ok (.iload_n 3, 1) := by decide +kernel
theorem d_Rd_readEvent_86 : decode yRd_readEvent.2.1 86 = .ok (.invokevirtual 105, 3) := by decide +kernel
theorem d_Rd_readEvent_89 : decode yRd_readEvent.2.1 89 = .ok (.istore 4, 2) := by decide +kernel
theorem d_Rd_readEvent_91 : decode yRd_readEvent.2.1 91 = .ok (.aload_n 0, 1) := by decide +kernel
theorem d_Rd_readEvent_92 : decode yRd_readEvent.2.1 92 = .ok (.getfield 34, 3) := by decide +kernel
theorem d_Rd_readEvent_95 : decode yRd_readEvent.2.1 95 = .ok (.iload_n 1, 1) := by decide +kernel
theorem d_Rd_readEvent_96 : decode yRd_readEvent.2.1 96 = .ok (.iload_n 2, 1) := by decide +kernel
theorem d_Rd_readEvent_97 : decode yRd_readEvent.2.1 97 = .ok (.iload 4, 2) := by decide +kernel
theorem d_Rd_readEvent_99 : decode yRd_readEvent.2.1 99 = .ok (.iload_n 2, 1) := by decide +kernel
theorem d_Rd_readEvent_100 : decode yRd_readEvent.2.1 100 = .ok (.sipush 224, 3) := by decide +kernel
theorem d_Rd_readEvent_103 : decode yRd_readEvent.2.1 103 = .ok (.if_icmp .ne 13, 3) := by decide +kernel
theorem d_Rd_readEvent_106 : decode yRd_readEvent.2.1 106 = .ok (.aload_n 0, 1) := by decide +kernel
theorem d_Rd_readEvent_107 : decode yRd_readEvent.2.1 107 = .ok (.iconst 0, 1) := by decide +kernel
theorem d_Rd_readEvent_108 : decode yRd_readEvent.2.1 108 = .ok (.bipush 99, 2) := by decide +kernel
theorem d_Rd_readEvent_110 : decode yRd_readEvent.2.1 110 = .ok (.invokevirtual 105, 3) := by decide +kernel
theorem d_Rd_readEvent_113 : decode yRd_readEvent.2.1 113 = .ok (.goto 4, 3) := by decide +kernel
theorem d_Rd_readEvent_116 : decode yRd_readEvent.2.1 116 = .ok (.iconst 0, 1) := by decide +kernel
theorem d_Rd_readEvent_117 : decode yRd_readEvent.2.1 117 = .ok (.invokevirtual 108, 3) := by decide +kernel
theorem d_Rd_readEvent_120 : decode yRd_readEvent.2.1 120 = .ok (.pop, 1) := by decide +kernel
theorem d_Rd_readEvent_121 : decode yRd_readEvent.2.1 121 = .ok (.return_, 1) := by decide +kernel
def J_Rd_readEvent_117 (s0 s1 s2 s3 : Int32) (I : gb_Mem) : Option (gb_Mem) :=
  fbd (F_Ro_add 119 64 s3 s2 s1 s0 I) fun (r8, I7) =>
  some I7
set_option maxRecDepth 4000 in
theorem j_Rd_readEvent_117 (l : Launch) (d0 : Nat) (s0 s1 s2 s3 : Int32) (I : gb_Mem) {Iz : gb_Mem} (h : J_Rd_readEvent_117 s0 s1 s2 s3 I = some Iz) : gb_Go l yRd_readEvent (d0 + 2) 0 0 117 [] [.inl s0, .inl s1, .inl s2, .inl s3, .inr (some 119)] shX I (gb_po shX none Iz) := by
  unfold J_Rd_readEvent_117 at h
  obtain ⟨⟨r8, I7⟩, w1, h⟩ := fbd_e h
  try dsimp only at h
  refine go_callV (y := yRo_add) (asr := [.inl s3, .inl s2, .inl s1, .inl s0]) (v := some (.inl r8)) (I' := I7) (st1 := [.inl r8]) d_Rd_readEvent_117 s_yRo_add m_Rd_108 a_X_119 rfl rfl rfl (Nat.le_of_ble_eq_true rfl) rfl rfl (c_Ro_add l (d0 + 1) 119 64 isRo_119 s3 s2 s1 s0 I w1) ?_
  refine go_pop d_Rd_readEvent_120 ?_
  cases h
  exact go_return d_Rd_readEvent_121 rfl gb_po_i
def J_Rd_readEvent_82 (x1 x2 s0 : Int32) (I : gb_Mem) : Option (gb_Mem) :=
  fbd (F_Rd_takeNumber 0 s0 I) fun (r6, I5) =>
  if x2 = 224 then
    fbd (F_Rd_takeNumber 0 99 I5) fun (r10, I9) =>
    J_Rd_readEvent_117 r10 r6 x2 x1 I9
  else
    J_Rd_readEvent_117 0 r6 x2 x1 I5
set_option maxRecDepth 4000 in
theorem j_Rd_readEvent_82 (l : Launch) (d0 : Nat) (x1 x2 s0 : Int32) (I : gb_Mem) {Iz : gb_Mem} (h : J_Rd_readEvent_82 x1 x2 s0 I = some Iz) : gb_Go l yRd_readEvent (d0 + 2) 0 0 82 [(0, .inr (some 111)), (1, .inl x1), (2, .inl x2)] [.inl s0] shX I (gb_po shX none Iz) := by
  unfold J_Rd_readEvent_82 at h
  refine go_istore_n (lv' := [(3, .inl s0), (0, .inr (some 111)), (1, .inl x1), (2, .inl x2)]) d_Rd_readEvent_82 rfl (by decide) rfl ?_
  refine go_aload_n (k := 1) d_Rd_readEvent_83 rfl rfl ?_
  refine go_iconst (v := 0) d_Rd_readEvent_84 (by decide) ?_
  refine go_iload_n (k := 0) d_Rd_readEvent_85 rfl rfl ?_
  obtain ⟨⟨r6, I5⟩, w1, h⟩ := fbd_e h
  try dsimp only at h
  refine go_callV (y := yRd_takeNumber) (asr := [.inl 0, .inl s0]) (v := some (.inl r6)) (I' := I5) (st1 := [.inl r6]) d_Rd_readEvent_86 s_yRd_takeNumber m_Rd_105 a_X_111 rfl rfl rfl (Nat.le_of_ble_eq_true rfl) rfl rfl (c_Rd_takeNumber l (d0 + 0) 0 s0 I w1) ?_
  refine go_istore (lv' := [(4, .inl r6), (3, .inl s0), (0, .inr (some 111)), (1, .inl x1), (2, .inl x2)]) d_Rd_readEvent_89 (by decide) rfl ?_
  refine go_aload_n (k := 2) d_Rd_readEvent_91 rfl rfl ?_
  refine go_getr (ci := 9) (k := 10) (r := 119) d_Rd_readEvent_92 a_X_111 rfl (by decide) f_Rd_34 rfl ?_
  refine go_iload_n (k := 3) d_Rd_readEvent_95 rfl rfl ?_
  refine go_iload_n (k := 4) d_Rd_readEvent_96 rfl rfl ?_
  refine go_iload (k := 0) d_Rd_readEvent_97 rfl ?_
  refine go_iload_n (k := 4) d_Rd_readEvent_99 rfl rfl ?_
  refine go_sipush (v := 224) d_Rd_readEvent_100 (by decide) ?_
  refine go_cmp_ne (tgt := 116) d_Rd_readEvent_103 (by decide) (fun hc => ?_) (fun hc => ?_)
  · rw [if_neg hc] at h
    refine go_iconst (v := 0) d_Rd_readEvent_116 (by decide) ?_
    exact go_lv [] rfl (j_Rd_readEvent_117 l d0 0 r6 x2 x1 I5 h)
  · rw [if_pos hc] at h
    refine go_aload_n (k := 2) d_Rd_readEvent_106 rfl rfl ?_
    refine go_iconst (v := 0) d_Rd_readEvent_107 (by decide) ?_
    refine go_bipush (v := 99) d_Rd_readEvent_108 (by decide) ?_
    obtain ⟨⟨r10, I9⟩, w1, h⟩ := fbd_e h
    try dsimp only at h
    refine go_callV (y := yRd_takeNumber) (asr := [.inl 0, .inl 99]) (v := some (.inl r10)) (I' := I9) (st1 := [.inl r10, .inl r6, .inl x2, .inl x1, .inr (some 119)]) d_Rd_readEvent_110 s_yRd_takeNumber m_Rd_105 a_X_111 rfl rfl rfl (Nat.le_of_ble_eq_true rfl) rfl rfl (c_Rd_takeNumber l (d0 + 0) 0 99 I5 w1) ?_
    refine go_goto (tgt := 117) d_Rd_readEvent_113 (by decide) ?_
    exact go_lv [] rfl (j_Rd_readEvent_117 l d0 r10 r6 x2 x1 I9 h)
def J_Rd_readEvent_71 (x1 x2 : Int32) (I : gb_Mem) : Option (gb_Mem) :=
  J_Rd_readEvent_82 x1 x2 ((I 111 2) - 1) I
set_option maxRecDepth 4000 in
theorem j_Rd_readEvent_71 (l : Launch) (d0 : Nat) (x1 x2 : Int32) (I : gb_Mem) {Iz : gb_Mem} (h : J_Rd_readEvent_71 x1 x2 I = some Iz) : gb_Go l yRd_readEvent (d0 + 2) 0 0 71 [(0, .inr (some 111)), (1, .inl x1), (2, .inl x2)] [] shX I (gb_po shX none Iz) := by
  unfold J_Rd_readEvent_71 at h
  refine go_aload_n (k := 0) d_Rd_readEvent_71 rfl rfl ?_
  refine go_geti (ci := 9) (k := 2) d_Rd_readEvent_72 a_X_111 rfl (by decide) f_Rd_50 rfl ?_
  refine go_iconst (v := 1) d_Rd_readEvent_75 (by decide) ?_
  refine go_isub d_Rd_readEvent_76 ?_
  refine go_goto (tgt := 82) d_Rd_readEvent_77 (by decide) ?_
  exact go_lv [0, 1, 2] rfl (j_Rd_readEvent_82 l d0 x1 x2 ((I 111 2) - 1) I h)
def J_Rd_readEvent_40 (x1 x2 : Int32) (I : gb_Mem) : Option (gb_Mem) :=
  fbd (F_Rd_take x2 I) fun I4 =>
  if x2 = 223 then
    J_Rd_readEvent_82 x1 x2 11 I4
  else
    if x2 = 224 then
      J_Rd_readEvent_71 x1 x2 I4
    else
      if x2 = 225 then
        J_Rd_readEvent_71 x1 x2 I4
      else
        J_Rd_readEvent_82 x1 x2 9 I4
set_option maxRecDepth 4000 in
theorem j_Rd_readEvent_40 (l : Launch) (d0 : Nat) (x1 x2 : Int32) (I : gb_Mem) {Iz : gb_Mem} (h : J_Rd_readEvent_40 x1 x2 I = some Iz) : gb_Go l yRd_readEvent (d0 + 2) 0 0 40 [(0, .inr (some 111)), (1, .inl x1), (2, .inl x2)] [] shX I (gb_po shX none Iz) := by
  unfold J_Rd_readEvent_40 at h
  refine go_aload_n (k := 0) d_Rd_readEvent_40 rfl rfl ?_
  refine go_iload_n (k := 2) d_Rd_readEvent_41 rfl rfl ?_
  obtain ⟨I4, w1, h⟩ := fbd_e h
  refine go_callV (y := yRd_take) (asr := [.inl x2]) (v := none) (I' := I4) (st1 := []) d_Rd_readEvent_42 s_yRd_take m_Rd_86 a_X_111 rfl rfl rfl (Nat.le_of_ble_eq_true rfl) rfl rfl (c_Rd_take l (d0 + 0) x2 I w1) ?_
  refine go_iload_n (k := 2) d_Rd_readEvent_45 rfl rfl ?_
  refine go_sipush (v := 223) d_Rd_readEvent_46 (by decide) ?_
  refine go_cmp_ne (tgt := 57) d_Rd_readEvent_49 (by decide) (fun hc => ?_) (fun hc => ?_)
  · rw [if_neg hc] at h
    refine go_iload_n (k := 2) d_Rd_readEvent_57 rfl rfl ?_
    refine go_sipush (v := 224) d_Rd_readEvent_58 (by decide) ?_
    refine go_cmp_eq (tgt := 71) d_Rd_readEvent_61 (by decide) (fun hc => ?_) (fun hc => ?_)
    · rw [if_pos hc] at h
      exact go_lv [0, 1, 2] rfl (j_Rd_readEvent_71 l d0 x1 x2 I4 h)
    · rw [if_neg hc] at h
      refine go_iload_n (k := 2) d_Rd_readEvent_64 rfl rfl ?_
      refine go_sipush (v := 225) d_Rd_readEvent_65 (by decide) ?_
      refine go_cmp_ne (tgt := 80) d_Rd_readEvent_68 (by decide) (fun hc => ?_) (fun hc => ?_)
      · rw [if_neg hc] at h
        refine go_bipush (v := 9) d_Rd_readEvent_80 (by decide) ?_
        exact go_lv [0, 1, 2] rfl (j_Rd_readEvent_82 l d0 x1 x2 9 I4 h)
      · rw [if_pos hc] at h
        exact go_lv [0, 1, 2] rfl (j_Rd_readEvent_71 l d0 x1 x2 I4 h)
  · rw [if_pos hc] at h
    refine go_bipush (v := 11) d_Rd_readEvent_52 (by decide) ?_
    refine go_goto (tgt := 82) d_Rd_readEvent_54 (by decide) ?_
    exact go_lv [0, 1, 2] rfl (j_Rd_readEvent_82 l d0 x1 x2 11 I4 h)
def F_Rd_readEvent (I : gb_Mem) : Option (gb_Mem) :=
  fbd (F_Rd_takeNumber 0 999 I) fun (r2, I1) =>
  fbd (F_Rd_now  I1) fun r3 =>
  if r3 = 212 then
    J_Rd_readEvent_40 r2 r3 I1
  else
    if (F_Gb_within r3 222 225 I1) = 0 then
      fbd (F_Rd_refuse 1 I1) fun I11 =>
      some I11
    else
      J_Rd_readEvent_40 r2 r3 I1
set_option maxRecDepth 4000 in
theorem c_Rd_readEvent (l : Launch) (d0 : Nat) (I : gb_Mem) {Iz : gb_Mem} (h : F_Rd_readEvent I = some Iz) : gb_Cs l yRd_readEvent (d0 + 2) [.inr (some 111)] shX I none Iz := by
  refine gb_Ct.of (lv := [(0, .inr (some 111))]) rfl (Nat.le_of_ble_eq_true rfl) rfl ?_
  unfold F_Rd_readEvent at h
  show gb_Go l yRd_readEvent (d0 + 2) 0 0 0 [(0, .inr (some 111))] [] shX I (gb_po shX none Iz)
  refine go_aload_n (k := 0) d_Rd_readEvent_0 rfl rfl ?_
  refine go_iconst (v := 0) d_Rd_readEvent_1 (by decide) ?_
  refine go_sipush (v := 999) d_Rd_readEvent_2 (by decide) ?_
  obtain ⟨⟨r2, I1⟩, w1, h⟩ := fbd_e h
  try dsimp only at h
  refine go_callV (y := yRd_takeNumber) (asr := [.inl 0, .inl 999]) (v := some (.inl r2)) (I' := I1) (st1 := [.inl r2]) d_Rd_readEvent_5 s_yRd_takeNumber m_Rd_105 a_X_111 rfl rfl rfl (Nat.le_of_ble_eq_true rfl) rfl rfl (c_Rd_takeNumber l (d0 + 0) 0 999 I w1) ?_
  refine go_istore_n (lv' := [(1, .inl r2), (0, .inr (some 111))]) d_Rd_readEvent_8 rfl (by decide) rfl ?_
  refine go_aload_n (k := 1) d_Rd_readEvent_9 rfl rfl ?_
  obtain ⟨r3, w1, h⟩ := fbd_e h
  refine go_callV (y := yRd_now) (asr := []) (v := some (.inl r3)) (I' := I1) (st1 := [.inl r3]) d_Rd_readEvent_10 s_yRd_now m_Rd_62 a_X_111 rfl rfl rfl (Nat.le_of_ble_eq_true rfl) rfl rfl (c_Rd_now l (d0 + 1)  I1 w1) ?_
  refine go_istore_n (lv' := [(2, .inl r3), (1, .inl r2), (0, .inr (some 111))]) d_Rd_readEvent_13 rfl (by decide) rfl ?_
  refine go_iload_n (k := 0) d_Rd_readEvent_14 rfl rfl ?_
  refine go_sipush (v := 212) d_Rd_readEvent_15 (by decide) ?_
  refine go_cmp_eq (tgt := 40) d_Rd_readEvent_18 (by decide) (fun hc => ?_) (fun hc => ?_)
  · rw [if_pos hc] at h
    exact go_lv [2, 1, 0] rfl (j_Rd_readEvent_40 l d0 r2 r3 I1 h)
  · rw [if_neg hc] at h
    refine go_iload_n (k := 0) d_Rd_readEvent_21 rfl rfl ?_
    refine go_sipush (v := 222) d_Rd_readEvent_22 (by decide) ?_
    refine go_sipush (v := 225) d_Rd_readEvent_25 (by decide) ?_
    refine go_callSN (y := yGb_within) (asr := [.inl r3, .inl 222, .inl 225]) (v := some (.inl (F_Gb_within r3 222 225 I1))) (I' := I1) (st1 := [.inl (F_Gb_within r3 222 225 I1)]) d_Rd_readEvent_28 s_yGb_within m_Rd_66 rfl (Nat.le_of_ble_eq_true rfl) rfl rfl (c_Gb_within l (d0 + 1) r3 222 225 I1) ?_
    refine go_if_ne (tgt := 40) d_Rd_readEvent_31 (by decide) (fun hc => ?_) (fun hc => ?_)
    · rw [if_neg hc] at h
      exact go_lv [2, 1, 0] rfl (j_Rd_readEvent_40 l d0 r2 r3 I1 h)
    · rw [if_pos hc] at h
      refine go_aload_n (k := 2) d_Rd_readEvent_34 rfl rfl ?_
      refine go_iconst (v := 1) d_Rd_readEvent_35 (by decide) ?_
      obtain ⟨I11, w1, h⟩ := fbd_e h
      refine go_callV (y := yRd_refuse) (asr := [.inl 1]) (v := none) (I' := I11) (st1 := []) d_Rd_readEvent_36 s_yRd_refuse m_Rd_112 a_X_111 rfl rfl rfl (Nat.le_of_ble_eq_true rfl) rfl rfl (c_Rd_refuse l (d0 + 1) 1 I1 w1) ?_
      cases h
      exact go_return d_Rd_readEvent_39 rfl gb_po_i
theorem d_Rd_readProduct_0 : decode yRd_readProduct.2.1 0 = .ok (.aload_n 0, 1) := by decide +kernel
theorem d_Rd_readProduct_1 : decode yRd_readProduct.2.1 1 = .ok (.invokevirtual 128, 3) := by decide +kernel
theorem d_Rd_readProduct_4 : decode yRd_readProduct.2.1 4 = .ok (.iconst 0, 1) := by decide +kernel
theorem d_Rd_readProduct_5 : decode yRd_readProduct.2.1 5 = .ok (.istore_n 1, 1) := by decide +kernel
theorem d_Rd_readProduct_6 : decode yRd_readProduct.2.1 6 = .ok (.iload_n 1, 1) := by decide +kernel
theorem d_Rd_readProduct_7 : decode yRd_readProduct.2.1 7 = .ok (.sipush 400, 3) := by decide +kernel
theorem d_Rd_readProduct_10 : decode yRd_readProduct.2.1 10 = .ok (.if_icmp .ge 96, 3) := by decide +kernel
theorem d_Rd_readProduct_13 : decode yRd_readProduct.2.1 13 = .ok (.aload_n 0, 1) := by decide +kernel
theorem d_Rd_readProduct_14 : decode yRd_readProduct.2.1 14 = .ok (.getfield 53, 3) := by decide +kernel
theorem d_Rd_readProduct_17 : decode yRd_readProduct.2.1 17 = .ok (.ifCond .ne 89, 3) := by decide +kernel
theorem d_Rd_readProduct_20 : decode yRd_readProduct.2.1 20 = .ok (.aload_n 0, 1) := by decide +kernel
theorem d_Rd_readProduct_21 : decode yRd_readProduct.2.1 21 = .ok (.invokevirtual 62, 3) := by decide +kernel
theorem d_Rd_readProduct_24 : decode yRd_readProduct.2.1 24 = .ok (.bipush 42, 2) := by decide +kernel
theorem d_Rd_readProduct_26 : decode yRd_readProduct.2.1 26 = .ok (.if_icmp .eq 12, 3) := by decide +kernel
theorem d_Rd_readProduct_29 : decode yRd_readProduct.2.1 29 = .ok (.aload_n 0, 1) := by decide +kernel
theorem d_Rd_readProduct_30 : decode yRd_readProduct.2.1 30 = .ok (.invokevirtual 62, 3) := by decide +kernel
theorem d_Rd_readProduct_33 : decode yRd_readProduct.2.1 33 = .ok (.bipush 47, 2) := by decide +kernel
theorem d_Rd_readProduct_35 : decode yRd_readProduct.2.1 35 = .ok (.if_icmp .ne 71, 3) := by decide +kernel
theorem d_Rd_readProduct_38 : decode yRd_readProduct.2.1 38 = .ok (.aload_n 0, 1) := by decide +kernel
theorem d_Rd_readProduct_39 : decode yRd_readProduct.2.1 39 = .ok (.invokevirtual 62, 3) := by decide +kernel
theorem d_Rd_readProduct_42 : decode yRd_readProduct.2.1 42 = .ok (.bipush 42, 2) := by decide +kernel
theorem d_Rd_readProduct_44 : decode yRd_readProduct.2.1 44 = .ok (.if_icmp .ne 7, 3) := by decide +kernel
theorem d_Rd_readProduct_47 : decode yRd_readProduct.2.1 47 = .ok (.iconst 1, 1) := by decide +kernel
theorem d_Rd_readProduct_48 : decode yRd_readProduct.2.1 48 = .ok (.goto 4, 3) := by decide +kernel
theorem d_Rd_readProduct_51 : decode yRd_readProduct.2.1 51 = .ok (.iconst 0, 1) := by decide +kernel
theorem d_Rd_readProduct_52 : decode yRd_readProduct.2.1 52 = .ok (.istore_n 2, 1) := by decide +kernel
theorem d_Rd_readProduct_53 : decode yRd_readProduct.2.1 53 = .ok (.aload_n 0, 1) := by decide +kernel
theorem d_Rd_readProduct_54 : decode yRd_readProduct.2.1 54 = .ok (.dup, 1) := by decide +kernel
theorem d_Rd_readProduct_55 : decode yRd_readProduct.2.1 55 = .ok (.getfield 80, 3) := by decide +kernel
theorem d_Rd_readProduct_58 : decode yRd_readProduct.2.1 58 = .ok (.iconst 1, 1) := by decide +kernel
theorem d_Rd_readProduct_59 : decode yRd_readProduct.2.1 59 = .ok (.iadd, 1) := by decide +kernel
theorem d_Rd_readProduct_60 : decode yRd_readProduct.2.1 60 = .ok (.putfield 80, 3) := by decide +kernel
theorem d_Rd_readProduct_63 : decode yRd_readProduct.2.1 63 = .ok (.iload_n 2, 1) := by decide +kernel
theorem d_Rd_readProduct_64 : decode yRd_readProduct.2.1 64 = .ok (.ifCond .eq 20, 3) := by decide +kernel
theorem d_Rd_readProduct_67 : decode yRd_readProduct.2.1 67 = .ok (.aload_n 0, 1) := by decide +kernel
theorem d_Rd_readProduct_68 : decode yRd_readProduct.2.1 68 = .ok (.invokevirtual 128, 3) := by decide +kernel
theorem d_Rd_readProduct_71 : decode yRd_readProduct.2.1 71 = .ok (.aload_n 0, 1) := by decide +kernel
theorem d_Rd_readProduct_72 : decode yRd_readProduct.2.1 72 = .ok (.getfield 25, 3) := by decide +kernel
theorem d_Rd_readProduct_75 : decode yRd_readProduct.2.1 75 = .ok (.bipush 6, 2) := by decide +kernel
theorem d_Rd_readProduct_77 : decode yRd_readProduct.2.1 77 = .ok (.iconst 0, 1) := by decide +kernel
theorem d_Rd_readProduct_78 : decode yRd_readProduct.2.1 78 = .ok (.invokevirtual 122, 3) := by decide +kernel
theorem d_Rd_readProduct_81 : decode yRd_readProduct.2.1 81 = .ok (.goto 19, 3) := by decide +kernel
theorem d_Rd_readProduct_84 : decode yRd_readProduct.2.1 84 = .ok (.aload_n 0, 1) := by decide +kernel
theorem d_Rd_readProduct_85 : decode yRd_readProduct.2.1 85 = .ok (.getfield 25, 3) := by decide +kernel
theorem d_Rd_readProduct_88 : decode yRd_readProduct.2.1 88 = .ok (.iconst 2, 1) := by decide +kernel
theorem d_Rd_readProduct_89 : decode yRd_readProduct.2.1 89 = .ok (.aload_n 0, 1) := by decide +kernel
theorem d_Rd_readProduct_90 : decode yRd_readProduct.2.1 90 = .ok (.iconst 1, 1) := by decide +kernel
theorem d_Rd_readProduct_91 : decode yRd_readProduct.2.1 91 = .ok (.sipush 9999, 3) := by decide +kernel
theorem d_Rd_readProduct_94 : decode yRd_readProduct.2.1 94 = .ok (.invokevirtual 105, 3) := by decide +kernel
theorem d_Rd_readProduct_97 : decode yRd_readProduct.2.1 97 = .ok (.invokevirtual 122, 3) := by decide +kernel
theorem d_Rd_readProduct_100 : decode yRd_readProduct.2.1 100 = .ok (.iinc 1 1, 3) := by decide +kernel
theorem d_Rd_readProduct_103 : decode yRd_readProduct.2.1 103 = .ok (.goto (-97), 3) := by decide +kernel
theorem d_Rd_readProduct_106 : decode yRd_readProduct.2.1 106 = .ok (.return_, 1) := by decide +kernel
def J_Rd_readProduct_100 (k : Int32 → gb_Mem → Option (gb_Mem)) (x1 : Int32) (I : gb_Mem) : Option (gb_Mem) :=
  k (x1 + 1) I
set_option maxRecDepth 4000 in
theorem j_Rd_readProduct_100 (l : Launch) (d0 : Nat) {post : Option gb_AV → List gb_Ce → gb_Mem → Prop} (k : Int32 → gb_Mem → Option (gb_Mem)) (x1 : Int32) (I : gb_Mem) {ρ : gb_Mem} (h : J_Rd_readProduct_100 k x1 I = some ρ) (hk : ∀ (z1 : Int32) (Iw : gb_Mem), k z1 Iw = some ρ → gb_Go l yRd_readProduct (d0 + 2) 0 0 6 [(0, .inr (some 111)), (1, .inl z1)] [] shX Iw post) (hX : ∀ (I2 : gb_Mem), ρ = I2 → gb_Go l yRd_readProduct (d0 + 2) 0 0 106 [] [] shX I2 post) : gb_Go l yRd_readProduct (d0 + 2) 0 0 100 [(0, .inr (some 111)), (1, .inl x1)] [] shX I post := by
  unfold J_Rd_readProduct_100 at h
  refine go_iinc (k := 1) (v := x1 + 1) (lv' := [(1, .inl (x1 + 1)), (0, .inr (some 111))]) d_Rd_readProduct_100 rfl rfl (by decide) rfl ?_
  refine go_goto (tgt := 6) d_Rd_readProduct_103 (by decide) ?_
  exact go_lv [1, 0] rfl (hk _ _ h)
def J_Rd_readProduct_52 (k : Int32 → gb_Mem → Option (gb_Mem)) (x1 s0 : Int32) (I : gb_Mem) : Option (gb_Mem) :=
  fstf I 111 6 ((I 111 6) + 1) fun I4 =>
  if s0 = 0 then
    fbd (F_Rd_takeNumber 1 9999 I4) fun (r6, I5) =>
    fbd (F_La_emit 114 2 r6 I5) fun I7 =>
    J_Rd_readProduct_100 k x1 I7
  else
    fbd (F_Rd_readUnit  I4) fun I8 =>
    fbd (F_La_emit 114 6 0 I8) fun I9 =>
    J_Rd_readProduct_100 k x1 I9
set_option maxRecDepth 4000 in
theorem j_Rd_readProduct_52 (l : Launch) (d0 : Nat) {post : Option gb_AV → List gb_Ce → gb_Mem → Prop} (k : Int32 → gb_Mem → Option (gb_Mem)) (x1 s0 : Int32) (I : gb_Mem) {ρ : gb_Mem} (h : J_Rd_readProduct_52 k x1 s0 I = some ρ) (hk : ∀ (z1 : Int32) (Iw : gb_Mem), k z1 Iw = some ρ → gb_Go l yRd_readProduct (d0 + 2) 0 0 6 [(0, .inr (some 111)), (1, .inl z1)] [] shX Iw post) (hX : ∀ (I2 : gb_Mem), ρ = I2 → gb_Go l yRd_readProduct (d0 + 2) 0 0 106 [] [] shX I2 post) : gb_Go l yRd_readProduct (d0 + 2) 0 0 52 [(0, .inr (some 111)), (1, .inl x1)] [.inl s0] shX I post := by
  unfold J_Rd_readProduct_52 at h
  refine go_istore_n (lv' := [(2, .inl s0), (0, .inr (some 111)), (1, .inl x1)]) d_Rd_readProduct_52 rfl (by decide) rfl ?_
  refine go_aload_n (k := 1) d_Rd_readProduct_53 rfl rfl ?_
  refine go_dup d_Rd_readProduct_54 ?_
  refine go_geti (ci := 9) (k := 6) d_Rd_readProduct_55 a_X_111 rfl (by decide) f_Rd_80 rfl ?_
  refine go_iconst (v := 1) d_Rd_readProduct_58 (by decide) ?_
  refine go_iadd d_Rd_readProduct_59 ?_
  obtain ⟨I4, eI4, h⟩ := fstf_e h
  refine go_putT (ci := 9) (k := 6) (I' := I4) d_Rd_readProduct_60 a_X_111 rfl (by decide) f_Rd_80 rfl rfl rfl rfl rfl eI4 ?_
  refine go_iload_n (k := 0) d_Rd_readProduct_63 rfl rfl ?_
  refine go_if_eq (tgt := 84) d_Rd_readProduct_64 (by decide) (fun hc => ?_) (fun hc => ?_)
  · rw [if_pos hc] at h
    refine go_aload_n (k := 1) d_Rd_readProduct_84 rfl rfl ?_
    refine go_getr (ci := 9) (k := 9) (r := 114) d_Rd_readProduct_85 a_X_111 rfl (by decide) f_Rd_25 rfl ?_
    refine go_iconst (v := 2) d_Rd_readProduct_88 (by decide) ?_
    refine go_aload_n (k := 1) d_Rd_readProduct_89 rfl rfl ?_
    refine go_iconst (v := 1) d_Rd_readProduct_90 (by decide) ?_
    refine go_sipush (v := 9999) d_Rd_readProduct_91 (by decide) ?_
    obtain ⟨⟨r6, I5⟩, w1, h⟩ := fbd_e h
    try dsimp only at h
    refine go_callV (y := yRd_takeNumber) (asr := [.inl 1, .inl 9999]) (v := some (.inl r6)) (I' := I5) (st1 := [.inl r6, .inl 2, .inr (some 114)]) d_Rd_readProduct_94 s_yRd_takeNumber m_Rd_105 a_X_111 rfl rfl rfl (Nat.le_of_ble_eq_true rfl) rfl rfl (c_Rd_takeNumber l (d0 + 0) 1 9999 I4 w1) ?_
    obtain ⟨I7, w1, h⟩ := fbd_e h
    refine go_callV (y := yLa_emit) (asr := [.inl 2, .inl r6]) (v := none) (I' := I7) (st1 := []) d_Rd_readProduct_97 s_yLa_emit m_Rd_122 a_X_114 rfl rfl rfl (Nat.le_of_ble_eq_true rfl) rfl rfl (c_La_emit l (d0 + 1) 114 isLa_114 2 r6 I5 w1) ?_
    exact go_lv [1, 2] rfl (j_Rd_readProduct_100 l d0 k x1 I7 h hk hX)
  · rw [if_neg hc] at h
    refine go_aload_n (k := 1) d_Rd_readProduct_67 rfl rfl ?_
    obtain ⟨I8, w1, h⟩ := fbd_e h
    refine go_callV (y := yRd_readUnit) (asr := []) (v := none) (I' := I8) (st1 := []) d_Rd_readProduct_68 s_yRd_readUnit m_Rd_128 a_X_111 rfl rfl rfl (Nat.le_of_ble_eq_true rfl) rfl rfl (c_Rd_readUnit l (d0 + 0)  I4 w1) ?_
    refine go_aload_n (k := 1) d_Rd_readProduct_71 rfl rfl ?_
    refine go_getr (ci := 9) (k := 9) (r := 114) d_Rd_readProduct_72 a_X_111 rfl (by decide) f_Rd_25 rfl ?_
    refine go_bipush (v := 6) d_Rd_readProduct_75 (by decide) ?_
    refine go_iconst (v := 0) d_Rd_readProduct_77 (by decide) ?_
    obtain ⟨I9, w1, h⟩ := fbd_e h
    refine go_callV (y := yLa_emit) (asr := [.inl 6, .inl 0]) (v := none) (I' := I9) (st1 := []) d_Rd_readProduct_78 s_yLa_emit m_Rd_122 a_X_114 rfl rfl rfl (Nat.le_of_ble_eq_true rfl) rfl rfl (c_La_emit l (d0 + 1) 114 isLa_114 6 0 I8 w1) ?_
    refine go_goto (tgt := 100) d_Rd_readProduct_81 (by decide) ?_
    exact go_lv [1, 2] rfl (j_Rd_readProduct_100 l d0 k x1 I9 h hk hX)
def J_Rd_readProduct_38 (k : Int32 → gb_Mem → Option (gb_Mem)) (x1 : Int32) (I : gb_Mem) : Option (gb_Mem) :=
  fbd (F_Rd_now  I) fun r3 =>
  if r3 = 42 then
    J_Rd_readProduct_52 k x1 1 I
  else
    J_Rd_readProduct_52 k x1 0 I
set_option maxRecDepth 4000 in
theorem j_Rd_readProduct_38 (l : Launch) (d0 : Nat) {post : Option gb_AV → List gb_Ce → gb_Mem → Prop} (k : Int32 → gb_Mem → Option (gb_Mem)) (x1 : Int32) (I : gb_Mem) {ρ : gb_Mem} (h : J_Rd_readProduct_38 k x1 I = some ρ) (hk : ∀ (z1 : Int32) (Iw : gb_Mem), k z1 Iw = some ρ → gb_Go l yRd_readProduct (d0 + 2) 0 0 6 [(0, .inr (some 111)), (1, .inl z1)] [] shX Iw post) (hX : ∀ (I2 : gb_Mem), ρ = I2 → gb_Go l yRd_readProduct (d0 + 2) 0 0 106 [] [] shX I2 post) : gb_Go l yRd_readProduct (d0 + 2) 0 0 38 [(0, .inr (some 111)), (1, .inl x1)] [] shX I post := by
  unfold J_Rd_readProduct_38 at h
  refine go_aload_n (k := 0) d_Rd_readProduct_38 rfl rfl ?_
  obtain ⟨r3, w1, h⟩ := fbd_e h
  refine go_callV (y := yRd_now) (asr := []) (v := some (.inl r3)) (I' := I) (st1 := [.inl r3]) d_Rd_readProduct_39 s_yRd_now m_Rd_62 a_X_111 rfl rfl rfl (Nat.le_of_ble_eq_true rfl) rfl rfl (c_Rd_now l (d0 + 1)  I w1) ?_
  refine go_bipush (v := 42) d_Rd_readProduct_42 (by decide) ?_
  refine go_cmp_ne (tgt := 51) d_Rd_readProduct_44 (by decide) (fun hc => ?_) (fun hc => ?_)
  · rw [if_neg hc] at h
    refine go_iconst (v := 0) d_Rd_readProduct_51 (by decide) ?_
    exact go_lv [0, 1] rfl (j_Rd_readProduct_52 l d0 k x1 0 I h hk hX)
  · rw [if_pos hc] at h
    refine go_iconst (v := 1) d_Rd_readProduct_47 (by decide) ?_
    refine go_goto (tgt := 52) d_Rd_readProduct_48 (by decide) ?_
    exact go_lv [0, 1] rfl (j_Rd_readProduct_52 l d0 k x1 1 I h hk hX)
def L_Rd_readProduct_6 : Nat → Int32 → gb_Mem → Option (gb_Mem)
  | 0, _, _ => none
  | n + 1, x1, I =>
    if 400 ≤ x1 then
      some I
    else
      if (I 111 7) = 0 then
        fbd (F_Rd_now  I) fun r2 =>
        if r2 = 42 then
          J_Rd_readProduct_38 (L_Rd_readProduct_6 n) x1 I
        else
          fbd (F_Rd_now  I) fun r10 =>
          if r10 = 47 then
            J_Rd_readProduct_38 (L_Rd_readProduct_6 n) x1 I
          else
            some I
      else
        some I
set_option maxRecDepth 4000 in
theorem l_Rd_readProduct_6 (l : Launch) (d0 : Nat) {post : Option gb_AV → List gb_Ce → gb_Mem → Prop} : ∀ (n : Nat) (x1 : Int32) (I : gb_Mem) {ρ : gb_Mem} (h : L_Rd_readProduct_6 n x1 I = some ρ) (hX : ∀ (I2 : gb_Mem), ρ = I2 → gb_Go l yRd_readProduct (d0 + 2) 0 0 106 [] [] shX I2 post) , gb_Go l yRd_readProduct (d0 + 2) 0 0 6 [(0, .inr (some 111)), (1, .inl x1)] [] shX I post := by
  intro n
  induction n with
  | zero => intro x1 I ρ h hX; cases h
  | succ n ih =>
    intro x1 I ρ h hX
    rw [L_Rd_readProduct_6] at h
    refine go_iload_n (k := 1) d_Rd_readProduct_6 rfl rfl ?_
    refine go_sipush (v := 400) d_Rd_readProduct_7 (by decide) ?_
    refine go_cmp_ge (tgt := 106) d_Rd_readProduct_10 (by decide) (fun hc => ?_) (fun hc => ?_)
    · rw [if_pos hc] at h
      exact go_lv [] rfl (hX _ (Option.some.inj h).symm)
    · rw [if_neg hc] at h
      refine go_aload_n (k := 0) d_Rd_readProduct_13 rfl rfl ?_
      refine go_geti (ci := 9) (k := 7) d_Rd_readProduct_14 a_X_111 rfl (by decide) f_Rd_53 rfl ?_
      refine go_if_ne (tgt := 106) d_Rd_readProduct_17 (by decide) (fun hc => ?_) (fun hc => ?_)
      · rw [if_neg hc] at h
        exact go_lv [] rfl (hX _ (Option.some.inj h).symm)
      · rw [if_pos hc] at h
        refine go_aload_n (k := 0) d_Rd_readProduct_20 rfl rfl ?_
        obtain ⟨r2, w1, h⟩ := fbd_e h
        refine go_callV (y := yRd_now) (asr := []) (v := some (.inl r2)) (I' := I) (st1 := [.inl r2]) d_Rd_readProduct_21 s_yRd_now m_Rd_62 a_X_111 rfl rfl rfl (Nat.le_of_ble_eq_true rfl) rfl rfl (c_Rd_now l (d0 + 1)  I w1) ?_
        refine go_bipush (v := 42) d_Rd_readProduct_24 (by decide) ?_
        refine go_cmp_eq (tgt := 38) d_Rd_readProduct_26 (by decide) (fun hc => ?_) (fun hc => ?_)
        · rw [if_pos hc] at h
          exact go_lv [0, 1] rfl (j_Rd_readProduct_38 l d0 (L_Rd_readProduct_6 n) x1 I h (fun z1 Iw hh => ih z1 Iw hh hX) hX)
        · rw [if_neg hc] at h
          refine go_aload_n (k := 0) d_Rd_readProduct_29 rfl rfl ?_
          obtain ⟨r10, w1, h⟩ := fbd_e h
          refine go_callV (y := yRd_now) (asr := []) (v := some (.inl r10)) (I' := I) (st1 := [.inl r10]) d_Rd_readProduct_30 s_yRd_now m_Rd_62 a_X_111 rfl rfl rfl (Nat.le_of_ble_eq_true rfl) rfl rfl (c_Rd_now l (d0 + 1)  I w1) ?_
          refine go_bipush (v := 47) d_Rd_readProduct_33 (by decide) ?_
          refine go_cmp_ne (tgt := 106) d_Rd_readProduct_35 (by decide) (fun hc => ?_) (fun hc => ?_)
          · rw [if_neg hc] at h
            exact go_lv [] rfl (hX _ (Option.some.inj h).symm)
          · rw [if_pos hc] at h
            exact go_lv [0, 1] rfl (j_Rd_readProduct_38 l d0 (L_Rd_readProduct_6 n) x1 I h (fun z1 Iw hh => ih z1 Iw hh hX) hX)
def F_Rd_readProduct (I : gb_Mem) : Option (gb_Mem) :=
  fbd (F_Rd_readUnit  I) fun I1 =>
  fbd (L_Rd_readProduct_6 5000 0 I1) fun I11 =>
  some I11
set_option maxRecDepth 4000 in
theorem c_Rd_readProduct (l : Launch) (d0 : Nat) (I : gb_Mem) {Iz : gb_Mem} (h : F_Rd_readProduct I = some Iz) : gb_Cs l yRd_readProduct (d0 + 2) [.inr (some 111)] shX I none Iz := by
  refine gb_Ct.of (lv := [(0, .inr (some 111))]) rfl (Nat.le_of_ble_eq_true rfl) rfl ?_
  unfold F_Rd_readProduct at h
  show gb_Go l yRd_readProduct (d0 + 2) 0 0 0 [(0, .inr (some 111))] [] shX I (gb_po shX none Iz)
  refine go_aload_n (k := 0) d_Rd_readProduct_0 rfl rfl ?_
  obtain ⟨I1, w1, h⟩ := fbd_e h
  refine go_callV (y := yRd_readUnit) (asr := []) (v := none) (I' := I1) (st1 := []) d_Rd_readProduct_1 s_yRd_readUnit m_Rd_128 a_X_111 rfl rfl rfl (Nat.le_of_ble_eq_true rfl) rfl rfl (c_Rd_readUnit l (d0 + 0)  I w1) ?_
  refine go_iconst (v := 0) d_Rd_readProduct_4 (by decide) ?_
  refine go_istore_n (lv' := [(1, .inl 0), (0, .inr (some 111))]) d_Rd_readProduct_5 rfl (by decide) rfl ?_
  refine go_lv [1, 0] (lv' := [(0, .inr (some 111)), (1, .inl 0)]) rfl ?_
  obtain ⟨I11, w1, h⟩ := fbd_e h
  refine l_Rd_readProduct_6 l d0  5000 0 I1 w1 (fun I11_ e => ?_)
  cases e
  cases h
  exact go_return d_Rd_readProduct_106 rfl gb_po_i
theorem d_Rd_readReach_0 : decode yRd_readReach.2.1 0 = .ok (.aload_n 0, 1) := by decide +kernel
theorem d_Rd_readReach_1 : decode yRd_readReach.2.1 1 = .ok (.iconst 0, 1) := by decide +kernel
theorem d_Rd_readReach_2 : decode yRd_readReach.2.1 2 = .ok (.bipush 11, 2) := by decide +kernel
theorem d_Rd_readReach_4 : decode yRd_readReach.2.1 4 = .ok (.invokevirtual 105, 3) := by decide +kernel
theorem d_Rd_readReach_7 : decode yRd_readReach.2.1 7 = .ok (.istore_n 1, 1) := by decide +kernel
theorem d_Rd_readReach_8 : decode yRd_readReach.2.1 8 = .ok (.aload_n 0, 1) := by decide +kernel
theorem d_Rd_readReach_9 : decode yRd_readReach.2.1 9 = .ok (.sipush 226, 3) := by decide +kernel
theorem d_Rd_readReach_12 : decode yRd_readReach.2.1 12 = .ok (.invokevirtual 86, 3) := by decide +kernel
theorem d_Rd_readReach_15 : decode yRd_readReach.2.1 15 = .ok (.aload_n 0, 1) := by decide +kernel
theorem d_Rd_readReach_16 : decode yRd_readReach.2.1 16 = .ok (.getfield 53, 3) := by decide +kernel
theorem d_Rd_readReach_19 : decode yRd_readReach.2.1 19 = .ok (.ifCond .ne 35, 3) := by decide +kernel
theorem d_Rd_readReach_22 : decode yRd_readReach.2.1 22 = .ok (.aload_n 0, 1) := by decide +kernel
theorem d_Rd_readReach_23 : decode yRd_readReach.2.1 23 = .ok (.invokevirtual 62, 3) := by decide +kernel
theorem d_Rd_readReach_26 : decode yRd_readReach.2.1 26 = .ok (.sipush 1000, 3) := by decide +kernel
theorem d_Rd_readReach_29 : decode yRd_readReach.2.1 29 = .ok (.if_icmp .lt 25, 3) := by decide +kernel
theorem d_Rd_readReach_32 : decode yRd_readReach.2.1 32 = .ok (.aload_n 0, 1) := by decide +kernel
theorem d_Rd_readReach_33 : decode yRd_readReach.2.1 33 = .ok (.invokevirtual 62, 3) := by decide +kernel
theorem d_Rd_readReach_36 : decode yRd_readReach.2.1 36 = .ok (.sipush 1000, 3) := by decide +kernel
theorem d_Rd_readReach_39 : decode yRd_readReach.2.1 39 = .ok (.isub, 1) := by decide +kernel
theorem d_Rd_readReach_40 : decode yRd_readReach.2.1 40 = .ok (.iload_n 1, 1) := by decide +kernel
theorem d_Rd_readReach_41 : decode yRd_readReach.2.1 41 = .ok (.isub, 1) := by decide +kernel
theorem d_Rd_readReach_42 : decode yRd_readReach.2.1 42 = .ok (.invokestatic 115, 3) := by decide +kernel
theorem d_Rd_readReach_45 : decode yRd_readReach.2.1 45 = .ok (.iconst 1, 1) := by decide +kernel
theorem d_Rd_readReach_46 : decode yRd_readReach.2.1 46 = .ok (.if_icmp .gt 8, 3) := by decide +kernel
theorem d_Rd_readReach_49 : decode yRd_readReach.2.1 49 = .ok (.aload_n 0, 1) := by decide +kernel
theorem d_Rd_readReach_50 : decode yRd_readReach.2.1 50 = .ok (.iconst 2, 1) := by decide +kernel
theorem d_Rd_readReach_51 : decode yRd_readReach.2.1 51 = .ok (.invokevirtual 112, 3) := by decide +kernel
theorem d_Rd_readReach_54 : decode yRd_readReach.2.1 54 = .ok (.aload_n 0, 1) := by decide +kernel
theorem d_Rd_readReach_55 : decode yRd_readReach.2.1 55 = .ok (.getfield 34, 3) := by decide +kernel
theorem d_Rd_readReach_58 : decode yRd_readReach.2.1 58 = .ok (.iload_n 1, 1) := by decide +kernel
theorem d_Rd_readReach_59 : decode yRd_readReach.2.1 59 = .ok (.aload_n 0, 1) := by decide +kernel
theorem d_Rd_readReach_60 : decode yRd_readReach.2.1 60 = .ok (.iconst 0, 1) := by decide +kernel
theorem d_Rd_readReach_61 : decode yRd_readReach.2.1 61 = .ok (.bipush 11, 2) := by decide +kernel
theorem d_Rd_readReach_63 : decode yRd_readReach.2.1 63 = .ok (.invokevirtual 105, 3) := by decide +kernel
theorem d_Rd_readReach_66 : decode yRd_readReach.2.1 66 = .ok (.iconst 0, 1) := by decide +kernel
theorem d_Rd_readReach_67 : decode yRd_readReach.2.1 67 = .ok (.iconst 0, 1) := by decide +kernel
theorem d_Rd_readReach_68 : decode yRd_readReach.2.1 68 = .ok (.invokevirtual 108, 3) := by decide +kernel
theorem d_Rd_readReach_71 : decode yRd_readReach.2.1 71 = .ok (.pop, 1) := by decide +kernel
theorem d_Rd_readReach_72 : decode yRd_readReach.2.1 72 = .ok (.return_, 1) := by decide +kernel
def J_Rd_readReach_54 (x1 : Int32) (I : gb_Mem) : Option (gb_Mem) :=
  fbd (F_Rd_takeNumber 0 11 I) fun (r5, I4) =>
  fbd (F_Ro_add 119 64 x1 r5 0 0 I4) fun (r7, I6) =>
  some I6
set_option maxRecDepth 4000 in
theorem j_Rd_readReach_54 (l : Launch) (d0 : Nat) (x1 : Int32) (I : gb_Mem) {Iz : gb_Mem} (h : J_Rd_readReach_54 x1 I = some Iz) : gb_Go l yRd_readReach (d0 + 2) 0 0 54 [(0, .inr (some 111)), (1, .inl x1)] [] shX I (gb_po shX none Iz) := by
  unfold J_Rd_readReach_54 at h
  refine go_aload_n (k := 0) d_Rd_readReach_54 rfl rfl ?_
  refine go_getr (ci := 9) (k := 10) (r := 119) d_Rd_readReach_55 a_X_111 rfl (by decide) f_Rd_34 rfl ?_
  refine go_iload_n (k := 1) d_Rd_readReach_58 rfl rfl ?_
  refine go_aload_n (k := 0) d_Rd_readReach_59 rfl rfl ?_
  refine go_iconst (v := 0) d_Rd_readReach_60 (by decide) ?_
  refine go_bipush (v := 11) d_Rd_readReach_61 (by decide) ?_
  obtain ⟨⟨r5, I4⟩, w1, h⟩ := fbd_e h
  try dsimp only at h
  refine go_callV (y := yRd_takeNumber) (asr := [.inl 0, .inl 11]) (v := some (.inl r5)) (I' := I4) (st1 := [.inl r5, .inl x1, .inr (some 119)]) d_Rd_readReach_63 s_yRd_takeNumber m_Rd_105 a_X_111 rfl rfl rfl (Nat.le_of_ble_eq_true rfl) rfl rfl (c_Rd_takeNumber l (d0 + 0) 0 11 I w1) ?_
  refine go_iconst (v := 0) d_Rd_readReach_66 (by decide) ?_
  refine go_iconst (v := 0) d_Rd_readReach_67 (by decide) ?_
  obtain ⟨⟨r7, I6⟩, w1, h⟩ := fbd_e h
  try dsimp only at h
  refine go_callV (y := yRo_add) (asr := [.inl x1, .inl r5, .inl 0, .inl 0]) (v := some (.inl r7)) (I' := I6) (st1 := [.inl r7]) d_Rd_readReach_68 s_yRo_add m_Rd_108 a_X_119 rfl rfl rfl (Nat.le_of_ble_eq_true rfl) rfl rfl (c_Ro_add l (d0 + 1) 119 64 isRo_119 x1 r5 0 0 I4 w1) ?_
  refine go_pop d_Rd_readReach_71 ?_
  cases h
  exact go_return d_Rd_readReach_72 rfl gb_po_i
def F_Rd_readReach (I : gb_Mem) : Option (gb_Mem) :=
  fbd (F_Rd_takeNumber 0 11 I) fun (r2, I1) =>
  fbd (F_Rd_take 226 I1) fun I3 =>
  if (I3 111 7) = 0 then
    fbd (F_Rd_now  I3) fun r8 =>
    if r8 < 1000 then
      J_Rd_readReach_54 r2 I3
    else
      fbd (F_Rd_now  I3) fun r9 =>
      if 1 < (ab ((r9 - 1000) - r2)) then
        J_Rd_readReach_54 r2 I3
      else
        fbd (F_Rd_refuse 2 I3) fun I10 =>
        J_Rd_readReach_54 r2 I10
  else
    J_Rd_readReach_54 r2 I3
set_option maxRecDepth 4000 in
theorem c_Rd_readReach (l : Launch) (d0 : Nat) (I : gb_Mem) {Iz : gb_Mem} (h : F_Rd_readReach I = some Iz) : gb_Cs l yRd_readReach (d0 + 2) [.inr (some 111)] shX I none Iz := by
  refine gb_Ct.of (lv := [(0, .inr (some 111))]) rfl (Nat.le_of_ble_eq_true rfl) rfl ?_
  unfold F_Rd_readReach at h
  show gb_Go l yRd_readReach (d0 + 2) 0 0 0 [(0, .inr (some 111))] [] shX I (gb_po shX none Iz)
  refine go_aload_n (k := 0) d_Rd_readReach_0 rfl rfl ?_
  refine go_iconst (v := 0) d_Rd_readReach_1 (by decide) ?_
  refine go_bipush (v := 11) d_Rd_readReach_2 (by decide) ?_
  obtain ⟨⟨r2, I1⟩, w1, h⟩ := fbd_e h
  try dsimp only at h
  refine go_callV (y := yRd_takeNumber) (asr := [.inl 0, .inl 11]) (v := some (.inl r2)) (I' := I1) (st1 := [.inl r2]) d_Rd_readReach_4 s_yRd_takeNumber m_Rd_105 a_X_111 rfl rfl rfl (Nat.le_of_ble_eq_true rfl) rfl rfl (c_Rd_takeNumber l (d0 + 0) 0 11 I w1) ?_
  refine go_istore_n (lv' := [(1, .inl r2), (0, .inr (some 111))]) d_Rd_readReach_7 rfl (by decide) rfl ?_
  refine go_aload_n (k := 1) d_Rd_readReach_8 rfl rfl ?_
  refine go_sipush (v := 226) d_Rd_readReach_9 (by decide) ?_
  obtain ⟨I3, w1, h⟩ := fbd_e h
  refine go_callV (y := yRd_take) (asr := [.inl 226]) (v := none) (I' := I3) (st1 := []) d_Rd_readReach_12 s_yRd_take m_Rd_86 a_X_111 rfl rfl rfl (Nat.le_of_ble_eq_true rfl) rfl rfl (c_Rd_take l (d0 + 0) 226 I1 w1) ?_
  refine go_aload_n (k := 1) d_Rd_readReach_15 rfl rfl ?_
  refine go_geti (ci := 9) (k := 7) d_Rd_readReach_16 a_X_111 rfl (by decide) f_Rd_53 rfl ?_
  refine go_if_ne (tgt := 54) d_Rd_readReach_19 (by decide) (fun hc => ?_) (fun hc => ?_)
  · rw [if_neg hc] at h
    exact go_lv [1, 0] rfl (j_Rd_readReach_54 l d0 r2 I3 h)
  · rw [if_pos hc] at h
    refine go_aload_n (k := 1) d_Rd_readReach_22 rfl rfl ?_
    obtain ⟨r8, w1, h⟩ := fbd_e h
    refine go_callV (y := yRd_now) (asr := []) (v := some (.inl r8)) (I' := I3) (st1 := [.inl r8]) d_Rd_readReach_23 s_yRd_now m_Rd_62 a_X_111 rfl rfl rfl (Nat.le_of_ble_eq_true rfl) rfl rfl (c_Rd_now l (d0 + 1)  I3 w1) ?_
    refine go_sipush (v := 1000) d_Rd_readReach_26 (by decide) ?_
    refine go_cmp_lt (tgt := 54) d_Rd_readReach_29 (by decide) (fun hc => ?_) (fun hc => ?_)
    · rw [if_pos hc] at h
      exact go_lv [1, 0] rfl (j_Rd_readReach_54 l d0 r2 I3 h)
    · rw [if_neg hc] at h
      refine go_aload_n (k := 1) d_Rd_readReach_32 rfl rfl ?_
      obtain ⟨r9, w1, h⟩ := fbd_e h
      refine go_callV (y := yRd_now) (asr := []) (v := some (.inl r9)) (I' := I3) (st1 := [.inl r9]) d_Rd_readReach_33 s_yRd_now m_Rd_62 a_X_111 rfl rfl rfl (Nat.le_of_ble_eq_true rfl) rfl rfl (c_Rd_now l (d0 + 1)  I3 w1) ?_
      refine go_sipush (v := 1000) d_Rd_readReach_36 (by decide) ?_
      refine go_isub d_Rd_readReach_39 ?_
      refine go_iload_n (k := 0) d_Rd_readReach_40 rfl rfl ?_
      refine go_isub d_Rd_readReach_41 ?_
      refine go_mabs d_Rd_readReach_42 m_Rd_115 (Nat.le_of_ble_eq_true rfl) ?_
      refine go_iconst (v := 1) d_Rd_readReach_45 (by decide) ?_
      refine go_cmp_gt (tgt := 54) d_Rd_readReach_46 (by decide) (fun hc => ?_) (fun hc => ?_)
      · rw [if_pos hc] at h
        exact go_lv [1, 0] rfl (j_Rd_readReach_54 l d0 r2 I3 h)
      · rw [if_neg hc] at h
        refine go_aload_n (k := 1) d_Rd_readReach_49 rfl rfl ?_
        refine go_iconst (v := 2) d_Rd_readReach_50 (by decide) ?_
        obtain ⟨I10, w1, h⟩ := fbd_e h
        refine go_callV (y := yRd_refuse) (asr := [.inl 2]) (v := none) (I' := I10) (st1 := []) d_Rd_readReach_51 s_yRd_refuse m_Rd_112 a_X_111 rfl rfl rfl (Nat.le_of_ble_eq_true rfl) rfl rfl (c_Rd_refuse l (d0 + 1) 2 I3 w1) ?_
        exact go_lv [1, 0] rfl (j_Rd_readReach_54 l d0 r2 I10 h)
theorem d_Rd_readVoyage_0 : decode yRd_readVoyage.2.1 0 = .ok (.aload_n 0, 1) := by decide +kernel
theorem d_Rd_readVoyage_1 : decode yRd_readVoyage.2.1 1 = .ok (.iconst 0, 1) := by decide +kernel
theorem d_Rd_readVoyage_2 : decode yRd_readVoyage.2.1 2 = .ok (.aload_n 0, 1) := by decide +kernel
theorem d_Rd_readVoyage_3 : decode yRd_readVoyage.2.1 3 = .ok (.getfield 50, 3) := by decide +kernel
theorem d_Rd_readVoyage_6 : decode yRd_readVoyage.2.1 6 = .ok (.iconst 1, 1) := by decide +kernel
theorem d_Rd_readVoyage_7 : decode yRd_readVoyage.2.1 7 = .ok (.isub, 1) := by decide +kernel
theorem d_Rd_readVoyage_8 : decode yRd_readVoyage.2.1 8 = .ok (.invokevirtual 105, 3) := by decide +kernel
theorem d_Rd_readVoyage_11 : decode yRd_readVoyage.2.1 11 = .ok (.istore_n 1, 1) := by decide +kernel
theorem d_Rd_readVoyage_12 : decode yRd_readVoyage.2.1 12 = .ok (.aload_n 0, 1) := by decide +kernel
theorem d_Rd_readVoyage_13 : decode yRd_readVoyage.2.1 13 = .ok (.sipush 220, 3) := by decide +kernel
theorem d_Rd_readVoyage_16 : decode yRd_readVoyage.2.1 16 = .ok (.invokevirtual 86, 3) := by decide +kernel
theorem d_Rd_readVoyage_19 : decode yRd_readVoyage.2.1 19 = .ok (.aload_n 0, 1) := by decide +kernel
theorem d_Rd_readVoyage_20 : decode yRd_readVoyage.2.1 20 = .ok (.getfield 34, 3) := by decide +kernel
theorem d_Rd_readVoyage_23 : decode yRd_readVoyage.2.1 23 = .ok (.iload_n 1, 1) := by decide +kernel
theorem d_Rd_readVoyage_24 : decode yRd_readVoyage.2.1 24 = .ok (.aload_n 0, 1) := by decide +kernel
theorem d_Rd_readVoyage_25 : decode yRd_readVoyage.2.1 25 = .ok (.iconst 1, 1) := by decide +kernel
theorem d_Rd_readVoyage_26 : decode yRd_readVoyage.2.1 26 = .ok (.bipush 99, 2) := by decide +kernel
theorem d_Rd_readVoyage_28 : decode yRd_readVoyage.2.1 28 = .ok (.invokevirtual 105, 3) := by decide +kernel
theorem d_Rd_readVoyage_31 : decode yRd_readVoyage.2.1 31 = .ok (.iconst 0, 1) := by decide +kernel
theorem d_Rd_readVoyage_32 : decode yRd_readVoyage.2.1 32 = .ok (.iconst 0, 1) := by decide +kernel
theorem d_Rd_readVoyage_33 : decode yRd_readVoyage.2.1 33 = .ok (.invokevirtual 108, 3) := by decide +kernel
theorem d_Rd_readVoyage_36 : decode yRd_readVoyage.2.1 36 = .ok (.pop, 1) := by decide +kernel
theorem d_Rd_readVoyage_37 : decode yRd_readVoyage.2.1 37 = .ok (.return_, 1) := by decide +kernel
def F_Rd_readVoyage (I : gb_Mem) : Option (gb_Mem) :=
  fbd (F_Rd_takeNumber 0 ((I 111 2) - 1) I) fun (r2, I1) =>
  fbd (F_Rd_take 220 I1) fun I3 =>
  fbd (F_Rd_takeNumber 1 99 I3) fun (r5, I4) =>
  fbd (F_Ro_add 119 64 r2 r5 0 0 I4) fun (r7, I6) =>
  some I6
set_option maxRecDepth 4000 in
theorem c_Rd_readVoyage (l : Launch) (d0 : Nat) (I : gb_Mem) {Iz : gb_Mem} (h : F_Rd_readVoyage I = some Iz) : gb_Cs l yRd_readVoyage (d0 + 2) [.inr (some 111)] shX I none Iz := by
  refine gb_Ct.of (lv := [(0, .inr (some 111))]) rfl (Nat.le_of_ble_eq_true rfl) rfl ?_
  unfold F_Rd_readVoyage at h
  show gb_Go l yRd_readVoyage (d0 + 2) 0 0 0 [(0, .inr (some 111))] [] shX I (gb_po shX none Iz)
  refine go_aload_n (k := 0) d_Rd_readVoyage_0 rfl rfl ?_
  refine go_iconst (v := 0) d_Rd_readVoyage_1 (by decide) ?_
  refine go_aload_n (k := 0) d_Rd_readVoyage_2 rfl rfl ?_
  refine go_geti (ci := 9) (k := 2) d_Rd_readVoyage_3 a_X_111 rfl (by decide) f_Rd_50 rfl ?_
  refine go_iconst (v := 1) d_Rd_readVoyage_6 (by decide) ?_
  refine go_isub d_Rd_readVoyage_7 ?_
  obtain ⟨⟨r2, I1⟩, w1, h⟩ := fbd_e h
  try dsimp only at h
  refine go_callV (y := yRd_takeNumber) (asr := [.inl 0, .inl ((I 111 2) - 1)]) (v := some (.inl r2)) (I' := I1) (st1 := [.inl r2]) d_Rd_readVoyage_8 s_yRd_takeNumber m_Rd_105 a_X_111 rfl rfl rfl (Nat.le_of_ble_eq_true rfl) rfl rfl (c_Rd_takeNumber l (d0 + 0) 0 ((I 111 2) - 1) I w1) ?_
  refine go_istore_n (lv' := [(1, .inl r2), (0, .inr (some 111))]) d_Rd_readVoyage_11 rfl (by decide) rfl ?_
  refine go_aload_n (k := 1) d_Rd_readVoyage_12 rfl rfl ?_
  refine go_sipush (v := 220) d_Rd_readVoyage_13 (by decide) ?_
  obtain ⟨I3, w1, h⟩ := fbd_e h
  refine go_callV (y := yRd_take) (asr := [.inl 220]) (v := none) (I' := I3) (st1 := []) d_Rd_readVoyage_16 s_yRd_take m_Rd_86 a_X_111 rfl rfl rfl (Nat.le_of_ble_eq_true rfl) rfl rfl (c_Rd_take l (d0 + 0) 220 I1 w1) ?_
  refine go_aload_n (k := 1) d_Rd_readVoyage_19 rfl rfl ?_
  refine go_getr (ci := 9) (k := 10) (r := 119) d_Rd_readVoyage_20 a_X_111 rfl (by decide) f_Rd_34 rfl ?_
  refine go_iload_n (k := 0) d_Rd_readVoyage_23 rfl rfl ?_
  refine go_aload_n (k := 1) d_Rd_readVoyage_24 rfl rfl ?_
  refine go_iconst (v := 1) d_Rd_readVoyage_25 (by decide) ?_
  refine go_bipush (v := 99) d_Rd_readVoyage_26 (by decide) ?_
  obtain ⟨⟨r5, I4⟩, w1, h⟩ := fbd_e h
  try dsimp only at h
  refine go_callV (y := yRd_takeNumber) (asr := [.inl 1, .inl 99]) (v := some (.inl r5)) (I' := I4) (st1 := [.inl r5, .inl r2, .inr (some 119)]) d_Rd_readVoyage_28 s_yRd_takeNumber m_Rd_105 a_X_111 rfl rfl rfl (Nat.le_of_ble_eq_true rfl) rfl rfl (c_Rd_takeNumber l (d0 + 0) 1 99 I3 w1) ?_
  refine go_iconst (v := 0) d_Rd_readVoyage_31 (by decide) ?_
  refine go_iconst (v := 0) d_Rd_readVoyage_32 (by decide) ?_
  obtain ⟨⟨r7, I6⟩, w1, h⟩ := fbd_e h
  try dsimp only at h
  refine go_callV (y := yRo_add) (asr := [.inl r2, .inl r5, .inl 0, .inl 0]) (v := some (.inl r7)) (I' := I6) (st1 := [.inl r7]) d_Rd_readVoyage_33 s_yRo_add m_Rd_108 a_X_119 rfl rfl rfl (Nat.le_of_ble_eq_true rfl) rfl rfl (c_Ro_add l (d0 + 1) 119 64 isRo_119 r2 r5 0 0 I4 w1) ?_
  refine go_pop d_Rd_readVoyage_36 ?_
  cases h
  exact go_return d_Rd_readVoyage_37 rfl gb_po_i
theorem d_Rd_runEnd_0 : decode yRd_runEnd.2.1 0 = .ok (.aload_n 0, 1) := by decide +kernel
theorem d_Rd_runEnd_1 : decode yRd_runEnd.2.1 1 = .ok (.iload_n 1, 1) := by decide +kernel
theorem d_Rd_runEnd_2 : decode yRd_runEnd.2.1 2 = .ok (.invokevirtual 137, 3) := by decide +kernel
theorem d_Rd_runEnd_5 : decode yRd_runEnd.2.1 5 = .ok (.invokestatic 146, 3) := by decide +kernel
theorem d_Rd_runEnd_8 : decode yRd_runEnd.2.1 8 = .ok (.istore_n 2, 1) := by decide +kernel
theorem d_Rd_runEnd_9 : decode yRd_runEnd.2.1 9 = .ok (.aload_n 0, 1) := by decide +kernel
theorem d_Rd_runEnd_10 : decode yRd_runEnd.2.1 10 = .ok (.iload_n 1, 1) := by decide +kernel
theorem d_Rd_runEnd_11 : decode yRd_runEnd.2.1 11 = .ok (.invokevirtual 137, 3) := by decide +kernel
theorem d_Rd_runEnd_14 : decode yRd_runEnd.2.1 14 = .ok (.invokestatic 150, 3) := by decide +kernel
theorem d_Rd_runEnd_17 : decode yRd_runEnd.2.1 17 = .ok (.istore_n 3, 1) := by decide +kernel
theorem d_Rd_runEnd_18 : decode yRd_runEnd.2.1 18 = .ok (.iload_n 1, 1) := by decide +kernel
theorem d_Rd_runEnd_19 : decode yRd_runEnd.2.1 19 = .ok (.iconst 1, 1) := by decide +kernel
theorem d_Rd_runEnd_20 : decode yRd_runEnd.2.1 20 = .ok (.iadd, 1) := by decide +kernel
theorem d_Rd_runEnd_21 : decode yRd_runEnd.2.1 21 = .ok (.istore 4, 2) := by decide +kernel
theorem d_Rd_runEnd_23 : decode yRd_runEnd.2.1 23 = .ok (.iload 4, 2) := by decide +kernel
theorem d_Rd_runEnd_25 : decode yRd_runEnd.2.1 25 = .ok (.aload_n 0, 1) := by decide +kernel
theorem d_Rd_runEnd_26 : decode yRd_runEnd.2.1 26 = .ok (.getfield 47, 3) := by decide +kernel
theorem d_Rd_runEnd_29 : decode yRd_runEnd.2.1 29 = .ok (.if_icmp .ge 41, 3) := by decide +kernel
theorem d_Rd_runEnd_32 : decode yRd_runEnd.2.1 32 = .ok (.iload_n 2, 1) := by decide +kernel
theorem d_Rd_runEnd_33 : decode yRd_runEnd.2.1 33 = .ok (.ifCond .eq 15, 3) := by decide +kernel
theorem d_Rd_runEnd_36 : decode yRd_runEnd.2.1 36 = .ok (.aload_n 0, 1) := by decide +kernel
theorem d_Rd_runEnd_37 : decode yRd_runEnd.2.1 37 = .ok (.iload 4, 2) := by decide +kernel
theorem d_Rd_runEnd_39 : decode yRd_runEnd.2.1 39 = .ok (.invokevirtual 137, 3) := by decide +kernel
theorem d_Rd_runEnd_42 : decode yRd_runEnd.2.1 42 = .ok (.invokestatic 146, 3) := by decide +kernel
theorem d_Rd_runEnd_45 : decode yRd_runEnd.2.1 45 = .ok (.ifCond .ne 19, 3) := by decide +kernel
theorem d_Rd_runEnd_48 : decode yRd_runEnd.2.1 48 = .ok (.iload_n 3, 1) := by decide +kernel
theorem d_Rd_runEnd_49 : decode yRd_runEnd.2.1 49 = .ok (.ifCond .eq 21, 3) := by decide +kernel
theorem d_Rd_runEnd_52 : decode yRd_runEnd.2.1 52 = .ok (.aload_n 0, 1) := by decide +kernel
theorem d_Rd_runEnd_53 : decode yRd_runEnd.2.1 53 = .ok (.iload 4, 2) := by decide +kernel
theorem d_Rd_runEnd_55 : decode yRd_runEnd.2.1 55 = .ok (.invokevirtual 137, 3) := by decide +kernel
theorem d_Rd_runEnd_58 : decode yRd_runEnd.2.1 58 = .ok (.invokestatic 150, 3) := by decide +kernel
theorem d_Rd_runEnd_61 : decode yRd_runEnd.2.1 61 = .ok (.ifCond .eq 9, 3) := by decide +kernel
theorem d_Rd_runEnd_64 : decode yRd_runEnd.2.1 64 = .ok (.iinc 4 1, 3) := by decide +kernel
theorem d_Rd_runEnd_67 : decode yRd_runEnd.2.1 67 = .ok (.goto (-44), 3) := by decide +kernel
theorem d_Rd_runEnd_70 : decode yRd_runEnd.2.1 70 = .ok (.iload 4, 2) := by decide +kernel
theorem d_Rd_runEnd_72 : decode yRd_runEnd.2.1 72 = .ok (.ireturn, 1) := by decide +kernel
def J_Rd_runEnd_64 (k : Int32 → Option (Int32)) (x2 x3 x4 : Int32) (I : gb_Mem) : Option (Int32) :=
  k (x4 + 1)
set_option maxRecDepth 4000 in
theorem j_Rd_runEnd_64 (l : Launch) (d0 : Nat) {post : Option gb_AV → List gb_Ce → gb_Mem → Prop} (k : Int32 → Option (Int32)) (x2 x3 x4 : Int32) (I : gb_Mem) {ρ : Int32} (h : J_Rd_runEnd_64 k x2 x3 x4 I = some ρ) (hk : ∀ (z4 : Int32), k z4 = some ρ → gb_Go l yRd_runEnd (d0 + 2) 0 0 23 [(0, .inr (some 111)), (2, .inl x2), (3, .inl x3), (4, .inl z4)] [] shX I post) (hX : ∀ (o4 : Int32), ρ = o4 → gb_Go l yRd_runEnd (d0 + 2) 0 0 70 [(4, .inl o4)] [] shX I post) : gb_Go l yRd_runEnd (d0 + 2) 0 0 64 [(0, .inr (some 111)), (2, .inl x2), (3, .inl x3), (4, .inl x4)] [] shX I post := by
  unfold J_Rd_runEnd_64 at h
  refine go_iinc (k := 3) (v := x4 + 1) (lv' := [(4, .inl (x4 + 1)), (0, .inr (some 111)), (2, .inl x2), (3, .inl x3)]) d_Rd_runEnd_64 rfl rfl (by decide) rfl ?_
  refine go_goto (tgt := 23) d_Rd_runEnd_67 (by decide) ?_
  exact go_lv [1, 2, 3, 0] rfl (hk _ h)
def J_Rd_runEnd_48 (k : Int32 → Option (Int32)) (x2 x3 x4 : Int32) (I : gb_Mem) : Option (Int32) :=
  if x3 = 0 then
    some x4
  else
    fbd (F_Rd_charAt x4 I) fun r5 =>
    if (F_Rd_isDigit r5 I) = 0 then
      some x4
    else
      J_Rd_runEnd_64 k x2 x3 x4 I
set_option maxRecDepth 4000 in
theorem j_Rd_runEnd_48 (l : Launch) (d0 : Nat) {post : Option gb_AV → List gb_Ce → gb_Mem → Prop} (k : Int32 → Option (Int32)) (x2 x3 x4 : Int32) (I : gb_Mem) {ρ : Int32} (h : J_Rd_runEnd_48 k x2 x3 x4 I = some ρ) (hk : ∀ (z4 : Int32), k z4 = some ρ → gb_Go l yRd_runEnd (d0 + 2) 0 0 23 [(0, .inr (some 111)), (2, .inl x2), (3, .inl x3), (4, .inl z4)] [] shX I post) (hX : ∀ (o4 : Int32), ρ = o4 → gb_Go l yRd_runEnd (d0 + 2) 0 0 70 [(4, .inl o4)] [] shX I post) : gb_Go l yRd_runEnd (d0 + 2) 0 0 48 [(0, .inr (some 111)), (2, .inl x2), (3, .inl x3), (4, .inl x4)] [] shX I post := by
  unfold J_Rd_runEnd_48 at h
  refine go_iload_n (k := 2) d_Rd_runEnd_48 rfl rfl ?_
  refine go_if_eq (tgt := 70) d_Rd_runEnd_49 (by decide) (fun hc => ?_) (fun hc => ?_)
  · rw [if_pos hc] at h
    exact go_lv [3] rfl (hX _ (Option.some.inj h).symm)
  · rw [if_neg hc] at h
    refine go_aload_n (k := 0) d_Rd_runEnd_52 rfl rfl ?_
    refine go_iload (k := 3) d_Rd_runEnd_53 rfl ?_
    obtain ⟨r5, w1, h⟩ := fbd_e h
    refine go_callV (y := yRd_charAt) (asr := [.inl x4]) (v := some (.inl r5)) (I' := I) (st1 := [.inl r5]) d_Rd_runEnd_55 s_yRd_charAt m_Rd_137 a_X_111 rfl rfl rfl (Nat.le_of_ble_eq_true rfl) rfl rfl (c_Rd_charAt l (d0 + 0) x4 I w1) ?_
    refine go_callS (y := yRd_isDigit) (asr := [.inl r5]) (v := some (.inl (F_Rd_isDigit r5 I))) (I' := I) (st1 := [.inl (F_Rd_isDigit r5 I)]) d_Rd_runEnd_58 s_yRd_isDigit m_Rd_150 rfl (Nat.le_of_ble_eq_true rfl) rfl rfl (c_Rd_isDigit l (d0 + 0) r5 I) ?_
    refine go_if_eq (tgt := 70) d_Rd_runEnd_61 (by decide) (fun hc => ?_) (fun hc => ?_)
    · rw [if_pos hc] at h
      exact go_lv [3] rfl (hX _ (Option.some.inj h).symm)
    · rw [if_neg hc] at h
      exact go_lv [0, 1, 2, 3] rfl (j_Rd_runEnd_64 l d0 k x2 x3 x4 I h hk hX)
def L_Rd_runEnd_23 (x2 x3 : Int32) (I : gb_Mem) : Nat → Int32 → Option (Int32)
  | 0, _ => none
  | n + 1, x4 =>
    if (I 111 1) ≤ x4 then
      some x4
    else
      if x2 = 0 then
        J_Rd_runEnd_48 (L_Rd_runEnd_23 x2 x3 I n) x2 x3 x4 I
      else
        fbd (F_Rd_charAt x4 I) fun r6 =>
        if (F_Rd_isLetter r6 I) = 0 then
          J_Rd_runEnd_48 (L_Rd_runEnd_23 x2 x3 I n) x2 x3 x4 I
        else
          J_Rd_runEnd_64 (L_Rd_runEnd_23 x2 x3 I n) x2 x3 x4 I
set_option maxRecDepth 4000 in
theorem l_Rd_runEnd_23 (l : Launch) (d0 : Nat) (x2 x3 : Int32) (I : gb_Mem) {post : Option gb_AV → List gb_Ce → gb_Mem → Prop} : ∀ (n : Nat) (x4 : Int32) {ρ : Int32} (h : L_Rd_runEnd_23 x2 x3 I n x4 = some ρ) (hX : ∀ (o4 : Int32), ρ = o4 → gb_Go l yRd_runEnd (d0 + 2) 0 0 70 [(4, .inl o4)] [] shX I post) , gb_Go l yRd_runEnd (d0 + 2) 0 0 23 [(0, .inr (some 111)), (2, .inl x2), (3, .inl x3), (4, .inl x4)] [] shX I post := by
  intro n
  induction n with
  | zero => intro x4 ρ h hX; cases h
  | succ n ih =>
    intro x4 ρ h hX
    rw [L_Rd_runEnd_23] at h
    refine go_iload (k := 3) d_Rd_runEnd_23 rfl ?_
    refine go_aload_n (k := 0) d_Rd_runEnd_25 rfl rfl ?_
    refine go_geti (ci := 9) (k := 1) d_Rd_runEnd_26 a_X_111 rfl (by decide) f_Rd_47 rfl ?_
    refine go_cmp_ge (tgt := 70) d_Rd_runEnd_29 (by decide) (fun hc => ?_) (fun hc => ?_)
    · rw [if_pos hc] at h
      exact go_lv [3] rfl (hX _ (Option.some.inj h).symm)
    · rw [if_neg hc] at h
      refine go_iload_n (k := 1) d_Rd_runEnd_32 rfl rfl ?_
      refine go_if_eq (tgt := 48) d_Rd_runEnd_33 (by decide) (fun hc => ?_) (fun hc => ?_)
      · rw [if_pos hc] at h
        exact go_lv [0, 1, 2, 3] rfl (j_Rd_runEnd_48 l d0 (L_Rd_runEnd_23 x2 x3 I n) x2 x3 x4 I h (fun z4 hh => ih z4 hh hX) hX)
      · rw [if_neg hc] at h
        refine go_aload_n (k := 0) d_Rd_runEnd_36 rfl rfl ?_
        refine go_iload (k := 3) d_Rd_runEnd_37 rfl ?_
        obtain ⟨r6, w1, h⟩ := fbd_e h
        refine go_callV (y := yRd_charAt) (asr := [.inl x4]) (v := some (.inl r6)) (I' := I) (st1 := [.inl r6]) d_Rd_runEnd_39 s_yRd_charAt m_Rd_137 a_X_111 rfl rfl rfl (Nat.le_of_ble_eq_true rfl) rfl rfl (c_Rd_charAt l (d0 + 0) x4 I w1) ?_
        refine go_callS (y := yRd_isLetter) (asr := [.inl r6]) (v := some (.inl (F_Rd_isLetter r6 I))) (I' := I) (st1 := [.inl (F_Rd_isLetter r6 I)]) d_Rd_runEnd_42 s_yRd_isLetter m_Rd_146 rfl (Nat.le_of_ble_eq_true rfl) rfl rfl (c_Rd_isLetter l (d0 + 0) r6 I) ?_
        refine go_if_ne (tgt := 64) d_Rd_runEnd_45 (by decide) (fun hc => ?_) (fun hc => ?_)
        · rw [if_neg hc] at h
          exact go_lv [0, 1, 2, 3] rfl (j_Rd_runEnd_64 l d0 (L_Rd_runEnd_23 x2 x3 I n) x2 x3 x4 I h (fun z4 hh => ih z4 hh hX) hX)
        · rw [if_pos hc] at h
          exact go_lv [0, 1, 2, 3] rfl (j_Rd_runEnd_48 l d0 (L_Rd_runEnd_23 x2 x3 I n) x2 x3 x4 I h (fun z4 hh => ih z4 hh hX) hX)
def F_Rd_runEnd (x1 : Int32) (I : gb_Mem) : Option (Int32) :=
  fbd (F_Rd_charAt x1 I) fun r1 =>
  flt (F_Rd_isLetter r1 I) fun y2 =>
  fbd (F_Rd_charAt x1 I) fun r3 =>
  flt (F_Rd_isDigit r3 I) fun y4 =>
  fbd (L_Rd_runEnd_23 y2 y4 I 5000 (x1 + 1)) fun o7 =>
  some o7
set_option maxRecDepth 4000 in
theorem c_Rd_runEnd (l : Launch) (d0 : Nat) (x1 : Int32) (I : gb_Mem) {rz : Int32} (h : F_Rd_runEnd x1 I = some rz) : gb_Cs l yRd_runEnd (d0 + 2) [.inr (some 111), .inl x1] shX I (some (.inl rz)) I := by
  refine gb_Ct.of (lv := [(0, .inr (some 111)), (1, .inl x1)]) rfl (Nat.le_of_ble_eq_true rfl) rfl ?_
  unfold F_Rd_runEnd at h
  show gb_Go l yRd_runEnd (d0 + 2) 0 0 0 [(0, .inr (some 111)), (1, .inl x1)] [] shX I (gb_po shX (some (.inl rz)) I)
  refine go_aload_n (k := 0) d_Rd_runEnd_0 rfl rfl ?_
  refine go_iload_n (k := 1) d_Rd_runEnd_1 rfl rfl ?_
  obtain ⟨r1, w1, h⟩ := fbd_e h
  refine go_callV (y := yRd_charAt) (asr := [.inl x1]) (v := some (.inl r1)) (I' := I) (st1 := [.inl r1]) d_Rd_runEnd_2 s_yRd_charAt m_Rd_137 a_X_111 rfl rfl rfl (Nat.le_of_ble_eq_true rfl) rfl rfl (c_Rd_charAt l (d0 + 0) x1 I w1) ?_
  refine go_callS (y := yRd_isLetter) (asr := [.inl r1]) (v := some (.inl (F_Rd_isLetter r1 I))) (I' := I) (st1 := [.inl (F_Rd_isLetter r1 I)]) d_Rd_runEnd_5 s_yRd_isLetter m_Rd_146 rfl (Nat.le_of_ble_eq_true rfl) rfl rfl (c_Rd_isLetter l (d0 + 0) r1 I) ?_
  obtain ⟨y2, ey2, h⟩ := flt_e h
  refine go_top ey2 ?_
  refine go_istore_n (lv' := [(2, .inl y2), (0, .inr (some 111)), (1, .inl x1)]) d_Rd_runEnd_8 rfl (by decide) rfl ?_
  refine go_aload_n (k := 1) d_Rd_runEnd_9 rfl rfl ?_
  refine go_iload_n (k := 2) d_Rd_runEnd_10 rfl rfl ?_
  obtain ⟨r3, w1, h⟩ := fbd_e h
  refine go_callV (y := yRd_charAt) (asr := [.inl x1]) (v := some (.inl r3)) (I' := I) (st1 := [.inl r3]) d_Rd_runEnd_11 s_yRd_charAt m_Rd_137 a_X_111 rfl rfl rfl (Nat.le_of_ble_eq_true rfl) rfl rfl (c_Rd_charAt l (d0 + 0) x1 I w1) ?_
  refine go_callS (y := yRd_isDigit) (asr := [.inl r3]) (v := some (.inl (F_Rd_isDigit r3 I))) (I' := I) (st1 := [.inl (F_Rd_isDigit r3 I)]) d_Rd_runEnd_14 s_yRd_isDigit m_Rd_150 rfl (Nat.le_of_ble_eq_true rfl) rfl rfl (c_Rd_isDigit l (d0 + 0) r3 I) ?_
  obtain ⟨y4, ey4, h⟩ := flt_e h
  refine go_top ey4 ?_
  refine go_istore_n (lv' := [(3, .inl y4), (2, .inl y2), (0, .inr (some 111)), (1, .inl x1)]) d_Rd_runEnd_17 rfl (by decide) rfl ?_
  refine go_iload_n (k := 3) d_Rd_runEnd_18 rfl rfl ?_
  refine go_iconst (v := 1) d_Rd_runEnd_19 (by decide) ?_
  refine go_iadd d_Rd_runEnd_20 ?_
  refine go_istore (lv' := [(4, .inl (x1 + 1)), (3, .inl y4), (2, .inl y2), (0, .inr (some 111)), (1, .inl x1)]) d_Rd_runEnd_21 (by decide) rfl ?_
  refine go_lv [3, 2, 1, 0] (lv' := [(0, .inr (some 111)), (2, .inl y2), (3, .inl y4), (4, .inl (x1 + 1))]) rfl ?_
  obtain ⟨o7, w1, h⟩ := fbd_e h
  refine l_Rd_runEnd_23 l d0 y2 y4 I 5000 (x1 + 1) w1 (fun o7_ e => ?_)
  cases e
  refine go_iload (k := 0) d_Rd_runEnd_70 rfl ?_
  cases h
  exact go_ireturn d_Rd_runEnd_72 rfl gb_po_i
theorem d_Re_believed_0 : decode yRe_believed.2.1 0 = .ok (.iconst 0, 1) := by decide +kernel
theorem d_Re_believed_1 : decode yRe_believed.2.1 1 = .ok (.istore_n 3, 1) := by decide +kernel
theorem d_Re_believed_2 : decode yRe_believed.2.1 2 = .ok (.iconst 0, 1) := by decide +kernel
theorem d_Re_believed_3 : decode yRe_believed.2.1 3 = .ok (.istore 4, 2) := by decide +kernel
theorem d_Re_believed_5 : decode yRe_believed.2.1 5 = .ok (.iconst 0, 1) := by decide +kernel
theorem d_Re_believed_6 : decode yRe_believed.2.1 6 = .ok (.istore 5, 2) := by decide +kernel
theorem d_Re_believed_8 : decode yRe_believed.2.1 8 = .ok (.iload 5, 2) := by decide +kernel
theorem d_Re_believed_10 : decode yRe_believed.2.1 10 = .ok (.bipush 100, 2) := by decide +kernel
theorem d_Re_believed_12 : decode yRe_believed.2.1 12 = .ok (.if_icmp .ge 75, 3) := by decide +kernel
theorem d_Re_believed_15 : decode yRe_believed.2.1 15 = .ok (.iconst 0, 1) := by decide +kernel
theorem d_Re_believed_16 : decode yRe_believed.2.1 16 = .ok (.istore 6, 2) := by decide +kernel
theorem d_Re_believed_18 : decode yRe_believed.2.1 18 = .ok (.iconst 0, 1) := by decide +kernel
theorem d_Re_believed_19 : decode yRe_believed.2.1 19 = .ok (.istore 7, 2) := by decide +kernel
theorem d_Re_believed_21 : decode yRe_believed.2.1 21 = .ok (.iload 7, 2) := by decide +kernel
theorem d_Re_believed_23 : decode yRe_believed.2.1 23 = .ok (.aload_n 1, 1) := by decide +kernel
theorem d_Re_believed_24 : decode yRe_believed.2.1 24 = .ok (.getfield 21, 3) := by decide +kernel
theorem d_Re_believed_27 : decode yRe_believed.2.1 27 = .ok (.if_icmp .ge 41, 3) := by decide +kernel
theorem d_Re_believed_30 : decode yRe_believed.2.1 30 = .ok (.iload 6, 2) := by decide +kernel
theorem d_Re_believed_32 : decode yRe_believed.2.1 32 = .ok (.iload 5, 2) := by decide +kernel
theorem d_Re_believed_34 : decode yRe_believed.2.1 34 = .ok (.aload_n 1, 1) := by decide +kernel
theorem d_Re_believed_35 : decode yRe_believed.2.1 35 = .ok (.iload 7, 2) := by decide +kernel
theorem d_Re_believed_37 : decode yRe_believed.2.1 37 = .ok (.iconst 0, 1) := by decide +kernel
theorem d_Re_believed_38 : decode yRe_believed.2.1 38 = .ok (.invokevirtual 36, 3) := by decide +kernel
theorem d_Re_believed_41 : decode yRe_believed.2.1 41 = .ok (.aload_n 1, 1) := by decide +kernel
theorem d_Re_believed_42 : decode yRe_believed.2.1 42 = .ok (.iload 7, 2) := by decide +kernel
theorem d_Re_believed_44 : decode yRe_believed.2.1 44 = .ok (.iconst 1, 1) := by decide +kernel
theorem d_Re_believed_45 : decode yRe_believed.2.1 45 = .ok (.invokevirtual 36, 3) := by decide +kernel
theorem d_Re_believed_48 : decode yRe_believed.2.1 48 = .ok (.invokestatic 46, 3) := by decide +kernel
theorem d_Re_believed_51 : decode yRe_believed.2.1 51 = .ok (.ifCond .eq 7, 3) := by decide +kernel
theorem d_Re_believed_54 : decode yRe_believed.2.1 54 = .ok (.iconst 1, 1) := by decide +kernel
theorem d_Re_believed_55 : decode yRe_believed.2.1 55 = .ok (.goto 4, 3) := by decide +kernel
theorem d_Re_believed_58 : decode yRe_believed.2.1 58 = .ok (.iconst 0, 1) := by decide +kernel
theorem d_Re_believed_59 : decode yRe_believed.2.1 59 = .ok (.iadd, 1) := by decide +kernel
theorem d_Re_believed_60 : decode yRe_believed.2.1 60 = .ok (.istore 6, 2) := by decide +kernel
theorem d_Re_believed_62 : decode yRe_believed.2.1 62 = .ok (.iinc 7 1, 3) := by decide +kernel
theorem d_Re_believed_65 : decode yRe_believed.2.1 65 = .ok (.goto (-44), 3) := by decide +kernel
theorem d_Re_believed_68 : decode yRe_believed.2.1 68 = .ok (.iload 6, 2) := by decide +kernel
theorem d_Re_believed_70 : decode yRe_believed.2.1 70 = .ok (.iload_n 3, 1) := by decide +kernel
theorem d_Re_believed_71 : decode yRe_believed.2.1 71 = .ok (.if_icmp .le 10, 3) := by decide +kernel
theorem d_Re_believed_74 : decode yRe_believed.2.1 74 = .ok (.iload 6, 2) := by decide +kernel
theorem d_Re_believed_76 : decode yRe_believed.2.1 76 = .ok (.istore_n 3, 1) := by decide +kernel
theorem d_Re_believed_77 : decode yRe_believed.2.1 77 = .ok (.iload 5, 2) := by decide +kernel
theorem d_Re_believed_79 : decode yRe_believed.2.1 79 = .ok (.istore 4, 2) := by decide +kernel
theorem d_Re_believed_81 : decode yRe_believed.2.1 81 = .ok (.iinc 5 1, 3) := by decide +kernel
theorem d_Re_believed_84 : decode yRe_believed.2.1 84 = .ok (.goto (-76), 3) := by decide +kernel
theorem d_Re_believed_87 : decode yRe_believed.2.1 87 = .ok (.iload_n 2, 1) := by decide +kernel
theorem d_Re_believed_88 : decode yRe_believed.2.1 88 = .ok (.ifCond .eq 7, 3) := by decide +kernel
theorem d_Re_believed_91 : decode yRe_believed.2.1 91 = .ok (.iload_n 3, 1) := by decide +kernel
theorem d_Re_believed_92 : decode yRe_believed.2.1 92 = .ok (.goto 5, 3) := by decide +kernel
theorem d_Re_believed_95 : decode yRe_believed.2.1 95 = .ok (.iload 4, 2) := by decide +kernel
theorem d_Re_believed_97 : decode yRe_believed.2.1 97 = .ok (.ireturn, 1) := by decide +kernel
def J_Re_believed_59 (h1 n1 : Nat) (k : Int32 → Int32 → Option (Int32)) (x2 x3 x4 x5 x7 s0 s1 : Int32) (I : gb_Mem) : Option (Int32) :=
  k (s1 + s0) (x7 + 1)
set_option maxRecDepth 4000 in
theorem j_Re_believed_59 (l : Launch) (d0 : Nat) (h1 n1 : Nat) (H1 : isRo h1 n1) {post : Option gb_AV → List gb_Ce → gb_Mem → Prop} (k : Int32 → Int32 → Option (Int32)) (x2 x3 x4 x5 x7 s0 s1 : Int32) (I : gb_Mem) {ρ : Int32} (h : J_Re_believed_59 h1 n1 k x2 x3 x4 x5 x7 s0 s1 I = some ρ) (hk : ∀ (z6 z7 : Int32), k z6 z7 = some ρ → gb_Go l yRe_believed (d0 + 2) 0 0 21 [(1, .inr (some h1)), (2, .inl x2), (3, .inl x3), (4, .inl x4), (5, .inl x5), (6, .inl z6), (7, .inl z7)] [] shX I post) (hX : ∀ (o6 : Int32), ρ = o6 → gb_Go l yRe_believed (d0 + 2) 0 0 68 [(1, .inr (some h1)), (2, .inl x2), (3, .inl x3), (4, .inl x4), (5, .inl x5), (6, .inl o6)] [] shX I post) : gb_Go l yRe_believed (d0 + 2) 0 0 59 [(1, .inr (some h1)), (2, .inl x2), (3, .inl x3), (4, .inl x4), (5, .inl x5), (7, .inl x7)] [.inl s0, .inl s1] shX I post := by
  unfold J_Re_believed_59 at h
  refine go_iadd d_Re_believed_59 ?_
  refine go_istore (lv' := [(6, .inl (s1 + s0)), (1, .inr (some h1)), (2, .inl x2), (3, .inl x3), (4, .inl x4), (5, .inl x5), (7, .inl x7)]) d_Re_believed_60 (by decide) rfl ?_
  refine go_iinc (k := 6) (v := x7 + 1) (lv' := [(7, .inl (x7 + 1)), (6, .inl (s1 + s0)), (1, .inr (some h1)), (2, .inl x2), (3, .inl x3), (4, .inl x4), (5, .inl x5)]) d_Re_believed_62 rfl rfl (by decide) rfl ?_
  refine go_goto (tgt := 21) d_Re_believed_65 (by decide) ?_
  exact go_lv [2, 3, 4, 5, 6, 1, 0] rfl (hk _ _ h)
def L_Re_believed_21 (h1 n1 : Nat) (x2 x3 x4 x5 : Int32) (I : gb_Mem) : Nat → Int32 → Int32 → Option (Int32)
  | 0, _, _ => none
  | n + 1, x6, x7 =>
    if (I h1 2) ≤ x7 then
      some x6
    else
      fbd (F_Ro_cell h1 n1 x7 0 I) fun r1 =>
      fbd (F_Ro_cell h1 n1 x7 1 I) fun r2 =>
      if (F_Gb_within x5 r1 r2 I) = 0 then
        J_Re_believed_59 h1 n1 (L_Re_believed_21 h1 n1 x2 x3 x4 x5 I n) x2 x3 x4 x5 x7 0 x6 I
      else
        J_Re_believed_59 h1 n1 (L_Re_believed_21 h1 n1 x2 x3 x4 x5 I n) x2 x3 x4 x5 x7 1 x6 I
set_option maxRecDepth 4000 in
theorem l_Re_believed_21 (l : Launch) (d0 : Nat) (h1 n1 : Nat) (H1 : isRo h1 n1) (x2 x3 x4 x5 : Int32) (I : gb_Mem) {post : Option gb_AV → List gb_Ce → gb_Mem → Prop} : ∀ (n : Nat) (x6 x7 : Int32) {ρ : Int32} (h : L_Re_believed_21 h1 n1 x2 x3 x4 x5 I n x6 x7 = some ρ) (hX : ∀ (o6 : Int32), ρ = o6 → gb_Go l yRe_believed (d0 + 2) 0 0 68 [(1, .inr (some h1)), (2, .inl x2), (3, .inl x3), (4, .inl x4), (5, .inl x5), (6, .inl o6)] [] shX I post) , gb_Go l yRe_believed (d0 + 2) 0 0 21 [(1, .inr (some h1)), (2, .inl x2), (3, .inl x3), (4, .inl x4), (5, .inl x5), (6, .inl x6), (7, .inl x7)] [] shX I post := by
  intro n
  induction n with
  | zero => intro x6 x7 ρ h hX; cases h
  | succ n ih =>
    intro x6 x7 ρ h hX
    rw [L_Re_believed_21] at h
    refine go_iload (k := 6) d_Re_believed_21 rfl ?_
    refine go_aload_n (k := 0) d_Re_believed_23 rfl rfl ?_
    refine go_getiN (ci := 4) (k := 2) d_Re_believed_24 H1.1 rfl (by decide) f_Re_21 rfl ?_
    refine go_cmp_ge (tgt := 68) d_Re_believed_27 (by decide) (fun hc => ?_) (fun hc => ?_)
    · rw [if_pos hc] at h
      exact go_lv [0, 1, 2, 3, 4, 5] rfl (hX _ (Option.some.inj h).symm)
    · rw [if_neg hc] at h
      refine go_iload (k := 5) d_Re_believed_30 rfl ?_
      refine go_iload (k := 4) d_Re_believed_32 rfl ?_
      refine go_aload_n (k := 0) d_Re_believed_34 rfl rfl ?_
      refine go_iload (k := 6) d_Re_believed_35 rfl ?_
      refine go_iconst (v := 0) d_Re_believed_37 (by decide) ?_
      obtain ⟨r1, w1, h⟩ := fbd_e h
      refine go_callV (y := yRo_cell) (asr := [.inl x7, .inl 0]) (v := some (.inl r1)) (I' := I) (st1 := [.inl r1, .inl x5, .inl x6]) d_Re_believed_38 s_yRo_cell m_Re_36 H1.1 rfl rfl rfl (Nat.le_of_ble_eq_true rfl) rfl rfl (c_Ro_cell l (d0 + 0) h1 n1 H1 x7 0 I w1) ?_
      refine go_aload_n (k := 0) d_Re_believed_41 rfl rfl ?_
      refine go_iload (k := 6) d_Re_believed_42 rfl ?_
      refine go_iconst (v := 1) d_Re_believed_44 (by decide) ?_
      obtain ⟨r2, w1, h⟩ := fbd_e h
      refine go_callV (y := yRo_cell) (asr := [.inl x7, .inl 1]) (v := some (.inl r2)) (I' := I) (st1 := [.inl r2, .inl r1, .inl x5, .inl x6]) d_Re_believed_45 s_yRo_cell m_Re_36 H1.1 rfl rfl rfl (Nat.le_of_ble_eq_true rfl) rfl rfl (c_Ro_cell l (d0 + 0) h1 n1 H1 x7 1 I w1) ?_
      refine go_callSN (y := yGb_within) (asr := [.inl x5, .inl r1, .inl r2]) (v := some (.inl (F_Gb_within x5 r1 r2 I))) (I' := I) (st1 := [.inl (F_Gb_within x5 r1 r2 I), .inl x6]) d_Re_believed_48 s_yGb_within m_Re_46 rfl (Nat.le_of_ble_eq_true rfl) rfl rfl (c_Gb_within l (d0 + 1) x5 r1 r2 I) ?_
      refine go_if_eq (tgt := 58) d_Re_believed_51 (by decide) (fun hc => ?_) (fun hc => ?_)
      · rw [if_pos hc] at h
        refine go_iconst (v := 0) d_Re_believed_58 (by decide) ?_
        exact go_lv [0, 1, 2, 3, 4, 6] rfl (j_Re_believed_59 l d0 h1 n1 H1 (L_Re_believed_21 h1 n1 x2 x3 x4 x5 I n) x2 x3 x4 x5 x7 0 x6 I h (fun z6 z7 hh => ih z6 z7 hh hX) hX)
      · rw [if_neg hc] at h
        refine go_iconst (v := 1) d_Re_believed_54 (by decide) ?_
        refine go_goto (tgt := 59) d_Re_believed_55 (by decide) ?_
        exact go_lv [0, 1, 2, 3, 4, 6] rfl (j_Re_believed_59 l d0 h1 n1 H1 (L_Re_believed_21 h1 n1 x2 x3 x4 x5 I n) x2 x3 x4 x5 x7 1 x6 I h (fun z6 z7 hh => ih z6 z7 hh hX) hX)
def J_Re_believed_81 (h1 n1 : Nat) (k : Int32 → Int32 → Int32 → Option (Int32 × Int32)) (x2 x3 x4 x5 : Int32) (I : gb_Mem) : Option (Int32 × Int32) :=
  k x3 x4 (x5 + 1)
set_option maxRecDepth 4000 in
theorem j_Re_believed_81 (l : Launch) (d0 : Nat) (h1 n1 : Nat) (H1 : isRo h1 n1) {post : Option gb_AV → List gb_Ce → gb_Mem → Prop} (k : Int32 → Int32 → Int32 → Option (Int32 × Int32)) (x2 x3 x4 x5 : Int32) (I : gb_Mem) {ρ : Int32 × Int32} (h : J_Re_believed_81 h1 n1 k x2 x3 x4 x5 I = some ρ) (hk : ∀ (z3 z4 z5 : Int32), k z3 z4 z5 = some ρ → gb_Go l yRe_believed (d0 + 2) 0 0 8 [(1, .inr (some h1)), (2, .inl x2), (3, .inl z3), (4, .inl z4), (5, .inl z5)] [] shX I post) (hX : ∀ (o3 : Int32) (o4 : Int32), ρ = (o3, o4) → gb_Go l yRe_believed (d0 + 2) 0 0 87 [(2, .inl x2), (3, .inl o3), (4, .inl o4)] [] shX I post) : gb_Go l yRe_believed (d0 + 2) 0 0 81 [(1, .inr (some h1)), (2, .inl x2), (3, .inl x3), (4, .inl x4), (5, .inl x5)] [] shX I post := by
  unfold J_Re_believed_81 at h
  refine go_iinc (k := 4) (v := x5 + 1) (lv' := [(5, .inl (x5 + 1)), (1, .inr (some h1)), (2, .inl x2), (3, .inl x3), (4, .inl x4)]) d_Re_believed_81 rfl rfl (by decide) rfl ?_
  refine go_goto (tgt := 8) d_Re_believed_84 (by decide) ?_
  exact go_lv [1, 2, 3, 4, 0] rfl (hk _ _ _ h)
def L_Re_believed_8 (h1 n1 : Nat) (x2 : Int32) (I : gb_Mem) : Nat → Int32 → Int32 → Int32 → Option (Int32 × Int32)
  | 0, _, _, _ => none
  | n + 1, x3, x4, x5 =>
    if 100 ≤ x5 then
      some (x3, x4)
    else
      fbd (L_Re_believed_21 h1 n1 x2 x3 x4 x5 I 5000 0 0) fun o3 =>
      if o3 ≤ x3 then
        J_Re_believed_81 h1 n1 (L_Re_believed_8 h1 n1 x2 I n) x2 x3 x4 x5 I
      else
        J_Re_believed_81 h1 n1 (L_Re_believed_8 h1 n1 x2 I n) x2 o3 x5 x5 I
set_option maxRecDepth 4000 in
theorem l_Re_believed_8 (l : Launch) (d0 : Nat) (h1 n1 : Nat) (H1 : isRo h1 n1) (x2 : Int32) (I : gb_Mem) {post : Option gb_AV → List gb_Ce → gb_Mem → Prop} : ∀ (n : Nat) (x3 x4 x5 : Int32) {ρ : Int32 × Int32} (h : L_Re_believed_8 h1 n1 x2 I n x3 x4 x5 = some ρ) (hX : ∀ (o3 : Int32) (o4 : Int32), ρ = (o3, o4) → gb_Go l yRe_believed (d0 + 2) 0 0 87 [(2, .inl x2), (3, .inl o3), (4, .inl o4)] [] shX I post) , gb_Go l yRe_believed (d0 + 2) 0 0 8 [(1, .inr (some h1)), (2, .inl x2), (3, .inl x3), (4, .inl x4), (5, .inl x5)] [] shX I post := by
  intro n
  induction n with
  | zero => intro x3 x4 x5 ρ h hX; cases h
  | succ n ih =>
    intro x3 x4 x5 ρ h hX
    rw [L_Re_believed_8] at h
    refine go_iload (k := 4) d_Re_believed_8 rfl ?_
    refine go_bipush (v := 100) d_Re_believed_10 (by decide) ?_
    refine go_cmp_ge (tgt := 87) d_Re_believed_12 (by decide) (fun hc => ?_) (fun hc => ?_)
    · rw [if_pos hc] at h
      exact go_lv [1, 2, 3] rfl (hX _ _ (Option.some.inj h).symm)
    · rw [if_neg hc] at h
      refine go_iconst (v := 0) d_Re_believed_15 (by decide) ?_
      refine go_istore (lv' := [(6, .inl 0), (1, .inr (some h1)), (2, .inl x2), (3, .inl x3), (4, .inl x4), (5, .inl x5)]) d_Re_believed_16 (by decide) rfl ?_
      refine go_iconst (v := 0) d_Re_believed_18 (by decide) ?_
      refine go_istore (lv' := [(7, .inl 0), (6, .inl 0), (1, .inr (some h1)), (2, .inl x2), (3, .inl x3), (4, .inl x4), (5, .inl x5)]) d_Re_believed_19 (by decide) rfl ?_
      refine go_lv [2, 3, 4, 5, 6, 1, 0] (lv' := [(1, .inr (some h1)), (2, .inl x2), (3, .inl x3), (4, .inl x4), (5, .inl x5), (6, .inl 0), (7, .inl 0)]) rfl ?_
      obtain ⟨o3, w1, h⟩ := fbd_e h
      refine l_Re_believed_21 l d0 h1 n1 H1 x2 x3 x4 x5 I 5000 0 0 w1 (fun o3_ e => ?_)
      cases e
      refine go_iload (k := 5) d_Re_believed_68 rfl ?_
      refine go_iload_n (k := 2) d_Re_believed_70 rfl rfl ?_
      refine go_cmp_le (tgt := 81) d_Re_believed_71 (by decide) (fun hc => ?_) (fun hc => ?_)
      · rw [if_pos hc] at h
        exact go_lv [0, 1, 2, 3, 4] rfl (j_Re_believed_81 l d0 h1 n1 H1 (L_Re_believed_8 h1 n1 x2 I n) x2 x3 x4 x5 I h (fun z3 z4 z5 hh => ih z3 z4 z5 hh hX) hX)
      · rw [if_neg hc] at h
        refine go_iload (k := 5) d_Re_believed_74 rfl ?_
        refine go_istore_n (lv' := [(3, .inl o3), (1, .inr (some h1)), (2, .inl x2), (4, .inl x4), (5, .inl x5), (6, .inl o3)]) d_Re_believed_76 rfl (by decide) rfl ?_
        refine go_iload (k := 4) d_Re_believed_77 rfl ?_
        refine go_istore (lv' := [(4, .inl x5), (3, .inl o3), (1, .inr (some h1)), (2, .inl x2), (5, .inl x5), (6, .inl o3)]) d_Re_believed_79 (by decide) rfl ?_
        exact go_lv [2, 3, 1, 0, 4] rfl (j_Re_believed_81 l d0 h1 n1 H1 (L_Re_believed_8 h1 n1 x2 I n) x2 o3 x5 x5 I h (fun z3 z4 z5 hh => ih z3 z4 z5 hh hX) hX)
def F_Re_believed (h1 n1 : Nat) (x2 : Int32) (I : gb_Mem) : Option (Int32) :=
  fbd (L_Re_believed_8 h1 n1 x2 I 5000 0 0 0) fun (o4, o5) =>
  if x2 = 0 then
    some o5
  else
    some o4
set_option maxRecDepth 4000 in
theorem c_Re_believed (l : Launch) (d0 : Nat) (h1 n1 : Nat) (H1 : isRo h1 n1) (x2 : Int32) (I : gb_Mem) {rz : Int32} (h : F_Re_believed h1 n1 x2 I = some rz) : gb_Cs l yRe_believed (d0 + 2) [.inr (some 106), .inr (some h1), .inl x2] shX I (some (.inl rz)) I := by
  refine gb_Ct.of (lv := [(0, .inr (some 106)), (1, .inr (some h1)), (2, .inl x2)]) rfl (Nat.le_of_ble_eq_true rfl) rfl ?_
  unfold F_Re_believed at h
  show gb_Go l yRe_believed (d0 + 2) 0 0 0 [(0, .inr (some 106)), (1, .inr (some h1)), (2, .inl x2)] [] shX I (gb_po shX (some (.inl rz)) I)
  refine go_iconst (v := 0) d_Re_believed_0 (by decide) ?_
  refine go_istore_n (lv' := [(3, .inl 0), (0, .inr (some 106)), (1, .inr (some h1)), (2, .inl x2)]) d_Re_believed_1 rfl (by decide) rfl ?_
  refine go_iconst (v := 0) d_Re_believed_2 (by decide) ?_
  refine go_istore (lv' := [(4, .inl 0), (3, .inl 0), (0, .inr (some 106)), (1, .inr (some h1)), (2, .inl x2)]) d_Re_believed_3 (by decide) rfl ?_
  refine go_iconst (v := 0) d_Re_believed_5 (by decide) ?_
  refine go_istore (lv' := [(5, .inl 0), (4, .inl 0), (3, .inl 0), (0, .inr (some 106)), (1, .inr (some h1)), (2, .inl x2)]) d_Re_believed_6 (by decide) rfl ?_
  refine go_lv [4, 5, 2, 1, 0] (lv' := [(1, .inr (some h1)), (2, .inl x2), (3, .inl 0), (4, .inl 0), (5, .inl 0)]) rfl ?_
  obtain ⟨⟨o4, o5⟩, w1, h⟩ := fbd_e h
  try dsimp only at h
  refine l_Re_believed_8 l d0 h1 n1 H1 x2 I 5000 0 0 0 w1 (fun o4_ o5_ e => ?_)
  cases e
  refine go_iload_n (k := 0) d_Re_believed_87 rfl rfl ?_
  refine go_if_eq (tgt := 95) d_Re_believed_88 (by decide) (fun hc => ?_) (fun hc => ?_)
  · rw [if_pos hc] at h
    refine go_iload (k := 2) d_Re_believed_95 rfl ?_
    cases h
    exact go_ireturn d_Re_believed_97 rfl gb_po_i
  · rw [if_neg hc] at h
    refine go_iload_n (k := 1) d_Re_believed_91 rfl rfl ?_
    refine go_goto (tgt := 97) d_Re_believed_92 (by decide) ?_
    cases h
    exact go_ireturn d_Re_believed_97 rfl gb_po_i
theorem d_Re_changesBetween_0 : decode yRe_changesBetween.2.1 0 = .ok (.iconst 0, 1) := by decide +kernel
theorem d_Re_changesBetween_1 : decode yRe_changesBetween.2.1 1 = .ok (.istore_n 3, 1) := by decide +kernel
theorem d_Re_changesBetween_2 : decode yRe_changesBetween.2.1 2 = .ok (.iload_n 3, 1) := by decide +kernel
theorem d_Re_changesBetween_3 : decode yRe_changesBetween.2.1 3 = .ok (.aload_n 1, 1) := by decide +kernel
theorem d_Re_changesBetween_4 : decode yRe_changesBetween.2.1 4 = .ok (.getfield 21, 3) := by decide +kernel
theorem d_Re_changesBetween_7 : decode yRe_changesBetween.2.1 7 = .ok (.if_icmp .gt 137, 3) := by decide +kernel
theorem d_Re_changesBetween_10 : decode yRe_changesBetween.2.1 10 = .ok (.iload_n 3, 1) := by decide +kernel
theorem d_Re_changesBetween_11 : decode yRe_changesBetween.2.1 11 = .ok (.bipush 12, 2) := by decide +kernel
theorem d_Re_changesBetween_13 : decode yRe_changesBetween.2.1 13 = .ok (.if_icmp .gt 131, 3) := by decide +kernel
theorem d_Re_changesBetween_16 : decode yRe_changesBetween.2.1 16 = .ok (.iconst 0, 1) := by decide +kernel
theorem d_Re_changesBetween_17 : decode yRe_changesBetween.2.1 17 = .ok (.istore 4, 2) := by decide +kernel
theorem d_Re_changesBetween_19 : decode yRe_changesBetween.2.1 19 = .ok (.iload 4, 2) := by decide +kernel
theorem d_Re_changesBetween_21 : decode yRe_changesBetween.2.1 21 = .ok (.aload_n 2, 1) := by decide +kernel
theorem d_Re_changesBetween_22 : decode yRe_changesBetween.2.1 22 = .ok (.getfield 21, 3) := by decide +kernel
theorem d_Re_changesBetween_25 : decode yRe_changesBetween.2.1 25 = .ok (.if_icmp .gt 113, 3) := by decide +kernel
theorem d_Re_changesBetween_28 : decode yRe_changesBetween.2.1 28 = .ok (.iload 4, 2) := by decide +kernel
theorem d_Re_changesBetween_30 : decode yRe_changesBetween.2.1 30 = .ok (.bipush 12, 2) := by decide +kernel
theorem d_Re_changesBetween_32 : decode yRe_changesBetween.2.1 32 = .ok (.if_icmp .gt 106, 3) := by decide +kernel
theorem d_Re_changesBetween_35 : decode yRe_changesBetween.2.1 35 = .ok (.iload_n 3, 1) := by decide +kernel
theorem d_Re_changesBetween_36 : decode yRe_changesBetween.2.1 36 = .ok (.iload 4, 2) := by decide +kernel
theorem d_Re_changesBetween_38 : decode yRe_changesBetween.2.1 38 = .ok (.iadd, 1) := by decide +kernel
theorem d_Re_changesBetween_39 : decode yRe_changesBetween.2.1 39 = .ok (.istore 5, 2) := by decide +kernel
theorem d_Re_changesBetween_41 : decode yRe_changesBetween.2.1 41 = .ok (.iload_n 3, 1) := by decide +kernel
theorem d_Re_changesBetween_42 : decode yRe_changesBetween.2.1 42 = .ok (.ifCond .le 81, 3) := by decide +kernel
theorem d_Re_changesBetween_45 : decode yRe_changesBetween.2.1 45 = .ok (.iload 4, 2) := by decide +kernel
theorem d_Re_changesBetween_47 : decode yRe_changesBetween.2.1 47 = .ok (.ifCond .le 76, 3) := by decide +kernel
theorem d_Re_changesBetween_50 : decode yRe_changesBetween.2.1 50 = .ok (.aload_n 1, 1) := by decide +kernel
theorem d_Re_changesBetween_51 : decode yRe_changesBetween.2.1 51 = .ok (.iload_n 3, 1) := by decide +kernel
theorem d_Re_changesBetween_52 : decode yRe_changesBetween.2.1 52 = .ok (.iconst 1, 1) := by decide +kernel
theorem d_Re_changesBetween_53 : decode yRe_changesBetween.2.1 53 = .ok (.isub, 1) := by decide +kernel
theorem d_Re_changesBetween_54 : decode yRe_changesBetween.2.1 54 = .ok (.iconst 0, 1) := by decide +kernel
theorem d_Re_changesBetween_55 : decode yRe_changesBetween.2.1 55 = .ok (.invokevirtual 36, 3) := by decide +kernel
theorem d_Re_changesBetween_58 : decode yRe_changesBetween.2.1 58 = .ok (.aload_n 2, 1) := by decide +kernel
theorem d_Re_changesBetween_59 : decode yRe_changesBetween.2.1 59 = .ok (.iload 4, 2) := by decide +kernel
theorem d_Re_changesBetween_61 : decode yRe_changesBetween.2.1 61 = .ok (.iconst 1, 1) := by decide +kernel
theorem d_Re_changesBetween_62 : decode yRe_changesBetween.2.1 62 = .ok (.isub, 1) := by decide +kernel
theorem d_Re_changesBetween_63 : decode yRe_changesBetween.2.1 63 = .ok (.iconst 0, 1) := by decide +kernel
theorem d_Re_changesBetween_64 : decode yRe_changesBetween.2.1 64 = .ok (.invokevirtual 36, 3) := by decide +kernel
theorem d_Re_changesBetween_67 : decode yRe_changesBetween.2.1 67 = .ok (.if_icmp .ne 7, 3) := by decide +kernel
theorem d_Re_changesBetween_70 : decode yRe_changesBetween.2.1 70 = .ok (.iconst 0, 1) := by decide +kernel
theorem d_Re_changesBetween_71 : decode yRe_changesBetween.2.1 71 = .ok (.goto 4, 3) := by decide +kernel
theorem d_Re_changesBetween_74 : decode yRe_changesBetween.2.1 74 = .ok (.iconst 1, 1) := by decide +kernel
theorem d_Re_changesBetween_75 : decode yRe_changesBetween.2.1 75 = .ok (.istore 6, 2) := by decide +kernel
theorem d_Re_changesBetween_77 : decode yRe_changesBetween.2.1 77 = .ok (.aload_n 0, 1) := by decide +kernel
theorem d_Re_changesBetween_78 : decode yRe_changesBetween.2.1 78 = .ok (.iload_n 3, 1) := by decide +kernel
theorem d_Re_changesBetween_79 : decode yRe_changesBetween.2.1 79 = .ok (.iconst 1, 1) := by decide +kernel
theorem d_Re_changesBetween_80 : decode yRe_changesBetween.2.1 80 = .ok (.isub, 1) := by decide +kernel
theorem d_Re_changesBetween_81 : decode yRe_changesBetween.2.1 81 = .ok (.iload 4, 2) := by decide +kernel
theorem d_Re_changesBetween_83 : decode yRe_changesBetween.2.1 83 = .ok (.invokevirtual 27, 3) := by decide +kernel
theorem d_Re_changesBetween_86 : decode yRe_changesBetween.2.1 86 = .ok (.aload_n 0, 1) := by decide +kernel
theorem d_Re_changesBetween_87 : decode yRe_changesBetween.2.1 87 = .ok (.iload_n 3, 1) := by decide +kernel
theorem d_Re_changesBetween_88 : decode yRe_changesBetween.2.1 88 = .ok (.iload 4, 2) := by decide +kernel
theorem d_Re_changesBetween_90 : decode yRe_changesBetween.2.1 90 = .ok (.iconst 1, 1) := by decide +kernel
theorem d_Re_changesBetween_91 : decode yRe_changesBetween.2.1 91 = .ok (.isub, 1) := by decide +kernel
theorem d_Re_changesBetween_92 : decode yRe_changesBetween.2.1 92 = .ok (.invokevirtual 27, 3) := by decide +kernel
theorem d_Re_changesBetween_95 : decode yRe_changesBetween.2.1 95 = .ok (.invokestatic 43, 3) := by decide +kernel
theorem d_Re_changesBetween_98 : decode yRe_changesBetween.2.1 98 = .ok (.iconst 1, 1) := by decide +kernel
theorem d_Re_changesBetween_99 : decode yRe_changesBetween.2.1 99 = .ok (.iadd, 1) := by decide +kernel
theorem d_Re_changesBetween_100 : decode yRe_changesBetween.2.1 100 = .ok (.istore 5, 2) := by decide +kernel
theorem d_Re_changesBetween_102 : decode yRe_changesBetween.2.1 102 = .ok (.iload 5, 2) := by decide +kernel
theorem d_Re_changesBetween_104 : decode yRe_changesBetween.2.1 104 = .ok (.aload_n 0, 1) := by decide +kernel
theorem d_Re_changesBetween_105 : decode yRe_changesBetween.2.1 105 = .ok (.iload_n 3, 1) := by decide +kernel
theorem d_Re_changesBetween_106 : decode yRe_changesBetween.2.1 106 = .ok (.iconst 1, 1) := by decide +kernel
theorem d_Re_changesBetween_107 : decode yRe_changesBetween.2.1 107 = .ok (.isub, 1) := by decide +kernel
theorem d_Re_changesBetween_108 : decode yRe_changesBetween.2.1 108 = .ok (.iload 4, 2) := by decide +kernel
theorem d_Re_changesBetween_110 : decode yRe_changesBetween.2.1 110 = .ok (.iconst 1, 1) := by decide +kernel
theorem d_Re_changesBetween_111 : decode yRe_changesBetween.2.1 111 = .ok (.isub, 1) := by decide +kernel
theorem d_Re_changesBetween_112 : decode yRe_changesBetween.2.1 112 = .ok (.invokevirtual 27, 3) := by decide +kernel
theorem d_Re_changesBetween_115 : decode yRe_changesBetween.2.1 115 = .ok (.iload 6, 2) := by decide +kernel
theorem d_Re_changesBetween_117 : decode yRe_changesBetween.2.1 117 = .ok (.iadd, 1) := by decide +kernel
theorem d_Re_changesBetween_118 : decode yRe_changesBetween.2.1 118 = .ok (.invokestatic 43, 3) := by decide +kernel
theorem d_Re_changesBetween_121 : decode yRe_changesBetween.2.1 121 = .ok (.istore 5, 2) := by decide +kernel
theorem d_Re_changesBetween_123 : decode yRe_changesBetween.2.1 123 = .ok (.aload_n 0, 1) := by decide +kernel
theorem d_Re_changesBetween_124 : decode yRe_changesBetween.2.1 124 = .ok (.iload_n 3, 1) := by decide +kernel
theorem d_Re_changesBetween_125 : decode yRe_changesBetween.2.1 125 = .ok (.iload 4, 2) := by decide +kernel
theorem d_Re_changesBetween_127 : decode yRe_changesBetween.2.1 127 = .ok (.iload 5, 2) := by decide +kernel
theorem d_Re_changesBetween_129 : decode yRe_changesBetween.2.1 129 = .ok (.invokevirtual 39, 3) := by decide +kernel
theorem d_Re_changesBetween_132 : decode yRe_changesBetween.2.1 132 = .ok (.iinc 4 1, 3) := by decide +kernel
theorem d_Re_changesBetween_135 : decode yRe_changesBetween.2.1 135 = .ok (.goto (-116), 3) := by decide +kernel
theorem d_Re_changesBetween_138 : decode yRe_changesBetween.2.1 138 = .ok (.iinc 3 1, 3) := by decide +kernel
theorem d_Re_changesBetween_141 : decode yRe_changesBetween.2.1 141 = .ok (.goto (-139), 3) := by decide +kernel
theorem d_Re_changesBetween_144 : decode yRe_changesBetween.2.1 144 = .ok (.aload_n 0, 1) := by decide +kernel
theorem d_Re_changesBetween_145 : decode yRe_changesBetween.2.1 145 = .ok (.aload_n 1, 1) := by decide +kernel
theorem d_Re_changesBetween_146 : decode yRe_changesBetween.2.1 146 = .ok (.getfield 21, 3) := by decide +kernel
theorem d_Re_changesBetween_149 : decode yRe_changesBetween.2.1 149 = .ok (.aload_n 2, 1) := by decide +kernel
theorem d_Re_changesBetween_150 : decode yRe_changesBetween.2.1 150 = .ok (.getfield 21, 3) := by decide +kernel
theorem d_Re_changesBetween_153 : decode yRe_changesBetween.2.1 153 = .ok (.invokevirtual 27, 3) := by decide +kernel
theorem d_Re_changesBetween_156 : decode yRe_changesBetween.2.1 156 = .ok (.ireturn, 1) := by decide +kernel
def J_Re_changesBetween_123 (h1 n1 h2 n2 : Nat) (k : Int32 → gb_Mem → Option (gb_Mem)) (x3 x4 x5 : Int32) (I : gb_Mem) : Option (gb_Mem) :=
  fbd (F_Re_putGrid x3 x4 x5 I) fun I1 =>
  k (x4 + 1) I1
set_option maxRecDepth 4000 in
theorem j_Re_changesBetween_123 (l : Launch) (d0 : Nat) (h1 n1 h2 n2 : Nat) (H1 : isRo h1 n1) (H2 : isRo h2 n2) {post : Option gb_AV → List gb_Ce → gb_Mem → Prop} (k : Int32 → gb_Mem → Option (gb_Mem)) (x3 x4 x5 : Int32) (I : gb_Mem) {ρ : gb_Mem} (h : J_Re_changesBetween_123 h1 n1 h2 n2 k x3 x4 x5 I = some ρ) (hk : ∀ (z4 : Int32) (Iw : gb_Mem), k z4 Iw = some ρ → gb_Go l yRe_changesBetween (d0 + 2) 0 0 19 [(0, .inr (some 106)), (1, .inr (some h1)), (2, .inr (some h2)), (3, .inl x3), (4, .inl z4)] [] shX Iw post) (hX : ∀ (I2 : gb_Mem), ρ = I2 → gb_Go l yRe_changesBetween (d0 + 2) 0 0 138 [(0, .inr (some 106)), (1, .inr (some h1)), (2, .inr (some h2)), (3, .inl x3)] [] shX I2 post) : gb_Go l yRe_changesBetween (d0 + 2) 0 0 123 [(0, .inr (some 106)), (1, .inr (some h1)), (2, .inr (some h2)), (3, .inl x3), (4, .inl x4), (5, .inl x5)] [] shX I post := by
  unfold J_Re_changesBetween_123 at h
  refine go_aload_n (k := 0) d_Re_changesBetween_123 rfl rfl ?_
  refine go_iload_n (k := 3) d_Re_changesBetween_124 rfl rfl ?_
  refine go_iload (k := 4) d_Re_changesBetween_125 rfl ?_
  refine go_iload (k := 5) d_Re_changesBetween_127 rfl ?_
  obtain ⟨I1, w1, h⟩ := fbd_e h
  refine go_callV (y := yRe_putGrid) (asr := [.inl x3, .inl x4, .inl x5]) (v := none) (I' := I1) (st1 := []) d_Re_changesBetween_129 s_yRe_putGrid m_Re_39 a_X_106 rfl rfl rfl (Nat.le_of_ble_eq_true rfl) rfl rfl (c_Re_putGrid l (d0 + 0) x3 x4 x5 I w1) ?_
  refine go_iinc (k := 4) (v := x4 + 1) (lv' := [(4, .inl (x4 + 1)), (0, .inr (some 106)), (1, .inr (some h1)), (2, .inr (some h2)), (3, .inl x3), (5, .inl x5)]) d_Re_changesBetween_132 rfl rfl (by decide) rfl ?_
  refine go_goto (tgt := 19) d_Re_changesBetween_135 (by decide) ?_
  exact go_lv [1, 2, 3, 4, 0] rfl (hk _ _ h)
def J_Re_changesBetween_75 (h1 n1 h2 n2 : Nat) (k : Int32 → gb_Mem → Option (gb_Mem)) (x3 x4 s0 : Int32) (I : gb_Mem) : Option (gb_Mem) :=
  fbd (F_Re_gridAt (x3 - 1) x4 I) fun r4 =>
  fbd (F_Re_gridAt x3 (x4 - 1) I) fun r5 =>
  fbd (F_Re_gridAt (x3 - 1) (x4 - 1) I) fun r6 =>
  flt (mn ((mn r4 r5) + 1) (r6 + s0)) fun y7 =>
  J_Re_changesBetween_123 h1 n1 h2 n2 k x3 x4 y7 I
set_option maxRecDepth 4000 in
theorem j_Re_changesBetween_75 (l : Launch) (d0 : Nat) (h1 n1 h2 n2 : Nat) (H1 : isRo h1 n1) (H2 : isRo h2 n2) {post : Option gb_AV → List gb_Ce → gb_Mem → Prop} (k : Int32 → gb_Mem → Option (gb_Mem)) (x3 x4 s0 : Int32) (I : gb_Mem) {ρ : gb_Mem} (h : J_Re_changesBetween_75 h1 n1 h2 n2 k x3 x4 s0 I = some ρ) (hk : ∀ (z4 : Int32) (Iw : gb_Mem), k z4 Iw = some ρ → gb_Go l yRe_changesBetween (d0 + 2) 0 0 19 [(0, .inr (some 106)), (1, .inr (some h1)), (2, .inr (some h2)), (3, .inl x3), (4, .inl z4)] [] shX Iw post) (hX : ∀ (I2 : gb_Mem), ρ = I2 → gb_Go l yRe_changesBetween (d0 + 2) 0 0 138 [(0, .inr (some 106)), (1, .inr (some h1)), (2, .inr (some h2)), (3, .inl x3)] [] shX I2 post) : gb_Go l yRe_changesBetween (d0 + 2) 0 0 75 [(0, .inr (some 106)), (1, .inr (some h1)), (2, .inr (some h2)), (3, .inl x3), (4, .inl x4)] [.inl s0] shX I post := by
  unfold J_Re_changesBetween_75 at h
  refine go_istore (lv' := [(6, .inl s0), (0, .inr (some 106)), (1, .inr (some h1)), (2, .inr (some h2)), (3, .inl x3), (4, .inl x4)]) d_Re_changesBetween_75 (by decide) rfl ?_
  refine go_aload_n (k := 1) d_Re_changesBetween_77 rfl rfl ?_
  refine go_iload_n (k := 4) d_Re_changesBetween_78 rfl rfl ?_
  refine go_iconst (v := 1) d_Re_changesBetween_79 (by decide) ?_
  refine go_isub d_Re_changesBetween_80 ?_
  refine go_iload (k := 5) d_Re_changesBetween_81 rfl ?_
  obtain ⟨r4, w1, h⟩ := fbd_e h
  refine go_callV (y := yRe_gridAt) (asr := [.inl (x3 - 1), .inl x4]) (v := some (.inl r4)) (I' := I) (st1 := [.inl r4]) d_Re_changesBetween_83 s_yRe_gridAt m_Re_27 a_X_106 rfl rfl rfl (Nat.le_of_ble_eq_true rfl) rfl rfl (c_Re_gridAt l (d0 + 0) (x3 - 1) x4 I w1) ?_
  refine go_aload_n (k := 1) d_Re_changesBetween_86 rfl rfl ?_
  refine go_iload_n (k := 4) d_Re_changesBetween_87 rfl rfl ?_
  refine go_iload (k := 5) d_Re_changesBetween_88 rfl ?_
  refine go_iconst (v := 1) d_Re_changesBetween_90 (by decide) ?_
  refine go_isub d_Re_changesBetween_91 ?_
  obtain ⟨r5, w1, h⟩ := fbd_e h
  refine go_callV (y := yRe_gridAt) (asr := [.inl x3, .inl (x4 - 1)]) (v := some (.inl r5)) (I' := I) (st1 := [.inl r5, .inl r4]) d_Re_changesBetween_92 s_yRe_gridAt m_Re_27 a_X_106 rfl rfl rfl (Nat.le_of_ble_eq_true rfl) rfl rfl (c_Re_gridAt l (d0 + 0) x3 (x4 - 1) I w1) ?_
  refine go_mmin d_Re_changesBetween_95 m_Re_43 (Nat.le_of_ble_eq_true rfl) ?_
  refine go_iconst (v := 1) d_Re_changesBetween_98 (by decide) ?_
  refine go_iadd d_Re_changesBetween_99 ?_
  refine go_istore (lv' := [(5, .inl ((mn r4 r5) + 1)), (6, .inl s0), (0, .inr (some 106)), (1, .inr (some h1)), (2, .inr (some h2)), (3, .inl x3), (4, .inl x4)]) d_Re_changesBetween_100 (by decide) rfl ?_
  refine go_iload (k := 0) d_Re_changesBetween_102 rfl ?_
  refine go_aload_n (k := 2) d_Re_changesBetween_104 rfl rfl ?_
  refine go_iload_n (k := 5) d_Re_changesBetween_105 rfl rfl ?_
  refine go_iconst (v := 1) d_Re_changesBetween_106 (by decide) ?_
  refine go_isub d_Re_changesBetween_107 ?_
  refine go_iload (k := 6) d_Re_changesBetween_108 rfl ?_
  refine go_iconst (v := 1) d_Re_changesBetween_110 (by decide) ?_
  refine go_isub d_Re_changesBetween_111 ?_
  obtain ⟨r6, w1, h⟩ := fbd_e h
  refine go_callV (y := yRe_gridAt) (asr := [.inl (x3 - 1), .inl (x4 - 1)]) (v := some (.inl r6)) (I' := I) (st1 := [.inl r6, .inl ((mn r4 r5) + 1)]) d_Re_changesBetween_112 s_yRe_gridAt m_Re_27 a_X_106 rfl rfl rfl (Nat.le_of_ble_eq_true rfl) rfl rfl (c_Re_gridAt l (d0 + 0) (x3 - 1) (x4 - 1) I w1) ?_
  refine go_iload (k := 1) d_Re_changesBetween_115 rfl ?_
  refine go_iadd d_Re_changesBetween_117 ?_
  refine go_mmin d_Re_changesBetween_118 m_Re_43 (Nat.le_of_ble_eq_true rfl) ?_
  obtain ⟨y7, ey7, h⟩ := flt_e h
  refine go_top ey7 ?_
  refine go_istore (lv' := [(5, .inl y7), (6, .inl s0), (0, .inr (some 106)), (1, .inr (some h1)), (2, .inr (some h2)), (3, .inl x3), (4, .inl x4)]) d_Re_changesBetween_121 (by decide) rfl ?_
  exact go_lv [2, 3, 4, 5, 6, 0] rfl (j_Re_changesBetween_123 l d0 h1 n1 h2 n2 H1 H2 k x3 x4 y7 I h hk hX)
def L_Re_changesBetween_19 (h1 n1 h2 n2 : Nat) (x3 : Int32) : Nat → Int32 → gb_Mem → Option (gb_Mem)
  | 0, _, _ => none
  | n + 1, x4, I =>
    if (I h2 2) < x4 then
      some I
    else
      if 12 < x4 then
        some I
      else
        if x3 ≤ 0 then
          J_Re_changesBetween_123 h1 n1 h2 n2 (L_Re_changesBetween_19 h1 n1 h2 n2 x3 n) x3 x4 (x3 + x4) I
        else
          if x4 ≤ 0 then
            J_Re_changesBetween_123 h1 n1 h2 n2 (L_Re_changesBetween_19 h1 n1 h2 n2 x3 n) x3 x4 (x3 + x4) I
          else
            fbd (F_Ro_cell h1 n1 (x3 - 1) 0 I) fun r2 =>
            fbd (F_Ro_cell h2 n2 (x4 - 1) 0 I) fun r3 =>
            if r2 = r3 then
              J_Re_changesBetween_75 h1 n1 h2 n2 (L_Re_changesBetween_19 h1 n1 h2 n2 x3 n) x3 x4 0 I
            else
              J_Re_changesBetween_75 h1 n1 h2 n2 (L_Re_changesBetween_19 h1 n1 h2 n2 x3 n) x3 x4 1 I
set_option maxRecDepth 4000 in
theorem l_Re_changesBetween_19 (l : Launch) (d0 : Nat) (h1 n1 h2 n2 : Nat) (H1 : isRo h1 n1) (H2 : isRo h2 n2) (x3 : Int32) {post : Option gb_AV → List gb_Ce → gb_Mem → Prop} : ∀ (n : Nat) (x4 : Int32) (I : gb_Mem) {ρ : gb_Mem} (h : L_Re_changesBetween_19 h1 n1 h2 n2 x3 n x4 I = some ρ) (hX : ∀ (I2 : gb_Mem), ρ = I2 → gb_Go l yRe_changesBetween (d0 + 2) 0 0 138 [(0, .inr (some 106)), (1, .inr (some h1)), (2, .inr (some h2)), (3, .inl x3)] [] shX I2 post) , gb_Go l yRe_changesBetween (d0 + 2) 0 0 19 [(0, .inr (some 106)), (1, .inr (some h1)), (2, .inr (some h2)), (3, .inl x3), (4, .inl x4)] [] shX I post := by
  intro n
  induction n with
  | zero => intro x4 I ρ h hX; cases h
  | succ n ih =>
    intro x4 I ρ h hX
    rw [L_Re_changesBetween_19] at h
    refine go_iload (k := 4) d_Re_changesBetween_19 rfl ?_
    refine go_aload_n (k := 2) d_Re_changesBetween_21 rfl rfl ?_
    refine go_getiN (ci := 4) (k := 2) d_Re_changesBetween_22 H2.1 rfl (by decide) f_Re_21 rfl ?_
    refine go_cmp_gt (tgt := 138) d_Re_changesBetween_25 (by decide) (fun hc => ?_) (fun hc => ?_)
    · rw [if_pos hc] at h
      exact go_lv [0, 1, 2, 3] rfl (hX _ (Option.some.inj h).symm)
    · rw [if_neg hc] at h
      refine go_iload (k := 4) d_Re_changesBetween_28 rfl ?_
      refine go_bipush (v := 12) d_Re_changesBetween_30 (by decide) ?_
      refine go_cmp_gt (tgt := 138) d_Re_changesBetween_32 (by decide) (fun hc => ?_) (fun hc => ?_)
      · rw [if_pos hc] at h
        exact go_lv [0, 1, 2, 3] rfl (hX _ (Option.some.inj h).symm)
      · rw [if_neg hc] at h
        refine go_iload_n (k := 3) d_Re_changesBetween_35 rfl rfl ?_
        refine go_iload (k := 4) d_Re_changesBetween_36 rfl ?_
        refine go_iadd d_Re_changesBetween_38 ?_
        refine go_istore (lv' := [(5, .inl (x3 + x4)), (0, .inr (some 106)), (1, .inr (some h1)), (2, .inr (some h2)), (3, .inl x3), (4, .inl x4)]) d_Re_changesBetween_39 (by decide) rfl ?_
        refine go_iload_n (k := 4) d_Re_changesBetween_41 rfl rfl ?_
        refine go_if_le (tgt := 123) d_Re_changesBetween_42 (by decide) (fun hc => ?_) (fun hc => ?_)
        · rw [if_pos hc] at h
          exact go_lv [1, 2, 3, 4, 5, 0] rfl (j_Re_changesBetween_123 l d0 h1 n1 h2 n2 H1 H2 (L_Re_changesBetween_19 h1 n1 h2 n2 x3 n) x3 x4 (x3 + x4) I h (fun z4 Iw hh => ih z4 Iw hh hX) hX)
        · rw [if_neg hc] at h
          refine go_iload (k := 5) d_Re_changesBetween_45 rfl ?_
          refine go_if_le (tgt := 123) d_Re_changesBetween_47 (by decide) (fun hc => ?_) (fun hc => ?_)
          · rw [if_pos hc] at h
            exact go_lv [1, 2, 3, 4, 5, 0] rfl (j_Re_changesBetween_123 l d0 h1 n1 h2 n2 H1 H2 (L_Re_changesBetween_19 h1 n1 h2 n2 x3 n) x3 x4 (x3 + x4) I h (fun z4 Iw hh => ih z4 Iw hh hX) hX)
          · rw [if_neg hc] at h
            refine go_aload_n (k := 2) d_Re_changesBetween_50 rfl rfl ?_
            refine go_iload_n (k := 4) d_Re_changesBetween_51 rfl rfl ?_
            refine go_iconst (v := 1) d_Re_changesBetween_52 (by decide) ?_
            refine go_isub d_Re_changesBetween_53 ?_
            refine go_iconst (v := 0) d_Re_changesBetween_54 (by decide) ?_
            obtain ⟨r2, w1, h⟩ := fbd_e h
            refine go_callV (y := yRo_cell) (asr := [.inl (x3 - 1), .inl 0]) (v := some (.inl r2)) (I' := I) (st1 := [.inl r2]) d_Re_changesBetween_55 s_yRo_cell m_Re_36 H1.1 rfl rfl rfl (Nat.le_of_ble_eq_true rfl) rfl rfl (c_Ro_cell l (d0 + 0) h1 n1 H1 (x3 - 1) 0 I w1) ?_
            refine go_aload_n (k := 3) d_Re_changesBetween_58 rfl rfl ?_
            refine go_iload (k := 5) d_Re_changesBetween_59 rfl ?_
            refine go_iconst (v := 1) d_Re_changesBetween_61 (by decide) ?_
            refine go_isub d_Re_changesBetween_62 ?_
            refine go_iconst (v := 0) d_Re_changesBetween_63 (by decide) ?_
            obtain ⟨r3, w1, h⟩ := fbd_e h
            refine go_callV (y := yRo_cell) (asr := [.inl (x4 - 1), .inl 0]) (v := some (.inl r3)) (I' := I) (st1 := [.inl r3, .inl r2]) d_Re_changesBetween_64 s_yRo_cell m_Re_36 H2.1 rfl rfl rfl (Nat.le_of_ble_eq_true rfl) rfl rfl (c_Ro_cell l (d0 + 0) h2 n2 H2 (x4 - 1) 0 I w1) ?_
            refine go_cmp_ne (tgt := 74) d_Re_changesBetween_67 (by decide) (fun hc => ?_) (fun hc => ?_)
            · rw [if_neg hc] at h
              refine go_iconst (v := 1) d_Re_changesBetween_74 (by decide) ?_
              exact go_lv [1, 2, 3, 4, 5] rfl (j_Re_changesBetween_75 l d0 h1 n1 h2 n2 H1 H2 (L_Re_changesBetween_19 h1 n1 h2 n2 x3 n) x3 x4 1 I h (fun z4 Iw hh => ih z4 Iw hh hX) hX)
            · rw [if_pos hc] at h
              refine go_iconst (v := 0) d_Re_changesBetween_70 (by decide) ?_
              refine go_goto (tgt := 75) d_Re_changesBetween_71 (by decide) ?_
              exact go_lv [1, 2, 3, 4, 5] rfl (j_Re_changesBetween_75 l d0 h1 n1 h2 n2 H1 H2 (L_Re_changesBetween_19 h1 n1 h2 n2 x3 n) x3 x4 0 I h (fun z4 Iw hh => ih z4 Iw hh hX) hX)
def J_Re_changesBetween_138 (h1 n1 h2 n2 : Nat) (k : Int32 → gb_Mem → Option (gb_Mem)) (x3 : Int32) (I : gb_Mem) : Option (gb_Mem) :=
  k (x3 + 1) I
set_option maxRecDepth 4000 in
theorem j_Re_changesBetween_138 (l : Launch) (d0 : Nat) (h1 n1 h2 n2 : Nat) (H1 : isRo h1 n1) (H2 : isRo h2 n2) {post : Option gb_AV → List gb_Ce → gb_Mem → Prop} (k : Int32 → gb_Mem → Option (gb_Mem)) (x3 : Int32) (I : gb_Mem) {ρ : gb_Mem} (h : J_Re_changesBetween_138 h1 n1 h2 n2 k x3 I = some ρ) (hk : ∀ (z3 : Int32) (Iw : gb_Mem), k z3 Iw = some ρ → gb_Go l yRe_changesBetween (d0 + 2) 0 0 2 [(0, .inr (some 106)), (1, .inr (some h1)), (2, .inr (some h2)), (3, .inl z3)] [] shX Iw post) (hX : ∀ (I2 : gb_Mem), ρ = I2 → gb_Go l yRe_changesBetween (d0 + 2) 0 0 144 [(0, .inr (some 106)), (1, .inr (some h1)), (2, .inr (some h2))] [] shX I2 post) : gb_Go l yRe_changesBetween (d0 + 2) 0 0 138 [(0, .inr (some 106)), (1, .inr (some h1)), (2, .inr (some h2)), (3, .inl x3)] [] shX I post := by
  unfold J_Re_changesBetween_138 at h
  refine go_iinc (k := 3) (v := x3 + 1) (lv' := [(3, .inl (x3 + 1)), (0, .inr (some 106)), (1, .inr (some h1)), (2, .inr (some h2))]) d_Re_changesBetween_138 rfl rfl (by decide) rfl ?_
  refine go_goto (tgt := 2) d_Re_changesBetween_141 (by decide) ?_
  exact go_lv [1, 2, 3, 0] rfl (hk _ _ h)
def L_Re_changesBetween_2 (h1 n1 h2 n2 : Nat) : Nat → Int32 → gb_Mem → Option (gb_Mem)
  | 0, _, _ => none
  | n + 1, x3, I =>
    if (I h1 2) < x3 then
      some I
    else
      if 12 < x3 then
        some I
      else
        fbd (L_Re_changesBetween_19 h1 n1 h2 n2 x3 5000 0 I) fun I8 =>
        J_Re_changesBetween_138 h1 n1 h2 n2 (L_Re_changesBetween_2 h1 n1 h2 n2 n) x3 I8
set_option maxRecDepth 4000 in
theorem l_Re_changesBetween_2 (l : Launch) (d0 : Nat) (h1 n1 h2 n2 : Nat) (H1 : isRo h1 n1) (H2 : isRo h2 n2) {post : Option gb_AV → List gb_Ce → gb_Mem → Prop} : ∀ (n : Nat) (x3 : Int32) (I : gb_Mem) {ρ : gb_Mem} (h : L_Re_changesBetween_2 h1 n1 h2 n2 n x3 I = some ρ) (hX : ∀ (I2 : gb_Mem), ρ = I2 → gb_Go l yRe_changesBetween (d0 + 2) 0 0 144 [(0, .inr (some 106)), (1, .inr (some h1)), (2, .inr (some h2))] [] shX I2 post) , gb_Go l yRe_changesBetween (d0 + 2) 0 0 2 [(0, .inr (some 106)), (1, .inr (some h1)), (2, .inr (some h2)), (3, .inl x3)] [] shX I post := by
  intro n
  induction n with
  | zero => intro x3 I ρ h hX; cases h
  | succ n ih =>
    intro x3 I ρ h hX
    rw [L_Re_changesBetween_2] at h
    refine go_iload_n (k := 3) d_Re_changesBetween_2 rfl rfl ?_
    refine go_aload_n (k := 1) d_Re_changesBetween_3 rfl rfl ?_
    refine go_getiN (ci := 4) (k := 2) d_Re_changesBetween_4 H1.1 rfl (by decide) f_Re_21 rfl ?_
    refine go_cmp_gt (tgt := 144) d_Re_changesBetween_7 (by decide) (fun hc => ?_) (fun hc => ?_)
    · rw [if_pos hc] at h
      exact go_lv [0, 1, 2] rfl (hX _ (Option.some.inj h).symm)
    · rw [if_neg hc] at h
      refine go_iload_n (k := 3) d_Re_changesBetween_10 rfl rfl ?_
      refine go_bipush (v := 12) d_Re_changesBetween_11 (by decide) ?_
      refine go_cmp_gt (tgt := 144) d_Re_changesBetween_13 (by decide) (fun hc => ?_) (fun hc => ?_)
      · rw [if_pos hc] at h
        exact go_lv [0, 1, 2] rfl (hX _ (Option.some.inj h).symm)
      · rw [if_neg hc] at h
        refine go_iconst (v := 0) d_Re_changesBetween_16 (by decide) ?_
        refine go_istore (lv' := [(4, .inl 0), (0, .inr (some 106)), (1, .inr (some h1)), (2, .inr (some h2)), (3, .inl x3)]) d_Re_changesBetween_17 (by decide) rfl ?_
        refine go_lv [1, 2, 3, 4, 0] (lv' := [(0, .inr (some 106)), (1, .inr (some h1)), (2, .inr (some h2)), (3, .inl x3), (4, .inl 0)]) rfl ?_
        obtain ⟨I8, w1, h⟩ := fbd_e h
        refine l_Re_changesBetween_19 l d0 h1 n1 h2 n2 H1 H2 x3 5000 0 I w1 (fun I8_ e => ?_)
        cases e
        exact go_lv [0, 1, 2, 3] rfl (j_Re_changesBetween_138 l d0 h1 n1 h2 n2 H1 H2 (L_Re_changesBetween_2 h1 n1 h2 n2 n) x3 I8 h (fun z3 Iw hh => ih z3 Iw hh hX) hX)
def J_Re_changesBetween_144 (h1 n1 h2 n2 : Nat) (I : gb_Mem) : Option (Int32 × gb_Mem) :=
  fbd (F_Re_gridAt (I h1 2) (I h2 2) I) fun r10 =>
  some (r10, I)
set_option maxRecDepth 4000 in
theorem j_Re_changesBetween_144 (l : Launch) (d0 : Nat) (h1 n1 h2 n2 : Nat) (H1 : isRo h1 n1) (H2 : isRo h2 n2) (I : gb_Mem) {rz : Int32} {Iz : gb_Mem} (h : J_Re_changesBetween_144 h1 n1 h2 n2 I = some (rz, Iz)) : gb_Go l yRe_changesBetween (d0 + 2) 0 0 144 [(0, .inr (some 106)), (1, .inr (some h1)), (2, .inr (some h2))] [] shX I (gb_po shX (some (.inl rz)) Iz) := by
  unfold J_Re_changesBetween_144 at h
  refine go_aload_n (k := 0) d_Re_changesBetween_144 rfl rfl ?_
  refine go_aload_n (k := 1) d_Re_changesBetween_145 rfl rfl ?_
  refine go_getiN (ci := 4) (k := 2) d_Re_changesBetween_146 H1.1 rfl (by decide) f_Re_21 rfl ?_
  refine go_aload_n (k := 2) d_Re_changesBetween_149 rfl rfl ?_
  refine go_getiN (ci := 4) (k := 2) d_Re_changesBetween_150 H2.1 rfl (by decide) f_Re_21 rfl ?_
  obtain ⟨r10, w1, h⟩ := fbd_e h
  refine go_callV (y := yRe_gridAt) (asr := [.inl (I h1 2), .inl (I h2 2)]) (v := some (.inl r10)) (I' := I) (st1 := [.inl r10]) d_Re_changesBetween_153 s_yRe_gridAt m_Re_27 a_X_106 rfl rfl rfl (Nat.le_of_ble_eq_true rfl) rfl rfl (c_Re_gridAt l (d0 + 0) (I h1 2) (I h2 2) I w1) ?_
  cases h
  exact go_ireturn d_Re_changesBetween_156 rfl gb_po_i
def F_Re_changesBetween (h1 n1 h2 n2 : Nat) (I : gb_Mem) : Option (Int32 × gb_Mem) :=
  fbd (L_Re_changesBetween_2 h1 n1 h2 n2 5000 0 I) fun I9 =>
  J_Re_changesBetween_144 h1 n1 h2 n2 I9
set_option maxRecDepth 4000 in
theorem c_Re_changesBetween (l : Launch) (d0 : Nat) (h1 n1 h2 n2 : Nat) (H1 : isRo h1 n1) (H2 : isRo h2 n2) (I : gb_Mem) {rz : Int32} {Iz : gb_Mem} (h : F_Re_changesBetween h1 n1 h2 n2 I = some (rz, Iz)) : gb_Cs l yRe_changesBetween (d0 + 2) [.inr (some 106), .inr (some h1), .inr (some h2)] shX I (some (.inl rz)) Iz := by
  refine gb_Ct.of (lv := [(0, .inr (some 106)), (1, .inr (some h1)), (2, .inr (some h2))]) rfl (Nat.le_of_ble_eq_true rfl) rfl ?_
  unfold F_Re_changesBetween at h
  show gb_Go l yRe_changesBetween (d0 + 2) 0 0 0 [(0, .inr (some 106)), (1, .inr (some h1)), (2, .inr (some h2))] [] shX I (gb_po shX (some (.inl rz)) Iz)
  refine go_iconst (v := 0) d_Re_changesBetween_0 (by decide) ?_
  refine go_istore_n (lv' := [(3, .inl 0), (0, .inr (some 106)), (1, .inr (some h1)), (2, .inr (some h2))]) d_Re_changesBetween_1 rfl (by decide) rfl ?_
  refine go_lv [1, 2, 3, 0] (lv' := [(0, .inr (some 106)), (1, .inr (some h1)), (2, .inr (some h2)), (3, .inl 0)]) rfl ?_
  obtain ⟨I9, w1, h⟩ := fbd_e h
  refine l_Re_changesBetween_2 l d0 h1 n1 h2 n2 H1 H2 5000 0 I w1 (fun I9_ e => ?_)
  cases e
  exact go_lv [0, 1, 2] rfl (j_Re_changesBetween_144 l d0 h1 n1 h2 n2 H1 H2 I9 h)
theorem d_Re_firstOnes_0 : decode yRe_firstOnes.2.1 0 = .ok (.iconst 0, 1) := by decide +kernel
theorem d_Re_firstOnes_1 : decode yRe_firstOnes.2.1 1 = .ok (.istore_n 2, 1) := by decide +kernel
theorem d_Re_firstOnes_2 : decode yRe_firstOnes.2.1 2 = .ok (.iconst 0, 1) := by decide +kernel
theorem d_Re_firstOnes_3 : decode yRe_firstOnes.2.1 3 = .ok (.istore_n 3, 1) := by decide +kernel
theorem d_Re_firstOnes_4 : decode yRe_firstOnes.2.1 4 = .ok (.iconst 0, 1) := by decide +kernel
theorem d_Re_firstOnes_5 : decode yRe_firstOnes.2.1 5 = .ok (.istore 4, 2) := by decide +kernel
theorem d_Re_firstOnes_7 : decode yRe_firstOnes.2.1 7 = .ok (.iload 4, 2) := by decide +kernel
theorem d_Re_firstOnes_9 : decode yRe_firstOnes.2.1 9 = .ok (.aload_n 1, 1) := by decide +kernel
theorem d_Re_firstOnes_10 : decode yRe_firstOnes.2.1 10 = .ok (.getfield 21, 3) := by decide +kernel
theorem d_Re_firstOnes_13 : decode yRe_firstOnes.2.1 13 = .ok (.if_icmp .ge 33, 3) := by decide +kernel
theorem d_Re_firstOnes_16 : decode yRe_firstOnes.2.1 16 = .ok (.iload_n 2, 1) := by decide +kernel
theorem d_Re_firstOnes_17 : decode yRe_firstOnes.2.1 17 = .ok (.iconst 1, 1) := by decide +kernel
theorem d_Re_firstOnes_18 : decode yRe_firstOnes.2.1 18 = .ok (.aload_n 1, 1) := by decide +kernel
theorem d_Re_firstOnes_19 : decode yRe_firstOnes.2.1 19 = .ok (.iload 4, 2) := by decide +kernel
theorem d_Re_firstOnes_21 : decode yRe_firstOnes.2.1 21 = .ok (.iconst 0, 1) := by decide +kernel
theorem d_Re_firstOnes_22 : decode yRe_firstOnes.2.1 22 = .ok (.invokevirtual 36, 3) := by decide +kernel
theorem d_Re_firstOnes_25 : decode yRe_firstOnes.2.1 25 = .ok (.ishl, 1) := by decide +kernel
theorem d_Re_firstOnes_26 : decode yRe_firstOnes.2.1 26 = .ok (.ior, 1) := by decide +kernel
theorem d_Re_firstOnes_27 : decode yRe_firstOnes.2.1 27 = .ok (.istore_n 2, 1) := by decide +kernel
theorem d_Re_firstOnes_28 : decode yRe_firstOnes.2.1 28 = .ok (.iload_n 3, 1) := by decide +kernel
theorem d_Re_firstOnes_29 : decode yRe_firstOnes.2.1 29 = .ok (.iconst 1, 1) := by decide +kernel
theorem d_Re_firstOnes_30 : decode yRe_firstOnes.2.1 30 = .ok (.aload_n 1, 1) := by decide +kernel
theorem d_Re_firstOnes_31 : decode yRe_firstOnes.2.1 31 = .ok (.iload 4, 2) := by decide +kernel
theorem d_Re_firstOnes_33 : decode yRe_firstOnes.2.1 33 = .ok (.iconst 1, 1) := by decide +kernel
theorem d_Re_firstOnes_34 : decode yRe_firstOnes.2.1 34 = .ok (.invokevirtual 36, 3) := by decide +kernel
theorem d_Re_firstOnes_37 : decode yRe_firstOnes.2.1 37 = .ok (.ishl, 1) := by decide +kernel
theorem d_Re_firstOnes_38 : decode yRe_firstOnes.2.1 38 = .ok (.ior, 1) := by decide +kernel
theorem d_Re_firstOnes_39 : decode yRe_firstOnes.2.1 39 = .ok (.istore_n 3, 1) := by decide +kernel
theorem d_Re_firstOnes_40 : decode yRe_firstOnes.2.1 40 = .ok (.iinc 4 1, 3) := by decide +kernel
theorem d_Re_firstOnes_43 : decode yRe_firstOnes.2.1 43 = .ok (.goto (-36), 3) := by decide +kernel
theorem d_Re_firstOnes_46 : decode yRe_firstOnes.2.1 46 = .ok (.iload_n 3, 1) := by decide +kernel
theorem d_Re_firstOnes_47 : decode yRe_firstOnes.2.1 47 = .ok (.iload_n 2, 1) := by decide +kernel
theorem d_Re_firstOnes_48 : decode yRe_firstOnes.2.1 48 = .ok (.iconst (-1), 1) := by decide +kernel
theorem d_Re_firstOnes_49 : decode yRe_firstOnes.2.1 49 = .ok (.ixor, 1) := by decide +kernel
theorem d_Re_firstOnes_50 : decode yRe_firstOnes.2.1 50 = .ok (.iand, 1) := by decide +kernel
theorem d_Re_firstOnes_51 : decode yRe_firstOnes.2.1 51 = .ok (.ireturn, 1) := by decide +kernel
def L_Re_firstOnes_7 (h1 n1 : Nat) (I : gb_Mem) : Nat → Int32 → Int32 → Int32 → Option (Int32 × Int32)
  | 0, _, _, _ => none
  | n + 1, x2, x3, x4 =>
    if (I h1 2) ≤ x4 then
      some (x2, x3)
    else
      fbd (F_Ro_cell h1 n1 x4 0 I) fun r1 =>
      flt (x2 ||| (1 <<< (r1 &&& 31))) fun y2 =>
      fbd (F_Ro_cell h1 n1 x4 1 I) fun r3 =>
      flt (x3 ||| (1 <<< (r3 &&& 31))) fun y4 =>
      L_Re_firstOnes_7 h1 n1 I n y2 y4 (x4 + 1)
set_option maxRecDepth 4000 in
theorem l_Re_firstOnes_7 (l : Launch) (d0 : Nat) (h1 n1 : Nat) (H1 : isRo h1 n1) (I : gb_Mem) {post : Option gb_AV → List gb_Ce → gb_Mem → Prop} : ∀ (n : Nat) (x2 x3 x4 : Int32) {ρ : Int32 × Int32} (h : L_Re_firstOnes_7 h1 n1 I n x2 x3 x4 = some ρ) (hX : ∀ (o2 : Int32) (o3 : Int32), ρ = (o2, o3) → gb_Go l yRe_firstOnes (d0 + 2) 0 0 46 [(2, .inl o2), (3, .inl o3)] [] shX I post) , gb_Go l yRe_firstOnes (d0 + 2) 0 0 7 [(1, .inr (some h1)), (2, .inl x2), (3, .inl x3), (4, .inl x4)] [] shX I post := by
  intro n
  induction n with
  | zero => intro x2 x3 x4 ρ h hX; cases h
  | succ n ih =>
    intro x2 x3 x4 ρ h hX
    rw [L_Re_firstOnes_7] at h
    refine go_iload (k := 3) d_Re_firstOnes_7 rfl ?_
    refine go_aload_n (k := 0) d_Re_firstOnes_9 rfl rfl ?_
    refine go_getiN (ci := 4) (k := 2) d_Re_firstOnes_10 H1.1 rfl (by decide) f_Re_21 rfl ?_
    refine go_cmp_ge (tgt := 46) d_Re_firstOnes_13 (by decide) (fun hc => ?_) (fun hc => ?_)
    · rw [if_pos hc] at h
      exact go_lv [1, 2] rfl (hX _ _ (Option.some.inj h).symm)
    · rw [if_neg hc] at h
      refine go_iload_n (k := 1) d_Re_firstOnes_16 rfl rfl ?_
      refine go_iconst (v := 1) d_Re_firstOnes_17 (by decide) ?_
      refine go_aload_n (k := 0) d_Re_firstOnes_18 rfl rfl ?_
      refine go_iload (k := 3) d_Re_firstOnes_19 rfl ?_
      refine go_iconst (v := 0) d_Re_firstOnes_21 (by decide) ?_
      obtain ⟨r1, w1, h⟩ := fbd_e h
      refine go_callV (y := yRo_cell) (asr := [.inl x4, .inl 0]) (v := some (.inl r1)) (I' := I) (st1 := [.inl r1, .inl 1, .inl x2]) d_Re_firstOnes_22 s_yRo_cell m_Re_36 H1.1 rfl rfl rfl (Nat.le_of_ble_eq_true rfl) rfl rfl (c_Ro_cell l (d0 + 0) h1 n1 H1 x4 0 I w1) ?_
      refine go_ishl d_Re_firstOnes_25 ?_
      refine go_ior d_Re_firstOnes_26 ?_
      obtain ⟨y2, ey2, h⟩ := flt_e h
      refine go_top ey2 ?_
      refine go_istore_n (lv' := [(2, .inl y2), (1, .inr (some h1)), (3, .inl x3), (4, .inl x4)]) d_Re_firstOnes_27 rfl (by decide) rfl ?_
      refine go_iload_n (k := 2) d_Re_firstOnes_28 rfl rfl ?_
      refine go_iconst (v := 1) d_Re_firstOnes_29 (by decide) ?_
      refine go_aload_n (k := 1) d_Re_firstOnes_30 rfl rfl ?_
      refine go_iload (k := 3) d_Re_firstOnes_31 rfl ?_
      refine go_iconst (v := 1) d_Re_firstOnes_33 (by decide) ?_
      obtain ⟨r3, w1, h⟩ := fbd_e h
      refine go_callV (y := yRo_cell) (asr := [.inl x4, .inl 1]) (v := some (.inl r3)) (I' := I) (st1 := [.inl r3, .inl 1, .inl x3]) d_Re_firstOnes_34 s_yRo_cell m_Re_36 H1.1 rfl rfl rfl (Nat.le_of_ble_eq_true rfl) rfl rfl (c_Ro_cell l (d0 + 0) h1 n1 H1 x4 1 I w1) ?_
      refine go_ishl d_Re_firstOnes_37 ?_
      refine go_ior d_Re_firstOnes_38 ?_
      obtain ⟨y4, ey4, h⟩ := flt_e h
      refine go_top ey4 ?_
      refine go_istore_n (lv' := [(3, .inl y4), (2, .inl y2), (1, .inr (some h1)), (4, .inl x4)]) d_Re_firstOnes_39 rfl (by decide) rfl ?_
      refine go_iinc (k := 3) (v := x4 + 1) (lv' := [(4, .inl (x4 + 1)), (3, .inl y4), (2, .inl y2), (1, .inr (some h1))]) d_Re_firstOnes_40 rfl rfl (by decide) rfl ?_
      refine go_goto (tgt := 7) d_Re_firstOnes_43 (by decide) ?_
      exact go_lv [3, 2, 1, 0] rfl (ih y2 y4 (x4 + 1) h hX)
def F_Re_firstOnes (h1 n1 : Nat) (I : gb_Mem) : Option (Int32) :=
  fbd (L_Re_firstOnes_7 h1 n1 I 5000 0 0 0) fun (o5, o6) =>
  some (o6 &&& (o5 ^^^ (-1)))
set_option maxRecDepth 4000 in
theorem c_Re_firstOnes (l : Launch) (d0 : Nat) (h1 n1 : Nat) (H1 : isRo h1 n1) (I : gb_Mem) {rz : Int32} (h : F_Re_firstOnes h1 n1 I = some rz) : gb_Cs l yRe_firstOnes (d0 + 2) [.inr (some 106), .inr (some h1)] shX I (some (.inl rz)) I := by
  refine gb_Ct.of (lv := [(0, .inr (some 106)), (1, .inr (some h1))]) rfl (Nat.le_of_ble_eq_true rfl) rfl ?_
  unfold F_Re_firstOnes at h
  show gb_Go l yRe_firstOnes (d0 + 2) 0 0 0 [(0, .inr (some 106)), (1, .inr (some h1))] [] shX I (gb_po shX (some (.inl rz)) I)
  refine go_iconst (v := 0) d_Re_firstOnes_0 (by decide) ?_
  refine go_istore_n (lv' := [(2, .inl 0), (0, .inr (some 106)), (1, .inr (some h1))]) d_Re_firstOnes_1 rfl (by decide) rfl ?_
  refine go_iconst (v := 0) d_Re_firstOnes_2 (by decide) ?_
  refine go_istore_n (lv' := [(3, .inl 0), (2, .inl 0), (0, .inr (some 106)), (1, .inr (some h1))]) d_Re_firstOnes_3 rfl (by decide) rfl ?_
  refine go_iconst (v := 0) d_Re_firstOnes_4 (by decide) ?_
  refine go_istore (lv' := [(4, .inl 0), (3, .inl 0), (2, .inl 0), (0, .inr (some 106)), (1, .inr (some h1))]) d_Re_firstOnes_5 (by decide) rfl ?_
  refine go_lv [4, 2, 1, 0] (lv' := [(1, .inr (some h1)), (2, .inl 0), (3, .inl 0), (4, .inl 0)]) rfl ?_
  obtain ⟨⟨o5, o6⟩, w1, h⟩ := fbd_e h
  try dsimp only at h
  refine l_Re_firstOnes_7 l d0 h1 n1 H1 I 5000 0 0 0 w1 (fun o5_ o6_ e => ?_)
  cases e
  refine go_iload_n (k := 1) d_Re_firstOnes_46 rfl rfl ?_
  refine go_iload_n (k := 0) d_Re_firstOnes_47 rfl rfl ?_
  refine go_iconst (v := (-1)) d_Re_firstOnes_48 (by decide) ?_
  refine go_ixor d_Re_firstOnes_49 ?_
  refine go_iand d_Re_firstOnes_50 ?_
  cases h
  exact go_ireturn d_Re_firstOnes_51 rfl gb_po_i
theorem d_Re_inBoth_0 : decode yRe_inBoth.2.1 0 = .ok (.iconst 0, 1) := by decide +kernel
theorem d_Re_inBoth_1 : decode yRe_inBoth.2.1 1 = .ok (.istore_n 3, 1) := by decide +kernel
theorem d_Re_inBoth_2 : decode yRe_inBoth.2.1 2 = .ok (.iload_n 3, 1) := by decide +kernel
theorem d_Re_inBoth_3 : decode yRe_inBoth.2.1 3 = .ok (.aload_n 1, 1) := by decide +kernel
theorem d_Re_inBoth_4 : decode yRe_inBoth.2.1 4 = .ok (.getfield 21, 3) := by decide +kernel
theorem d_Re_inBoth_7 : decode yRe_inBoth.2.1 7 = .ok (.if_icmp .gt 129, 3) := by decide +kernel
theorem d_Re_inBoth_10 : decode yRe_inBoth.2.1 10 = .ok (.iload_n 3, 1) := by decide +kernel
theorem d_Re_inBoth_11 : decode yRe_inBoth.2.1 11 = .ok (.bipush 12, 2) := by decide +kernel
theorem d_Re_inBoth_13 : decode yRe_inBoth.2.1 13 = .ok (.if_icmp .gt 123, 3) := by decide +kernel
theorem d_Re_inBoth_16 : decode yRe_inBoth.2.1 16 = .ok (.iconst 0, 1) := by decide +kernel
theorem d_Re_inBoth_17 : decode yRe_inBoth.2.1 17 = .ok (.istore 4, 2) := by decide +kernel
theorem d_Re_inBoth_19 : decode yRe_inBoth.2.1 19 = .ok (.iload 4, 2) := by decide +kernel
theorem d_Re_inBoth_21 : decode yRe_inBoth.2.1 21 = .ok (.aload_n 2, 1) := by decide +kernel
theorem d_Re_inBoth_22 : decode yRe_inBoth.2.1 22 = .ok (.getfield 21, 3) := by decide +kernel
theorem d_Re_inBoth_25 : decode yRe_inBoth.2.1 25 = .ok (.if_icmp .gt 105, 3) := by decide +kernel
theorem d_Re_inBoth_28 : decode yRe_inBoth.2.1 28 = .ok (.iload 4, 2) := by decide +kernel
theorem d_Re_inBoth_30 : decode yRe_inBoth.2.1 30 = .ok (.bipush 12, 2) := by decide +kernel
theorem d_Re_inBoth_32 : decode yRe_inBoth.2.1 32 = .ok (.if_icmp .gt 98, 3) := by decide +kernel
theorem d_Re_inBoth_35 : decode yRe_inBoth.2.1 35 = .ok (.iload_n 3, 1) := by decide +kernel
theorem d_Re_inBoth_36 : decode yRe_inBoth.2.1 36 = .ok (.ifCond .eq 8, 3) := by decide +kernel
theorem d_Re_inBoth_39 : decode yRe_inBoth.2.1 39 = .ok (.iload 4, 2) := by decide +kernel
theorem d_Re_inBoth_41 : decode yRe_inBoth.2.1 41 = .ok (.ifCond .ne 7, 3) := by decide +kernel
theorem d_Re_inBoth_44 : decode yRe_inBoth.2.1 44 = .ok (.iconst 0, 1) := by decide +kernel
theorem d_Re_inBoth_45 : decode yRe_inBoth.2.1 45 = .ok (.goto 24, 3) := by decide +kernel
theorem d_Re_inBoth_48 : decode yRe_inBoth.2.1 48 = .ok (.aload_n 0, 1) := by decide +kernel
theorem d_Re_inBoth_49 : decode yRe_inBoth.2.1 49 = .ok (.iload_n 3, 1) := by decide +kernel
theorem d_Re_inBoth_50 : decode yRe_inBoth.2.1 50 = .ok (.iconst 1, 1) := by decide +kernel
theorem d_Re_inBoth_51 : decode yRe_inBoth.2.1 51 = .ok (.isub, 1) := by decide +kernel
theorem d_Re_inBoth_52 : decode yRe_inBoth.2.1 52 = .ok (.iload 4, 2) := by decide +kernel
theorem d_Re_inBoth_54 : decode yRe_inBoth.2.1 54 = .ok (.invokevirtual 27, 3) := by decide +kernel
theorem d_Re_inBoth_57 : decode yRe_inBoth.2.1 57 = .ok (.aload_n 0, 1) := by decide +kernel
theorem d_Re_inBoth_58 : decode yRe_inBoth.2.1 58 = .ok (.iload_n 3, 1) := by decide +kernel
theorem d_Re_inBoth_59 : decode yRe_inBoth.2.1 59 = .ok (.iload 4, 2) := by decide +kernel
theorem d_Re_inBoth_61 : decode yRe_inBoth.2.1 61 = .ok (.iconst 1, 1) := by decide +kernel
theorem d_Re_inBoth_62 : decode yRe_inBoth.2.1 62 = .ok (.isub, 1) := by decide +kernel
theorem d_Re_inBoth_63 : decode yRe_inBoth.2.1 63 = .ok (.invokevirtual 27, 3) := by decide +kernel
theorem d_Re_inBoth_66 : decode yRe_inBoth.2.1 66 = .ok (.invokestatic 31, 3) := by decide +kernel
theorem d_Re_inBoth_69 : decode yRe_inBoth.2.1 69 = .ok (.istore 5, 2) := by decide +kernel
theorem d_Re_inBoth_71 : decode yRe_inBoth.2.1 71 = .ok (.iload_n 3, 1) := by decide +kernel
theorem d_Re_inBoth_72 : decode yRe_inBoth.2.1 72 = .ok (.ifCond .le 43, 3) := by decide +kernel
theorem d_Re_inBoth_75 : decode yRe_inBoth.2.1 75 = .ok (.iload 4, 2) := by decide +kernel
theorem d_Re_inBoth_77 : decode yRe_inBoth.2.1 77 = .ok (.ifCond .le 38, 3) := by decide +kernel
theorem d_Re_inBoth_80 : decode yRe_inBoth.2.1 80 = .ok (.aload_n 1, 1) := by decide +kernel
theorem d_Re_inBoth_81 : decode yRe_inBoth.2.1 81 = .ok (.iload_n 3, 1) := by decide +kernel
theorem d_Re_inBoth_82 : decode yRe_inBoth.2.1 82 = .ok (.iconst 1, 1) := by decide +kernel
theorem d_Re_inBoth_83 : decode yRe_inBoth.2.1 83 = .ok (.isub, 1) := by decide +kernel
theorem d_Re_inBoth_84 : decode yRe_inBoth.2.1 84 = .ok (.iconst 0, 1) := by decide +kernel
theorem d_Re_inBoth_85 : decode yRe_inBoth.2.1 85 = .ok (.invokevirtual 36, 3) := by decide +kernel
theorem d_Re_inBoth_88 : decode yRe_inBoth.2.1 88 = .ok (.aload_n 2, 1) := by decide +kernel
theorem d_Re_inBoth_89 : decode yRe_inBoth.2.1 89 = .ok (.iload 4, 2) := by decide +kernel
theorem d_Re_inBoth_91 : decode yRe_inBoth.2.1 91 = .ok (.iconst 1, 1) := by decide +kernel
theorem d_Re_inBoth_92 : decode yRe_inBoth.2.1 92 = .ok (.isub, 1) := by decide +kernel
theorem d_Re_inBoth_93 : decode yRe_inBoth.2.1 93 = .ok (.iconst 0, 1) := by decide +kernel
theorem d_Re_inBoth_94 : decode yRe_inBoth.2.1 94 = .ok (.invokevirtual 36, 3) := by decide +kernel
theorem d_Re_inBoth_97 : decode yRe_inBoth.2.1 97 = .ok (.if_icmp .ne 18, 3) := by decide +kernel
theorem d_Re_inBoth_100 : decode yRe_inBoth.2.1 100 = .ok (.aload_n 0, 1) := by decide +kernel
theorem d_Re_inBoth_101 : decode yRe_inBoth.2.1 101 = .ok (.iload_n 3, 1) := by decide +kernel
theorem d_Re_inBoth_102 : decode yRe_inBoth.2.1 102 = .ok (.iconst 1, 1) := by decide +kernel
theorem d_Re_inBoth_103 : decode yRe_inBoth.2.1 103 = .ok (.isub, 1) := by decide +kernel
theorem d_Re_inBoth_104 : decode yRe_inBoth.2.1 104 = .ok (.iload 4, 2) := by decide +kernel
theorem d_Re_inBoth_106 : decode yRe_inBoth.2.1 106 = .ok (.iconst 1, 1) := by decide +kernel
theorem d_Re_inBoth_107 : decode yRe_inBoth.2.1 107 = .ok (.isub, 1) := by decide +kernel
theorem d_Re_inBoth_108 : decode yRe_inBoth.2.1 108 = .ok (.invokevirtual 27, 3) := by decide +kernel
theorem d_Re_inBoth_111 : decode yRe_inBoth.2.1 111 = .ok (.iconst 1, 1) := by decide +kernel
theorem d_Re_inBoth_112 : decode yRe_inBoth.2.1 112 = .ok (.iadd, 1) := by decide +kernel
theorem d_Re_inBoth_113 : decode yRe_inBoth.2.1 113 = .ok (.istore 5, 2) := by decide +kernel
theorem d_Re_inBoth_115 : decode yRe_inBoth.2.1 115 = .ok (.aload_n 0, 1) := by decide +kernel
theorem d_Re_inBoth_116 : decode yRe_inBoth.2.1 116 = .ok (.iload_n 3, 1) := by decide +kernel
theorem d_Re_inBoth_117 : decode yRe_inBoth.2.1 117 = .ok (.iload 4, 2) := by decide +kernel
theorem d_Re_inBoth_119 : decode yRe_inBoth.2.1 119 = .ok (.iload 5, 2) := by decide +kernel
theorem d_Re_inBoth_121 : decode yRe_inBoth.2.1 121 = .ok (.invokevirtual 39, 3) := by decide +kernel
theorem d_Re_inBoth_124 : decode yRe_inBoth.2.1 124 = .ok (.iinc 4 1, 3) := by decide +kernel
theorem d_Re_inBoth_127 : decode yRe_inBoth.2.1 127 = .ok (.goto (-108), 3) := by decide +kernel
theorem d_Re_inBoth_130 : decode yRe_inBoth.2.1 130 = .ok (.iinc 3 1, 3) := by decide +kernel
theorem d_Re_inBoth_133 : decode yRe_inBoth.2.1 133 = .ok (.goto (-131), 3) := by decide +kernel
theorem d_Re_inBoth_136 : decode yRe_inBoth.2.1 136 = .ok (.aload_n 0, 1) := by decide +kernel
theorem d_Re_inBoth_137 : decode yRe_inBoth.2.1 137 = .ok (.aload_n 1, 1) := by decide +kernel
theorem d_Re_inBoth_138 : decode yRe_inBoth.2.1 138 = .ok (.getfield 21, 3) := by decide +kernel
theorem d_Re_inBoth_141 : decode yRe_inBoth.2.1 141 = .ok (.aload_n 2, 1) := by decide +kernel
theorem d_Re_inBoth_142 : decode yRe_inBoth.2.1 142 = .ok (.getfield 21, 3) := by decide +kernel
theorem d_Re_inBoth_145 : decode yRe_inBoth.2.1 145 = .ok (.invokevirtual 27, 3) := by decide +kernel
theorem d_Re_inBoth_148 : decode yRe_inBoth.2.1 148 = .ok (.ireturn, 1) := by decide +kernel
def J_Re_inBoth_115 (h1 n1 h2 n2 : Nat) (k : Int32 → gb_Mem → Option (gb_Mem)) (x3 x4 x5 : Int32) (I : gb_Mem) : Option (gb_Mem) :=
  fbd (F_Re_putGrid x3 x4 x5 I) fun I1 =>
  k (x4 + 1) I1
set_option maxRecDepth 4000 in
theorem j_Re_inBoth_115 (l : Launch) (d0 : Nat) (h1 n1 h2 n2 : Nat) (H1 : isRo h1 n1) (H2 : isRo h2 n2) {post : Option gb_AV → List gb_Ce → gb_Mem → Prop} (k : Int32 → gb_Mem → Option (gb_Mem)) (x3 x4 x5 : Int32) (I : gb_Mem) {ρ : gb_Mem} (h : J_Re_inBoth_115 h1 n1 h2 n2 k x3 x4 x5 I = some ρ) (hk : ∀ (z4 : Int32) (Iw : gb_Mem), k z4 Iw = some ρ → gb_Go l yRe_inBoth (d0 + 2) 0 0 19 [(0, .inr (some 106)), (1, .inr (some h1)), (2, .inr (some h2)), (3, .inl x3), (4, .inl z4)] [] shX Iw post) (hX : ∀ (I2 : gb_Mem), ρ = I2 → gb_Go l yRe_inBoth (d0 + 2) 0 0 130 [(0, .inr (some 106)), (1, .inr (some h1)), (2, .inr (some h2)), (3, .inl x3)] [] shX I2 post) : gb_Go l yRe_inBoth (d0 + 2) 0 0 115 [(0, .inr (some 106)), (1, .inr (some h1)), (2, .inr (some h2)), (3, .inl x3), (4, .inl x4), (5, .inl x5)] [] shX I post := by
  unfold J_Re_inBoth_115 at h
  refine go_aload_n (k := 0) d_Re_inBoth_115 rfl rfl ?_
  refine go_iload_n (k := 3) d_Re_inBoth_116 rfl rfl ?_
  refine go_iload (k := 4) d_Re_inBoth_117 rfl ?_
  refine go_iload (k := 5) d_Re_inBoth_119 rfl ?_
  obtain ⟨I1, w1, h⟩ := fbd_e h
  refine go_callV (y := yRe_putGrid) (asr := [.inl x3, .inl x4, .inl x5]) (v := none) (I' := I1) (st1 := []) d_Re_inBoth_121 s_yRe_putGrid m_Re_39 a_X_106 rfl rfl rfl (Nat.le_of_ble_eq_true rfl) rfl rfl (c_Re_putGrid l (d0 + 0) x3 x4 x5 I w1) ?_
  refine go_iinc (k := 4) (v := x4 + 1) (lv' := [(4, .inl (x4 + 1)), (0, .inr (some 106)), (1, .inr (some h1)), (2, .inr (some h2)), (3, .inl x3), (5, .inl x5)]) d_Re_inBoth_124 rfl rfl (by decide) rfl ?_
  refine go_goto (tgt := 19) d_Re_inBoth_127 (by decide) ?_
  exact go_lv [1, 2, 3, 4, 0] rfl (hk _ _ h)
def J_Re_inBoth_69 (h1 n1 h2 n2 : Nat) (k : Int32 → gb_Mem → Option (gb_Mem)) (x3 x4 s0 : Int32) (I : gb_Mem) : Option (gb_Mem) :=
  if x3 ≤ 0 then
    J_Re_inBoth_115 h1 n1 h2 n2 k x3 x4 s0 I
  else
    if x4 ≤ 0 then
      J_Re_inBoth_115 h1 n1 h2 n2 k x3 x4 s0 I
    else
      fbd (F_Ro_cell h1 n1 (x3 - 1) 0 I) fun r2 =>
      fbd (F_Ro_cell h2 n2 (x4 - 1) 0 I) fun r3 =>
      if r2 = r3 then
        fbd (F_Re_gridAt (x3 - 1) (x4 - 1) I) fun r4 =>
        J_Re_inBoth_115 h1 n1 h2 n2 k x3 x4 (r4 + 1) I
      else
        J_Re_inBoth_115 h1 n1 h2 n2 k x3 x4 s0 I
set_option maxRecDepth 4000 in
theorem j_Re_inBoth_69 (l : Launch) (d0 : Nat) (h1 n1 h2 n2 : Nat) (H1 : isRo h1 n1) (H2 : isRo h2 n2) {post : Option gb_AV → List gb_Ce → gb_Mem → Prop} (k : Int32 → gb_Mem → Option (gb_Mem)) (x3 x4 s0 : Int32) (I : gb_Mem) {ρ : gb_Mem} (h : J_Re_inBoth_69 h1 n1 h2 n2 k x3 x4 s0 I = some ρ) (hk : ∀ (z4 : Int32) (Iw : gb_Mem), k z4 Iw = some ρ → gb_Go l yRe_inBoth (d0 + 2) 0 0 19 [(0, .inr (some 106)), (1, .inr (some h1)), (2, .inr (some h2)), (3, .inl x3), (4, .inl z4)] [] shX Iw post) (hX : ∀ (I2 : gb_Mem), ρ = I2 → gb_Go l yRe_inBoth (d0 + 2) 0 0 130 [(0, .inr (some 106)), (1, .inr (some h1)), (2, .inr (some h2)), (3, .inl x3)] [] shX I2 post) : gb_Go l yRe_inBoth (d0 + 2) 0 0 69 [(0, .inr (some 106)), (1, .inr (some h1)), (2, .inr (some h2)), (3, .inl x3), (4, .inl x4)] [.inl s0] shX I post := by
  unfold J_Re_inBoth_69 at h
  refine go_istore (lv' := [(5, .inl s0), (0, .inr (some 106)), (1, .inr (some h1)), (2, .inr (some h2)), (3, .inl x3), (4, .inl x4)]) d_Re_inBoth_69 (by decide) rfl ?_
  refine go_iload_n (k := 4) d_Re_inBoth_71 rfl rfl ?_
  refine go_if_le (tgt := 115) d_Re_inBoth_72 (by decide) (fun hc => ?_) (fun hc => ?_)
  · rw [if_pos hc] at h
    exact go_lv [1, 2, 3, 4, 5, 0] rfl (j_Re_inBoth_115 l d0 h1 n1 h2 n2 H1 H2 k x3 x4 s0 I h hk hX)
  · rw [if_neg hc] at h
    refine go_iload (k := 5) d_Re_inBoth_75 rfl ?_
    refine go_if_le (tgt := 115) d_Re_inBoth_77 (by decide) (fun hc => ?_) (fun hc => ?_)
    · rw [if_pos hc] at h
      exact go_lv [1, 2, 3, 4, 5, 0] rfl (j_Re_inBoth_115 l d0 h1 n1 h2 n2 H1 H2 k x3 x4 s0 I h hk hX)
    · rw [if_neg hc] at h
      refine go_aload_n (k := 2) d_Re_inBoth_80 rfl rfl ?_
      refine go_iload_n (k := 4) d_Re_inBoth_81 rfl rfl ?_
      refine go_iconst (v := 1) d_Re_inBoth_82 (by decide) ?_
      refine go_isub d_Re_inBoth_83 ?_
      refine go_iconst (v := 0) d_Re_inBoth_84 (by decide) ?_
      obtain ⟨r2, w1, h⟩ := fbd_e h
      refine go_callV (y := yRo_cell) (asr := [.inl (x3 - 1), .inl 0]) (v := some (.inl r2)) (I' := I) (st1 := [.inl r2]) d_Re_inBoth_85 s_yRo_cell m_Re_36 H1.1 rfl rfl rfl (Nat.le_of_ble_eq_true rfl) rfl rfl (c_Ro_cell l (d0 + 0) h1 n1 H1 (x3 - 1) 0 I w1) ?_
      refine go_aload_n (k := 3) d_Re_inBoth_88 rfl rfl ?_
      refine go_iload (k := 5) d_Re_inBoth_89 rfl ?_
      refine go_iconst (v := 1) d_Re_inBoth_91 (by decide) ?_
      refine go_isub d_Re_inBoth_92 ?_
      refine go_iconst (v := 0) d_Re_inBoth_93 (by decide) ?_
      obtain ⟨r3, w1, h⟩ := fbd_e h
      refine go_callV (y := yRo_cell) (asr := [.inl (x4 - 1), .inl 0]) (v := some (.inl r3)) (I' := I) (st1 := [.inl r3, .inl r2]) d_Re_inBoth_94 s_yRo_cell m_Re_36 H2.1 rfl rfl rfl (Nat.le_of_ble_eq_true rfl) rfl rfl (c_Ro_cell l (d0 + 0) h2 n2 H2 (x4 - 1) 0 I w1) ?_
      refine go_cmp_ne (tgt := 115) d_Re_inBoth_97 (by decide) (fun hc => ?_) (fun hc => ?_)
      · rw [if_neg hc] at h
        exact go_lv [1, 2, 3, 4, 5, 0] rfl (j_Re_inBoth_115 l d0 h1 n1 h2 n2 H1 H2 k x3 x4 s0 I h hk hX)
      · rw [if_pos hc] at h
        refine go_aload_n (k := 1) d_Re_inBoth_100 rfl rfl ?_
        refine go_iload_n (k := 4) d_Re_inBoth_101 rfl rfl ?_
        refine go_iconst (v := 1) d_Re_inBoth_102 (by decide) ?_
        refine go_isub d_Re_inBoth_103 ?_
        refine go_iload (k := 5) d_Re_inBoth_104 rfl ?_
        refine go_iconst (v := 1) d_Re_inBoth_106 (by decide) ?_
        refine go_isub d_Re_inBoth_107 ?_
        obtain ⟨r4, w1, h⟩ := fbd_e h
        refine go_callV (y := yRe_gridAt) (asr := [.inl (x3 - 1), .inl (x4 - 1)]) (v := some (.inl r4)) (I' := I) (st1 := [.inl r4]) d_Re_inBoth_108 s_yRe_gridAt m_Re_27 a_X_106 rfl rfl rfl (Nat.le_of_ble_eq_true rfl) rfl rfl (c_Re_gridAt l (d0 + 0) (x3 - 1) (x4 - 1) I w1) ?_
        refine go_iconst (v := 1) d_Re_inBoth_111 (by decide) ?_
        refine go_iadd d_Re_inBoth_112 ?_
        refine go_istore (lv' := [(5, .inl (r4 + 1)), (0, .inr (some 106)), (1, .inr (some h1)), (2, .inr (some h2)), (3, .inl x3), (4, .inl x4)]) d_Re_inBoth_113 (by decide) rfl ?_
        exact go_lv [1, 2, 3, 4, 5, 0] rfl (j_Re_inBoth_115 l d0 h1 n1 h2 n2 H1 H2 k x3 x4 (r4 + 1) I h hk hX)
def J_Re_inBoth_44 (h1 n1 h2 n2 : Nat) (k : Int32 → gb_Mem → Option (gb_Mem)) (x3 x4 : Int32) (I : gb_Mem) : Option (gb_Mem) :=
  J_Re_inBoth_69 h1 n1 h2 n2 k x3 x4 0 I
set_option maxRecDepth 4000 in
theorem j_Re_inBoth_44 (l : Launch) (d0 : Nat) (h1 n1 h2 n2 : Nat) (H1 : isRo h1 n1) (H2 : isRo h2 n2) {post : Option gb_AV → List gb_Ce → gb_Mem → Prop} (k : Int32 → gb_Mem → Option (gb_Mem)) (x3 x4 : Int32) (I : gb_Mem) {ρ : gb_Mem} (h : J_Re_inBoth_44 h1 n1 h2 n2 k x3 x4 I = some ρ) (hk : ∀ (z4 : Int32) (Iw : gb_Mem), k z4 Iw = some ρ → gb_Go l yRe_inBoth (d0 + 2) 0 0 19 [(0, .inr (some 106)), (1, .inr (some h1)), (2, .inr (some h2)), (3, .inl x3), (4, .inl z4)] [] shX Iw post) (hX : ∀ (I2 : gb_Mem), ρ = I2 → gb_Go l yRe_inBoth (d0 + 2) 0 0 130 [(0, .inr (some 106)), (1, .inr (some h1)), (2, .inr (some h2)), (3, .inl x3)] [] shX I2 post) : gb_Go l yRe_inBoth (d0 + 2) 0 0 44 [(0, .inr (some 106)), (1, .inr (some h1)), (2, .inr (some h2)), (3, .inl x3), (4, .inl x4)] [] shX I post := by
  unfold J_Re_inBoth_44 at h
  refine go_iconst (v := 0) d_Re_inBoth_44 (by decide) ?_
  refine go_goto (tgt := 69) d_Re_inBoth_45 (by decide) ?_
  exact go_lv [0, 1, 2, 3, 4] rfl (j_Re_inBoth_69 l d0 h1 n1 h2 n2 H1 H2 k x3 x4 0 I h hk hX)
def L_Re_inBoth_19 (h1 n1 h2 n2 : Nat) (x3 : Int32) : Nat → Int32 → gb_Mem → Option (gb_Mem)
  | 0, _, _ => none
  | n + 1, x4, I =>
    if (I h2 2) < x4 then
      some I
    else
      if 12 < x4 then
        some I
      else
        if x3 = 0 then
          J_Re_inBoth_44 h1 n1 h2 n2 (L_Re_inBoth_19 h1 n1 h2 n2 x3 n) x3 x4 I
        else
          if x4 = 0 then
            J_Re_inBoth_44 h1 n1 h2 n2 (L_Re_inBoth_19 h1 n1 h2 n2 x3 n) x3 x4 I
          else
            fbd (F_Re_gridAt (x3 - 1) x4 I) fun r5 =>
            fbd (F_Re_gridAt x3 (x4 - 1) I) fun r6 =>
            J_Re_inBoth_69 h1 n1 h2 n2 (L_Re_inBoth_19 h1 n1 h2 n2 x3 n) x3 x4 (mx r5 r6) I
set_option maxRecDepth 4000 in
theorem l_Re_inBoth_19 (l : Launch) (d0 : Nat) (h1 n1 h2 n2 : Nat) (H1 : isRo h1 n1) (H2 : isRo h2 n2) (x3 : Int32) {post : Option gb_AV → List gb_Ce → gb_Mem → Prop} : ∀ (n : Nat) (x4 : Int32) (I : gb_Mem) {ρ : gb_Mem} (h : L_Re_inBoth_19 h1 n1 h2 n2 x3 n x4 I = some ρ) (hX : ∀ (I2 : gb_Mem), ρ = I2 → gb_Go l yRe_inBoth (d0 + 2) 0 0 130 [(0, .inr (some 106)), (1, .inr (some h1)), (2, .inr (some h2)), (3, .inl x3)] [] shX I2 post) , gb_Go l yRe_inBoth (d0 + 2) 0 0 19 [(0, .inr (some 106)), (1, .inr (some h1)), (2, .inr (some h2)), (3, .inl x3), (4, .inl x4)] [] shX I post := by
  intro n
  induction n with
  | zero => intro x4 I ρ h hX; cases h
  | succ n ih =>
    intro x4 I ρ h hX
    rw [L_Re_inBoth_19] at h
    refine go_iload (k := 4) d_Re_inBoth_19 rfl ?_
    refine go_aload_n (k := 2) d_Re_inBoth_21 rfl rfl ?_
    refine go_getiN (ci := 4) (k := 2) d_Re_inBoth_22 H2.1 rfl (by decide) f_Re_21 rfl ?_
    refine go_cmp_gt (tgt := 130) d_Re_inBoth_25 (by decide) (fun hc => ?_) (fun hc => ?_)
    · rw [if_pos hc] at h
      exact go_lv [0, 1, 2, 3] rfl (hX _ (Option.some.inj h).symm)
    · rw [if_neg hc] at h
      refine go_iload (k := 4) d_Re_inBoth_28 rfl ?_
      refine go_bipush (v := 12) d_Re_inBoth_30 (by decide) ?_
      refine go_cmp_gt (tgt := 130) d_Re_inBoth_32 (by decide) (fun hc => ?_) (fun hc => ?_)
      · rw [if_pos hc] at h
        exact go_lv [0, 1, 2, 3] rfl (hX _ (Option.some.inj h).symm)
      · rw [if_neg hc] at h
        refine go_iload_n (k := 3) d_Re_inBoth_35 rfl rfl ?_
        refine go_if_eq (tgt := 44) d_Re_inBoth_36 (by decide) (fun hc => ?_) (fun hc => ?_)
        · rw [if_pos hc] at h
          exact go_lv [0, 1, 2, 3, 4] rfl (j_Re_inBoth_44 l d0 h1 n1 h2 n2 H1 H2 (L_Re_inBoth_19 h1 n1 h2 n2 x3 n) x3 x4 I h (fun z4 Iw hh => ih z4 Iw hh hX) hX)
        · rw [if_neg hc] at h
          refine go_iload (k := 4) d_Re_inBoth_39 rfl ?_
          refine go_if_ne (tgt := 48) d_Re_inBoth_41 (by decide) (fun hc => ?_) (fun hc => ?_)
          · rw [if_neg hc] at h
            refine go_aload_n (k := 0) d_Re_inBoth_48 rfl rfl ?_
            refine go_iload_n (k := 3) d_Re_inBoth_49 rfl rfl ?_
            refine go_iconst (v := 1) d_Re_inBoth_50 (by decide) ?_
            refine go_isub d_Re_inBoth_51 ?_
            refine go_iload (k := 4) d_Re_inBoth_52 rfl ?_
            obtain ⟨r5, w1, h⟩ := fbd_e h
            refine go_callV (y := yRe_gridAt) (asr := [.inl (x3 - 1), .inl x4]) (v := some (.inl r5)) (I' := I) (st1 := [.inl r5]) d_Re_inBoth_54 s_yRe_gridAt m_Re_27 a_X_106 rfl rfl rfl (Nat.le_of_ble_eq_true rfl) rfl rfl (c_Re_gridAt l (d0 + 0) (x3 - 1) x4 I w1) ?_
            refine go_aload_n (k := 0) d_Re_inBoth_57 rfl rfl ?_
            refine go_iload_n (k := 3) d_Re_inBoth_58 rfl rfl ?_
            refine go_iload (k := 4) d_Re_inBoth_59 rfl ?_
            refine go_iconst (v := 1) d_Re_inBoth_61 (by decide) ?_
            refine go_isub d_Re_inBoth_62 ?_
            obtain ⟨r6, w1, h⟩ := fbd_e h
            refine go_callV (y := yRe_gridAt) (asr := [.inl x3, .inl (x4 - 1)]) (v := some (.inl r6)) (I' := I) (st1 := [.inl r6, .inl r5]) d_Re_inBoth_63 s_yRe_gridAt m_Re_27 a_X_106 rfl rfl rfl (Nat.le_of_ble_eq_true rfl) rfl rfl (c_Re_gridAt l (d0 + 0) x3 (x4 - 1) I w1) ?_
            refine go_mmax d_Re_inBoth_66 m_Re_31 (Nat.le_of_ble_eq_true rfl) ?_
            exact go_lv [0, 1, 2, 3, 4] rfl (j_Re_inBoth_69 l d0 h1 n1 h2 n2 H1 H2 (L_Re_inBoth_19 h1 n1 h2 n2 x3 n) x3 x4 (mx r5 r6) I h (fun z4 Iw hh => ih z4 Iw hh hX) hX)
          · rw [if_pos hc] at h
            exact go_lv [0, 1, 2, 3, 4] rfl (j_Re_inBoth_44 l d0 h1 n1 h2 n2 H1 H2 (L_Re_inBoth_19 h1 n1 h2 n2 x3 n) x3 x4 I h (fun z4 Iw hh => ih z4 Iw hh hX) hX)
def J_Re_inBoth_130 (h1 n1 h2 n2 : Nat) (k : Int32 → gb_Mem → Option (gb_Mem)) (x3 : Int32) (I : gb_Mem) : Option (gb_Mem) :=
  k (x3 + 1) I
set_option maxRecDepth 4000 in
theorem j_Re_inBoth_130 (l : Launch) (d0 : Nat) (h1 n1 h2 n2 : Nat) (H1 : isRo h1 n1) (H2 : isRo h2 n2) {post : Option gb_AV → List gb_Ce → gb_Mem → Prop} (k : Int32 → gb_Mem → Option (gb_Mem)) (x3 : Int32) (I : gb_Mem) {ρ : gb_Mem} (h : J_Re_inBoth_130 h1 n1 h2 n2 k x3 I = some ρ) (hk : ∀ (z3 : Int32) (Iw : gb_Mem), k z3 Iw = some ρ → gb_Go l yRe_inBoth (d0 + 2) 0 0 2 [(0, .inr (some 106)), (1, .inr (some h1)), (2, .inr (some h2)), (3, .inl z3)] [] shX Iw post) (hX : ∀ (I2 : gb_Mem), ρ = I2 → gb_Go l yRe_inBoth (d0 + 2) 0 0 136 [(0, .inr (some 106)), (1, .inr (some h1)), (2, .inr (some h2))] [] shX I2 post) : gb_Go l yRe_inBoth (d0 + 2) 0 0 130 [(0, .inr (some 106)), (1, .inr (some h1)), (2, .inr (some h2)), (3, .inl x3)] [] shX I post := by
  unfold J_Re_inBoth_130 at h
  refine go_iinc (k := 3) (v := x3 + 1) (lv' := [(3, .inl (x3 + 1)), (0, .inr (some 106)), (1, .inr (some h1)), (2, .inr (some h2))]) d_Re_inBoth_130 rfl rfl (by decide) rfl ?_
  refine go_goto (tgt := 2) d_Re_inBoth_133 (by decide) ?_
  exact go_lv [1, 2, 3, 0] rfl (hk _ _ h)
def L_Re_inBoth_2 (h1 n1 h2 n2 : Nat) : Nat → Int32 → gb_Mem → Option (gb_Mem)
  | 0, _, _ => none
  | n + 1, x3, I =>
    if (I h1 2) < x3 then
      some I
    else
      if 12 < x3 then
        some I
      else
        fbd (L_Re_inBoth_19 h1 n1 h2 n2 x3 5000 0 I) fun I7 =>
        J_Re_inBoth_130 h1 n1 h2 n2 (L_Re_inBoth_2 h1 n1 h2 n2 n) x3 I7
set_option maxRecDepth 4000 in
theorem l_Re_inBoth_2 (l : Launch) (d0 : Nat) (h1 n1 h2 n2 : Nat) (H1 : isRo h1 n1) (H2 : isRo h2 n2) {post : Option gb_AV → List gb_Ce → gb_Mem → Prop} : ∀ (n : Nat) (x3 : Int32) (I : gb_Mem) {ρ : gb_Mem} (h : L_Re_inBoth_2 h1 n1 h2 n2 n x3 I = some ρ) (hX : ∀ (I2 : gb_Mem), ρ = I2 → gb_Go l yRe_inBoth (d0 + 2) 0 0 136 [(0, .inr (some 106)), (1, .inr (some h1)), (2, .inr (some h2))] [] shX I2 post) , gb_Go l yRe_inBoth (d0 + 2) 0 0 2 [(0, .inr (some 106)), (1, .inr (some h1)), (2, .inr (some h2)), (3, .inl x3)] [] shX I post := by
  intro n
  induction n with
  | zero => intro x3 I ρ h hX; cases h
  | succ n ih =>
    intro x3 I ρ h hX
    rw [L_Re_inBoth_2] at h
    refine go_iload_n (k := 3) d_Re_inBoth_2 rfl rfl ?_
    refine go_aload_n (k := 1) d_Re_inBoth_3 rfl rfl ?_
    refine go_getiN (ci := 4) (k := 2) d_Re_inBoth_4 H1.1 rfl (by decide) f_Re_21 rfl ?_
    refine go_cmp_gt (tgt := 136) d_Re_inBoth_7 (by decide) (fun hc => ?_) (fun hc => ?_)
    · rw [if_pos hc] at h
      exact go_lv [0, 1, 2] rfl (hX _ (Option.some.inj h).symm)
    · rw [if_neg hc] at h
      refine go_iload_n (k := 3) d_Re_inBoth_10 rfl rfl ?_
      refine go_bipush (v := 12) d_Re_inBoth_11 (by decide) ?_
      refine go_cmp_gt (tgt := 136) d_Re_inBoth_13 (by decide) (fun hc => ?_) (fun hc => ?_)
      · rw [if_pos hc] at h
        exact go_lv [0, 1, 2] rfl (hX _ (Option.some.inj h).symm)
      · rw [if_neg hc] at h
        refine go_iconst (v := 0) d_Re_inBoth_16 (by decide) ?_
        refine go_istore (lv' := [(4, .inl 0), (0, .inr (some 106)), (1, .inr (some h1)), (2, .inr (some h2)), (3, .inl x3)]) d_Re_inBoth_17 (by decide) rfl ?_
        refine go_lv [1, 2, 3, 4, 0] (lv' := [(0, .inr (some 106)), (1, .inr (some h1)), (2, .inr (some h2)), (3, .inl x3), (4, .inl 0)]) rfl ?_
        obtain ⟨I7, w1, h⟩ := fbd_e h
        refine l_Re_inBoth_19 l d0 h1 n1 h2 n2 H1 H2 x3 5000 0 I w1 (fun I7_ e => ?_)
        cases e
        exact go_lv [0, 1, 2, 3] rfl (j_Re_inBoth_130 l d0 h1 n1 h2 n2 H1 H2 (L_Re_inBoth_2 h1 n1 h2 n2 n) x3 I7 h (fun z3 Iw hh => ih z3 Iw hh hX) hX)
def J_Re_inBoth_136 (h1 n1 h2 n2 : Nat) (I : gb_Mem) : Option (Int32 × gb_Mem) :=
  fbd (F_Re_gridAt (I h1 2) (I h2 2) I) fun r9 =>
  some (r9, I)
set_option maxRecDepth 4000 in
theorem j_Re_inBoth_136 (l : Launch) (d0 : Nat) (h1 n1 h2 n2 : Nat) (H1 : isRo h1 n1) (H2 : isRo h2 n2) (I : gb_Mem) {rz : Int32} {Iz : gb_Mem} (h : J_Re_inBoth_136 h1 n1 h2 n2 I = some (rz, Iz)) : gb_Go l yRe_inBoth (d0 + 2) 0 0 136 [(0, .inr (some 106)), (1, .inr (some h1)), (2, .inr (some h2))] [] shX I (gb_po shX (some (.inl rz)) Iz) := by
  unfold J_Re_inBoth_136 at h
  refine go_aload_n (k := 0) d_Re_inBoth_136 rfl rfl ?_
  refine go_aload_n (k := 1) d_Re_inBoth_137 rfl rfl ?_
  refine go_getiN (ci := 4) (k := 2) d_Re_inBoth_138 H1.1 rfl (by decide) f_Re_21 rfl ?_
  refine go_aload_n (k := 2) d_Re_inBoth_141 rfl rfl ?_
  refine go_getiN (ci := 4) (k := 2) d_Re_inBoth_142 H2.1 rfl (by decide) f_Re_21 rfl ?_
  obtain ⟨r9, w1, h⟩ := fbd_e h
  refine go_callV (y := yRe_gridAt) (asr := [.inl (I h1 2), .inl (I h2 2)]) (v := some (.inl r9)) (I' := I) (st1 := [.inl r9]) d_Re_inBoth_145 s_yRe_gridAt m_Re_27 a_X_106 rfl rfl rfl (Nat.le_of_ble_eq_true rfl) rfl rfl (c_Re_gridAt l (d0 + 0) (I h1 2) (I h2 2) I w1) ?_
  cases h
  exact go_ireturn d_Re_inBoth_148 rfl gb_po_i
def F_Re_inBoth (h1 n1 h2 n2 : Nat) (I : gb_Mem) : Option (Int32 × gb_Mem) :=
  fbd (L_Re_inBoth_2 h1 n1 h2 n2 5000 0 I) fun I8 =>
  J_Re_inBoth_136 h1 n1 h2 n2 I8
set_option maxRecDepth 4000 in
theorem c_Re_inBoth (l : Launch) (d0 : Nat) (h1 n1 h2 n2 : Nat) (H1 : isRo h1 n1) (H2 : isRo h2 n2) (I : gb_Mem) {rz : Int32} {Iz : gb_Mem} (h : F_Re_inBoth h1 n1 h2 n2 I = some (rz, Iz)) : gb_Cs l yRe_inBoth (d0 + 2) [.inr (some 106), .inr (some h1), .inr (some h2)] shX I (some (.inl rz)) Iz := by
  refine gb_Ct.of (lv := [(0, .inr (some 106)), (1, .inr (some h1)), (2, .inr (some h2))]) rfl (Nat.le_of_ble_eq_true rfl) rfl ?_
  unfold F_Re_inBoth at h
  show gb_Go l yRe_inBoth (d0 + 2) 0 0 0 [(0, .inr (some 106)), (1, .inr (some h1)), (2, .inr (some h2))] [] shX I (gb_po shX (some (.inl rz)) Iz)
  refine go_iconst (v := 0) d_Re_inBoth_0 (by decide) ?_
  refine go_istore_n (lv' := [(3, .inl 0), (0, .inr (some 106)), (1, .inr (some h1)), (2, .inr (some h2))]) d_Re_inBoth_1 rfl (by decide) rfl ?_
  refine go_lv [1, 2, 3, 0] (lv' := [(0, .inr (some 106)), (1, .inr (some h1)), (2, .inr (some h2)), (3, .inl 0)]) rfl ?_
  obtain ⟨I8, w1, h⟩ := fbd_e h
  refine l_Re_inBoth_2 l d0 h1 n1 h2 n2 H1 H2 5000 0 I w1 (fun I8_ e => ?_)
  cases e
  exact go_lv [0, 1, 2] rfl (j_Re_inBoth_136 l d0 h1 n1 h2 n2 H1 H2 I8 h)
theorem d_Re_inTheWay_0 : decode yRe_inTheWay.2.1 0 = .ok (.iconst 0, 1) := by decide +kernel
theorem d_Re_inTheWay_1 : decode yRe_inTheWay.2.1 1 = .ok (.istore 4, 2) := by decide +kernel
theorem d_Re_inTheWay_3 : decode yRe_inTheWay.2.1 3 = .ok (.iconst 0, 1) := by decide +kernel
theorem d_Re_inTheWay_4 : decode yRe_inTheWay.2.1 4 = .ok (.istore 5, 2) := by decide +kernel
theorem d_Re_inTheWay_6 : decode yRe_inTheWay.2.1 6 = .ok (.iload 5, 2) := by decide +kernel
theorem d_Re_inTheWay_8 : decode yRe_inTheWay.2.1 8 = .ok (.aload_n 1, 1) := by decide +kernel
theorem d_Re_inTheWay_9 : decode yRe_inTheWay.2.1 9 = .ok (.getfield 21, 3) := by decide +kernel
theorem d_Re_inTheWay_12 : decode yRe_inTheWay.2.1 12 = .ok (.if_icmp .ge 43, 3) := by decide +kernel
theorem d_Re_inTheWay_15 : decode yRe_inTheWay.2.1 15 = .ok (.iload 4, 2) := by decide +kernel
theorem d_Re_inTheWay_17 : decode yRe_inTheWay.2.1 17 = .ok (.aload_n 1, 1) := by decide +kernel
theorem d_Re_inTheWay_18 : decode yRe_inTheWay.2.1 18 = .ok (.iload 5, 2) := by decide +kernel
theorem d_Re_inTheWay_20 : decode yRe_inTheWay.2.1 20 = .ok (.iconst 0, 1) := by decide +kernel
theorem d_Re_inTheWay_21 : decode yRe_inTheWay.2.1 21 = .ok (.invokevirtual 36, 3) := by decide +kernel
theorem d_Re_inTheWay_24 : decode yRe_inTheWay.2.1 24 = .ok (.iload_n 2, 1) := by decide +kernel
theorem d_Re_inTheWay_25 : decode yRe_inTheWay.2.1 25 = .ok (.iload_n 3, 1) := by decide +kernel
theorem d_Re_inTheWay_26 : decode yRe_inTheWay.2.1 26 = .ok (.iadd, 1) := by decide +kernel
theorem d_Re_inTheWay_27 : decode yRe_inTheWay.2.1 27 = .ok (.if_icmp .ge 18, 3) := by decide +kernel
theorem d_Re_inTheWay_30 : decode yRe_inTheWay.2.1 30 = .ok (.aload_n 1, 1) := by decide +kernel
theorem d_Re_inTheWay_31 : decode yRe_inTheWay.2.1 31 = .ok (.iload 5, 2) := by decide +kernel
theorem d_Re_inTheWay_33 : decode yRe_inTheWay.2.1 33 = .ok (.iconst 1, 1) := by decide +kernel
theorem d_Re_inTheWay_34 : decode yRe_inTheWay.2.1 34 = .ok (.invokevirtual 36, 3) := by decide +kernel
theorem d_Re_inTheWay_37 : decode yRe_inTheWay.2.1 37 = .ok (.iload_n 2, 1) := by decide +kernel
theorem d_Re_inTheWay_38 : decode yRe_inTheWay.2.1 38 = .ok (.if_icmp .le 7, 3) := by decide +kernel
theorem d_Re_inTheWay_41 : decode yRe_inTheWay.2.1 41 = .ok (.iconst 1, 1) := by decide +kernel
theorem d_Re_inTheWay_42 : decode yRe_inTheWay.2.1 42 = .ok (.goto 4, 3) := by decide +kernel
theorem d_Re_inTheWay_45 : decode yRe_inTheWay.2.1 45 = .ok (.iconst 0, 1) := by decide +kernel
theorem d_Re_inTheWay_46 : decode yRe_inTheWay.2.1 46 = .ok (.iadd, 1) := by decide +kernel
theorem d_Re_inTheWay_47 : decode yRe_inTheWay.2.1 47 = .ok (.istore 4, 2) := by decide +kernel
theorem d_Re_inTheWay_49 : decode yRe_inTheWay.2.1 49 = .ok (.iinc 5 1, 3) := by decide +kernel
theorem d_Re_inTheWay_52 : decode yRe_inTheWay.2.1 52 = .ok (.goto (-46), 3) := by decide +kernel
theorem d_Re_inTheWay_55 : decode yRe_inTheWay.2.1 55 = .ok (.iload 4, 2) := by decide +kernel
theorem d_Re_inTheWay_57 : decode yRe_inTheWay.2.1 57 = .ok (.ireturn, 1) := by decide +kernel
def J_Re_inTheWay_46 (h1 n1 : Nat) (k : Int32 → Int32 → Option (Int32)) (x2 x3 x5 s0 s1 : Int32) (I : gb_Mem) : Option (Int32) :=
  k (s1 + s0) (x5 + 1)
set_option maxRecDepth 4000 in
theorem j_Re_inTheWay_46 (l : Launch) (d0 : Nat) (h1 n1 : Nat) (H1 : isRo h1 n1) {post : Option gb_AV → List gb_Ce → gb_Mem → Prop} (k : Int32 → Int32 → Option (Int32)) (x2 x3 x5 s0 s1 : Int32) (I : gb_Mem) {ρ : Int32} (h : J_Re_inTheWay_46 h1 n1 k x2 x3 x5 s0 s1 I = some ρ) (hk : ∀ (z4 z5 : Int32), k z4 z5 = some ρ → gb_Go l yRe_inTheWay (d0 + 2) 0 0 6 [(1, .inr (some h1)), (2, .inl x2), (3, .inl x3), (4, .inl z4), (5, .inl z5)] [] shX I post) (hX : ∀ (o4 : Int32), ρ = o4 → gb_Go l yRe_inTheWay (d0 + 2) 0 0 55 [(4, .inl o4)] [] shX I post) : gb_Go l yRe_inTheWay (d0 + 2) 0 0 46 [(1, .inr (some h1)), (2, .inl x2), (3, .inl x3), (5, .inl x5)] [.inl s0, .inl s1] shX I post := by
  unfold J_Re_inTheWay_46 at h
  refine go_iadd d_Re_inTheWay_46 ?_
  refine go_istore (lv' := [(4, .inl (s1 + s0)), (1, .inr (some h1)), (2, .inl x2), (3, .inl x3), (5, .inl x5)]) d_Re_inTheWay_47 (by decide) rfl ?_
  refine go_iinc (k := 4) (v := x5 + 1) (lv' := [(5, .inl (x5 + 1)), (4, .inl (s1 + s0)), (1, .inr (some h1)), (2, .inl x2), (3, .inl x3)]) d_Re_inTheWay_49 rfl rfl (by decide) rfl ?_
  refine go_goto (tgt := 6) d_Re_inTheWay_52 (by decide) ?_
  exact go_lv [2, 3, 4, 1, 0] rfl (hk _ _ h)
def J_Re_inTheWay_45 (h1 n1 : Nat) (k : Int32 → Int32 → Option (Int32)) (x2 x3 x5 s0 : Int32) (I : gb_Mem) : Option (Int32) :=
  J_Re_inTheWay_46 h1 n1 k x2 x3 x5 0 s0 I
set_option maxRecDepth 4000 in
theorem j_Re_inTheWay_45 (l : Launch) (d0 : Nat) (h1 n1 : Nat) (H1 : isRo h1 n1) {post : Option gb_AV → List gb_Ce → gb_Mem → Prop} (k : Int32 → Int32 → Option (Int32)) (x2 x3 x5 s0 : Int32) (I : gb_Mem) {ρ : Int32} (h : J_Re_inTheWay_45 h1 n1 k x2 x3 x5 s0 I = some ρ) (hk : ∀ (z4 z5 : Int32), k z4 z5 = some ρ → gb_Go l yRe_inTheWay (d0 + 2) 0 0 6 [(1, .inr (some h1)), (2, .inl x2), (3, .inl x3), (4, .inl z4), (5, .inl z5)] [] shX I post) (hX : ∀ (o4 : Int32), ρ = o4 → gb_Go l yRe_inTheWay (d0 + 2) 0 0 55 [(4, .inl o4)] [] shX I post) : gb_Go l yRe_inTheWay (d0 + 2) 0 0 45 [(1, .inr (some h1)), (2, .inl x2), (3, .inl x3), (5, .inl x5)] [.inl s0] shX I post := by
  unfold J_Re_inTheWay_45 at h
  refine go_iconst (v := 0) d_Re_inTheWay_45 (by decide) ?_
  exact go_lv [0, 1, 2, 3] rfl (j_Re_inTheWay_46 l d0 h1 n1 H1 k x2 x3 x5 0 s0 I h hk hX)
def L_Re_inTheWay_6 (h1 n1 : Nat) (x2 x3 : Int32) (I : gb_Mem) : Nat → Int32 → Int32 → Option (Int32)
  | 0, _, _ => none
  | n + 1, x4, x5 =>
    if (I h1 2) ≤ x5 then
      some x4
    else
      fbd (F_Ro_cell h1 n1 x5 0 I) fun r1 =>
      if (x2 + x3) ≤ r1 then
        J_Re_inTheWay_45 h1 n1 (L_Re_inTheWay_6 h1 n1 x2 x3 I n) x2 x3 x5 x4 I
      else
        fbd (F_Ro_cell h1 n1 x5 1 I) fun r2 =>
        if r2 ≤ x2 then
          J_Re_inTheWay_45 h1 n1 (L_Re_inTheWay_6 h1 n1 x2 x3 I n) x2 x3 x5 x4 I
        else
          J_Re_inTheWay_46 h1 n1 (L_Re_inTheWay_6 h1 n1 x2 x3 I n) x2 x3 x5 1 x4 I
set_option maxRecDepth 4000 in
theorem l_Re_inTheWay_6 (l : Launch) (d0 : Nat) (h1 n1 : Nat) (H1 : isRo h1 n1) (x2 x3 : Int32) (I : gb_Mem) {post : Option gb_AV → List gb_Ce → gb_Mem → Prop} : ∀ (n : Nat) (x4 x5 : Int32) {ρ : Int32} (h : L_Re_inTheWay_6 h1 n1 x2 x3 I n x4 x5 = some ρ) (hX : ∀ (o4 : Int32), ρ = o4 → gb_Go l yRe_inTheWay (d0 + 2) 0 0 55 [(4, .inl o4)] [] shX I post) , gb_Go l yRe_inTheWay (d0 + 2) 0 0 6 [(1, .inr (some h1)), (2, .inl x2), (3, .inl x3), (4, .inl x4), (5, .inl x5)] [] shX I post := by
  intro n
  induction n with
  | zero => intro x4 x5 ρ h hX; cases h
  | succ n ih =>
    intro x4 x5 ρ h hX
    rw [L_Re_inTheWay_6] at h
    refine go_iload (k := 4) d_Re_inTheWay_6 rfl ?_
    refine go_aload_n (k := 0) d_Re_inTheWay_8 rfl rfl ?_
    refine go_getiN (ci := 4) (k := 2) d_Re_inTheWay_9 H1.1 rfl (by decide) f_Re_21 rfl ?_
    refine go_cmp_ge (tgt := 55) d_Re_inTheWay_12 (by decide) (fun hc => ?_) (fun hc => ?_)
    · rw [if_pos hc] at h
      exact go_lv [3] rfl (hX _ (Option.some.inj h).symm)
    · rw [if_neg hc] at h
      refine go_iload (k := 3) d_Re_inTheWay_15 rfl ?_
      refine go_aload_n (k := 0) d_Re_inTheWay_17 rfl rfl ?_
      refine go_iload (k := 4) d_Re_inTheWay_18 rfl ?_
      refine go_iconst (v := 0) d_Re_inTheWay_20 (by decide) ?_
      obtain ⟨r1, w1, h⟩ := fbd_e h
      refine go_callV (y := yRo_cell) (asr := [.inl x5, .inl 0]) (v := some (.inl r1)) (I' := I) (st1 := [.inl r1, .inl x4]) d_Re_inTheWay_21 s_yRo_cell m_Re_36 H1.1 rfl rfl rfl (Nat.le_of_ble_eq_true rfl) rfl rfl (c_Ro_cell l (d0 + 0) h1 n1 H1 x5 0 I w1) ?_
      refine go_iload_n (k := 1) d_Re_inTheWay_24 rfl rfl ?_
      refine go_iload_n (k := 2) d_Re_inTheWay_25 rfl rfl ?_
      refine go_iadd d_Re_inTheWay_26 ?_
      refine go_cmp_ge (tgt := 45) d_Re_inTheWay_27 (by decide) (fun hc => ?_) (fun hc => ?_)
      · rw [if_pos hc] at h
        exact go_lv [0, 1, 2, 4] rfl (j_Re_inTheWay_45 l d0 h1 n1 H1 (L_Re_inTheWay_6 h1 n1 x2 x3 I n) x2 x3 x5 x4 I h (fun z4 z5 hh => ih z4 z5 hh hX) hX)
      · rw [if_neg hc] at h
        refine go_aload_n (k := 0) d_Re_inTheWay_30 rfl rfl ?_
        refine go_iload (k := 4) d_Re_inTheWay_31 rfl ?_
        refine go_iconst (v := 1) d_Re_inTheWay_33 (by decide) ?_
        obtain ⟨r2, w1, h⟩ := fbd_e h
        refine go_callV (y := yRo_cell) (asr := [.inl x5, .inl 1]) (v := some (.inl r2)) (I' := I) (st1 := [.inl r2, .inl x4]) d_Re_inTheWay_34 s_yRo_cell m_Re_36 H1.1 rfl rfl rfl (Nat.le_of_ble_eq_true rfl) rfl rfl (c_Ro_cell l (d0 + 0) h1 n1 H1 x5 1 I w1) ?_
        refine go_iload_n (k := 1) d_Re_inTheWay_37 rfl rfl ?_
        refine go_cmp_le (tgt := 45) d_Re_inTheWay_38 (by decide) (fun hc => ?_) (fun hc => ?_)
        · rw [if_pos hc] at h
          exact go_lv [0, 1, 2, 4] rfl (j_Re_inTheWay_45 l d0 h1 n1 H1 (L_Re_inTheWay_6 h1 n1 x2 x3 I n) x2 x3 x5 x4 I h (fun z4 z5 hh => ih z4 z5 hh hX) hX)
        · rw [if_neg hc] at h
          refine go_iconst (v := 1) d_Re_inTheWay_41 (by decide) ?_
          refine go_goto (tgt := 46) d_Re_inTheWay_42 (by decide) ?_
          exact go_lv [0, 1, 2, 4] rfl (j_Re_inTheWay_46 l d0 h1 n1 H1 (L_Re_inTheWay_6 h1 n1 x2 x3 I n) x2 x3 x5 1 x4 I h (fun z4 z5 hh => ih z4 z5 hh hX) hX)
def F_Re_inTheWay (h1 n1 : Nat) (x2 x3 : Int32) (I : gb_Mem) : Option (Int32) :=
  fbd (L_Re_inTheWay_6 h1 n1 x2 x3 I 5000 0 0) fun o3 =>
  some o3
set_option maxRecDepth 4000 in
theorem c_Re_inTheWay (l : Launch) (d0 : Nat) (h1 n1 : Nat) (H1 : isRo h1 n1) (x2 x3 : Int32) (I : gb_Mem) {rz : Int32} (h : F_Re_inTheWay h1 n1 x2 x3 I = some rz) : gb_Cs l yRe_inTheWay (d0 + 2) [.inr (some 106), .inr (some h1), .inl x2, .inl x3] shX I (some (.inl rz)) I := by
  refine gb_Ct.of (lv := [(0, .inr (some 106)), (1, .inr (some h1)), (2, .inl x2), (3, .inl x3)]) rfl (Nat.le_of_ble_eq_true rfl) rfl ?_
  unfold F_Re_inTheWay at h
  show gb_Go l yRe_inTheWay (d0 + 2) 0 0 0 [(0, .inr (some 106)), (1, .inr (some h1)), (2, .inl x2), (3, .inl x3)] [] shX I (gb_po shX (some (.inl rz)) I)
  refine go_iconst (v := 0) d_Re_inTheWay_0 (by decide) ?_
  refine go_istore (lv' := [(4, .inl 0), (0, .inr (some 106)), (1, .inr (some h1)), (2, .inl x2), (3, .inl x3)]) d_Re_inTheWay_1 (by decide) rfl ?_
  refine go_iconst (v := 0) d_Re_inTheWay_3 (by decide) ?_
  refine go_istore (lv' := [(5, .inl 0), (4, .inl 0), (0, .inr (some 106)), (1, .inr (some h1)), (2, .inl x2), (3, .inl x3)]) d_Re_inTheWay_4 (by decide) rfl ?_
  refine go_lv [3, 4, 5, 1, 0] (lv' := [(1, .inr (some h1)), (2, .inl x2), (3, .inl x3), (4, .inl 0), (5, .inl 0)]) rfl ?_
  obtain ⟨o3, w1, h⟩ := fbd_e h
  refine l_Re_inTheWay_6 l d0 h1 n1 H1 x2 x3 I 5000 0 0 w1 (fun o3_ e => ?_)
  cases e
  refine go_iload (k := 0) d_Re_inTheWay_55 rfl ?_
  cases h
  exact go_ireturn d_Re_inTheWay_57 rfl gb_po_i
