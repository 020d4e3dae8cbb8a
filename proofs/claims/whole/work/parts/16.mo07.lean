theorem d_Mo_readReach_0 : decode yMo_readReach.2.1 0 = .ok (.aload_n 0, 1) := by decide +kernel
theorem d_Mo_readReach_1 : decode yMo_readReach.2.1 1 = .ok (.bipush 14, 2) := by decide +kernel
theorem d_Mo_readReach_3 : decode yMo_readReach.2.1 3 = .ok (.iconst 0, 1) := by decide +kernel
theorem d_Mo_readReach_4 : decode yMo_readReach.2.1 4 = .ok (.bipush 11, 2) := by decide +kernel
theorem d_Mo_readReach_6 : decode yMo_readReach.2.1 6 = .ok (.invokevirtual 272, 3) := by decide +kernel
theorem d_Mo_readReach_9 : decode yMo_readReach.2.1 9 = .ok (.istore_n 1, 1) := by decide +kernel
theorem d_Mo_readReach_10 : decode yMo_readReach.2.1 10 = .ok (.iload_n 1, 1) := by decide +kernel
theorem d_Mo_readReach_11 : decode yMo_readReach.2.1 11 = .ok (.iconst (-1), 1) := by decide +kernel
theorem d_Mo_readReach_12 : decode yMo_readReach.2.1 12 = .ok (.if_icmp .ne 5, 3) := by decide +kernel
theorem d_Mo_readReach_15 : decode yMo_readReach.2.1 15 = .ok (.iconst (-1), 1) := by decide +kernel
theorem d_Mo_readReach_16 : decode yMo_readReach.2.1 16 = .ok (.ireturn, 1) := by decide +kernel
theorem d_Mo_readReach_17 : decode yMo_readReach.2.1 17 = .ok (.aload_n 0, 1) := by decide +kernel
theorem d_Mo_readReach_18 : decode yMo_readReach.2.1 18 = .ok (.bipush 26, 2) := by decide +kernel
theorem d_Mo_readReach_20 : decode yMo_readReach.2.1 20 = .ok (.invokevirtual 247, 3) := by decide +kernel
theorem d_Mo_readReach_23 : decode yMo_readReach.2.1 23 = .ok (.ifCond .ne 9, 3) := by decide +kernel
theorem d_Mo_readReach_26 : decode yMo_readReach.2.1 26 = .ok (.aload_n 0, 1) := by decide +kernel
theorem d_Mo_readReach_27 : decode yMo_readReach.2.1 27 = .ok (.iconst 1, 1) := by decide +kernel
theorem d_Mo_readReach_28 : decode yMo_readReach.2.1 28 = .ok (.invokevirtual 218, 3) := by decide +kernel
theorem d_Mo_readReach_31 : decode yMo_readReach.2.1 31 = .ok (.ireturn, 1) := by decide +kernel
theorem d_Mo_readReach_32 : decode yMo_readReach.2.1 32 = .ok (.aload_n 0, 1) := by decide +kernel
theorem d_Mo_readReach_33 : decode yMo_readReach.2.1 33 = .ok (.invokevirtual 225, 3) := by decide +kernel
theorem d_Mo_readReach_36 : decode yMo_readReach.2.1 36 = .ok (.aload_n 0, 1) := by decide +kernel
theorem d_Mo_readReach_37 : decode yMo_readReach.2.1 37 = .ok (.getfield 187, 3) := by decide +kernel
theorem d_Mo_readReach_40 : decode yMo_readReach.2.1 40 = .ok (.iconst 3, 1) := by decide +kernel
theorem d_Mo_readReach_41 : decode yMo_readReach.2.1 41 = .ok (.if_icmp .ne 35, 3) := by decide +kernel
theorem d_Mo_readReach_44 : decode yMo_readReach.2.1 44 = .ok (.aload_n 0, 1) := by decide +kernel
theorem d_Mo_readReach_45 : decode yMo_readReach.2.1 45 = .ok (.getfield 190, 3) := by decide +kernel
theorem d_Mo_readReach_48 : decode yMo_readReach.2.1 48 = .ok (.bipush 12, 2) := by decide +kernel
theorem d_Mo_readReach_50 : decode yMo_readReach.2.1 50 = .ok (.if_icmp .ge 26, 3) := by decide +kernel
theorem d_Mo_readReach_53 : decode yMo_readReach.2.1 53 = .ok (.aload_n 0, 1) := by decide +kernel
theorem d_Mo_readReach_54 : decode yMo_readReach.2.1 54 = .ok (.aload_n 0, 1) := by decide +kernel
theorem d_Mo_readReach_55 : decode yMo_readReach.2.1 55 = .ok (.getfield 190, 3) := by decide +kernel
theorem d_Mo_readReach_58 : decode yMo_readReach.2.1 58 = .ok (.iload_n 1, 1) := by decide +kernel
theorem d_Mo_readReach_59 : decode yMo_readReach.2.1 59 = .ok (.iconst 1, 1) := by decide +kernel
theorem d_Mo_readReach_60 : decode yMo_readReach.2.1 60 = .ok (.isub, 1) := by decide +kernel
theorem d_Mo_readReach_61 : decode yMo_readReach.2.1 61 = .ok (.iload_n 1, 1) := by decide +kernel
theorem d_Mo_readReach_62 : decode yMo_readReach.2.1 62 = .ok (.iconst 1, 1) := by decide +kernel
theorem d_Mo_readReach_63 : decode yMo_readReach.2.1 63 = .ok (.iadd, 1) := by decide +kernel
theorem d_Mo_readReach_64 : decode yMo_readReach.2.1 64 = .ok (.invokevirtual 157, 3) := by decide +kernel
theorem d_Mo_readReach_67 : decode yMo_readReach.2.1 67 = .ok (.ifCond .eq 9, 3) := by decide +kernel
theorem d_Mo_readReach_70 : decode yMo_readReach.2.1 70 = .ok (.aload_n 0, 1) := by decide +kernel
theorem d_Mo_readReach_71 : decode yMo_readReach.2.1 71 = .ok (.iconst 2, 1) := by decide +kernel
theorem d_Mo_readReach_72 : decode yMo_readReach.2.1 72 = .ok (.invokevirtual 218, 3) := by decide +kernel
theorem d_Mo_readReach_75 : decode yMo_readReach.2.1 75 = .ok (.ireturn, 1) := by decide +kernel
theorem d_Mo_readReach_76 : decode yMo_readReach.2.1 76 = .ok (.aload_n 0, 1) := by decide +kernel
theorem d_Mo_readReach_77 : decode yMo_readReach.2.1 77 = .ok (.iconst 0, 1) := by decide +kernel
theorem d_Mo_readReach_78 : decode yMo_readReach.2.1 78 = .ok (.bipush 11, 2) := by decide +kernel
theorem d_Mo_readReach_80 : decode yMo_readReach.2.1 80 = .ok (.invokevirtual 269, 3) := by decide +kernel
theorem d_Mo_readReach_83 : decode yMo_readReach.2.1 83 = .ok (.istore_n 2, 1) := by decide +kernel
theorem d_Mo_readReach_84 : decode yMo_readReach.2.1 84 = .ok (.iload_n 2, 1) := by decide +kernel
theorem d_Mo_readReach_85 : decode yMo_readReach.2.1 85 = .ok (.iconst (-1), 1) := by decide +kernel
theorem d_Mo_readReach_86 : decode yMo_readReach.2.1 86 = .ok (.if_icmp .ne 5, 3) := by decide +kernel
theorem d_Mo_readReach_89 : decode yMo_readReach.2.1 89 = .ok (.iconst (-1), 1) := by decide +kernel
theorem d_Mo_readReach_90 : decode yMo_readReach.2.1 90 = .ok (.ireturn, 1) := by decide +kernel
theorem d_Mo_readReach_91 : decode yMo_readReach.2.1 91 = .ok (.aload_n 0, 1) := by decide +kernel
theorem d_Mo_readReach_92 : decode yMo_readReach.2.1 92 = .ok (.getfield 74, 3) := by decide +kernel
theorem d_Mo_readReach_95 : decode yMo_readReach.2.1 95 = .ok (.bipush 12, 2) := by decide +kernel
theorem d_Mo_readReach_97 : decode yMo_readReach.2.1 97 = .ok (.iload_n 1, 1) := by decide +kernel
theorem d_Mo_readReach_98 : decode yMo_readReach.2.1 98 = .ok (.iadd, 1) := by decide +kernel
theorem d_Mo_readReach_99 : decode yMo_readReach.2.1 99 = .ok (.aload_n 0, 1) := by decide +kernel
theorem d_Mo_readReach_100 : decode yMo_readReach.2.1 100 = .ok (.getfield 74, 3) := by decide +kernel
theorem d_Mo_readReach_103 : decode yMo_readReach.2.1 103 = .ok (.bipush 12, 2) := by decide +kernel
theorem d_Mo_readReach_105 : decode yMo_readReach.2.1 105 = .ok (.iload_n 1, 1) := by decide +kernel
theorem d_Mo_readReach_106 : decode yMo_readReach.2.1 106 = .ok (.iadd, 1) := by decide +kernel
theorem d_Mo_readReach_107 : decode yMo_readReach.2.1 107 = .ok (.iaload, 1) := by decide +kernel
theorem d_Mo_readReach_108 : decode yMo_readReach.2.1 108 = .ok (.iconst 1, 1) := by decide +kernel
theorem d_Mo_readReach_109 : decode yMo_readReach.2.1 109 = .ok (.iload_n 2, 1) := by decide +kernel
theorem d_Mo_readReach_110 : decode yMo_readReach.2.1 110 = .ok (.ishl, 1) := by decide +kernel
theorem d_Mo_readReach_111 : decode yMo_readReach.2.1 111 = .ok (.ior, 1) := by decide +kernel
theorem d_Mo_readReach_112 : decode yMo_readReach.2.1 112 = .ok (.iastore, 1) := by decide +kernel
theorem d_Mo_readReach_113 : decode yMo_readReach.2.1 113 = .ok (.aload_n 0, 1) := by decide +kernel
theorem d_Mo_readReach_114 : decode yMo_readReach.2.1 114 = .ok (.getfield 74, 3) := by decide +kernel
theorem d_Mo_readReach_117 : decode yMo_readReach.2.1 117 = .ok (.bipush 12, 2) := by decide +kernel
theorem d_Mo_readReach_119 : decode yMo_readReach.2.1 119 = .ok (.iload_n 2, 1) := by decide +kernel
theorem d_Mo_readReach_120 : decode yMo_readReach.2.1 120 = .ok (.iadd, 1) := by decide +kernel
theorem d_Mo_readReach_121 : decode yMo_readReach.2.1 121 = .ok (.aload_n 0, 1) := by decide +kernel
theorem d_Mo_readReach_122 : decode yMo_readReach.2.1 122 = .ok (.getfield 74, 3) := by decide +kernel
theorem d_Mo_readReach_125 : decode yMo_readReach.2.1 125 = .ok (.bipush 12, 2) := by decide +kernel
theorem d_Mo_readReach_127 : decode yMo_readReach.2.1 127 = .ok (.iload_n 2, 1) := by decide +kernel
theorem d_Mo_readReach_128 : decode yMo_readReach.2.1 128 = .ok (.iadd, 1) := by decide +kernel
theorem d_Mo_readReach_129 : decode yMo_readReach.2.1 129 = .ok (.iaload, 1) := by decide +kernel
theorem d_Mo_readReach_130 : decode yMo_readReach.2.1 130 = .ok (.iconst 1, 1) := by decide +kernel
theorem d_Mo_readReach_131 : decode yMo_readReach.2.1 131 = .ok (.iload_n 1, 1) := by decide +kernel
theorem d_Mo_readReach_132 : decode yMo_readReach.2.1 132 = .ok (.ishl, 1) := by decide +kernel
theorem d_Mo_readReach_133 : decode yMo_readReach.2.1 133 = .ok (.ior, 1) := by decide +kernel
theorem d_Mo_readReach_134 : decode yMo_readReach.2.1 134 = .ok (.iastore, 1) := by decide +kernel
theorem d_Mo_readReach_135 : decode yMo_readReach.2.1 135 = .ok (.aload_n 0, 1) := by decide +kernel
theorem d_Mo_readReach_136 : decode yMo_readReach.2.1 136 = .ok (.bipush 59, 2) := by decide +kernel
theorem d_Mo_readReach_138 : decode yMo_readReach.2.1 138 = .ok (.invokevirtual 276, 3) := by decide +kernel
theorem d_Mo_readReach_141 : decode yMo_readReach.2.1 141 = .ok (.ireturn, 1) := by decide +kernel
def J_Mo_readReach_76 (x1 : Int32) (I : gb_Mem) : Option (Int32 × gb_Mem) :=
  fbd (F_Mo_readNumber 0 11 I) fun (r5, I4) =>
  if r5 = (-1) then
    some ((-1), I4)
  else
    flod I4 21 24 (12 + x1) fun v6 =>
    fsto I4 21 24 (12 + x1) (v6 ||| (1 <<< (r5 &&& 31))) fun I7 =>
    flod I7 21 24 (12 + r5) fun v8 =>
    fsto I7 21 24 (12 + r5) (v8 ||| (1 <<< (x1 &&& 31))) fun I9 =>
    fbd (F_Mo_readMark 59 I9) fun (r11, I10) =>
    some (r11, I10)
set_option maxRecDepth 4000 in
theorem j_Mo_readReach_76 (l : Launch) (d0 : Nat) (x1 : Int32) (I : gb_Mem) {rz : Int32} {Iz : gb_Mem} (h : J_Mo_readReach_76 x1 I = some (rz, Iz)) : gb_Go l yMo_readReach (d0 + 5) 0 0 76 [(0, .inr (some 0)), (1, .inl x1)] [] shM I (gb_po shM (some (.inl rz)) Iz) := by
  unfold J_Mo_readReach_76 at h
  refine go_aload_n (k := 0) d_Mo_readReach_76 rfl rfl ?_
  refine go_iconst (v := 0) d_Mo_readReach_77 (by decide) ?_
  refine go_bipush (v := 11) d_Mo_readReach_78 (by decide) ?_
  obtain ⟨⟨r5, I4⟩, w1, h⟩ := fbd_e h
  try dsimp only at h
  refine go_callV (y := yMo_readNumber) (asr := [.inl 0, .inl 11]) (v := some (.inl r5)) (I' := I4) (st1 := [.inl r5]) d_Mo_readReach_80 s_yMo_readNumber m_Mo_269 a_M_0 rfl rfl rfl (Nat.le_of_ble_eq_true rfl) rfl rfl (c_Mo_readNumber l (d0 + 1) 0 11 I w1) ?_
  refine go_istore_n (lv' := [(2, .inl r5), (0, .inr (some 0)), (1, .inl x1)]) d_Mo_readReach_83 rfl (by decide) rfl ?_
  refine go_iload_n (k := 0) d_Mo_readReach_84 rfl rfl ?_
  refine go_iconst (v := (-1)) d_Mo_readReach_85 (by decide) ?_
  refine go_cmp_ne (tgt := 91) d_Mo_readReach_86 (by decide) (fun hc => ?_) (fun hc => ?_)
  · rw [if_neg hc] at h
    refine go_aload_n (k := 1) d_Mo_readReach_91 rfl rfl ?_
    refine go_getr (ci := 10) (k := 40) (r := 21) d_Mo_readReach_92 a_M_0 rfl (by decide) f_Mo_74 rfl ?_
    refine go_bipush (v := 12) d_Mo_readReach_95 (by decide) ?_
    refine go_iload_n (k := 2) d_Mo_readReach_97 rfl rfl ?_
    refine go_iadd d_Mo_readReach_98 ?_
    refine go_aload_n (k := 1) d_Mo_readReach_99 rfl rfl ?_
    refine go_getr (ci := 10) (k := 40) (r := 21) d_Mo_readReach_100 a_M_0 rfl (by decide) f_Mo_74 rfl ?_
    refine go_bipush (v := 12) d_Mo_readReach_103 (by decide) ?_
    refine go_iload_n (k := 2) d_Mo_readReach_105 rfl rfl ?_
    refine go_iadd d_Mo_readReach_106 ?_
    obtain ⟨hi, v6, ev6, h⟩ := flod_e h
    refine go_iald2 d_Mo_readReach_107 a_M_21 hi ev6 ?_
    refine go_iconst (v := 1) d_Mo_readReach_108 (by decide) ?_
    refine go_iload_n (k := 0) d_Mo_readReach_109 rfl rfl ?_
    refine go_ishl d_Mo_readReach_110 ?_
    refine go_ior d_Mo_readReach_111 ?_
    obtain ⟨hi, I7, eI7, h⟩ := fsto_e h
    refine go_iast (I' := I7) d_Mo_readReach_112 a_M_21 hi eI7 ?_
    refine go_aload_n (k := 1) d_Mo_readReach_113 rfl rfl ?_
    refine go_getr (ci := 10) (k := 40) (r := 21) d_Mo_readReach_114 a_M_0 rfl (by decide) f_Mo_74 rfl ?_
    refine go_bipush (v := 12) d_Mo_readReach_117 (by decide) ?_
    refine go_iload_n (k := 0) d_Mo_readReach_119 rfl rfl ?_
    refine go_iadd d_Mo_readReach_120 ?_
    refine go_aload_n (k := 1) d_Mo_readReach_121 rfl rfl ?_
    refine go_getr (ci := 10) (k := 40) (r := 21) d_Mo_readReach_122 a_M_0 rfl (by decide) f_Mo_74 rfl ?_
    refine go_bipush (v := 12) d_Mo_readReach_125 (by decide) ?_
    refine go_iload_n (k := 0) d_Mo_readReach_127 rfl rfl ?_
    refine go_iadd d_Mo_readReach_128 ?_
    obtain ⟨hi, v8, ev8, h⟩ := flod_e h
    refine go_iald2 d_Mo_readReach_129 a_M_21 hi ev8 ?_
    refine go_iconst (v := 1) d_Mo_readReach_130 (by decide) ?_
    refine go_iload_n (k := 2) d_Mo_readReach_131 rfl rfl ?_
    refine go_ishl d_Mo_readReach_132 ?_
    refine go_ior d_Mo_readReach_133 ?_
    obtain ⟨hi, I9, eI9, h⟩ := fsto_e h
    refine go_iast (I' := I9) d_Mo_readReach_134 a_M_21 hi eI9 ?_
    refine go_aload_n (k := 1) d_Mo_readReach_135 rfl rfl ?_
    refine go_bipush (v := 59) d_Mo_readReach_136 (by decide) ?_
    obtain ⟨⟨r11, I10⟩, w1, h⟩ := fbd_e h
    try dsimp only at h
    refine go_callV (y := yMo_readMark) (asr := [.inl 59]) (v := some (.inl r11)) (I' := I10) (st1 := [.inl r11]) d_Mo_readReach_138 s_yMo_readMark m_Mo_276 a_M_0 rfl rfl rfl (Nat.le_of_ble_eq_true rfl) rfl rfl (c_Mo_readMark l (d0 + 1) 59 I9 w1) ?_
    cases h
    exact go_ireturn d_Mo_readReach_141 rfl gb_po_i
  · rw [if_pos hc] at h
    refine go_iconst (v := (-1)) d_Mo_readReach_89 (by decide) ?_
    cases h
    exact go_ireturn d_Mo_readReach_90 rfl gb_po_i
def F_Mo_readReach (I : gb_Mem) : Option (Int32 × gb_Mem) :=
  fbd (F_Mo_readTold 14 0 11 I) fun (r2, I1) =>
  if r2 = (-1) then
    some ((-1), I1)
  else
    if (F_Mo_isWord 26 I1) = 0 then
      fbd (F_Mo_errs 1 I1) fun (r15, I14) =>
      some (r15, I14)
    else
      fbd (F_Mo_reads  I1) fun I3 =>
      if (I3 0 16) = 3 then
        if 12 ≤ (I3 0 17) then
          J_Mo_readReach_76 r2 I3
        else
          if (F_Mo_isIn (I3 0 17) (r2 - 1) (r2 + 1) I3) = 0 then
            J_Mo_readReach_76 r2 I3
          else
            fbd (F_Mo_errs 2 I3) fun (r13, I12) =>
            some (r13, I12)
      else
        J_Mo_readReach_76 r2 I3
set_option maxRecDepth 4000 in
theorem c_Mo_readReach (l : Launch) (d0 : Nat) (I : gb_Mem) {rz : Int32} {Iz : gb_Mem} (h : F_Mo_readReach I = some (rz, Iz)) : gb_Cs l yMo_readReach (d0 + 5) [.inr (some 0)] shM I (some (.inl rz)) Iz := by
  refine gb_Ct.of (lv := [(0, .inr (some 0))]) rfl (Nat.le_of_ble_eq_true rfl) rfl ?_
  unfold F_Mo_readReach at h
  show gb_Go l yMo_readReach (d0 + 5) 0 0 0 [(0, .inr (some 0))] [] shM I (gb_po shM (some (.inl rz)) Iz)
  refine go_aload_n (k := 0) d_Mo_readReach_0 rfl rfl ?_
  refine go_bipush (v := 14) d_Mo_readReach_1 (by decide) ?_
  refine go_iconst (v := 0) d_Mo_readReach_3 (by decide) ?_
  refine go_bipush (v := 11) d_Mo_readReach_4 (by decide) ?_
  obtain ⟨⟨r2, I1⟩, w1, h⟩ := fbd_e h
  try dsimp only at h
  refine go_callV (y := yMo_readTold) (asr := [.inl 14, .inl 0, .inl 11]) (v := some (.inl r2)) (I' := I1) (st1 := [.inl r2]) d_Mo_readReach_6 s_yMo_readTold m_Mo_272 a_M_0 rfl rfl rfl (Nat.le_of_ble_eq_true rfl) rfl rfl (c_Mo_readTold l (d0 + 0) 14 0 11 I w1) ?_
  refine go_istore_n (lv' := [(1, .inl r2), (0, .inr (some 0))]) d_Mo_readReach_9 rfl (by decide) rfl ?_
  refine go_iload_n (k := 0) d_Mo_readReach_10 rfl rfl ?_
  refine go_iconst (v := (-1)) d_Mo_readReach_11 (by decide) ?_
  refine go_cmp_ne (tgt := 17) d_Mo_readReach_12 (by decide) (fun hc => ?_) (fun hc => ?_)
  · rw [if_neg hc] at h
    refine go_aload_n (k := 1) d_Mo_readReach_17 rfl rfl ?_
    refine go_bipush (v := 26) d_Mo_readReach_18 (by decide) ?_
    refine go_callV (y := yMo_isWord) (asr := [.inl 26]) (v := some (.inl (F_Mo_isWord 26 I1))) (I' := I1) (st1 := [.inl (F_Mo_isWord 26 I1)]) d_Mo_readReach_20 s_yMo_isWord m_Mo_247 a_M_0 rfl rfl rfl (Nat.le_of_ble_eq_true rfl) rfl rfl (c_Mo_isWord l (d0 + 4) 26 I1) ?_
    refine go_if_ne (tgt := 32) d_Mo_readReach_23 (by decide) (fun hc => ?_) (fun hc => ?_)
    · rw [if_neg hc] at h
      refine go_aload_n (k := 1) d_Mo_readReach_32 rfl rfl ?_
      obtain ⟨I3, w1, h⟩ := fbd_e h
      refine go_callV (y := yMo_reads) (asr := []) (v := none) (I' := I3) (st1 := []) d_Mo_readReach_33 s_yMo_reads m_Mo_225 a_M_0 rfl rfl rfl (Nat.le_of_ble_eq_true rfl) rfl rfl (c_Mo_reads l (d0 + 2)  I1 w1) ?_
      refine go_aload_n (k := 1) d_Mo_readReach_36 rfl rfl ?_
      refine go_geti (ci := 10) (k := 16) d_Mo_readReach_37 a_M_0 rfl (by decide) f_Mo_187 rfl ?_
      refine go_iconst (v := 3) d_Mo_readReach_40 (by decide) ?_
      refine go_cmp_ne (tgt := 76) d_Mo_readReach_41 (by decide) (fun hc => ?_) (fun hc => ?_)
      · rw [if_neg hc] at h
        exact go_lv [1, 0] rfl (j_Mo_readReach_76 l d0 r2 I3 h)
      · rw [if_pos hc] at h
        refine go_aload_n (k := 1) d_Mo_readReach_44 rfl rfl ?_
        refine go_geti (ci := 10) (k := 17) d_Mo_readReach_45 a_M_0 rfl (by decide) f_Mo_190 rfl ?_
        refine go_bipush (v := 12) d_Mo_readReach_48 (by decide) ?_
        refine go_cmp_ge (tgt := 76) d_Mo_readReach_50 (by decide) (fun hc => ?_) (fun hc => ?_)
        · rw [if_pos hc] at h
          exact go_lv [1, 0] rfl (j_Mo_readReach_76 l d0 r2 I3 h)
        · rw [if_neg hc] at h
          refine go_aload_n (k := 1) d_Mo_readReach_53 rfl rfl ?_
          refine go_aload_n (k := 1) d_Mo_readReach_54 rfl rfl ?_
          refine go_geti (ci := 10) (k := 17) d_Mo_readReach_55 a_M_0 rfl (by decide) f_Mo_190 rfl ?_
          refine go_iload_n (k := 0) d_Mo_readReach_58 rfl rfl ?_
          refine go_iconst (v := 1) d_Mo_readReach_59 (by decide) ?_
          refine go_isub d_Mo_readReach_60 ?_
          refine go_iload_n (k := 0) d_Mo_readReach_61 rfl rfl ?_
          refine go_iconst (v := 1) d_Mo_readReach_62 (by decide) ?_
          refine go_iadd d_Mo_readReach_63 ?_
          refine go_callV (y := yMo_isIn) (asr := [.inl (I3 0 17), .inl (r2 - 1), .inl (r2 + 1)]) (v := some (.inl (F_Mo_isIn (I3 0 17) (r2 - 1) (r2 + 1) I3))) (I' := I3) (st1 := [.inl (F_Mo_isIn (I3 0 17) (r2 - 1) (r2 + 1) I3)]) d_Mo_readReach_64 s_yMo_isIn m_Mo_157 a_M_0 rfl rfl rfl (Nat.le_of_ble_eq_true rfl) rfl rfl (c_Mo_isIn l (d0 + 4) (I3 0 17) (r2 - 1) (r2 + 1) I3) ?_
          refine go_if_eq (tgt := 76) d_Mo_readReach_67 (by decide) (fun hc => ?_) (fun hc => ?_)
          · rw [if_pos hc] at h
            exact go_lv [1, 0] rfl (j_Mo_readReach_76 l d0 r2 I3 h)
          · rw [if_neg hc] at h
            refine go_aload_n (k := 1) d_Mo_readReach_70 rfl rfl ?_
            refine go_iconst (v := 2) d_Mo_readReach_71 (by decide) ?_
            obtain ⟨⟨r13, I12⟩, w1, h⟩ := fbd_e h
            try dsimp only at h
            refine go_callV (y := yMo_errs) (asr := [.inl 2]) (v := some (.inl r13)) (I' := I12) (st1 := [.inl r13]) d_Mo_readReach_72 s_yMo_errs m_Mo_218 a_M_0 rfl rfl rfl (Nat.le_of_ble_eq_true rfl) rfl rfl (c_Mo_errs l (d0 + 4) 2 I3 w1) ?_
            cases h
            exact go_ireturn d_Mo_readReach_75 rfl gb_po_i
    · rw [if_pos hc] at h
      refine go_aload_n (k := 1) d_Mo_readReach_26 rfl rfl ?_
      refine go_iconst (v := 1) d_Mo_readReach_27 (by decide) ?_
      obtain ⟨⟨r15, I14⟩, w1, h⟩ := fbd_e h
      try dsimp only at h
      refine go_callV (y := yMo_errs) (asr := [.inl 1]) (v := some (.inl r15)) (I' := I14) (st1 := [.inl r15]) d_Mo_readReach_28 s_yMo_errs m_Mo_218 a_M_0 rfl rfl rfl (Nat.le_of_ble_eq_true rfl) rfl rfl (c_Mo_errs l (d0 + 4) 1 I1 w1) ?_
      cases h
      exact go_ireturn d_Mo_readReach_31 rfl gb_po_i
  · rw [if_pos hc] at h
    refine go_iconst (v := (-1)) d_Mo_readReach_15 (by decide) ?_
    cases h
    exact go_ireturn d_Mo_readReach_16 rfl gb_po_i
theorem d_Mo_readSum_0 : decode yMo_readSum.2.1 0 = .ok (.aload_n 0, 1) := by decide +kernel
theorem d_Mo_readSum_1 : decode yMo_readSum.2.1 1 = .ok (.invokevirtual 235, 3) := by decide +kernel
theorem d_Mo_readSum_4 : decode yMo_readSum.2.1 4 = .ok (.iconst (-1), 1) := by decide +kernel
theorem d_Mo_readSum_5 : decode yMo_readSum.2.1 5 = .ok (.if_icmp .ne 5, 3) := by decide +kernel
theorem d_Mo_readSum_8 : decode yMo_readSum.2.1 8 = .ok (.iconst (-1), 1) := by decide +kernel
theorem d_Mo_readSum_9 : decode yMo_readSum.2.1 9 = .ok (.ireturn, 1) := by decide +kernel
theorem d_Mo_readSum_10 : decode yMo_readSum.2.1 10 = .ok (.aload_n 0, 1) := by decide +kernel
theorem d_Mo_readSum_11 : decode yMo_readSum.2.1 11 = .ok (.bipush 43, 2) := by decide +kernel
theorem d_Mo_readSum_13 : decode yMo_readSum.2.1 13 = .ok (.invokevirtual 232, 3) := by decide +kernel
theorem d_Mo_readSum_16 : decode yMo_readSum.2.1 16 = .ok (.ifCond .ne 12, 3) := by decide +kernel
theorem d_Mo_readSum_19 : decode yMo_readSum.2.1 19 = .ok (.aload_n 0, 1) := by decide +kernel
theorem d_Mo_readSum_20 : decode yMo_readSum.2.1 20 = .ok (.bipush 45, 2) := by decide +kernel
theorem d_Mo_readSum_22 : decode yMo_readSum.2.1 22 = .ok (.invokevirtual 232, 3) := by decide +kernel
theorem d_Mo_readSum_25 : decode yMo_readSum.2.1 25 = .ok (.ifCond .eq 41, 3) := by decide +kernel
theorem d_Mo_readSum_28 : decode yMo_readSum.2.1 28 = .ok (.aload_n 0, 1) := by decide +kernel
theorem d_Mo_readSum_29 : decode yMo_readSum.2.1 29 = .ok (.getfield 190, 3) := by decide +kernel
theorem d_Mo_readSum_32 : decode yMo_readSum.2.1 32 = .ok (.bipush 43, 2) := by decide +kernel
theorem d_Mo_readSum_34 : decode yMo_readSum.2.1 34 = .ok (.if_icmp .ne 7, 3) := by decide +kernel
theorem d_Mo_readSum_37 : decode yMo_readSum.2.1 37 = .ok (.iconst 2, 1) := by decide +kernel
theorem d_Mo_readSum_38 : decode yMo_readSum.2.1 38 = .ok (.goto 4, 3) := by decide +kernel
theorem d_Mo_readSum_41 : decode yMo_readSum.2.1 41 = .ok (.iconst 3, 1) := by decide +kernel
theorem d_Mo_readSum_42 : decode yMo_readSum.2.1 42 = .ok (.istore_n 1, 1) := by decide +kernel
theorem d_Mo_readSum_43 : decode yMo_readSum.2.1 43 = .ok (.aload_n 0, 1) := by decide +kernel
theorem d_Mo_readSum_44 : decode yMo_readSum.2.1 44 = .ok (.invokevirtual 225, 3) := by decide +kernel
theorem d_Mo_readSum_47 : decode yMo_readSum.2.1 47 = .ok (.aload_n 0, 1) := by decide +kernel
theorem d_Mo_readSum_48 : decode yMo_readSum.2.1 48 = .ok (.invokevirtual 235, 3) := by decide +kernel
theorem d_Mo_readSum_51 : decode yMo_readSum.2.1 51 = .ok (.iconst (-1), 1) := by decide +kernel
theorem d_Mo_readSum_52 : decode yMo_readSum.2.1 52 = .ok (.if_icmp .ne 5, 3) := by decide +kernel
theorem d_Mo_readSum_55 : decode yMo_readSum.2.1 55 = .ok (.iconst (-1), 1) := by decide +kernel
theorem d_Mo_readSum_56 : decode yMo_readSum.2.1 56 = .ok (.ireturn, 1) := by decide +kernel
theorem d_Mo_readSum_57 : decode yMo_readSum.2.1 57 = .ok (.aload_n 0, 1) := by decide +kernel
theorem d_Mo_readSum_58 : decode yMo_readSum.2.1 58 = .ok (.iload_n 1, 1) := by decide +kernel
theorem d_Mo_readSum_59 : decode yMo_readSum.2.1 59 = .ok (.iconst 0, 1) := by decide +kernel
theorem d_Mo_readSum_60 : decode yMo_readSum.2.1 60 = .ok (.invokevirtual 221, 3) := by decide +kernel
theorem d_Mo_readSum_63 : decode yMo_readSum.2.1 63 = .ok (.goto (-53), 3) := by decide +kernel
theorem d_Mo_readSum_66 : decode yMo_readSum.2.1 66 = .ok (.iconst 0, 1) := by decide +kernel
theorem d_Mo_readSum_67 : decode yMo_readSum.2.1 67 = .ok (.ireturn, 1) := by decide +kernel
def J_Mo_readSum_42 (k : gb_Mem → Option ((gb_Mem) ⊕ (Int32 × gb_Mem))) (s0 : Int32) (I : gb_Mem) : Option ((gb_Mem) ⊕ (Int32 × gb_Mem)) :=
  fbd (F_Mo_reads  I) fun I3 =>
  fbd (F_Mo_readProduct  I3) fun (r5, I4) =>
  if r5 = (-1) then
    some (.inr ((-1), I4))
  else
    fbd (F_Mo_emits s0 0 I4) fun I6 =>
    k I6
set_option maxRecDepth 4000 in
theorem j_Mo_readSum_42 (l : Launch) (d0 : Nat) {post : Option gb_AV → List gb_Ce → gb_Mem → Prop} (k : gb_Mem → Option ((gb_Mem) ⊕ (Int32 × gb_Mem))) (s0 : Int32) (I : gb_Mem) {ρ : (gb_Mem) ⊕ (Int32 × gb_Mem)} (h : J_Mo_readSum_42 k s0 I = some ρ) (hk : ∀ (Iw : gb_Mem), k  Iw = some ρ → gb_Go l yMo_readSum (d0 + 5) 0 0 10 [(0, .inr (some 0))] [] shM Iw post) (hX : ∀ (I2 : gb_Mem), ρ = .inl I2 → gb_Go l yMo_readSum (d0 + 5) 0 0 66 [] [] shM I2 post) (hR : ∀ (v : Int32) (I3 : gb_Mem), ρ = .inr (v, I3) → post (some (.inl v)) shM I3) : gb_Go l yMo_readSum (d0 + 5) 0 0 42 [(0, .inr (some 0))] [.inl s0] shM I post := by
  unfold J_Mo_readSum_42 at h
  refine go_istore_n (lv' := [(1, .inl s0), (0, .inr (some 0))]) d_Mo_readSum_42 rfl (by decide) rfl ?_
  refine go_aload_n (k := 1) d_Mo_readSum_43 rfl rfl ?_
  obtain ⟨I3, w1, h⟩ := fbd_e h
  refine go_callV (y := yMo_reads) (asr := []) (v := none) (I' := I3) (st1 := []) d_Mo_readSum_44 s_yMo_reads m_Mo_225 a_M_0 rfl rfl rfl (Nat.le_of_ble_eq_true rfl) rfl rfl (c_Mo_reads l (d0 + 2)  I w1) ?_
  refine go_aload_n (k := 1) d_Mo_readSum_47 rfl rfl ?_
  obtain ⟨⟨r5, I4⟩, w1, h⟩ := fbd_e h
  try dsimp only at h
  refine go_callV (y := yMo_readProduct) (asr := []) (v := some (.inl r5)) (I' := I4) (st1 := [.inl r5]) d_Mo_readSum_48 s_yMo_readProduct m_Mo_235 a_M_0 rfl rfl rfl (Nat.le_of_ble_eq_true rfl) rfl rfl (c_Mo_readProduct l (d0 + 0)  I3 w1) ?_
  refine go_iconst (v := (-1)) d_Mo_readSum_51 (by decide) ?_
  refine go_cmp_ne (tgt := 57) d_Mo_readSum_52 (by decide) (fun hc => ?_) (fun hc => ?_)
  · rw [if_neg hc] at h
    refine go_aload_n (k := 1) d_Mo_readSum_57 rfl rfl ?_
    refine go_iload_n (k := 0) d_Mo_readSum_58 rfl rfl ?_
    refine go_iconst (v := 0) d_Mo_readSum_59 (by decide) ?_
    obtain ⟨I6, w1, h⟩ := fbd_e h
    refine go_callV (y := yMo_emits) (asr := [.inl s0, .inl 0]) (v := none) (I' := I6) (st1 := []) d_Mo_readSum_60 s_yMo_emits m_Mo_221 a_M_0 rfl rfl rfl (Nat.le_of_ble_eq_true rfl) rfl rfl (c_Mo_emits l (d0 + 4) s0 0 I4 w1) ?_
    refine go_goto (tgt := 10) d_Mo_readSum_63 (by decide) ?_
    exact go_lv [1] rfl (hk  _ h)
  · rw [if_pos hc] at h
    refine go_iconst (v := (-1)) d_Mo_readSum_55 (by decide) ?_
    exact go_ireturn d_Mo_readSum_56 rfl (hR _ _ (Option.some.inj h).symm)
def J_Mo_readSum_28 (k : gb_Mem → Option ((gb_Mem) ⊕ (Int32 × gb_Mem))) (I : gb_Mem) : Option ((gb_Mem) ⊕ (Int32 × gb_Mem)) :=
  if (I 0 17) = 43 then
    J_Mo_readSum_42 k 2 I
  else
    J_Mo_readSum_42 k 3 I
set_option maxRecDepth 4000 in
theorem j_Mo_readSum_28 (l : Launch) (d0 : Nat) {post : Option gb_AV → List gb_Ce → gb_Mem → Prop} (k : gb_Mem → Option ((gb_Mem) ⊕ (Int32 × gb_Mem))) (I : gb_Mem) {ρ : (gb_Mem) ⊕ (Int32 × gb_Mem)} (h : J_Mo_readSum_28 k I = some ρ) (hk : ∀ (Iw : gb_Mem), k  Iw = some ρ → gb_Go l yMo_readSum (d0 + 5) 0 0 10 [(0, .inr (some 0))] [] shM Iw post) (hX : ∀ (I2 : gb_Mem), ρ = .inl I2 → gb_Go l yMo_readSum (d0 + 5) 0 0 66 [] [] shM I2 post) (hR : ∀ (v : Int32) (I3 : gb_Mem), ρ = .inr (v, I3) → post (some (.inl v)) shM I3) : gb_Go l yMo_readSum (d0 + 5) 0 0 28 [(0, .inr (some 0))] [] shM I post := by
  unfold J_Mo_readSum_28 at h
  refine go_aload_n (k := 0) d_Mo_readSum_28 rfl rfl ?_
  refine go_geti (ci := 10) (k := 17) d_Mo_readSum_29 a_M_0 rfl (by decide) f_Mo_190 rfl ?_
  refine go_bipush (v := 43) d_Mo_readSum_32 (by decide) ?_
  refine go_cmp_ne (tgt := 41) d_Mo_readSum_34 (by decide) (fun hc => ?_) (fun hc => ?_)
  · rw [if_neg hc] at h
    refine go_iconst (v := 3) d_Mo_readSum_41 (by decide) ?_
    exact go_lv [0] rfl (j_Mo_readSum_42 l d0 k 3 I h hk hX hR)
  · rw [if_pos hc] at h
    refine go_iconst (v := 2) d_Mo_readSum_37 (by decide) ?_
    refine go_goto (tgt := 42) d_Mo_readSum_38 (by decide) ?_
    exact go_lv [0] rfl (j_Mo_readSum_42 l d0 k 2 I h hk hX hR)
def L_Mo_readSum_10 : Nat → gb_Mem → Option ((gb_Mem) ⊕ (Int32 × gb_Mem))
  | 0, _ => none
  | n + 1, I =>
    if (F_Mo_isSign 43 I) = 0 then
      if (F_Mo_isSign 45 I) = 0 then
        some (.inl I)
      else
        J_Mo_readSum_28 (L_Mo_readSum_10 n) I
    else
      J_Mo_readSum_28 (L_Mo_readSum_10 n) I
set_option maxRecDepth 4000 in
theorem l_Mo_readSum_10 (l : Launch) (d0 : Nat) {post : Option gb_AV → List gb_Ce → gb_Mem → Prop} : ∀ (n : Nat) (I : gb_Mem) {ρ : (gb_Mem) ⊕ (Int32 × gb_Mem)} (h : L_Mo_readSum_10 n I = some ρ) (hX : ∀ (I2 : gb_Mem), ρ = .inl I2 → gb_Go l yMo_readSum (d0 + 5) 0 0 66 [] [] shM I2 post) (hR : ∀ (v : Int32) (I3 : gb_Mem), ρ = .inr (v, I3) → post (some (.inl v)) shM I3) , gb_Go l yMo_readSum (d0 + 5) 0 0 10 [(0, .inr (some 0))] [] shM I post := by
  intro n
  induction n with
  | zero => intro I ρ h hX hR; cases h
  | succ n ih =>
    intro I ρ h hX hR
    rw [L_Mo_readSum_10] at h
    refine go_aload_n (k := 0) d_Mo_readSum_10 rfl rfl ?_
    refine go_bipush (v := 43) d_Mo_readSum_11 (by decide) ?_
    refine go_callV (y := yMo_isSign) (asr := [.inl 43]) (v := some (.inl (F_Mo_isSign 43 I))) (I' := I) (st1 := [.inl (F_Mo_isSign 43 I)]) d_Mo_readSum_13 s_yMo_isSign m_Mo_232 a_M_0 rfl rfl rfl (Nat.le_of_ble_eq_true rfl) rfl rfl (c_Mo_isSign l (d0 + 4) 43 I) ?_
    refine go_if_ne (tgt := 28) d_Mo_readSum_16 (by decide) (fun hc => ?_) (fun hc => ?_)
    · rw [if_neg hc] at h
      exact go_lv [0] rfl (j_Mo_readSum_28 l d0 (L_Mo_readSum_10 n) I h (fun Iw hh => ih Iw hh hX hR) hX hR)
    · rw [if_pos hc] at h
      refine go_aload_n (k := 0) d_Mo_readSum_19 rfl rfl ?_
      refine go_bipush (v := 45) d_Mo_readSum_20 (by decide) ?_
      refine go_callV (y := yMo_isSign) (asr := [.inl 45]) (v := some (.inl (F_Mo_isSign 45 I))) (I' := I) (st1 := [.inl (F_Mo_isSign 45 I)]) d_Mo_readSum_22 s_yMo_isSign m_Mo_232 a_M_0 rfl rfl rfl (Nat.le_of_ble_eq_true rfl) rfl rfl (c_Mo_isSign l (d0 + 4) 45 I) ?_
      refine go_if_eq (tgt := 66) d_Mo_readSum_25 (by decide) (fun hc => ?_) (fun hc => ?_)
      · rw [if_pos hc] at h
        exact go_lv [] rfl (hX _ (Option.some.inj h).symm)
      · rw [if_neg hc] at h
        exact go_lv [0] rfl (j_Mo_readSum_28 l d0 (L_Mo_readSum_10 n) I h (fun Iw hh => ih Iw hh hX hR) hX hR)
def F_Mo_readSum (I : gb_Mem) : Option (Int32 × gb_Mem) :=
  fbd (F_Mo_readProduct  I) fun (r2, I1) =>
  if r2 = (-1) then
    some ((-1), I1)
  else
    fbr (L_Mo_readSum_10 5000 I1) (fun I7 =>
      some (0, I7))
      (fun (q8, I9) => some (q8, I9))
set_option maxRecDepth 4000 in
theorem c_Mo_readSum (l : Launch) (d0 : Nat) (I : gb_Mem) {rz : Int32} {Iz : gb_Mem} (h : F_Mo_readSum I = some (rz, Iz)) : gb_Cs l yMo_readSum (d0 + 5) [.inr (some 0)] shM I (some (.inl rz)) Iz := by
  refine gb_Ct.of (lv := [(0, .inr (some 0))]) rfl (Nat.le_of_ble_eq_true rfl) rfl ?_
  unfold F_Mo_readSum at h
  show gb_Go l yMo_readSum (d0 + 5) 0 0 0 [(0, .inr (some 0))] [] shM I (gb_po shM (some (.inl rz)) Iz)
  refine go_aload_n (k := 0) d_Mo_readSum_0 rfl rfl ?_
  obtain ⟨⟨r2, I1⟩, w1, h⟩ := fbd_e h
  try dsimp only at h
  refine go_callV (y := yMo_readProduct) (asr := []) (v := some (.inl r2)) (I' := I1) (st1 := [.inl r2]) d_Mo_readSum_1 s_yMo_readProduct m_Mo_235 a_M_0 rfl rfl rfl (Nat.le_of_ble_eq_true rfl) rfl rfl (c_Mo_readProduct l (d0 + 0)  I w1) ?_
  refine go_iconst (v := (-1)) d_Mo_readSum_4 (by decide) ?_
  refine go_cmp_ne (tgt := 10) d_Mo_readSum_5 (by decide) (fun hc => ?_) (fun hc => ?_)
  · rw [if_neg hc] at h
    refine go_lv [0] (lv' := [(0, .inr (some 0))]) rfl ?_
    obtain ⟨ρ, w1, w2, w3⟩ := fbr_e2 h
    refine l_Mo_readSum_10 l d0  5000  I1 w1 (fun I7 e => ?_) (fun q8 I9 e => ?_)
    · have h := w2 _ e
      try dsimp only at h
      refine go_iconst (v := 0) d_Mo_readSum_66 (by decide) ?_
      cases h
      exact go_ireturn d_Mo_readSum_67 rfl gb_po_i
    · have h := w3 _ e
      try dsimp only at h
      cases h
      exact gb_po_i
  · rw [if_pos hc] at h
    refine go_iconst (v := (-1)) d_Mo_readSum_8 (by decide) ?_
    cases h
    exact go_ireturn d_Mo_readSum_9 rfl gb_po_i
theorem d_Mo_readVoyages_0 : decode yMo_readVoyages.2.1 0 = .ok (.iconst 0, 1) := by decide +kernel
theorem d_Mo_readVoyages_1 : decode yMo_readVoyages.2.1 1 = .ok (.istore_n 1, 1) := by decide +kernel
theorem d_Mo_readVoyages_2 : decode yMo_readVoyages.2.1 2 = .ok (.iload_n 1, 1) := by decide +kernel
theorem d_Mo_readVoyages_3 : decode yMo_readVoyages.2.1 3 = .ok (.bipush 8, 2) := by decide +kernel
theorem d_Mo_readVoyages_5 : decode yMo_readVoyages.2.1 5 = .ok (.if_icmp .ge 19, 3) := by decide +kernel
theorem d_Mo_readVoyages_8 : decode yMo_readVoyages.2.1 8 = .ok (.aload_n 0, 1) := by decide +kernel
theorem d_Mo_readVoyages_9 : decode yMo_readVoyages.2.1 9 = .ok (.getfield 68, 3) := by decide +kernel
theorem d_Mo_readVoyages_12 : decode yMo_readVoyages.2.1 12 = .ok (.bipush 8, 2) := by decide +kernel
theorem d_Mo_readVoyages_14 : decode yMo_readVoyages.2.1 14 = .ok (.iload_n 1, 1) := by decide +kernel
theorem d_Mo_readVoyages_15 : decode yMo_readVoyages.2.1 15 = .ok (.iadd, 1) := by decide +kernel
theorem d_Mo_readVoyages_16 : decode yMo_readVoyages.2.1 16 = .ok (.iconst 0, 1) := by decide +kernel
theorem d_Mo_readVoyages_17 : decode yMo_readVoyages.2.1 17 = .ok (.iastore, 1) := by decide +kernel
theorem d_Mo_readVoyages_18 : decode yMo_readVoyages.2.1 18 = .ok (.iinc 1 1, 3) := by decide +kernel
theorem d_Mo_readVoyages_21 : decode yMo_readVoyages.2.1 21 = .ok (.goto (-19), 3) := by decide +kernel
theorem d_Mo_readVoyages_24 : decode yMo_readVoyages.2.1 24 = .ok (.iconst 0, 1) := by decide +kernel
theorem d_Mo_readVoyages_25 : decode yMo_readVoyages.2.1 25 = .ok (.istore_n 1, 1) := by decide +kernel
theorem d_Mo_readVoyages_26 : decode yMo_readVoyages.2.1 26 = .ok (.aload_n 0, 1) := by decide +kernel
theorem d_Mo_readVoyages_27 : decode yMo_readVoyages.2.1 27 = .ok (.bipush 19, 2) := by decide +kernel
theorem d_Mo_readVoyages_29 : decode yMo_readVoyages.2.1 29 = .ok (.invokevirtual 247, 3) := by decide +kernel
theorem d_Mo_readVoyages_32 : decode yMo_readVoyages.2.1 32 = .ok (.ifCond .eq 80, 3) := by decide +kernel
theorem d_Mo_readVoyages_35 : decode yMo_readVoyages.2.1 35 = .ok (.iload_n 1, 1) := by decide +kernel
theorem d_Mo_readVoyages_36 : decode yMo_readVoyages.2.1 36 = .ok (.bipush 16, 2) := by decide +kernel
theorem d_Mo_readVoyages_38 : decode yMo_readVoyages.2.1 38 = .ok (.if_icmp .ne 9, 3) := by decide +kernel
theorem d_Mo_readVoyages_41 : decode yMo_readVoyages.2.1 41 = .ok (.aload_n 0, 1) := by decide +kernel
theorem d_Mo_readVoyages_42 : decode yMo_readVoyages.2.1 42 = .ok (.iconst 3, 1) := by decide +kernel
theorem d_Mo_readVoyages_43 : decode yMo_readVoyages.2.1 43 = .ok (.invokevirtual 218, 3) := by decide +kernel
theorem d_Mo_readVoyages_46 : decode yMo_readVoyages.2.1 46 = .ok (.ireturn, 1) := by decide +kernel
theorem d_Mo_readVoyages_47 : decode yMo_readVoyages.2.1 47 = .ok (.aload_n 0, 1) := by decide +kernel
theorem d_Mo_readVoyages_48 : decode yMo_readVoyages.2.1 48 = .ok (.bipush 19, 2) := by decide +kernel
theorem d_Mo_readVoyages_50 : decode yMo_readVoyages.2.1 50 = .ok (.iconst 0, 1) := by decide +kernel
theorem d_Mo_readVoyages_51 : decode yMo_readVoyages.2.1 51 = .ok (.aload_n 0, 1) := by decide +kernel
theorem d_Mo_readVoyages_52 : decode yMo_readVoyages.2.1 52 = .ok (.getfield 150, 3) := by decide +kernel
theorem d_Mo_readVoyages_55 : decode yMo_readVoyages.2.1 55 = .ok (.iconst 1, 1) := by decide +kernel
theorem d_Mo_readVoyages_56 : decode yMo_readVoyages.2.1 56 = .ok (.isub, 1) := by decide +kernel
theorem d_Mo_readVoyages_57 : decode yMo_readVoyages.2.1 57 = .ok (.invokevirtual 272, 3) := by decide +kernel
theorem d_Mo_readVoyages_60 : decode yMo_readVoyages.2.1 60 = .ok (.istore_n 2, 1) := by decide +kernel
theorem d_Mo_readVoyages_61 : decode yMo_readVoyages.2.1 61 = .ok (.iload_n 2, 1) := by decide +kernel
theorem d_Mo_readVoyages_62 : decode yMo_readVoyages.2.1 62 = .ok (.iconst (-1), 1) := by decide +kernel
theorem d_Mo_readVoyages_63 : decode yMo_readVoyages.2.1 63 = .ok (.if_icmp .ne 5, 3) := by decide +kernel
theorem d_Mo_readVoyages_66 : decode yMo_readVoyages.2.1 66 = .ok (.iconst (-1), 1) := by decide +kernel
theorem d_Mo_readVoyages_67 : decode yMo_readVoyages.2.1 67 = .ok (.ireturn, 1) := by decide +kernel
theorem d_Mo_readVoyages_68 : decode yMo_readVoyages.2.1 68 = .ok (.aload_n 0, 1) := by decide +kernel
theorem d_Mo_readVoyages_69 : decode yMo_readVoyages.2.1 69 = .ok (.bipush 20, 2) := by decide +kernel
theorem d_Mo_readVoyages_71 : decode yMo_readVoyages.2.1 71 = .ok (.iconst 1, 1) := by decide +kernel
theorem d_Mo_readVoyages_72 : decode yMo_readVoyages.2.1 72 = .ok (.bipush 99, 2) := by decide +kernel
theorem d_Mo_readVoyages_74 : decode yMo_readVoyages.2.1 74 = .ok (.invokevirtual 272, 3) := by decide +kernel
theorem d_Mo_readVoyages_77 : decode yMo_readVoyages.2.1 77 = .ok (.istore_n 3, 1) := by decide +kernel
theorem d_Mo_readVoyages_78 : decode yMo_readVoyages.2.1 78 = .ok (.iload_n 3, 1) := by decide +kernel
theorem d_Mo_readVoyages_79 : decode yMo_readVoyages.2.1 79 = .ok (.iconst (-1), 1) := by decide +kernel
theorem d_Mo_readVoyages_80 : decode yMo_readVoyages.2.1 80 = .ok (.if_icmp .eq 13, 3) := by decide +kernel
theorem d_Mo_readVoyages_83 : decode yMo_readVoyages.2.1 83 = .ok (.aload_n 0, 1) := by decide +kernel
theorem d_Mo_readVoyages_84 : decode yMo_readVoyages.2.1 84 = .ok (.bipush 59, 2) := by decide +kernel
theorem d_Mo_readVoyages_86 : decode yMo_readVoyages.2.1 86 = .ok (.invokevirtual 276, 3) := by decide +kernel
theorem d_Mo_readVoyages_89 : decode yMo_readVoyages.2.1 89 = .ok (.iconst (-1), 1) := by decide +kernel
theorem d_Mo_readVoyages_90 : decode yMo_readVoyages.2.1 90 = .ok (.if_icmp .ne 5, 3) := by decide +kernel
theorem d_Mo_readVoyages_93 : decode yMo_readVoyages.2.1 93 = .ok (.iconst (-1), 1) := by decide +kernel
theorem d_Mo_readVoyages_94 : decode yMo_readVoyages.2.1 94 = .ok (.ireturn, 1) := by decide +kernel
theorem d_Mo_readVoyages_95 : decode yMo_readVoyages.2.1 95 = .ok (.aload_n 0, 1) := by decide +kernel
theorem d_Mo_readVoyages_96 : decode yMo_readVoyages.2.1 96 = .ok (.getfield 68, 3) := by decide +kernel
theorem d_Mo_readVoyages_99 : decode yMo_readVoyages.2.1 99 = .ok (.bipush 8, 2) := by decide +kernel
theorem d_Mo_readVoyages_101 : decode yMo_readVoyages.2.1 101 = .ok (.iload_n 2, 1) := by decide +kernel
theorem d_Mo_readVoyages_102 : decode yMo_readVoyages.2.1 102 = .ok (.iadd, 1) := by decide +kernel
theorem d_Mo_readVoyages_103 : decode yMo_readVoyages.2.1 103 = .ok (.iload_n 3, 1) := by decide +kernel
theorem d_Mo_readVoyages_104 : decode yMo_readVoyages.2.1 104 = .ok (.iastore, 1) := by decide +kernel
theorem d_Mo_readVoyages_105 : decode yMo_readVoyages.2.1 105 = .ok (.iload_n 1, 1) := by decide +kernel
theorem d_Mo_readVoyages_106 : decode yMo_readVoyages.2.1 106 = .ok (.iconst 1, 1) := by decide +kernel
theorem d_Mo_readVoyages_107 : decode yMo_readVoyages.2.1 107 = .ok (.iadd, 1) := by decide +kernel
theorem d_Mo_readVoyages_108 : decode yMo_readVoyages.2.1 108 = .ok (.istore_n 1, 1) := by decide +kernel
theorem d_Mo_readVoyages_109 : decode yMo_readVoyages.2.1 109 = .ok (.goto (-83), 3) := by decide +kernel
theorem d_Mo_readVoyages_112 : decode yMo_readVoyages.2.1 112 = .ok (.aload_n 0, 1) := by decide +kernel
theorem d_Mo_readVoyages_113 : decode yMo_readVoyages.2.1 113 = .ok (.getfield 187, 3) := by decide +kernel
theorem d_Mo_readVoyages_116 : decode yMo_readVoyages.2.1 116 = .ok (.ifCond .ne 7, 3) := by decide +kernel
theorem d_Mo_readVoyages_119 : decode yMo_readVoyages.2.1 119 = .ok (.iload_n 1, 1) := by decide +kernel
theorem d_Mo_readVoyages_120 : decode yMo_readVoyages.2.1 120 = .ok (.goto 8, 3) := by decide +kernel
theorem d_Mo_readVoyages_123 : decode yMo_readVoyages.2.1 123 = .ok (.aload_n 0, 1) := by decide +kernel
theorem d_Mo_readVoyages_124 : decode yMo_readVoyages.2.1 124 = .ok (.iconst 1, 1) := by decide +kernel
theorem d_Mo_readVoyages_125 : decode yMo_readVoyages.2.1 125 = .ok (.invokevirtual 218, 3) := by decide +kernel
theorem d_Mo_readVoyages_128 : decode yMo_readVoyages.2.1 128 = .ok (.ireturn, 1) := by decide +kernel
def L_Mo_readVoyages_2 : Nat → Int32 → gb_Mem → Option (gb_Mem)
  | 0, _, _ => none
  | n + 1, x1, I =>
    if 8 ≤ x1 then
      some I
    else
      fsto I 19 16 (8 + x1) 0 fun I1 =>
      L_Mo_readVoyages_2 n (x1 + 1) I1
set_option maxRecDepth 4000 in
theorem l_Mo_readVoyages_2 (l : Launch) (d0 : Nat) {post : Option gb_AV → List gb_Ce → gb_Mem → Prop} : ∀ (n : Nat) (x1 : Int32) (I : gb_Mem) {ρ : gb_Mem} (h : L_Mo_readVoyages_2 n x1 I = some ρ) (hX : ∀ (I2 : gb_Mem), ρ = I2 → gb_Go l yMo_readVoyages (d0 + 5) 0 0 24 [(0, .inr (some 0))] [] shM I2 post) , gb_Go l yMo_readVoyages (d0 + 5) 0 0 2 [(0, .inr (some 0)), (1, .inl x1)] [] shM I post := by
  intro n
  induction n with
  | zero => intro x1 I ρ h hX; cases h
  | succ n ih =>
    intro x1 I ρ h hX
    rw [L_Mo_readVoyages_2] at h
    refine go_iload_n (k := 1) d_Mo_readVoyages_2 rfl rfl ?_
    refine go_bipush (v := 8) d_Mo_readVoyages_3 (by decide) ?_
    refine go_cmp_ge (tgt := 24) d_Mo_readVoyages_5 (by decide) (fun hc => ?_) (fun hc => ?_)
    · rw [if_pos hc] at h
      exact go_lv [0] rfl (hX _ (Option.some.inj h).symm)
    · rw [if_neg hc] at h
      refine go_aload_n (k := 0) d_Mo_readVoyages_8 rfl rfl ?_
      refine go_getr (ci := 10) (k := 36) (r := 19) d_Mo_readVoyages_9 a_M_0 rfl (by decide) f_Mo_68 rfl ?_
      refine go_bipush (v := 8) d_Mo_readVoyages_12 (by decide) ?_
      refine go_iload_n (k := 1) d_Mo_readVoyages_14 rfl rfl ?_
      refine go_iadd d_Mo_readVoyages_15 ?_
      refine go_iconst (v := 0) d_Mo_readVoyages_16 (by decide) ?_
      obtain ⟨hi, I1, eI1, h⟩ := fsto_e h
      refine go_iast (I' := I1) d_Mo_readVoyages_17 a_M_19 hi eI1 ?_
      refine go_iinc (k := 1) (v := x1 + 1) (lv' := [(1, .inl (x1 + 1)), (0, .inr (some 0))]) d_Mo_readVoyages_18 rfl rfl (by decide) rfl ?_
      refine go_goto (tgt := 2) d_Mo_readVoyages_21 (by decide) ?_
      exact go_lv [1, 0] rfl (ih (x1 + 1) I1 h hX)
def L_Mo_readVoyages_26 : Nat → Int32 → gb_Mem → Option ((Int32 × gb_Mem) ⊕ (Int32 × gb_Mem))
  | 0, _, _ => none
  | n + 1, x1, I =>
    if (F_Mo_isWord 19 I) = 0 then
      some (.inl (x1, I))
    else
      if x1 = 16 then
        fbd (F_Mo_errs 3 I) fun (r11, I10) =>
        some (.inr (r11, I10))
      else
        fbd (F_Mo_readTold 19 0 ((I 0 6) - 1) I) fun (r4, I3) =>
        if r4 = (-1) then
          some (.inr ((-1), I3))
        else
          fbd (F_Mo_readTold 20 1 99 I3) fun (r6, I5) =>
          if r6 = (-1) then
            some (.inr ((-1), I5))
          else
            fbd (F_Mo_readMark 59 I5) fun (r8, I7) =>
            if r8 = (-1) then
              some (.inr ((-1), I7))
            else
              fsto I7 19 16 (8 + r4) r6 fun I9 =>
              L_Mo_readVoyages_26 n (x1 + 1) I9
set_option maxRecDepth 4000 in
theorem l_Mo_readVoyages_26 (l : Launch) (d0 : Nat) {post : Option gb_AV → List gb_Ce → gb_Mem → Prop} : ∀ (n : Nat) (x1 : Int32) (I : gb_Mem) {ρ : (Int32 × gb_Mem) ⊕ (Int32 × gb_Mem)} (h : L_Mo_readVoyages_26 n x1 I = some ρ) (hX : ∀ (o1 : Int32) (I2 : gb_Mem), ρ = .inl (o1, I2) → gb_Go l yMo_readVoyages (d0 + 5) 0 0 112 [(0, .inr (some 0)), (1, .inl o1)] [] shM I2 post) (hR : ∀ (v : Int32) (I3 : gb_Mem), ρ = .inr (v, I3) → post (some (.inl v)) shM I3) , gb_Go l yMo_readVoyages (d0 + 5) 0 0 26 [(0, .inr (some 0)), (1, .inl x1)] [] shM I post := by
  intro n
  induction n with
  | zero => intro x1 I ρ h hX hR; cases h
  | succ n ih =>
    intro x1 I ρ h hX hR
    rw [L_Mo_readVoyages_26] at h
    refine go_aload_n (k := 0) d_Mo_readVoyages_26 rfl rfl ?_
    refine go_bipush (v := 19) d_Mo_readVoyages_27 (by decide) ?_
    refine go_callV (y := yMo_isWord) (asr := [.inl 19]) (v := some (.inl (F_Mo_isWord 19 I))) (I' := I) (st1 := [.inl (F_Mo_isWord 19 I)]) d_Mo_readVoyages_29 s_yMo_isWord m_Mo_247 a_M_0 rfl rfl rfl (Nat.le_of_ble_eq_true rfl) rfl rfl (c_Mo_isWord l (d0 + 4) 19 I) ?_
    refine go_if_eq (tgt := 112) d_Mo_readVoyages_32 (by decide) (fun hc => ?_) (fun hc => ?_)
    · rw [if_pos hc] at h
      exact go_lv [0, 1] rfl (hX _ _ (Option.some.inj h).symm)
    · rw [if_neg hc] at h
      refine go_iload_n (k := 1) d_Mo_readVoyages_35 rfl rfl ?_
      refine go_bipush (v := 16) d_Mo_readVoyages_36 (by decide) ?_
      refine go_cmp_ne (tgt := 47) d_Mo_readVoyages_38 (by decide) (fun hc => ?_) (fun hc => ?_)
      · rw [if_neg hc] at h
        refine go_aload_n (k := 0) d_Mo_readVoyages_47 rfl rfl ?_
        refine go_bipush (v := 19) d_Mo_readVoyages_48 (by decide) ?_
        refine go_iconst (v := 0) d_Mo_readVoyages_50 (by decide) ?_
        refine go_aload_n (k := 0) d_Mo_readVoyages_51 rfl rfl ?_
        refine go_geti (ci := 10) (k := 6) d_Mo_readVoyages_52 a_M_0 rfl (by decide) f_Mo_150 rfl ?_
        refine go_iconst (v := 1) d_Mo_readVoyages_55 (by decide) ?_
        refine go_isub d_Mo_readVoyages_56 ?_
        obtain ⟨⟨r4, I3⟩, w1, h⟩ := fbd_e h
        try dsimp only at h
        refine go_callV (y := yMo_readTold) (asr := [.inl 19, .inl 0, .inl ((I 0 6) - 1)]) (v := some (.inl r4)) (I' := I3) (st1 := [.inl r4]) d_Mo_readVoyages_57 s_yMo_readTold m_Mo_272 a_M_0 rfl rfl rfl (Nat.le_of_ble_eq_true rfl) rfl rfl (c_Mo_readTold l (d0 + 0) 19 0 ((I 0 6) - 1) I w1) ?_
        refine go_istore_n (lv' := [(2, .inl r4), (0, .inr (some 0)), (1, .inl x1)]) d_Mo_readVoyages_60 rfl (by decide) rfl ?_
        refine go_iload_n (k := 0) d_Mo_readVoyages_61 rfl rfl ?_
        refine go_iconst (v := (-1)) d_Mo_readVoyages_62 (by decide) ?_
        refine go_cmp_ne (tgt := 68) d_Mo_readVoyages_63 (by decide) (fun hc => ?_) (fun hc => ?_)
        · rw [if_neg hc] at h
          refine go_aload_n (k := 1) d_Mo_readVoyages_68 rfl rfl ?_
          refine go_bipush (v := 20) d_Mo_readVoyages_69 (by decide) ?_
          refine go_iconst (v := 1) d_Mo_readVoyages_71 (by decide) ?_
          refine go_bipush (v := 99) d_Mo_readVoyages_72 (by decide) ?_
          obtain ⟨⟨r6, I5⟩, w1, h⟩ := fbd_e h
          try dsimp only at h
          refine go_callV (y := yMo_readTold) (asr := [.inl 20, .inl 1, .inl 99]) (v := some (.inl r6)) (I' := I5) (st1 := [.inl r6]) d_Mo_readVoyages_74 s_yMo_readTold m_Mo_272 a_M_0 rfl rfl rfl (Nat.le_of_ble_eq_true rfl) rfl rfl (c_Mo_readTold l (d0 + 0) 20 1 99 I3 w1) ?_
          refine go_istore_n (lv' := [(3, .inl r6), (2, .inl r4), (0, .inr (some 0)), (1, .inl x1)]) d_Mo_readVoyages_77 rfl (by decide) rfl ?_
          refine go_iload_n (k := 0) d_Mo_readVoyages_78 rfl rfl ?_
          refine go_iconst (v := (-1)) d_Mo_readVoyages_79 (by decide) ?_
          refine go_cmp_eq (tgt := 93) d_Mo_readVoyages_80 (by decide) (fun hc => ?_) (fun hc => ?_)
          · rw [if_pos hc] at h
            refine go_iconst (v := (-1)) d_Mo_readVoyages_93 (by decide) ?_
            exact go_ireturn d_Mo_readVoyages_94 rfl (hR _ _ (Option.some.inj h).symm)
          · rw [if_neg hc] at h
            refine go_aload_n (k := 2) d_Mo_readVoyages_83 rfl rfl ?_
            refine go_bipush (v := 59) d_Mo_readVoyages_84 (by decide) ?_
            obtain ⟨⟨r8, I7⟩, w1, h⟩ := fbd_e h
            try dsimp only at h
            refine go_callV (y := yMo_readMark) (asr := [.inl 59]) (v := some (.inl r8)) (I' := I7) (st1 := [.inl r8]) d_Mo_readVoyages_86 s_yMo_readMark m_Mo_276 a_M_0 rfl rfl rfl (Nat.le_of_ble_eq_true rfl) rfl rfl (c_Mo_readMark l (d0 + 1) 59 I5 w1) ?_
            refine go_iconst (v := (-1)) d_Mo_readVoyages_89 (by decide) ?_
            refine go_cmp_ne (tgt := 95) d_Mo_readVoyages_90 (by decide) (fun hc => ?_) (fun hc => ?_)
            · rw [if_neg hc] at h
              refine go_aload_n (k := 2) d_Mo_readVoyages_95 rfl rfl ?_
              refine go_getr (ci := 10) (k := 36) (r := 19) d_Mo_readVoyages_96 a_M_0 rfl (by decide) f_Mo_68 rfl ?_
              refine go_bipush (v := 8) d_Mo_readVoyages_99 (by decide) ?_
              refine go_iload_n (k := 1) d_Mo_readVoyages_101 rfl rfl ?_
              refine go_iadd d_Mo_readVoyages_102 ?_
              refine go_iload_n (k := 0) d_Mo_readVoyages_103 rfl rfl ?_
              obtain ⟨hi, I9, eI9, h⟩ := fsto_e h
              refine go_iast (I' := I9) d_Mo_readVoyages_104 a_M_19 hi eI9 ?_
              refine go_iload_n (k := 3) d_Mo_readVoyages_105 rfl rfl ?_
              refine go_iconst (v := 1) d_Mo_readVoyages_106 (by decide) ?_
              refine go_iadd d_Mo_readVoyages_107 ?_
              refine go_istore_n (lv' := [(1, .inl (x1 + 1)), (3, .inl r6), (2, .inl r4), (0, .inr (some 0))]) d_Mo_readVoyages_108 rfl (by decide) rfl ?_
              refine go_goto (tgt := 26) d_Mo_readVoyages_109 (by decide) ?_
              exact go_lv [3, 0] rfl (ih (x1 + 1) I9 h hX hR)
            · rw [if_pos hc] at h
              refine go_iconst (v := (-1)) d_Mo_readVoyages_93 (by decide) ?_
              exact go_ireturn d_Mo_readVoyages_94 rfl (hR _ _ (Option.some.inj h).symm)
        · rw [if_pos hc] at h
          refine go_iconst (v := (-1)) d_Mo_readVoyages_66 (by decide) ?_
          exact go_ireturn d_Mo_readVoyages_67 rfl (hR _ _ (Option.some.inj h).symm)
      · rw [if_pos hc] at h
        refine go_aload_n (k := 0) d_Mo_readVoyages_41 rfl rfl ?_
        refine go_iconst (v := 3) d_Mo_readVoyages_42 (by decide) ?_
        obtain ⟨⟨r11, I10⟩, w1, h⟩ := fbd_e h
        try dsimp only at h
        refine go_callV (y := yMo_errs) (asr := [.inl 3]) (v := some (.inl r11)) (I' := I10) (st1 := [.inl r11]) d_Mo_readVoyages_43 s_yMo_errs m_Mo_218 a_M_0 rfl rfl rfl (Nat.le_of_ble_eq_true rfl) rfl rfl (c_Mo_errs l (d0 + 4) 3 I w1) ?_
        exact go_ireturn d_Mo_readVoyages_46 rfl (hR _ _ (Option.some.inj h).symm)
def F_Mo_readVoyages (I : gb_Mem) : Option (Int32 × gb_Mem) :=
  fbd (L_Mo_readVoyages_2 5000 0 I) fun I2 =>
  fbr (L_Mo_readVoyages_26 5000 0 I2) (fun (o12, I13) =>
    if (I13 0 16) = 0 then
      some (o12, I13)
    else
      fbd (F_Mo_errs 1 I13) fun (r17, I16) =>
      some (r17, I16))
    (fun (q14, I15) => some (q14, I15))
set_option maxRecDepth 4000 in
theorem c_Mo_readVoyages (l : Launch) (d0 : Nat) (I : gb_Mem) {rz : Int32} {Iz : gb_Mem} (h : F_Mo_readVoyages I = some (rz, Iz)) : gb_Cs l yMo_readVoyages (d0 + 5) [.inr (some 0)] shM I (some (.inl rz)) Iz := by
  refine gb_Ct.of (lv := [(0, .inr (some 0))]) rfl (Nat.le_of_ble_eq_true rfl) rfl ?_
  unfold F_Mo_readVoyages at h
  show gb_Go l yMo_readVoyages (d0 + 5) 0 0 0 [(0, .inr (some 0))] [] shM I (gb_po shM (some (.inl rz)) Iz)
  refine go_iconst (v := 0) d_Mo_readVoyages_0 (by decide) ?_
  refine go_istore_n (lv' := [(1, .inl 0), (0, .inr (some 0))]) d_Mo_readVoyages_1 rfl (by decide) rfl ?_
  refine go_lv [1, 0] (lv' := [(0, .inr (some 0)), (1, .inl 0)]) rfl ?_
  obtain ⟨I2, w1, h⟩ := fbd_e h
  refine l_Mo_readVoyages_2 l d0  5000 0 I w1 (fun I2_ e => ?_)
  cases e
  refine go_iconst (v := 0) d_Mo_readVoyages_24 (by decide) ?_
  refine go_istore_n (lv' := [(1, .inl 0), (0, .inr (some 0))]) d_Mo_readVoyages_25 rfl (by decide) rfl ?_
  refine go_lv [1, 0] (lv' := [(0, .inr (some 0)), (1, .inl 0)]) rfl ?_
  obtain ⟨ρ, w1, w2, w3⟩ := fbr_e2 h
  refine l_Mo_readVoyages_26 l d0  5000 0 I2 w1 (fun o12 I13 e => ?_) (fun q14 I15 e => ?_)
  · have h := w2 _ e
    try dsimp only at h
    refine go_aload_n (k := 0) d_Mo_readVoyages_112 rfl rfl ?_
    refine go_geti (ci := 10) (k := 16) d_Mo_readVoyages_113 a_M_0 rfl (by decide) f_Mo_187 rfl ?_
    refine go_if_ne (tgt := 123) d_Mo_readVoyages_116 (by decide) (fun hc => ?_) (fun hc => ?_)
    · rw [if_neg hc] at h
      refine go_aload_n (k := 0) d_Mo_readVoyages_123 rfl rfl ?_
      refine go_iconst (v := 1) d_Mo_readVoyages_124 (by decide) ?_
      obtain ⟨⟨r17, I16⟩, w1, h⟩ := fbd_e h
      try dsimp only at h
      refine go_callV (y := yMo_errs) (asr := [.inl 1]) (v := some (.inl r17)) (I' := I16) (st1 := [.inl r17]) d_Mo_readVoyages_125 s_yMo_errs m_Mo_218 a_M_0 rfl rfl rfl (Nat.le_of_ble_eq_true rfl) rfl rfl (c_Mo_errs l (d0 + 4) 1 I13 w1) ?_
      cases h
      exact go_ireturn d_Mo_readVoyages_128 rfl gb_po_i
    · rw [if_pos hc] at h
      refine go_iload_n (k := 1) d_Mo_readVoyages_119 rfl rfl ?_
      refine go_goto (tgt := 128) d_Mo_readVoyages_120 (by decide) ?_
      cases h
      exact go_ireturn d_Mo_readVoyages_128 rfl gb_po_i
  · have h := w3 _ e
    try dsimp only at h
    cases h
    exact gb_po_i
theorem d_Mo_goesOn_0 : decode yMo_goesOn.2.1 0 = .ok (.aload_n 0, 1) := by decide +kernel
theorem d_Mo_goesOn_1 : decode yMo_goesOn.2.1 1 = .ok (.iload_n 1, 1) := by decide +kernel
theorem d_Mo_goesOn_2 : decode yMo_goesOn.2.1 2 = .ok (.invokevirtual 373, 3) := by decide +kernel
theorem d_Mo_goesOn_5 : decode yMo_goesOn.2.1 5 = .ok (.aload_n 0, 1) := by decide +kernel
theorem d_Mo_goesOn_6 : decode yMo_goesOn.2.1 6 = .ok (.aload_n 0, 1) := by decide +kernel
theorem d_Mo_goesOn_7 : decode yMo_goesOn.2.1 7 = .ok (.iload_n 1, 1) := by decide +kernel
theorem d_Mo_goesOn_8 : decode yMo_goesOn.2.1 8 = .ok (.invokevirtual 376, 3) := by decide +kernel
theorem d_Mo_goesOn_11 : decode yMo_goesOn.2.1 11 = .ok (.invokevirtual 370, 3) := by decide +kernel
theorem d_Mo_goesOn_14 : decode yMo_goesOn.2.1 14 = .ok (.ifCond .ne 10, 3) := by decide +kernel
theorem d_Mo_goesOn_17 : decode yMo_goesOn.2.1 17 = .ok (.aload_n 0, 1) := by decide +kernel
theorem d_Mo_goesOn_18 : decode yMo_goesOn.2.1 18 = .ok (.iload_n 1, 1) := by decide +kernel
theorem d_Mo_goesOn_19 : decode yMo_goesOn.2.1 19 = .ok (.invokevirtual 379, 3) := by decide +kernel
theorem d_Mo_goesOn_22 : decode yMo_goesOn.2.1 22 = .ok (.iconst 0, 1) := by decide +kernel
theorem d_Mo_goesOn_23 : decode yMo_goesOn.2.1 23 = .ok (.ireturn, 1) := by decide +kernel
theorem d_Mo_goesOn_24 : decode yMo_goesOn.2.1 24 = .ok (.aload_n 0, 1) := by decide +kernel
theorem d_Mo_goesOn_25 : decode yMo_goesOn.2.1 25 = .ok (.getfield 7, 3) := by decide +kernel
theorem d_Mo_goesOn_28 : decode yMo_goesOn.2.1 28 = .ok (.bipush 48, 2) := by decide +kernel
theorem d_Mo_goesOn_30 : decode yMo_goesOn.2.1 30 = .ok (.iload_n 1, 1) := by decide +kernel
theorem d_Mo_goesOn_31 : decode yMo_goesOn.2.1 31 = .ok (.iadd, 1) := by decide +kernel
theorem d_Mo_goesOn_32 : decode yMo_goesOn.2.1 32 = .ok (.aload_n 0, 1) := by decide +kernel
theorem d_Mo_goesOn_33 : decode yMo_goesOn.2.1 33 = .ok (.getfield 7, 3) := by decide +kernel
theorem d_Mo_goesOn_36 : decode yMo_goesOn.2.1 36 = .ok (.bipush 48, 2) := by decide +kernel
theorem d_Mo_goesOn_38 : decode yMo_goesOn.2.1 38 = .ok (.iload_n 1, 1) := by decide +kernel
theorem d_Mo_goesOn_39 : decode yMo_goesOn.2.1 39 = .ok (.iadd, 1) := by decide +kernel
theorem d_Mo_goesOn_40 : decode yMo_goesOn.2.1 40 = .ok (.iaload, 1) := by decide +kernel
theorem d_Mo_goesOn_41 : decode yMo_goesOn.2.1 41 = .ok (.aload_n 0, 1) := by decide +kernel
theorem d_Mo_goesOn_42 : decode yMo_goesOn.2.1 42 = .ok (.getfield 7, 3) := by decide +kernel
theorem d_Mo_goesOn_45 : decode yMo_goesOn.2.1 45 = .ok (.bipush 56, 2) := by decide +kernel
theorem d_Mo_goesOn_47 : decode yMo_goesOn.2.1 47 = .ok (.iload_n 1, 1) := by decide +kernel
theorem d_Mo_goesOn_48 : decode yMo_goesOn.2.1 48 = .ok (.iadd, 1) := by decide +kernel
theorem d_Mo_goesOn_49 : decode yMo_goesOn.2.1 49 = .ok (.iaload, 1) := by decide +kernel
theorem d_Mo_goesOn_50 : decode yMo_goesOn.2.1 50 = .ok (.iconst 1, 1) := by decide +kernel
theorem d_Mo_goesOn_51 : decode yMo_goesOn.2.1 51 = .ok (.if_icmp .ne 7, 3) := by decide +kernel
theorem d_Mo_goesOn_54 : decode yMo_goesOn.2.1 54 = .ok (.iconst 1, 1) := by decide +kernel
theorem d_Mo_goesOn_55 : decode yMo_goesOn.2.1 55 = .ok (.goto 4, 3) := by decide +kernel
theorem d_Mo_goesOn_58 : decode yMo_goesOn.2.1 58 = .ok (.iconst (-1), 1) := by decide +kernel
theorem d_Mo_goesOn_59 : decode yMo_goesOn.2.1 59 = .ok (.iadd, 1) := by decide +kernel
theorem d_Mo_goesOn_60 : decode yMo_goesOn.2.1 60 = .ok (.iastore, 1) := by decide +kernel
theorem d_Mo_goesOn_61 : decode yMo_goesOn.2.1 61 = .ok (.aload_n 0, 1) := by decide +kernel
theorem d_Mo_goesOn_62 : decode yMo_goesOn.2.1 62 = .ok (.iload_n 1, 1) := by decide +kernel
theorem d_Mo_goesOn_63 : decode yMo_goesOn.2.1 63 = .ok (.invokevirtual 382, 3) := by decide +kernel
theorem d_Mo_goesOn_66 : decode yMo_goesOn.2.1 66 = .ok (.aload_n 0, 1) := by decide +kernel
theorem d_Mo_goesOn_67 : decode yMo_goesOn.2.1 67 = .ok (.iload_n 1, 1) := by decide +kernel
theorem d_Mo_goesOn_68 : decode yMo_goesOn.2.1 68 = .ok (.invokevirtual 385, 3) := by decide +kernel
theorem d_Mo_goesOn_71 : decode yMo_goesOn.2.1 71 = .ok (.ireturn, 1) := by decide +kernel
def J_Mo_goesOn_59 (x1 s0 s1 s2 : Int32) (I : gb_Mem) : Option (Int32 × gb_Mem) :=
  fsto I 1 80 s2 (s1 + s0) fun I8 =>
  fbd (F_Mo_mightSpill x1 I8) fun I9 =>
  fbd (F_Mo_lands x1 I9) fun (r11, I10) =>
  fgd (decide (r11 = 0 ∨ r11 = 1)) <|
  some (r11, I10)
set_option maxRecDepth 4000 in
theorem j_Mo_goesOn_59 (l : Launch) (d0 : Nat) (x1 s0 s1 s2 : Int32) (I : gb_Mem) {rz : Int32} {Iz : gb_Mem} (h : J_Mo_goesOn_59 x1 s0 s1 s2 I = some (rz, Iz)) : gb_Go l yMo_goesOn (d0 + 6) 0 0 59 [(0, .inr (some 0)), (1, .inl x1)] [.inl s0, .inl s1, .inl s2, .inr (some 1)] shM I (gb_po shM (some (.inl rz)) Iz) := by
  unfold J_Mo_goesOn_59 at h
  refine go_iadd d_Mo_goesOn_59 ?_
  obtain ⟨hi, I8, eI8, h⟩ := fsto_e h
  refine go_iast (I' := I8) d_Mo_goesOn_60 a_M_1 hi eI8 ?_
  refine go_aload_n (k := 0) d_Mo_goesOn_61 rfl rfl ?_
  refine go_iload_n (k := 1) d_Mo_goesOn_62 rfl rfl ?_
  obtain ⟨I9, w1, h⟩ := fbd_e h
  refine go_callV (y := yMo_mightSpill) (asr := [.inl x1]) (v := none) (I' := I9) (st1 := []) d_Mo_goesOn_63 s_yMo_mightSpill m_Mo_382 a_M_0 rfl rfl rfl (Nat.le_of_ble_eq_true rfl) rfl rfl (c_Mo_mightSpill l (d0 + 0) x1 I8 w1) ?_
  refine go_aload_n (k := 0) d_Mo_goesOn_66 rfl rfl ?_
  refine go_iload_n (k := 1) d_Mo_goesOn_67 rfl rfl ?_
  obtain ⟨⟨r11, I10⟩, w1, h⟩ := fbd_e h
  try dsimp only at h
  refine go_callV (y := yMo_lands) (asr := [.inl x1]) (v := some (.inl r11)) (I' := I10) (st1 := [.inl r11]) d_Mo_goesOn_68 s_yMo_lands m_Mo_385 a_M_0 rfl rfl rfl (Nat.le_of_ble_eq_true rfl) rfl rfl (c_Mo_lands l (d0 + 3) x1 I9 w1) ?_
  obtain ⟨hz, h⟩ := fgd_e h
  cases h
  exact go_zreturn d_Mo_goesOn_71 rfl (of_decide_eq_true hz) gb_po_i
def F_Mo_goesOn (x1 : Int32) (I : gb_Mem) : Option (Int32 × gb_Mem) :=
  fbd (F_Mo_pours x1 I) fun I1 =>
  fbd (F_Mo_passesOf x1 I1) fun (r3, I2) =>
  fbd (F_Mo_comes r3 I2) fun (r5, I4) =>
  if r5 = 0 then
    fbd (F_Mo_isSkinned x1 I4) fun I12 =>
    some (0, I12)
  else
    flod I4 1 80 (48 + x1) fun v6 =>
    flod I4 1 80 (56 + x1) fun v7 =>
    if v7 = 1 then
      J_Mo_goesOn_59 x1 1 v6 (48 + x1) I4
    else
      J_Mo_goesOn_59 x1 (-1) v6 (48 + x1) I4
set_option maxRecDepth 4000 in
theorem c_Mo_goesOn (l : Launch) (d0 : Nat) (x1 : Int32) (I : gb_Mem) {rz : Int32} {Iz : gb_Mem} (h : F_Mo_goesOn x1 I = some (rz, Iz)) : gb_Cs l yMo_goesOn (d0 + 6) [.inr (some 0), .inl x1] shM I (some (.inl rz)) Iz := by
  refine gb_Ct.of (lv := [(0, .inr (some 0)), (1, .inl x1)]) rfl (Nat.le_of_ble_eq_true rfl) rfl ?_
  unfold F_Mo_goesOn at h
  show gb_Go l yMo_goesOn (d0 + 6) 0 0 0 [(0, .inr (some 0)), (1, .inl x1)] [] shM I (gb_po shM (some (.inl rz)) Iz)
  refine go_aload_n (k := 0) d_Mo_goesOn_0 rfl rfl ?_
  refine go_iload_n (k := 1) d_Mo_goesOn_1 rfl rfl ?_
  obtain ⟨I1, w1, h⟩ := fbd_e h
  refine go_callV (y := yMo_pours) (asr := [.inl x1]) (v := none) (I' := I1) (st1 := []) d_Mo_goesOn_2 s_yMo_pours m_Mo_373 a_M_0 rfl rfl rfl (Nat.le_of_ble_eq_true rfl) rfl rfl (c_Mo_pours l (d0 + 0) x1 I w1) ?_
  refine go_aload_n (k := 0) d_Mo_goesOn_5 rfl rfl ?_
  refine go_aload_n (k := 0) d_Mo_goesOn_6 rfl rfl ?_
  refine go_iload_n (k := 1) d_Mo_goesOn_7 rfl rfl ?_
  obtain ⟨⟨r3, I2⟩, w1, h⟩ := fbd_e h
  try dsimp only at h
  refine go_callV (y := yMo_passesOf) (asr := [.inl x1]) (v := some (.inl r3)) (I' := I2) (st1 := [.inl r3, .inr (some 0)]) d_Mo_goesOn_8 s_yMo_passesOf m_Mo_376 a_M_0 rfl rfl rfl (Nat.le_of_ble_eq_true rfl) rfl rfl (c_Mo_passesOf l (d0 + 1) x1 I1 w1) ?_
  obtain ⟨⟨r5, I4⟩, w1, h⟩ := fbd_e h
  try dsimp only at h
  refine go_callV (y := yMo_comes) (asr := [.inl r3]) (v := some (.inl r5)) (I' := I4) (st1 := [.inl r5]) d_Mo_goesOn_11 s_yMo_comes m_Mo_370 a_M_0 rfl rfl rfl (Nat.le_of_ble_eq_true rfl) rfl rfl (c_Mo_comes l (d0 + 4) r3 I2 w1) ?_
  refine go_if_ne (tgt := 24) d_Mo_goesOn_14 (by decide) (fun hc => ?_) (fun hc => ?_)
  · rw [if_neg hc] at h
    refine go_aload_n (k := 0) d_Mo_goesOn_24 rfl rfl ?_
    refine go_getr (ci := 10) (k := 1) (r := 1) d_Mo_goesOn_25 a_M_0 rfl (by decide) f_Mo_7 rfl ?_
    refine go_bipush (v := 48) d_Mo_goesOn_28 (by decide) ?_
    refine go_iload_n (k := 1) d_Mo_goesOn_30 rfl rfl ?_
    refine go_iadd d_Mo_goesOn_31 ?_
    refine go_aload_n (k := 0) d_Mo_goesOn_32 rfl rfl ?_
    refine go_getr (ci := 10) (k := 1) (r := 1) d_Mo_goesOn_33 a_M_0 rfl (by decide) f_Mo_7 rfl ?_
    refine go_bipush (v := 48) d_Mo_goesOn_36 (by decide) ?_
    refine go_iload_n (k := 1) d_Mo_goesOn_38 rfl rfl ?_
    refine go_iadd d_Mo_goesOn_39 ?_
    obtain ⟨hi, v6, ev6, h⟩ := flod_e h
    refine go_iald2 d_Mo_goesOn_40 a_M_1 hi ev6 ?_
    refine go_aload_n (k := 0) d_Mo_goesOn_41 rfl rfl ?_
    refine go_getr (ci := 10) (k := 1) (r := 1) d_Mo_goesOn_42 a_M_0 rfl (by decide) f_Mo_7 rfl ?_
    refine go_bipush (v := 56) d_Mo_goesOn_45 (by decide) ?_
    refine go_iload_n (k := 1) d_Mo_goesOn_47 rfl rfl ?_
    refine go_iadd d_Mo_goesOn_48 ?_
    obtain ⟨hi, v7, ev7, h⟩ := flod_e h
    refine go_iald2 d_Mo_goesOn_49 a_M_1 hi ev7 ?_
    refine go_iconst (v := 1) d_Mo_goesOn_50 (by decide) ?_
    refine go_cmp_ne (tgt := 58) d_Mo_goesOn_51 (by decide) (fun hc => ?_) (fun hc => ?_)
    · rw [if_neg hc] at h
      refine go_iconst (v := (-1)) d_Mo_goesOn_58 (by decide) ?_
      exact go_lv [0, 1] rfl (j_Mo_goesOn_59 l d0 x1 (-1) v6 (48 + x1) I4 h)
    · rw [if_pos hc] at h
      refine go_iconst (v := 1) d_Mo_goesOn_54 (by decide) ?_
      refine go_goto (tgt := 59) d_Mo_goesOn_55 (by decide) ?_
      exact go_lv [0, 1] rfl (j_Mo_goesOn_59 l d0 x1 1 v6 (48 + x1) I4 h)
  · rw [if_pos hc] at h
    refine go_aload_n (k := 0) d_Mo_goesOn_17 rfl rfl ?_
    refine go_iload_n (k := 1) d_Mo_goesOn_18 rfl rfl ?_
    obtain ⟨I12, w1, h⟩ := fbd_e h
    refine go_callV (y := yMo_isSkinned) (asr := [.inl x1]) (v := none) (I' := I12) (st1 := []) d_Mo_goesOn_19 s_yMo_isSkinned m_Mo_379 a_M_0 rfl rfl rfl (Nat.le_of_ble_eq_true rfl) rfl rfl (c_Mo_isSkinned l (d0 + 4) x1 I4 w1) ?_
    refine go_iconst (v := 0) d_Mo_goesOn_22 (by decide) ?_
    cases h
    exact go_zreturn d_Mo_goesOn_23 rfl (Or.inl rfl) gb_po_i
theorem d_Mo_readCompared_0 : decode yMo_readCompared.2.1 0 = .ok (.aload_n 0, 1) := by decide +kernel
theorem d_Mo_readCompared_1 : decode yMo_readCompared.2.1 1 = .ok (.invokevirtual 238, 3) := by decide +kernel
theorem d_Mo_readCompared_4 : decode yMo_readCompared.2.1 4 = .ok (.iconst (-1), 1) := by decide +kernel
theorem d_Mo_readCompared_5 : decode yMo_readCompared.2.1 5 = .ok (.if_icmp .ne 5, 3) := by decide +kernel
theorem d_Mo_readCompared_8 : decode yMo_readCompared.2.1 8 = .ok (.iconst (-1), 1) := by decide +kernel
theorem d_Mo_readCompared_9 : decode yMo_readCompared.2.1 9 = .ok (.ireturn, 1) := by decide +kernel
theorem d_Mo_readCompared_10 : decode yMo_readCompared.2.1 10 = .ok (.aload_n 0, 1) := by decide +kernel
theorem d_Mo_readCompared_11 : decode yMo_readCompared.2.1 11 = .ok (.bipush 60, 2) := by decide +kernel
theorem d_Mo_readCompared_13 : decode yMo_readCompared.2.1 13 = .ok (.invokevirtual 232, 3) := by decide +kernel
theorem d_Mo_readCompared_16 : decode yMo_readCompared.2.1 16 = .ok (.ifCond .ne 27, 3) := by decide +kernel
theorem d_Mo_readCompared_19 : decode yMo_readCompared.2.1 19 = .ok (.aload_n 0, 1) := by decide +kernel
theorem d_Mo_readCompared_20 : decode yMo_readCompared.2.1 20 = .ok (.bipush 61, 2) := by decide +kernel
theorem d_Mo_readCompared_22 : decode yMo_readCompared.2.1 22 = .ok (.invokevirtual 232, 3) := by decide +kernel
theorem d_Mo_readCompared_25 : decode yMo_readCompared.2.1 25 = .ok (.ifCond .ne 18, 3) := by decide +kernel
theorem d_Mo_readCompared_28 : decode yMo_readCompared.2.1 28 = .ok (.aload_n 0, 1) := by decide +kernel
theorem d_Mo_readCompared_29 : decode yMo_readCompared.2.1 29 = .ok (.bipush 62, 2) := by decide +kernel
theorem d_Mo_readCompared_31 : decode yMo_readCompared.2.1 31 = .ok (.invokevirtual 232, 3) := by decide +kernel
theorem d_Mo_readCompared_34 : decode yMo_readCompared.2.1 34 = .ok (.ifCond .ne 9, 3) := by decide +kernel
theorem d_Mo_readCompared_37 : decode yMo_readCompared.2.1 37 = .ok (.aload_n 0, 1) := by decide +kernel
theorem d_Mo_readCompared_38 : decode yMo_readCompared.2.1 38 = .ok (.iconst 1, 1) := by decide +kernel
theorem d_Mo_readCompared_39 : decode yMo_readCompared.2.1 39 = .ok (.invokevirtual 218, 3) := by decide +kernel
theorem d_Mo_readCompared_42 : decode yMo_readCompared.2.1 42 = .ok (.ireturn, 1) := by decide +kernel
theorem d_Mo_readCompared_43 : decode yMo_readCompared.2.1 43 = .ok (.aload_n 0, 1) := by decide +kernel
theorem d_Mo_readCompared_44 : decode yMo_readCompared.2.1 44 = .ok (.getfield 190, 3) := by decide +kernel
theorem d_Mo_readCompared_47 : decode yMo_readCompared.2.1 47 = .ok (.bipush 60, 2) := by decide +kernel
theorem d_Mo_readCompared_49 : decode yMo_readCompared.2.1 49 = .ok (.if_icmp .ne 8, 3) := by decide +kernel
theorem d_Mo_readCompared_52 : decode yMo_readCompared.2.1 52 = .ok (.bipush 6, 2) := by decide +kernel
theorem d_Mo_readCompared_54 : decode yMo_readCompared.2.1 54 = .ok (.goto 19, 3) := by decide +kernel
theorem d_Mo_readCompared_57 : decode yMo_readCompared.2.1 57 = .ok (.aload_n 0, 1) := by decide +kernel
theorem d_Mo_readCompared_58 : decode yMo_readCompared.2.1 58 = .ok (.getfield 190, 3) := by decide +kernel
theorem d_Mo_readCompared_61 : decode yMo_readCompared.2.1 61 = .ok (.bipush 61, 2) := by decide +kernel
theorem d_Mo_readCompared_63 : decode yMo_readCompared.2.1 63 = .ok (.if_icmp .ne 8, 3) := by decide +kernel
theorem d_Mo_readCompared_66 : decode yMo_readCompared.2.1 66 = .ok (.bipush 7, 2) := by decide +kernel
theorem d_Mo_readCompared_68 : decode yMo_readCompared.2.1 68 = .ok (.goto 5, 3) := by decide +kernel
theorem d_Mo_readCompared_71 : decode yMo_readCompared.2.1 71 = .ok (.bipush 8, 2) := by decide +kernel
theorem d_Mo_readCompared_73 : decode yMo_readCompared.2.1 73 = .ok (.istore_n 1, 1) := by decide +kernel
theorem d_Mo_readCompared_74 : decode yMo_readCompared.2.1 74 = .ok (.aload_n 0, 1) := by decide +kernel
theorem d_Mo_readCompared_75 : decode yMo_readCompared.2.1 75 = .ok (.invokevirtual 225, 3) := by decide +kernel
theorem d_Mo_readCompared_78 : decode yMo_readCompared.2.1 78 = .ok (.aload_n 0, 1) := by decide +kernel
theorem d_Mo_readCompared_79 : decode yMo_readCompared.2.1 79 = .ok (.invokevirtual 238, 3) := by decide +kernel
theorem d_Mo_readCompared_82 : decode yMo_readCompared.2.1 82 = .ok (.iconst (-1), 1) := by decide +kernel
theorem d_Mo_readCompared_83 : decode yMo_readCompared.2.1 83 = .ok (.if_icmp .ne 5, 3) := by decide +kernel
theorem d_Mo_readCompared_86 : decode yMo_readCompared.2.1 86 = .ok (.iconst (-1), 1) := by decide +kernel
theorem d_Mo_readCompared_87 : decode yMo_readCompared.2.1 87 = .ok (.ireturn, 1) := by decide +kernel
theorem d_Mo_readCompared_88 : decode yMo_readCompared.2.1 88 = .ok (.aload_n 0, 1) := by decide +kernel
theorem d_Mo_readCompared_89 : decode yMo_readCompared.2.1 89 = .ok (.iload_n 1, 1) := by decide +kernel
theorem d_Mo_readCompared_90 : decode yMo_readCompared.2.1 90 = .ok (.iconst 0, 1) := by decide +kernel
theorem d_Mo_readCompared_91 : decode yMo_readCompared.2.1 91 = .ok (.invokevirtual 221, 3) := by decide +kernel
theorem d_Mo_readCompared_94 : decode yMo_readCompared.2.1 94 = .ok (.iconst 0, 1) := by decide +kernel
theorem d_Mo_readCompared_95 : decode yMo_readCompared.2.1 95 = .ok (.ireturn, 1) := by decide +kernel
def J_Mo_readCompared_73 (s0 : Int32) (I : gb_Mem) : Option (Int32 × gb_Mem) :=
  fbd (F_Mo_reads  I) fun I3 =>
  fbd (F_Mo_readSum  I3) fun (r5, I4) =>
  if r5 = (-1) then
    some ((-1), I4)
  else
    fbd (F_Mo_emits s0 0 I4) fun I6 =>
    some (0, I6)
set_option maxRecDepth 4000 in
theorem j_Mo_readCompared_73 (l : Launch) (d0 : Nat) (s0 : Int32) (I : gb_Mem) {rz : Int32} {Iz : gb_Mem} (h : J_Mo_readCompared_73 s0 I = some (rz, Iz)) : gb_Go l yMo_readCompared (d0 + 6) 0 0 73 [(0, .inr (some 0))] [.inl s0] shM I (gb_po shM (some (.inl rz)) Iz) := by
  unfold J_Mo_readCompared_73 at h
  refine go_istore_n (lv' := [(1, .inl s0), (0, .inr (some 0))]) d_Mo_readCompared_73 rfl (by decide) rfl ?_
  refine go_aload_n (k := 1) d_Mo_readCompared_74 rfl rfl ?_
  obtain ⟨I3, w1, h⟩ := fbd_e h
  refine go_callV (y := yMo_reads) (asr := []) (v := none) (I' := I3) (st1 := []) d_Mo_readCompared_75 s_yMo_reads m_Mo_225 a_M_0 rfl rfl rfl (Nat.le_of_ble_eq_true rfl) rfl rfl (c_Mo_reads l (d0 + 3)  I w1) ?_
  refine go_aload_n (k := 1) d_Mo_readCompared_78 rfl rfl ?_
  obtain ⟨⟨r5, I4⟩, w1, h⟩ := fbd_e h
  try dsimp only at h
  refine go_callV (y := yMo_readSum) (asr := []) (v := some (.inl r5)) (I' := I4) (st1 := [.inl r5]) d_Mo_readCompared_79 s_yMo_readSum m_Mo_238 a_M_0 rfl rfl rfl (Nat.le_of_ble_eq_true rfl) rfl rfl (c_Mo_readSum l (d0 + 0)  I3 w1) ?_
  refine go_iconst (v := (-1)) d_Mo_readCompared_82 (by decide) ?_
  refine go_cmp_ne (tgt := 88) d_Mo_readCompared_83 (by decide) (fun hc => ?_) (fun hc => ?_)
  · rw [if_neg hc] at h
    refine go_aload_n (k := 1) d_Mo_readCompared_88 rfl rfl ?_
    refine go_iload_n (k := 0) d_Mo_readCompared_89 rfl rfl ?_
    refine go_iconst (v := 0) d_Mo_readCompared_90 (by decide) ?_
    obtain ⟨I6, w1, h⟩ := fbd_e h
    refine go_callV (y := yMo_emits) (asr := [.inl s0, .inl 0]) (v := none) (I' := I6) (st1 := []) d_Mo_readCompared_91 s_yMo_emits m_Mo_221 a_M_0 rfl rfl rfl (Nat.le_of_ble_eq_true rfl) rfl rfl (c_Mo_emits l (d0 + 5) s0 0 I4 w1) ?_
    refine go_iconst (v := 0) d_Mo_readCompared_94 (by decide) ?_
    cases h
    exact go_ireturn d_Mo_readCompared_95 rfl gb_po_i
  · rw [if_pos hc] at h
    refine go_iconst (v := (-1)) d_Mo_readCompared_86 (by decide) ?_
    cases h
    exact go_ireturn d_Mo_readCompared_87 rfl gb_po_i
def J_Mo_readCompared_43 (I : gb_Mem) : Option (Int32 × gb_Mem) :=
  if (I 0 17) = 60 then
    J_Mo_readCompared_73 6 I
  else
    if (I 0 17) = 61 then
      J_Mo_readCompared_73 7 I
    else
      J_Mo_readCompared_73 8 I
set_option maxRecDepth 4000 in
theorem j_Mo_readCompared_43 (l : Launch) (d0 : Nat) (I : gb_Mem) {rz : Int32} {Iz : gb_Mem} (h : J_Mo_readCompared_43 I = some (rz, Iz)) : gb_Go l yMo_readCompared (d0 + 6) 0 0 43 [(0, .inr (some 0))] [] shM I (gb_po shM (some (.inl rz)) Iz) := by
  unfold J_Mo_readCompared_43 at h
  refine go_aload_n (k := 0) d_Mo_readCompared_43 rfl rfl ?_
  refine go_geti (ci := 10) (k := 17) d_Mo_readCompared_44 a_M_0 rfl (by decide) f_Mo_190 rfl ?_
  refine go_bipush (v := 60) d_Mo_readCompared_47 (by decide) ?_
  refine go_cmp_ne (tgt := 57) d_Mo_readCompared_49 (by decide) (fun hc => ?_) (fun hc => ?_)
  · rw [if_neg hc] at h
    refine go_aload_n (k := 0) d_Mo_readCompared_57 rfl rfl ?_
    refine go_geti (ci := 10) (k := 17) d_Mo_readCompared_58 a_M_0 rfl (by decide) f_Mo_190 rfl ?_
    refine go_bipush (v := 61) d_Mo_readCompared_61 (by decide) ?_
    refine go_cmp_ne (tgt := 71) d_Mo_readCompared_63 (by decide) (fun hc => ?_) (fun hc => ?_)
    · rw [if_neg hc] at h
      refine go_bipush (v := 8) d_Mo_readCompared_71 (by decide) ?_
      exact go_lv [0] rfl (j_Mo_readCompared_73 l d0 8 I h)
    · rw [if_pos hc] at h
      refine go_bipush (v := 7) d_Mo_readCompared_66 (by decide) ?_
      refine go_goto (tgt := 73) d_Mo_readCompared_68 (by decide) ?_
      exact go_lv [0] rfl (j_Mo_readCompared_73 l d0 7 I h)
  · rw [if_pos hc] at h
    refine go_bipush (v := 6) d_Mo_readCompared_52 (by decide) ?_
    refine go_goto (tgt := 73) d_Mo_readCompared_54 (by decide) ?_
    exact go_lv [0] rfl (j_Mo_readCompared_73 l d0 6 I h)
def F_Mo_readCompared (I : gb_Mem) : Option (Int32 × gb_Mem) :=
  fbd (F_Mo_readSum  I) fun (r2, I1) =>
  if r2 = (-1) then
    some ((-1), I1)
  else
    if (F_Mo_isSign 60 I1) = 0 then
      if (F_Mo_isSign 61 I1) = 0 then
        if (F_Mo_isSign 62 I1) = 0 then
          fbd (F_Mo_errs 1 I1) fun (r8, I7) =>
          some (r8, I7)
        else
          J_Mo_readCompared_43 I1
      else
        J_Mo_readCompared_43 I1
    else
      J_Mo_readCompared_43 I1
set_option maxRecDepth 4000 in
theorem c_Mo_readCompared (l : Launch) (d0 : Nat) (I : gb_Mem) {rz : Int32} {Iz : gb_Mem} (h : F_Mo_readCompared I = some (rz, Iz)) : gb_Cs l yMo_readCompared (d0 + 6) [.inr (some 0)] shM I (some (.inl rz)) Iz := by
  refine gb_Ct.of (lv := [(0, .inr (some 0))]) rfl (Nat.le_of_ble_eq_true rfl) rfl ?_
  unfold F_Mo_readCompared at h
  show gb_Go l yMo_readCompared (d0 + 6) 0 0 0 [(0, .inr (some 0))] [] shM I (gb_po shM (some (.inl rz)) Iz)
  refine go_aload_n (k := 0) d_Mo_readCompared_0 rfl rfl ?_
  obtain ⟨⟨r2, I1⟩, w1, h⟩ := fbd_e h
  try dsimp only at h
  refine go_callV (y := yMo_readSum) (asr := []) (v := some (.inl r2)) (I' := I1) (st1 := [.inl r2]) d_Mo_readCompared_1 s_yMo_readSum m_Mo_238 a_M_0 rfl rfl rfl (Nat.le_of_ble_eq_true rfl) rfl rfl (c_Mo_readSum l (d0 + 0)  I w1) ?_
  refine go_iconst (v := (-1)) d_Mo_readCompared_4 (by decide) ?_
  refine go_cmp_ne (tgt := 10) d_Mo_readCompared_5 (by decide) (fun hc => ?_) (fun hc => ?_)
  · rw [if_neg hc] at h
    refine go_aload_n (k := 0) d_Mo_readCompared_10 rfl rfl ?_
    refine go_bipush (v := 60) d_Mo_readCompared_11 (by decide) ?_
    refine go_callV (y := yMo_isSign) (asr := [.inl 60]) (v := some (.inl (F_Mo_isSign 60 I1))) (I' := I1) (st1 := [.inl (F_Mo_isSign 60 I1)]) d_Mo_readCompared_13 s_yMo_isSign m_Mo_232 a_M_0 rfl rfl rfl (Nat.le_of_ble_eq_true rfl) rfl rfl (c_Mo_isSign l (d0 + 5) 60 I1) ?_
    refine go_if_ne (tgt := 43) d_Mo_readCompared_16 (by decide) (fun hc => ?_) (fun hc => ?_)
    · rw [if_neg hc] at h
      exact go_lv [0] rfl (j_Mo_readCompared_43 l d0 I1 h)
    · rw [if_pos hc] at h
      refine go_aload_n (k := 0) d_Mo_readCompared_19 rfl rfl ?_
      refine go_bipush (v := 61) d_Mo_readCompared_20 (by decide) ?_
      refine go_callV (y := yMo_isSign) (asr := [.inl 61]) (v := some (.inl (F_Mo_isSign 61 I1))) (I' := I1) (st1 := [.inl (F_Mo_isSign 61 I1)]) d_Mo_readCompared_22 s_yMo_isSign m_Mo_232 a_M_0 rfl rfl rfl (Nat.le_of_ble_eq_true rfl) rfl rfl (c_Mo_isSign l (d0 + 5) 61 I1) ?_
      refine go_if_ne (tgt := 43) d_Mo_readCompared_25 (by decide) (fun hc => ?_) (fun hc => ?_)
      · rw [if_neg hc] at h
        exact go_lv [0] rfl (j_Mo_readCompared_43 l d0 I1 h)
      · rw [if_pos hc] at h
        refine go_aload_n (k := 0) d_Mo_readCompared_28 rfl rfl ?_
        refine go_bipush (v := 62) d_Mo_readCompared_29 (by decide) ?_
        refine go_callV (y := yMo_isSign) (asr := [.inl 62]) (v := some (.inl (F_Mo_isSign 62 I1))) (I' := I1) (st1 := [.inl (F_Mo_isSign 62 I1)]) d_Mo_readCompared_31 s_yMo_isSign m_Mo_232 a_M_0 rfl rfl rfl (Nat.le_of_ble_eq_true rfl) rfl rfl (c_Mo_isSign l (d0 + 5) 62 I1) ?_
        refine go_if_ne (tgt := 43) d_Mo_readCompared_34 (by decide) (fun hc => ?_) (fun hc => ?_)
        · rw [if_neg hc] at h
          exact go_lv [0] rfl (j_Mo_readCompared_43 l d0 I1 h)
        · rw [if_pos hc] at h
          refine go_aload_n (k := 0) d_Mo_readCompared_37 rfl rfl ?_
          refine go_iconst (v := 1) d_Mo_readCompared_38 (by decide) ?_
          obtain ⟨⟨r8, I7⟩, w1, h⟩ := fbd_e h
          try dsimp only at h
          refine go_callV (y := yMo_errs) (asr := [.inl 1]) (v := some (.inl r8)) (I' := I7) (st1 := [.inl r8]) d_Mo_readCompared_39 s_yMo_errs m_Mo_218 a_M_0 rfl rfl rfl (Nat.le_of_ble_eq_true rfl) rfl rfl (c_Mo_errs l (d0 + 5) 1 I1 w1) ?_
          cases h
          exact go_ireturn d_Mo_readCompared_42 rfl gb_po_i
  · rw [if_pos hc] at h
    refine go_iconst (v := (-1)) d_Mo_readCompared_8 (by decide) ?_
    cases h
    exact go_ireturn d_Mo_readCompared_9 rfl gb_po_i
theorem d_Mo_readDinner_0 : decode yMo_readDinner.2.1 0 = .ok (.iconst 0, 1) := by decide +kernel
theorem d_Mo_readDinner_1 : decode yMo_readDinner.2.1 1 = .ok (.istore_n 1, 1) := by decide +kernel
theorem d_Mo_readDinner_2 : decode yMo_readDinner.2.1 2 = .ok (.aload_n 0, 1) := by decide +kernel
theorem d_Mo_readDinner_3 : decode yMo_readDinner.2.1 3 = .ok (.bipush 21, 2) := by decide +kernel
theorem d_Mo_readDinner_5 : decode yMo_readDinner.2.1 5 = .ok (.invokevirtual 247, 3) := by decide +kernel
theorem d_Mo_readDinner_8 : decode yMo_readDinner.2.1 8 = .ok (.ifCond .eq 38, 3) := by decide +kernel
theorem d_Mo_readDinner_11 : decode yMo_readDinner.2.1 11 = .ok (.iload_n 1, 1) := by decide +kernel
theorem d_Mo_readDinner_12 : decode yMo_readDinner.2.1 12 = .ok (.bipush 16, 2) := by decide +kernel
theorem d_Mo_readDinner_14 : decode yMo_readDinner.2.1 14 = .ok (.if_icmp .ne 9, 3) := by decide +kernel
theorem d_Mo_readDinner_17 : decode yMo_readDinner.2.1 17 = .ok (.aload_n 0, 1) := by decide +kernel
theorem d_Mo_readDinner_18 : decode yMo_readDinner.2.1 18 = .ok (.iconst 3, 1) := by decide +kernel
theorem d_Mo_readDinner_19 : decode yMo_readDinner.2.1 19 = .ok (.invokevirtual 218, 3) := by decide +kernel
theorem d_Mo_readDinner_22 : decode yMo_readDinner.2.1 22 = .ok (.ireturn, 1) := by decide +kernel
theorem d_Mo_readDinner_23 : decode yMo_readDinner.2.1 23 = .ok (.aload_n 0, 1) := by decide +kernel
theorem d_Mo_readDinner_24 : decode yMo_readDinner.2.1 24 = .ok (.bipush 64, 2) := by decide +kernel
theorem d_Mo_readDinner_26 : decode yMo_readDinner.2.1 26 = .ok (.iconst 4, 1) := by decide +kernel
theorem d_Mo_readDinner_27 : decode yMo_readDinner.2.1 27 = .ok (.iload_n 1, 1) := by decide +kernel
theorem d_Mo_readDinner_28 : decode yMo_readDinner.2.1 28 = .ok (.imul, 1) := by decide +kernel
theorem d_Mo_readDinner_29 : decode yMo_readDinner.2.1 29 = .ok (.iadd, 1) := by decide +kernel
theorem d_Mo_readDinner_30 : decode yMo_readDinner.2.1 30 = .ok (.invokevirtual 285, 3) := by decide +kernel
theorem d_Mo_readDinner_33 : decode yMo_readDinner.2.1 33 = .ok (.iconst (-1), 1) := by decide +kernel
theorem d_Mo_readDinner_34 : decode yMo_readDinner.2.1 34 = .ok (.if_icmp .ne 5, 3) := by decide +kernel
theorem d_Mo_readDinner_37 : decode yMo_readDinner.2.1 37 = .ok (.iconst (-1), 1) := by decide +kernel
theorem d_Mo_readDinner_38 : decode yMo_readDinner.2.1 38 = .ok (.ireturn, 1) := by decide +kernel
theorem d_Mo_readDinner_39 : decode yMo_readDinner.2.1 39 = .ok (.iload_n 1, 1) := by decide +kernel
theorem d_Mo_readDinner_40 : decode yMo_readDinner.2.1 40 = .ok (.iconst 1, 1) := by decide +kernel
theorem d_Mo_readDinner_41 : decode yMo_readDinner.2.1 41 = .ok (.iadd, 1) := by decide +kernel
theorem d_Mo_readDinner_42 : decode yMo_readDinner.2.1 42 = .ok (.istore_n 1, 1) := by decide +kernel
theorem d_Mo_readDinner_43 : decode yMo_readDinner.2.1 43 = .ok (.goto (-41), 3) := by decide +kernel
theorem d_Mo_readDinner_46 : decode yMo_readDinner.2.1 46 = .ok (.aload_n 0, 1) := by decide +kernel
theorem d_Mo_readDinner_47 : decode yMo_readDinner.2.1 47 = .ok (.getfield 187, 3) := by decide +kernel
theorem d_Mo_readDinner_50 : decode yMo_readDinner.2.1 50 = .ok (.ifCond .ne 7, 3) := by decide +kernel
theorem d_Mo_readDinner_53 : decode yMo_readDinner.2.1 53 = .ok (.iload_n 1, 1) := by decide +kernel
theorem d_Mo_readDinner_54 : decode yMo_readDinner.2.1 54 = .ok (.goto 8, 3) := by decide +kernel
theorem d_Mo_readDinner_57 : decode yMo_readDinner.2.1 57 = .ok (.aload_n 0, 1) := by decide +kernel
theorem d_Mo_readDinner_58 : decode yMo_readDinner.2.1 58 = .ok (.iconst 1, 1) := by decide +kernel
theorem d_Mo_readDinner_59 : decode yMo_readDinner.2.1 59 = .ok (.invokevirtual 218, 3) := by decide +kernel
theorem d_Mo_readDinner_62 : decode yMo_readDinner.2.1 62 = .ok (.ireturn, 1) := by decide +kernel
def L_Mo_readDinner_2 : Nat → Int32 → gb_Mem → Option ((Int32 × gb_Mem) ⊕ (Int32 × gb_Mem))
  | 0, _, _ => none
  | n + 1, x1, I =>
    if (F_Mo_isWord 21 I) = 0 then
      some (.inl (x1, I))
    else
      if x1 = 16 then
        fbd (F_Mo_errs 3 I) fun (r4, I3) =>
        some (.inr (r4, I3))
      else
        fbd (F_Mo_readDeed (64 + (4 * x1)) I) fun (r2, I1) =>
        if r2 = (-1) then
          some (.inr ((-1), I1))
        else
          L_Mo_readDinner_2 n (x1 + 1) I1
set_option maxRecDepth 4000 in
theorem l_Mo_readDinner_2 (l : Launch) (d0 : Nat) {post : Option gb_AV → List gb_Ce → gb_Mem → Prop} : ∀ (n : Nat) (x1 : Int32) (I : gb_Mem) {ρ : (Int32 × gb_Mem) ⊕ (Int32 × gb_Mem)} (h : L_Mo_readDinner_2 n x1 I = some ρ) (hX : ∀ (o1 : Int32) (I2 : gb_Mem), ρ = .inl (o1, I2) → gb_Go l yMo_readDinner (d0 + 6) 0 0 46 [(0, .inr (some 0)), (1, .inl o1)] [] shM I2 post) (hR : ∀ (v : Int32) (I3 : gb_Mem), ρ = .inr (v, I3) → post (some (.inl v)) shM I3) , gb_Go l yMo_readDinner (d0 + 6) 0 0 2 [(0, .inr (some 0)), (1, .inl x1)] [] shM I post := by
  intro n
  induction n with
  | zero => intro x1 I ρ h hX hR; cases h
  | succ n ih =>
    intro x1 I ρ h hX hR
    rw [L_Mo_readDinner_2] at h
    refine go_aload_n (k := 0) d_Mo_readDinner_2 rfl rfl ?_
    refine go_bipush (v := 21) d_Mo_readDinner_3 (by decide) ?_
    refine go_callV (y := yMo_isWord) (asr := [.inl 21]) (v := some (.inl (F_Mo_isWord 21 I))) (I' := I) (st1 := [.inl (F_Mo_isWord 21 I)]) d_Mo_readDinner_5 s_yMo_isWord m_Mo_247 a_M_0 rfl rfl rfl (Nat.le_of_ble_eq_true rfl) rfl rfl (c_Mo_isWord l (d0 + 5) 21 I) ?_
    refine go_if_eq (tgt := 46) d_Mo_readDinner_8 (by decide) (fun hc => ?_) (fun hc => ?_)
    · rw [if_pos hc] at h
      exact go_lv [0, 1] rfl (hX _ _ (Option.some.inj h).symm)
    · rw [if_neg hc] at h
      refine go_iload_n (k := 1) d_Mo_readDinner_11 rfl rfl ?_
      refine go_bipush (v := 16) d_Mo_readDinner_12 (by decide) ?_
      refine go_cmp_ne (tgt := 23) d_Mo_readDinner_14 (by decide) (fun hc => ?_) (fun hc => ?_)
      · rw [if_neg hc] at h
        refine go_aload_n (k := 0) d_Mo_readDinner_23 rfl rfl ?_
        refine go_bipush (v := 64) d_Mo_readDinner_24 (by decide) ?_
        refine go_iconst (v := 4) d_Mo_readDinner_26 (by decide) ?_
        refine go_iload_n (k := 1) d_Mo_readDinner_27 rfl rfl ?_
        refine go_imul d_Mo_readDinner_28 ?_
        refine go_iadd d_Mo_readDinner_29 ?_
        obtain ⟨⟨r2, I1⟩, w1, h⟩ := fbd_e h
        try dsimp only at h
        refine go_callV (y := yMo_readDeed) (asr := [.inl (64 + (4 * x1))]) (v := some (.inl r2)) (I' := I1) (st1 := [.inl r2]) d_Mo_readDinner_30 s_yMo_readDeed m_Mo_285 a_M_0 rfl rfl rfl (Nat.le_of_ble_eq_true rfl) rfl rfl (c_Mo_readDeed l (d0 + 0) (64 + (4 * x1)) I w1) ?_
        refine go_iconst (v := (-1)) d_Mo_readDinner_33 (by decide) ?_
        refine go_cmp_ne (tgt := 39) d_Mo_readDinner_34 (by decide) (fun hc => ?_) (fun hc => ?_)
        · rw [if_neg hc] at h
          refine go_iload_n (k := 1) d_Mo_readDinner_39 rfl rfl ?_
          refine go_iconst (v := 1) d_Mo_readDinner_40 (by decide) ?_
          refine go_iadd d_Mo_readDinner_41 ?_
          refine go_istore_n (lv' := [(1, .inl (x1 + 1)), (0, .inr (some 0))]) d_Mo_readDinner_42 rfl (by decide) rfl ?_
          refine go_goto (tgt := 2) d_Mo_readDinner_43 (by decide) ?_
          exact go_lv [1, 0] rfl (ih (x1 + 1) I1 h hX hR)
        · rw [if_pos hc] at h
          refine go_iconst (v := (-1)) d_Mo_readDinner_37 (by decide) ?_
          exact go_ireturn d_Mo_readDinner_38 rfl (hR _ _ (Option.some.inj h).symm)
      · rw [if_pos hc] at h
        refine go_aload_n (k := 0) d_Mo_readDinner_17 rfl rfl ?_
        refine go_iconst (v := 3) d_Mo_readDinner_18 (by decide) ?_
        obtain ⟨⟨r4, I3⟩, w1, h⟩ := fbd_e h
        try dsimp only at h
        refine go_callV (y := yMo_errs) (asr := [.inl 3]) (v := some (.inl r4)) (I' := I3) (st1 := [.inl r4]) d_Mo_readDinner_19 s_yMo_errs m_Mo_218 a_M_0 rfl rfl rfl (Nat.le_of_ble_eq_true rfl) rfl rfl (c_Mo_errs l (d0 + 5) 3 I w1) ?_
        exact go_ireturn d_Mo_readDinner_22 rfl (hR _ _ (Option.some.inj h).symm)
def F_Mo_readDinner (I : gb_Mem) : Option (Int32 × gb_Mem) :=
  fbr (L_Mo_readDinner_2 5000 0 I) (fun (o5, I6) =>
    if (I6 0 16) = 0 then
      some (o5, I6)
    else
      fbd (F_Mo_errs 1 I6) fun (r10, I9) =>
      some (r10, I9))
    (fun (q7, I8) => some (q7, I8))
set_option maxRecDepth 4000 in
theorem c_Mo_readDinner (l : Launch) (d0 : Nat) (I : gb_Mem) {rz : Int32} {Iz : gb_Mem} (h : F_Mo_readDinner I = some (rz, Iz)) : gb_Cs l yMo_readDinner (d0 + 6) [.inr (some 0)] shM I (some (.inl rz)) Iz := by
  refine gb_Ct.of (lv := [(0, .inr (some 0))]) rfl (Nat.le_of_ble_eq_true rfl) rfl ?_
  unfold F_Mo_readDinner at h
  show gb_Go l yMo_readDinner (d0 + 6) 0 0 0 [(0, .inr (some 0))] [] shM I (gb_po shM (some (.inl rz)) Iz)
  refine go_iconst (v := 0) d_Mo_readDinner_0 (by decide) ?_
  refine go_istore_n (lv' := [(1, .inl 0), (0, .inr (some 0))]) d_Mo_readDinner_1 rfl (by decide) rfl ?_
  refine go_lv [1, 0] (lv' := [(0, .inr (some 0)), (1, .inl 0)]) rfl ?_
  obtain ⟨ρ, w1, w2, w3⟩ := fbr_e2 h
  refine l_Mo_readDinner_2 l d0  5000 0 I w1 (fun o5 I6 e => ?_) (fun q7 I8 e => ?_)
  · have h := w2 _ e
    try dsimp only at h
    refine go_aload_n (k := 0) d_Mo_readDinner_46 rfl rfl ?_
    refine go_geti (ci := 10) (k := 16) d_Mo_readDinner_47 a_M_0 rfl (by decide) f_Mo_187 rfl ?_
    refine go_if_ne (tgt := 57) d_Mo_readDinner_50 (by decide) (fun hc => ?_) (fun hc => ?_)
    · rw [if_neg hc] at h
      refine go_aload_n (k := 0) d_Mo_readDinner_57 rfl rfl ?_
      refine go_iconst (v := 1) d_Mo_readDinner_58 (by decide) ?_
      obtain ⟨⟨r10, I9⟩, w1, h⟩ := fbd_e h
      try dsimp only at h
      refine go_callV (y := yMo_errs) (asr := [.inl 1]) (v := some (.inl r10)) (I' := I9) (st1 := [.inl r10]) d_Mo_readDinner_59 s_yMo_errs m_Mo_218 a_M_0 rfl rfl rfl (Nat.le_of_ble_eq_true rfl) rfl rfl (c_Mo_errs l (d0 + 5) 1 I6 w1) ?_
      cases h
      exact go_ireturn d_Mo_readDinner_62 rfl gb_po_i
    · rw [if_pos hc] at h
      refine go_iload_n (k := 1) d_Mo_readDinner_53 rfl rfl ?_
      refine go_goto (tgt := 62) d_Mo_readDinner_54 (by decide) ?_
      cases h
      exact go_ireturn d_Mo_readDinner_62 rfl gb_po_i
  · have h := w3 _ e
    try dsimp only at h
    cases h
    exact gb_po_i
theorem d_Mo_readReaches_0 : decode yMo_readReaches.2.1 0 = .ok (.iconst 0, 1) := by decide +kernel
theorem d_Mo_readReaches_1 : decode yMo_readReaches.2.1 1 = .ok (.istore_n 1, 1) := by decide +kernel
theorem d_Mo_readReaches_2 : decode yMo_readReaches.2.1 2 = .ok (.iload_n 1, 1) := by decide +kernel
theorem d_Mo_readReaches_3 : decode yMo_readReaches.2.1 3 = .ok (.bipush 12, 2) := by decide +kernel
theorem d_Mo_readReaches_5 : decode yMo_readReaches.2.1 5 = .ok (.if_icmp .ge 19, 3) := by decide +kernel
theorem d_Mo_readReaches_8 : decode yMo_readReaches.2.1 8 = .ok (.aload_n 0, 1) := by decide +kernel
theorem d_Mo_readReaches_9 : decode yMo_readReaches.2.1 9 = .ok (.getfield 74, 3) := by decide +kernel
theorem d_Mo_readReaches_12 : decode yMo_readReaches.2.1 12 = .ok (.bipush 12, 2) := by decide +kernel
theorem d_Mo_readReaches_14 : decode yMo_readReaches.2.1 14 = .ok (.iload_n 1, 1) := by decide +kernel
theorem d_Mo_readReaches_15 : decode yMo_readReaches.2.1 15 = .ok (.iadd, 1) := by decide +kernel
theorem d_Mo_readReaches_16 : decode yMo_readReaches.2.1 16 = .ok (.iconst 0, 1) := by decide +kernel
theorem d_Mo_readReaches_17 : decode yMo_readReaches.2.1 17 = .ok (.iastore, 1) := by decide +kernel
theorem d_Mo_readReaches_18 : decode yMo_readReaches.2.1 18 = .ok (.iinc 1 1, 3) := by decide +kernel
theorem d_Mo_readReaches_21 : decode yMo_readReaches.2.1 21 = .ok (.goto (-19), 3) := by decide +kernel
theorem d_Mo_readReaches_24 : decode yMo_readReaches.2.1 24 = .ok (.iconst 0, 1) := by decide +kernel
theorem d_Mo_readReaches_25 : decode yMo_readReaches.2.1 25 = .ok (.istore_n 1, 1) := by decide +kernel
theorem d_Mo_readReaches_26 : decode yMo_readReaches.2.1 26 = .ok (.aload_n 0, 1) := by decide +kernel
theorem d_Mo_readReaches_27 : decode yMo_readReaches.2.1 27 = .ok (.bipush 14, 2) := by decide +kernel
theorem d_Mo_readReaches_29 : decode yMo_readReaches.2.1 29 = .ok (.invokevirtual 247, 3) := by decide +kernel
theorem d_Mo_readReaches_32 : decode yMo_readReaches.2.1 32 = .ok (.ifCond .eq 32, 3) := by decide +kernel
theorem d_Mo_readReaches_35 : decode yMo_readReaches.2.1 35 = .ok (.iload_n 1, 1) := by decide +kernel
theorem d_Mo_readReaches_36 : decode yMo_readReaches.2.1 36 = .ok (.bipush 16, 2) := by decide +kernel
theorem d_Mo_readReaches_38 : decode yMo_readReaches.2.1 38 = .ok (.if_icmp .ne 9, 3) := by decide +kernel
theorem d_Mo_readReaches_41 : decode yMo_readReaches.2.1 41 = .ok (.aload_n 0, 1) := by decide +kernel
theorem d_Mo_readReaches_42 : decode yMo_readReaches.2.1 42 = .ok (.iconst 3, 1) := by decide +kernel
theorem d_Mo_readReaches_43 : decode yMo_readReaches.2.1 43 = .ok (.invokevirtual 218, 3) := by decide +kernel
theorem d_Mo_readReaches_46 : decode yMo_readReaches.2.1 46 = .ok (.ireturn, 1) := by decide +kernel
theorem d_Mo_readReaches_47 : decode yMo_readReaches.2.1 47 = .ok (.aload_n 0, 1) := by decide +kernel
theorem d_Mo_readReaches_48 : decode yMo_readReaches.2.1 48 = .ok (.invokevirtual 288, 3) := by decide +kernel
theorem d_Mo_readReaches_51 : decode yMo_readReaches.2.1 51 = .ok (.iconst (-1), 1) := by decide +kernel
theorem d_Mo_readReaches_52 : decode yMo_readReaches.2.1 52 = .ok (.if_icmp .ne 5, 3) := by decide +kernel
theorem d_Mo_readReaches_55 : decode yMo_readReaches.2.1 55 = .ok (.iconst (-1), 1) := by decide +kernel
theorem d_Mo_readReaches_56 : decode yMo_readReaches.2.1 56 = .ok (.ireturn, 1) := by decide +kernel
theorem d_Mo_readReaches_57 : decode yMo_readReaches.2.1 57 = .ok (.iload_n 1, 1) := by decide +kernel
theorem d_Mo_readReaches_58 : decode yMo_readReaches.2.1 58 = .ok (.iconst 1, 1) := by decide +kernel
theorem d_Mo_readReaches_59 : decode yMo_readReaches.2.1 59 = .ok (.iadd, 1) := by decide +kernel
theorem d_Mo_readReaches_60 : decode yMo_readReaches.2.1 60 = .ok (.istore_n 1, 1) := by decide +kernel
theorem d_Mo_readReaches_61 : decode yMo_readReaches.2.1 61 = .ok (.goto (-35), 3) := by decide +kernel
theorem d_Mo_readReaches_64 : decode yMo_readReaches.2.1 64 = .ok (.aload_n 0, 1) := by decide +kernel
theorem d_Mo_readReaches_65 : decode yMo_readReaches.2.1 65 = .ok (.getfield 187, 3) := by decide +kernel
theorem d_Mo_readReaches_68 : decode yMo_readReaches.2.1 68 = .ok (.ifCond .ne 7, 3) := by decide +kernel
theorem d_Mo_readReaches_71 : decode yMo_readReaches.2.1 71 = .ok (.iload_n 1, 1) := by decide +kernel
theorem d_Mo_readReaches_72 : decode yMo_readReaches.2.1 72 = .ok (.goto 8, 3) := by decide +kernel
theorem d_Mo_readReaches_75 : decode yMo_readReaches.2.1 75 = .ok (.aload_n 0, 1) := by decide +kernel
theorem d_Mo_readReaches_76 : decode yMo_readReaches.2.1 76 = .ok (.iconst 1, 1) := by decide +kernel
theorem d_Mo_readReaches_77 : decode yMo_readReaches.2.1 77 = .ok (.invokevirtual 218, 3) := by decide +kernel
theorem d_Mo_readReaches_80 : decode yMo_readReaches.2.1 80 = .ok (.ireturn, 1) := by decide +kernel
def L_Mo_readReaches_2 : Nat → Int32 → gb_Mem → Option (gb_Mem)
  | 0, _, _ => none
  | n + 1, x1, I =>
    if 12 ≤ x1 then
      some I
    else
      fsto I 21 24 (12 + x1) 0 fun I1 =>
      L_Mo_readReaches_2 n (x1 + 1) I1
set_option maxRecDepth 4000 in
theorem l_Mo_readReaches_2 (l : Launch) (d0 : Nat) {post : Option gb_AV → List gb_Ce → gb_Mem → Prop} : ∀ (n : Nat) (x1 : Int32) (I : gb_Mem) {ρ : gb_Mem} (h : L_Mo_readReaches_2 n x1 I = some ρ) (hX : ∀ (I2 : gb_Mem), ρ = I2 → gb_Go l yMo_readReaches (d0 + 6) 0 0 24 [(0, .inr (some 0))] [] shM I2 post) , gb_Go l yMo_readReaches (d0 + 6) 0 0 2 [(0, .inr (some 0)), (1, .inl x1)] [] shM I post := by
  intro n
  induction n with
  | zero => intro x1 I ρ h hX; cases h
  | succ n ih =>
    intro x1 I ρ h hX
    rw [L_Mo_readReaches_2] at h
    refine go_iload_n (k := 1) d_Mo_readReaches_2 rfl rfl ?_
    refine go_bipush (v := 12) d_Mo_readReaches_3 (by decide) ?_
    refine go_cmp_ge (tgt := 24) d_Mo_readReaches_5 (by decide) (fun hc => ?_) (fun hc => ?_)
    · rw [if_pos hc] at h
      exact go_lv [0] rfl (hX _ (Option.some.inj h).symm)
    · rw [if_neg hc] at h
      refine go_aload_n (k := 0) d_Mo_readReaches_8 rfl rfl ?_
      refine go_getr (ci := 10) (k := 40) (r := 21) d_Mo_readReaches_9 a_M_0 rfl (by decide) f_Mo_74 rfl ?_
      refine go_bipush (v := 12) d_Mo_readReaches_12 (by decide) ?_
      refine go_iload_n (k := 1) d_Mo_readReaches_14 rfl rfl ?_
      refine go_iadd d_Mo_readReaches_15 ?_
      refine go_iconst (v := 0) d_Mo_readReaches_16 (by decide) ?_
      obtain ⟨hi, I1, eI1, h⟩ := fsto_e h
      refine go_iast (I' := I1) d_Mo_readReaches_17 a_M_21 hi eI1 ?_
      refine go_iinc (k := 1) (v := x1 + 1) (lv' := [(1, .inl (x1 + 1)), (0, .inr (some 0))]) d_Mo_readReaches_18 rfl rfl (by decide) rfl ?_
      refine go_goto (tgt := 2) d_Mo_readReaches_21 (by decide) ?_
      exact go_lv [1, 0] rfl (ih (x1 + 1) I1 h hX)
def L_Mo_readReaches_26 : Nat → Int32 → gb_Mem → Option ((Int32 × gb_Mem) ⊕ (Int32 × gb_Mem))
  | 0, _, _ => none
  | n + 1, x1, I =>
    if (F_Mo_isWord 14 I) = 0 then
      some (.inl (x1, I))
    else
      if x1 = 16 then
        fbd (F_Mo_errs 3 I) fun (r6, I5) =>
        some (.inr (r6, I5))
      else
        fbd (F_Mo_readReach  I) fun (r4, I3) =>
        if r4 = (-1) then
          some (.inr ((-1), I3))
        else
          L_Mo_readReaches_26 n (x1 + 1) I3
set_option maxRecDepth 4000 in
theorem l_Mo_readReaches_26 (l : Launch) (d0 : Nat) {post : Option gb_AV → List gb_Ce → gb_Mem → Prop} : ∀ (n : Nat) (x1 : Int32) (I : gb_Mem) {ρ : (Int32 × gb_Mem) ⊕ (Int32 × gb_Mem)} (h : L_Mo_readReaches_26 n x1 I = some ρ) (hX : ∀ (o1 : Int32) (I2 : gb_Mem), ρ = .inl (o1, I2) → gb_Go l yMo_readReaches (d0 + 6) 0 0 64 [(0, .inr (some 0)), (1, .inl o1)] [] shM I2 post) (hR : ∀ (v : Int32) (I3 : gb_Mem), ρ = .inr (v, I3) → post (some (.inl v)) shM I3) , gb_Go l yMo_readReaches (d0 + 6) 0 0 26 [(0, .inr (some 0)), (1, .inl x1)] [] shM I post := by
  intro n
  induction n with
  | zero => intro x1 I ρ h hX hR; cases h
  | succ n ih =>
    intro x1 I ρ h hX hR
    rw [L_Mo_readReaches_26] at h
    refine go_aload_n (k := 0) d_Mo_readReaches_26 rfl rfl ?_
    refine go_bipush (v := 14) d_Mo_readReaches_27 (by decide) ?_
    refine go_callV (y := yMo_isWord) (asr := [.inl 14]) (v := some (.inl (F_Mo_isWord 14 I))) (I' := I) (st1 := [.inl (F_Mo_isWord 14 I)]) d_Mo_readReaches_29 s_yMo_isWord m_Mo_247 a_M_0 rfl rfl rfl (Nat.le_of_ble_eq_true rfl) rfl rfl (c_Mo_isWord l (d0 + 5) 14 I) ?_
    refine go_if_eq (tgt := 64) d_Mo_readReaches_32 (by decide) (fun hc => ?_) (fun hc => ?_)
    · rw [if_pos hc] at h
      exact go_lv [0, 1] rfl (hX _ _ (Option.some.inj h).symm)
    · rw [if_neg hc] at h
      refine go_iload_n (k := 1) d_Mo_readReaches_35 rfl rfl ?_
      refine go_bipush (v := 16) d_Mo_readReaches_36 (by decide) ?_
      refine go_cmp_ne (tgt := 47) d_Mo_readReaches_38 (by decide) (fun hc => ?_) (fun hc => ?_)
      · rw [if_neg hc] at h
        refine go_aload_n (k := 0) d_Mo_readReaches_47 rfl rfl ?_
        obtain ⟨⟨r4, I3⟩, w1, h⟩ := fbd_e h
        try dsimp only at h
        refine go_callV (y := yMo_readReach) (asr := []) (v := some (.inl r4)) (I' := I3) (st1 := [.inl r4]) d_Mo_readReaches_48 s_yMo_readReach m_Mo_288 a_M_0 rfl rfl rfl (Nat.le_of_ble_eq_true rfl) rfl rfl (c_Mo_readReach l (d0 + 0)  I w1) ?_
        refine go_iconst (v := (-1)) d_Mo_readReaches_51 (by decide) ?_
        refine go_cmp_ne (tgt := 57) d_Mo_readReaches_52 (by decide) (fun hc => ?_) (fun hc => ?_)
        · rw [if_neg hc] at h
          refine go_iload_n (k := 1) d_Mo_readReaches_57 rfl rfl ?_
          refine go_iconst (v := 1) d_Mo_readReaches_58 (by decide) ?_
          refine go_iadd d_Mo_readReaches_59 ?_
          refine go_istore_n (lv' := [(1, .inl (x1 + 1)), (0, .inr (some 0))]) d_Mo_readReaches_60 rfl (by decide) rfl ?_
          refine go_goto (tgt := 26) d_Mo_readReaches_61 (by decide) ?_
          exact go_lv [1, 0] rfl (ih (x1 + 1) I3 h hX hR)
        · rw [if_pos hc] at h
          refine go_iconst (v := (-1)) d_Mo_readReaches_55 (by decide) ?_
          exact go_ireturn d_Mo_readReaches_56 rfl (hR _ _ (Option.some.inj h).symm)
      · rw [if_pos hc] at h
        refine go_aload_n (k := 0) d_Mo_readReaches_41 rfl rfl ?_
        refine go_iconst (v := 3) d_Mo_readReaches_42 (by decide) ?_
        obtain ⟨⟨r6, I5⟩, w1, h⟩ := fbd_e h
        try dsimp only at h
        refine go_callV (y := yMo_errs) (asr := [.inl 3]) (v := some (.inl r6)) (I' := I5) (st1 := [.inl r6]) d_Mo_readReaches_43 s_yMo_errs m_Mo_218 a_M_0 rfl rfl rfl (Nat.le_of_ble_eq_true rfl) rfl rfl (c_Mo_errs l (d0 + 5) 3 I w1) ?_
        exact go_ireturn d_Mo_readReaches_46 rfl (hR _ _ (Option.some.inj h).symm)
def F_Mo_readReaches (I : gb_Mem) : Option (Int32 × gb_Mem) :=
  fbd (L_Mo_readReaches_2 5000 0 I) fun I2 =>
  fbr (L_Mo_readReaches_26 5000 0 I2) (fun (o7, I8) =>
    if (I8 0 16) = 0 then
      some (o7, I8)
    else
      fbd (F_Mo_errs 1 I8) fun (r12, I11) =>
      some (r12, I11))
    (fun (q9, I10) => some (q9, I10))
set_option maxRecDepth 4000 in
theorem c_Mo_readReaches (l : Launch) (d0 : Nat) (I : gb_Mem) {rz : Int32} {Iz : gb_Mem} (h : F_Mo_readReaches I = some (rz, Iz)) : gb_Cs l yMo_readReaches (d0 + 6) [.inr (some 0)] shM I (some (.inl rz)) Iz := by
  refine gb_Ct.of (lv := [(0, .inr (some 0))]) rfl (Nat.le_of_ble_eq_true rfl) rfl ?_
  unfold F_Mo_readReaches at h
  show gb_Go l yMo_readReaches (d0 + 6) 0 0 0 [(0, .inr (some 0))] [] shM I (gb_po shM (some (.inl rz)) Iz)
  refine go_iconst (v := 0) d_Mo_readReaches_0 (by decide) ?_
  refine go_istore_n (lv' := [(1, .inl 0), (0, .inr (some 0))]) d_Mo_readReaches_1 rfl (by decide) rfl ?_
  refine go_lv [1, 0] (lv' := [(0, .inr (some 0)), (1, .inl 0)]) rfl ?_
  obtain ⟨I2, w1, h⟩ := fbd_e h
  refine l_Mo_readReaches_2 l d0  5000 0 I w1 (fun I2_ e => ?_)
  cases e
  refine go_iconst (v := 0) d_Mo_readReaches_24 (by decide) ?_
  refine go_istore_n (lv' := [(1, .inl 0), (0, .inr (some 0))]) d_Mo_readReaches_25 rfl (by decide) rfl ?_
  refine go_lv [1, 0] (lv' := [(0, .inr (some 0)), (1, .inl 0)]) rfl ?_
  obtain ⟨ρ, w1, w2, w3⟩ := fbr_e2 h
  refine l_Mo_readReaches_26 l d0  5000 0 I2 w1 (fun o7 I8 e => ?_) (fun q9 I10 e => ?_)
  · have h := w2 _ e
    try dsimp only at h
    refine go_aload_n (k := 0) d_Mo_readReaches_64 rfl rfl ?_
    refine go_geti (ci := 10) (k := 16) d_Mo_readReaches_65 a_M_0 rfl (by decide) f_Mo_187 rfl ?_
    refine go_if_ne (tgt := 75) d_Mo_readReaches_68 (by decide) (fun hc => ?_) (fun hc => ?_)
    · rw [if_neg hc] at h
      refine go_aload_n (k := 0) d_Mo_readReaches_75 rfl rfl ?_
      refine go_iconst (v := 1) d_Mo_readReaches_76 (by decide) ?_
      obtain ⟨⟨r12, I11⟩, w1, h⟩ := fbd_e h
      try dsimp only at h
      refine go_callV (y := yMo_errs) (asr := [.inl 1]) (v := some (.inl r12)) (I' := I11) (st1 := [.inl r12]) d_Mo_readReaches_77 s_yMo_errs m_Mo_218 a_M_0 rfl rfl rfl (Nat.le_of_ble_eq_true rfl) rfl rfl (c_Mo_errs l (d0 + 5) 1 I8 w1) ?_
      cases h
      exact go_ireturn d_Mo_readReaches_80 rfl gb_po_i
    · rw [if_pos hc] at h
      refine go_iload_n (k := 1) d_Mo_readReaches_71 rfl rfl ?_
      refine go_goto (tgt := 80) d_Mo_readReaches_72 (by decide) ?_
      cases h
      exact go_ireturn d_Mo_readReaches_80 rfl gb_po_i
  · have h := w3 _ e
    try dsimp only at h
    cases h
    exact gb_po_i
theorem d_Mo_goesBy_0 : decode yMo_goesBy.2.1 0 = .ok (.iconst 0, 1) := by decide +kernel
theorem d_Mo_goesBy_1 : decode yMo_goesBy.2.1 1 = .ok (.istore_n 1, 1) := by decide +kernel
theorem d_Mo_goesBy_2 : decode yMo_goesBy.2.1 2 = .ok (.iload_n 1, 1) := by decide +kernel
theorem d_Mo_goesBy_3 : decode yMo_goesBy.2.1 3 = .ok (.iconst 4, 1) := by decide +kernel
theorem d_Mo_goesBy_4 : decode yMo_goesBy.2.1 4 = .ok (.aload_n 0, 1) := by decide +kernel
theorem d_Mo_goesBy_5 : decode yMo_goesBy.2.1 5 = .ok (.getfield 309, 3) := by decide +kernel
theorem d_Mo_goesBy_8 : decode yMo_goesBy.2.1 8 = .ok (.imul, 1) := by decide +kernel
theorem d_Mo_goesBy_9 : decode yMo_goesBy.2.1 9 = .ok (.if_icmp .ge 30, 3) := by decide +kernel
theorem d_Mo_goesBy_12 : decode yMo_goesBy.2.1 12 = .ok (.aload_n 0, 1) := by decide +kernel
theorem d_Mo_goesBy_13 : decode yMo_goesBy.2.1 13 = .ok (.getfield 71, 3) := by decide +kernel
theorem d_Mo_goesBy_16 : decode yMo_goesBy.2.1 16 = .ok (.iload_n 1, 1) := by decide +kernel
theorem d_Mo_goesBy_17 : decode yMo_goesBy.2.1 17 = .ok (.iaload, 1) := by decide +kernel
theorem d_Mo_goesBy_18 : decode yMo_goesBy.2.1 18 = .ok (.aload_n 0, 1) := by decide +kernel
theorem d_Mo_goesBy_19 : decode yMo_goesBy.2.1 19 = .ok (.getfield 7, 3) := by decide +kernel
theorem d_Mo_goesBy_22 : decode yMo_goesBy.2.1 22 = .ok (.iconst 0, 1) := by decide +kernel
theorem d_Mo_goesBy_23 : decode yMo_goesBy.2.1 23 = .ok (.iaload, 1) := by decide +kernel
theorem d_Mo_goesBy_24 : decode yMo_goesBy.2.1 24 = .ok (.if_icmp .ne 8, 3) := by decide +kernel
theorem d_Mo_goesBy_27 : decode yMo_goesBy.2.1 27 = .ok (.aload_n 0, 1) := by decide +kernel
theorem d_Mo_goesBy_28 : decode yMo_goesBy.2.1 28 = .ok (.iload_n 1, 1) := by decide +kernel
theorem d_Mo_goesBy_29 : decode yMo_goesBy.2.1 29 = .ok (.invokevirtual 404, 3) := by decide +kernel
theorem d_Mo_goesBy_32 : decode yMo_goesBy.2.1 32 = .ok (.iload_n 1, 1) := by decide +kernel
theorem d_Mo_goesBy_33 : decode yMo_goesBy.2.1 33 = .ok (.iconst 4, 1) := by decide +kernel
theorem d_Mo_goesBy_34 : decode yMo_goesBy.2.1 34 = .ok (.iadd, 1) := by decide +kernel
theorem d_Mo_goesBy_35 : decode yMo_goesBy.2.1 35 = .ok (.istore_n 1, 1) := by decide +kernel
theorem d_Mo_goesBy_36 : decode yMo_goesBy.2.1 36 = .ok (.goto (-34), 3) := by decide +kernel
theorem d_Mo_goesBy_39 : decode yMo_goesBy.2.1 39 = .ok (.iconst 0, 1) := by decide +kernel
theorem d_Mo_goesBy_40 : decode yMo_goesBy.2.1 40 = .ok (.istore_n 1, 1) := by decide +kernel
theorem d_Mo_goesBy_41 : decode yMo_goesBy.2.1 41 = .ok (.aload_n 0, 1) := by decide +kernel
theorem d_Mo_goesBy_42 : decode yMo_goesBy.2.1 42 = .ok (.getfield 7, 3) := by decide +kernel
theorem d_Mo_goesBy_45 : decode yMo_goesBy.2.1 45 = .ok (.iconst 4, 1) := by decide +kernel
theorem d_Mo_goesBy_46 : decode yMo_goesBy.2.1 46 = .ok (.iaload, 1) := by decide +kernel
theorem d_Mo_goesBy_47 : decode yMo_goesBy.2.1 47 = .ok (.ifCond .le 7, 3) := by decide +kernel
theorem d_Mo_goesBy_50 : decode yMo_goesBy.2.1 50 = .ok (.iconst 1, 1) := by decide +kernel
theorem d_Mo_goesBy_51 : decode yMo_goesBy.2.1 51 = .ok (.goto 4, 3) := by decide +kernel
theorem d_Mo_goesBy_54 : decode yMo_goesBy.2.1 54 = .ok (.iconst 0, 1) := by decide +kernel
theorem d_Mo_goesBy_55 : decode yMo_goesBy.2.1 55 = .ok (.istore_n 2, 1) := by decide +kernel
theorem d_Mo_goesBy_56 : decode yMo_goesBy.2.1 56 = .ok (.iload_n 2, 1) := by decide +kernel
theorem d_Mo_goesBy_57 : decode yMo_goesBy.2.1 57 = .ok (.ifCond .eq 17, 3) := by decide +kernel
theorem d_Mo_goesBy_60 : decode yMo_goesBy.2.1 60 = .ok (.aload_n 0, 1) := by decide +kernel
theorem d_Mo_goesBy_61 : decode yMo_goesBy.2.1 61 = .ok (.getfield 7, 3) := by decide +kernel
theorem d_Mo_goesBy_64 : decode yMo_goesBy.2.1 64 = .ok (.iconst 4, 1) := by decide +kernel
theorem d_Mo_goesBy_65 : decode yMo_goesBy.2.1 65 = .ok (.aload_n 0, 1) := by decide +kernel
theorem d_Mo_goesBy_66 : decode yMo_goesBy.2.1 66 = .ok (.getfield 7, 3) := by decide +kernel
theorem d_Mo_goesBy_69 : decode yMo_goesBy.2.1 69 = .ok (.iconst 4, 1) := by decide +kernel
theorem d_Mo_goesBy_70 : decode yMo_goesBy.2.1 70 = .ok (.iaload, 1) := by decide +kernel
theorem d_Mo_goesBy_71 : decode yMo_goesBy.2.1 71 = .ok (.iconst 1, 1) := by decide +kernel
theorem d_Mo_goesBy_72 : decode yMo_goesBy.2.1 72 = .ok (.isub, 1) := by decide +kernel
theorem d_Mo_goesBy_73 : decode yMo_goesBy.2.1 73 = .ok (.iastore, 1) := by decide +kernel
theorem d_Mo_goesBy_74 : decode yMo_goesBy.2.1 74 = .ok (.iconst 0, 1) := by decide +kernel
theorem d_Mo_goesBy_75 : decode yMo_goesBy.2.1 75 = .ok (.istore_n 3, 1) := by decide +kernel
theorem d_Mo_goesBy_76 : decode yMo_goesBy.2.1 76 = .ok (.iload_n 3, 1) := by decide +kernel
theorem d_Mo_goesBy_77 : decode yMo_goesBy.2.1 77 = .ok (.aload_n 0, 1) := by decide +kernel
theorem d_Mo_goesBy_78 : decode yMo_goesBy.2.1 78 = .ok (.getfield 150, 3) := by decide +kernel
theorem d_Mo_goesBy_81 : decode yMo_goesBy.2.1 81 = .ok (.if_icmp .ge 41, 3) := by decide +kernel
theorem d_Mo_goesBy_84 : decode yMo_goesBy.2.1 84 = .ok (.iload_n 2, 1) := by decide +kernel
theorem d_Mo_goesBy_85 : decode yMo_goesBy.2.1 85 = .ok (.ifCond .eq 11, 3) := by decide +kernel
theorem d_Mo_goesBy_88 : decode yMo_goesBy.2.1 88 = .ok (.aload_n 0, 1) := by decide +kernel
theorem d_Mo_goesBy_89 : decode yMo_goesBy.2.1 89 = .ok (.iload_n 3, 1) := by decide +kernel
theorem d_Mo_goesBy_90 : decode yMo_goesBy.2.1 90 = .ok (.invokevirtual 379, 3) := by decide +kernel
theorem d_Mo_goesBy_93 : decode yMo_goesBy.2.1 93 = .ok (.goto 23, 3) := by decide +kernel
theorem d_Mo_goesBy_96 : decode yMo_goesBy.2.1 96 = .ok (.aload_n 0, 1) := by decide +kernel
theorem d_Mo_goesBy_97 : decode yMo_goesBy.2.1 97 = .ok (.iload_n 3, 1) := by decide +kernel
theorem d_Mo_goesBy_98 : decode yMo_goesBy.2.1 98 = .ok (.invokevirtual 348, 3) := by decide +kernel
theorem d_Mo_goesBy_101 : decode yMo_goesBy.2.1 101 = .ok (.ifCond .ne 15, 3) := by decide +kernel
theorem d_Mo_goesBy_104 : decode yMo_goesBy.2.1 104 = .ok (.aload_n 0, 1) := by decide +kernel
theorem d_Mo_goesBy_105 : decode yMo_goesBy.2.1 105 = .ok (.iload_n 3, 1) := by decide +kernel
theorem d_Mo_goesBy_106 : decode yMo_goesBy.2.1 106 = .ok (.invokevirtual 407, 3) := by decide +kernel
theorem d_Mo_goesBy_109 : decode yMo_goesBy.2.1 109 = .ok (.ifCond .eq 7, 3) := by decide +kernel
theorem d_Mo_goesBy_112 : decode yMo_goesBy.2.1 112 = .ok (.iload_n 1, 1) := by decide +kernel
theorem d_Mo_goesBy_113 : decode yMo_goesBy.2.1 113 = .ok (.iconst 1, 1) := by decide +kernel
theorem d_Mo_goesBy_114 : decode yMo_goesBy.2.1 114 = .ok (.iadd, 1) := by decide +kernel
theorem d_Mo_goesBy_115 : decode yMo_goesBy.2.1 115 = .ok (.istore_n 1, 1) := by decide +kernel
theorem d_Mo_goesBy_116 : decode yMo_goesBy.2.1 116 = .ok (.iinc 3 1, 3) := by decide +kernel
theorem d_Mo_goesBy_119 : decode yMo_goesBy.2.1 119 = .ok (.goto (-43), 3) := by decide +kernel
theorem d_Mo_goesBy_122 : decode yMo_goesBy.2.1 122 = .ok (.aload_n 0, 1) := by decide +kernel
theorem d_Mo_goesBy_123 : decode yMo_goesBy.2.1 123 = .ok (.getfield 7, 3) := by decide +kernel
theorem d_Mo_goesBy_126 : decode yMo_goesBy.2.1 126 = .ok (.iconst 0, 1) := by decide +kernel
theorem d_Mo_goesBy_127 : decode yMo_goesBy.2.1 127 = .ok (.aload_n 0, 1) := by decide +kernel
theorem d_Mo_goesBy_128 : decode yMo_goesBy.2.1 128 = .ok (.getfield 7, 3) := by decide +kernel
theorem d_Mo_goesBy_131 : decode yMo_goesBy.2.1 131 = .ok (.iconst 0, 1) := by decide +kernel
theorem d_Mo_goesBy_132 : decode yMo_goesBy.2.1 132 = .ok (.iaload, 1) := by decide +kernel
theorem d_Mo_goesBy_133 : decode yMo_goesBy.2.1 133 = .ok (.iconst 1, 1) := by decide +kernel
theorem d_Mo_goesBy_134 : decode yMo_goesBy.2.1 134 = .ok (.iadd, 1) := by decide +kernel
theorem d_Mo_goesBy_135 : decode yMo_goesBy.2.1 135 = .ok (.iastore, 1) := by decide +kernel
theorem d_Mo_goesBy_136 : decode yMo_goesBy.2.1 136 = .ok (.iload_n 1, 1) := by decide +kernel
theorem d_Mo_goesBy_137 : decode yMo_goesBy.2.1 137 = .ok (.ireturn, 1) := by decide +kernel
def J_Mo_goesBy_32 (k : Int32 → gb_Mem → Option (gb_Mem)) (x1 : Int32) (I : gb_Mem) : Option (gb_Mem) :=
  k (x1 + 4) I
set_option maxRecDepth 4000 in
theorem j_Mo_goesBy_32 (l : Launch) (d0 : Nat) {post : Option gb_AV → List gb_Ce → gb_Mem → Prop} (k : Int32 → gb_Mem → Option (gb_Mem)) (x1 : Int32) (I : gb_Mem) {ρ : gb_Mem} (h : J_Mo_goesBy_32 k x1 I = some ρ) (hk : ∀ (z1 : Int32) (Iw : gb_Mem), k z1 Iw = some ρ → gb_Go l yMo_goesBy (d0 + 7) 0 0 2 [(0, .inr (some 0)), (1, .inl z1)] [] shM Iw post) (hX : ∀ (I2 : gb_Mem), ρ = I2 → gb_Go l yMo_goesBy (d0 + 7) 0 0 39 [(0, .inr (some 0))] [] shM I2 post) : gb_Go l yMo_goesBy (d0 + 7) 0 0 32 [(0, .inr (some 0)), (1, .inl x1)] [] shM I post := by
  unfold J_Mo_goesBy_32 at h
  refine go_iload_n (k := 1) d_Mo_goesBy_32 rfl rfl ?_
  refine go_iconst (v := 4) d_Mo_goesBy_33 (by decide) ?_
  refine go_iadd d_Mo_goesBy_34 ?_
  refine go_istore_n (lv' := [(1, .inl (x1 + 4)), (0, .inr (some 0))]) d_Mo_goesBy_35 rfl (by decide) rfl ?_
  refine go_goto (tgt := 2) d_Mo_goesBy_36 (by decide) ?_
  exact go_lv [1, 0] rfl (hk _ _ h)
def L_Mo_goesBy_2 : Nat → Int32 → gb_Mem → Option (gb_Mem)
  | 0, _, _ => none
  | n + 1, x1, I =>
    if (4 * (I 0 37)) ≤ x1 then
      some I
    else
      flod I 20 128 x1 fun v1 =>
      if v1 = (I 1 0) then
        fbd (F_Mo_does x1 I) fun I2 =>
        J_Mo_goesBy_32 (L_Mo_goesBy_2 n) x1 I2
      else
        J_Mo_goesBy_32 (L_Mo_goesBy_2 n) x1 I
set_option maxRecDepth 4000 in
theorem l_Mo_goesBy_2 (l : Launch) (d0 : Nat) {post : Option gb_AV → List gb_Ce → gb_Mem → Prop} : ∀ (n : Nat) (x1 : Int32) (I : gb_Mem) {ρ : gb_Mem} (h : L_Mo_goesBy_2 n x1 I = some ρ) (hX : ∀ (I2 : gb_Mem), ρ = I2 → gb_Go l yMo_goesBy (d0 + 7) 0 0 39 [(0, .inr (some 0))] [] shM I2 post) , gb_Go l yMo_goesBy (d0 + 7) 0 0 2 [(0, .inr (some 0)), (1, .inl x1)] [] shM I post := by
  intro n
  induction n with
  | zero => intro x1 I ρ h hX; cases h
  | succ n ih =>
    intro x1 I ρ h hX
    rw [L_Mo_goesBy_2] at h
    refine go_iload_n (k := 1) d_Mo_goesBy_2 rfl rfl ?_
    refine go_iconst (v := 4) d_Mo_goesBy_3 (by decide) ?_
    refine go_aload_n (k := 0) d_Mo_goesBy_4 rfl rfl ?_
    refine go_geti (ci := 10) (k := 37) d_Mo_goesBy_5 a_M_0 rfl (by decide) f_Mo_309 rfl ?_
    refine go_imul d_Mo_goesBy_8 ?_
    refine go_cmp_ge (tgt := 39) d_Mo_goesBy_9 (by decide) (fun hc => ?_) (fun hc => ?_)
    · rw [if_pos hc] at h
      exact go_lv [0] rfl (hX _ (Option.some.inj h).symm)
    · rw [if_neg hc] at h
      refine go_aload_n (k := 0) d_Mo_goesBy_12 rfl rfl ?_
      refine go_getr (ci := 10) (k := 38) (r := 20) d_Mo_goesBy_13 a_M_0 rfl (by decide) f_Mo_71 rfl ?_
      refine go_iload_n (k := 1) d_Mo_goesBy_16 rfl rfl ?_
      obtain ⟨hi, v1, ev1, h⟩ := flod_e h
      refine go_iald2 d_Mo_goesBy_17 a_M_20 hi ev1 ?_
      refine go_aload_n (k := 0) d_Mo_goesBy_18 rfl rfl ?_
      refine go_getr (ci := 10) (k := 1) (r := 1) d_Mo_goesBy_19 a_M_0 rfl (by decide) f_Mo_7 rfl ?_
      refine go_iconst (v := 0) d_Mo_goesBy_22 (by decide) ?_
      refine go_iald2 (v := I 1 0) d_Mo_goesBy_23 a_M_1 (inb_iff.mp (by decide)) rfl ?_
      refine go_cmp_ne (tgt := 32) d_Mo_goesBy_24 (by decide) (fun hc => ?_) (fun hc => ?_)
      · rw [if_neg hc] at h
        exact go_lv [0, 1] rfl (j_Mo_goesBy_32 l d0 (L_Mo_goesBy_2 n) x1 I h (fun z1 Iw hh => ih z1 Iw hh hX) hX)
      · rw [if_pos hc] at h
        refine go_aload_n (k := 0) d_Mo_goesBy_27 rfl rfl ?_
        refine go_iload_n (k := 1) d_Mo_goesBy_28 rfl rfl ?_
        obtain ⟨I2, w1, h⟩ := fbd_e h
        refine go_callV (y := yMo_does) (asr := [.inl x1]) (v := none) (I' := I2) (st1 := []) d_Mo_goesBy_29 s_yMo_does m_Mo_404 a_M_0 rfl rfl rfl (Nat.le_of_ble_eq_true rfl) rfl rfl (c_Mo_does l (d0 + 4) x1 I w1) ?_
        exact go_lv [0, 1] rfl (j_Mo_goesBy_32 l d0 (L_Mo_goesBy_2 n) x1 I2 h (fun z1 Iw hh => ih z1 Iw hh hX) hX)
def J_Mo_goesBy_116 (k : Int32 → Int32 → gb_Mem → Option (Int32 × gb_Mem)) (x1 x2 x3 : Int32) (I : gb_Mem) : Option (Int32 × gb_Mem) :=
  k x1 (x3 + 1) I
set_option maxRecDepth 4000 in
theorem j_Mo_goesBy_116 (l : Launch) (d0 : Nat) {post : Option gb_AV → List gb_Ce → gb_Mem → Prop} (k : Int32 → Int32 → gb_Mem → Option (Int32 × gb_Mem)) (x1 x2 x3 : Int32) (I : gb_Mem) {ρ : Int32 × gb_Mem} (h : J_Mo_goesBy_116 k x1 x2 x3 I = some ρ) (hk : ∀ (z1 z3 : Int32) (Iw : gb_Mem), k z1 z3 Iw = some ρ → gb_Go l yMo_goesBy (d0 + 7) 0 0 76 [(0, .inr (some 0)), (1, .inl z1), (2, .inl x2), (3, .inl z3)] [] shM Iw post) (hX : ∀ (o1 : Int32) (I2 : gb_Mem), ρ = (o1, I2) → gb_Go l yMo_goesBy (d0 + 7) 0 0 122 [(0, .inr (some 0)), (1, .inl o1)] [] shM I2 post) : gb_Go l yMo_goesBy (d0 + 7) 0 0 116 [(0, .inr (some 0)), (1, .inl x1), (2, .inl x2), (3, .inl x3)] [] shM I post := by
  unfold J_Mo_goesBy_116 at h
  refine go_iinc (k := 3) (v := x3 + 1) (lv' := [(3, .inl (x3 + 1)), (0, .inr (some 0)), (1, .inl x1), (2, .inl x2)]) d_Mo_goesBy_116 rfl rfl (by decide) rfl ?_
  refine go_goto (tgt := 76) d_Mo_goesBy_119 (by decide) ?_
  exact go_lv [1, 2, 3, 0] rfl (hk _ _ _ h)
def L_Mo_goesBy_76 (x2 : Int32) : Nat → Int32 → Int32 → gb_Mem → Option (Int32 × gb_Mem)
  | 0, _, _, _ => none
  | n + 1, x1, x3, I =>
    if (I 0 6) ≤ x3 then
      some (x1, I)
    else
      if x2 = 0 then
        fbd (F_Mo_isAshore x3 I) fun r4 =>
        if r4 = 0 then
          fbd (F_Mo_goesOn x3 I) fun (r6, I5) =>
          if r6 = 0 then
            J_Mo_goesBy_116 (L_Mo_goesBy_76 x2 n) x1 x2 x3 I5
          else
            J_Mo_goesBy_116 (L_Mo_goesBy_76 x2 n) (x1 + 1) x2 x3 I5
        else
          J_Mo_goesBy_116 (L_Mo_goesBy_76 x2 n) x1 x2 x3 I
      else
        fbd (F_Mo_isSkinned x3 I) fun I7 =>
        J_Mo_goesBy_116 (L_Mo_goesBy_76 x2 n) x1 x2 x3 I7
set_option maxRecDepth 4000 in
theorem l_Mo_goesBy_76 (l : Launch) (d0 : Nat) (x2 : Int32) {post : Option gb_AV → List gb_Ce → gb_Mem → Prop} : ∀ (n : Nat) (x1 x3 : Int32) (I : gb_Mem) {ρ : Int32 × gb_Mem} (h : L_Mo_goesBy_76 x2 n x1 x3 I = some ρ) (hX : ∀ (o1 : Int32) (I2 : gb_Mem), ρ = (o1, I2) → gb_Go l yMo_goesBy (d0 + 7) 0 0 122 [(0, .inr (some 0)), (1, .inl o1)] [] shM I2 post) , gb_Go l yMo_goesBy (d0 + 7) 0 0 76 [(0, .inr (some 0)), (1, .inl x1), (2, .inl x2), (3, .inl x3)] [] shM I post := by
  intro n
  induction n with
  | zero => intro x1 x3 I ρ h hX; cases h
  | succ n ih =>
    intro x1 x3 I ρ h hX
    rw [L_Mo_goesBy_76] at h
    refine go_iload_n (k := 3) d_Mo_goesBy_76 rfl rfl ?_
    refine go_aload_n (k := 0) d_Mo_goesBy_77 rfl rfl ?_
    refine go_geti (ci := 10) (k := 6) d_Mo_goesBy_78 a_M_0 rfl (by decide) f_Mo_150 rfl ?_
    refine go_cmp_ge (tgt := 122) d_Mo_goesBy_81 (by decide) (fun hc => ?_) (fun hc => ?_)
    · rw [if_pos hc] at h
      exact go_lv [0, 1] rfl (hX _ _ (Option.some.inj h).symm)
    · rw [if_neg hc] at h
      refine go_iload_n (k := 2) d_Mo_goesBy_84 rfl rfl ?_
      refine go_if_eq (tgt := 96) d_Mo_goesBy_85 (by decide) (fun hc => ?_) (fun hc => ?_)
      · rw [if_pos hc] at h
        refine go_aload_n (k := 0) d_Mo_goesBy_96 rfl rfl ?_
        refine go_iload_n (k := 3) d_Mo_goesBy_97 rfl rfl ?_
        obtain ⟨r4, w1, h⟩ := fbd_e h
        refine go_callV (y := yMo_isAshore) (asr := [.inl x3]) (v := some (.inl r4)) (I' := I) (st1 := [.inl r4]) d_Mo_goesBy_98 s_yMo_isAshore m_Mo_348 a_M_0 rfl rfl rfl (Nat.le_of_ble_eq_true rfl) rfl rfl (c_Mo_isAshore l (d0 + 5) x3 I w1) ?_
        refine go_if_ne (tgt := 116) d_Mo_goesBy_101 (by decide) (fun hc => ?_) (fun hc => ?_)
        · rw [if_neg hc] at h
          exact go_lv [0, 1, 2, 3] rfl (j_Mo_goesBy_116 l d0 (L_Mo_goesBy_76 x2 n) x1 x2 x3 I h (fun z1 z3 Iw hh => ih z1 z3 Iw hh hX) hX)
        · rw [if_pos hc] at h
          refine go_aload_n (k := 0) d_Mo_goesBy_104 rfl rfl ?_
          refine go_iload_n (k := 3) d_Mo_goesBy_105 rfl rfl ?_
          obtain ⟨⟨r6, I5⟩, w1, h⟩ := fbd_e h
          try dsimp only at h
          refine go_callV (y := yMo_goesOn) (asr := [.inl x3]) (v := some (.inl r6)) (I' := I5) (st1 := [.inl r6]) d_Mo_goesBy_106 s_yMo_goesOn m_Mo_407 a_M_0 rfl rfl rfl (Nat.le_of_ble_eq_true rfl) rfl rfl (c_Mo_goesOn l (d0 + 0) x3 I w1) ?_
          refine go_if_eq (tgt := 116) d_Mo_goesBy_109 (by decide) (fun hc => ?_) (fun hc => ?_)
          · rw [if_pos hc] at h
            exact go_lv [0, 1, 2, 3] rfl (j_Mo_goesBy_116 l d0 (L_Mo_goesBy_76 x2 n) x1 x2 x3 I5 h (fun z1 z3 Iw hh => ih z1 z3 Iw hh hX) hX)
          · rw [if_neg hc] at h
            refine go_iload_n (k := 1) d_Mo_goesBy_112 rfl rfl ?_
            refine go_iconst (v := 1) d_Mo_goesBy_113 (by decide) ?_
            refine go_iadd d_Mo_goesBy_114 ?_
            refine go_istore_n (lv' := [(1, .inl (x1 + 1)), (0, .inr (some 0)), (2, .inl x2), (3, .inl x3)]) d_Mo_goesBy_115 rfl (by decide) rfl ?_
            exact go_lv [1, 0, 2, 3] rfl (j_Mo_goesBy_116 l d0 (L_Mo_goesBy_76 x2 n) (x1 + 1) x2 x3 I5 h (fun z1 z3 Iw hh => ih z1 z3 Iw hh hX) hX)
      · rw [if_neg hc] at h
        refine go_aload_n (k := 0) d_Mo_goesBy_88 rfl rfl ?_
        refine go_iload_n (k := 3) d_Mo_goesBy_89 rfl rfl ?_
        obtain ⟨I7, w1, h⟩ := fbd_e h
        refine go_callV (y := yMo_isSkinned) (asr := [.inl x3]) (v := none) (I' := I7) (st1 := []) d_Mo_goesBy_90 s_yMo_isSkinned m_Mo_379 a_M_0 rfl rfl rfl (Nat.le_of_ble_eq_true rfl) rfl rfl (c_Mo_isSkinned l (d0 + 5) x3 I w1) ?_
        refine go_goto (tgt := 116) d_Mo_goesBy_93 (by decide) ?_
        exact go_lv [0, 1, 2, 3] rfl (j_Mo_goesBy_116 l d0 (L_Mo_goesBy_76 x2 n) x1 x2 x3 I7 h (fun z1 z3 Iw hh => ih z1 z3 Iw hh hX) hX)
def J_Mo_goesBy_74 (x1 x2 : Int32) (I : gb_Mem) : Option (Int32 × gb_Mem) :=
  fbd (L_Mo_goesBy_76 x2 5000 x1 0 I) fun (o8, I9) =>
  fstf I9 1 0 ((I9 1 0) + 1) fun I10 =>
  some (o8, I10)
set_option maxRecDepth 4000 in
theorem j_Mo_goesBy_74 (l : Launch) (d0 : Nat) (x1 x2 : Int32) (I : gb_Mem) {rz : Int32} {Iz : gb_Mem} (h : J_Mo_goesBy_74 x1 x2 I = some (rz, Iz)) : gb_Go l yMo_goesBy (d0 + 7) 0 0 74 [(0, .inr (some 0)), (1, .inl x1), (2, .inl x2)] [] shM I (gb_po shM (some (.inl rz)) Iz) := by
  unfold J_Mo_goesBy_74 at h
  refine go_iconst (v := 0) d_Mo_goesBy_74 (by decide) ?_
  refine go_istore_n (lv' := [(3, .inl 0), (0, .inr (some 0)), (1, .inl x1), (2, .inl x2)]) d_Mo_goesBy_75 rfl (by decide) rfl ?_
  refine go_lv [1, 2, 3, 0] (lv' := [(0, .inr (some 0)), (1, .inl x1), (2, .inl x2), (3, .inl 0)]) rfl ?_
  obtain ⟨⟨o8, I9⟩, w1, h⟩ := fbd_e h
  try dsimp only at h
  refine l_Mo_goesBy_76 l d0 x2 5000 x1 0 I w1 (fun o8_ I9_ e => ?_)
  cases e
  refine go_aload_n (k := 0) d_Mo_goesBy_122 rfl rfl ?_
  refine go_getr (ci := 10) (k := 1) (r := 1) d_Mo_goesBy_123 a_M_0 rfl (by decide) f_Mo_7 rfl ?_
  refine go_iconst (v := 0) d_Mo_goesBy_126 (by decide) ?_
  refine go_aload_n (k := 0) d_Mo_goesBy_127 rfl rfl ?_
  refine go_getr (ci := 10) (k := 1) (r := 1) d_Mo_goesBy_128 a_M_0 rfl (by decide) f_Mo_7 rfl ?_
  refine go_iconst (v := 0) d_Mo_goesBy_131 (by decide) ?_
  refine go_iald2 (v := I9 1 0) d_Mo_goesBy_132 a_M_1 (inb_iff.mp (by decide)) rfl ?_
  refine go_iconst (v := 1) d_Mo_goesBy_133 (by decide) ?_
  refine go_iadd d_Mo_goesBy_134 ?_
  obtain ⟨I10, eI10, h⟩ := fstf_e h
  refine go_iast (I' := I10) d_Mo_goesBy_135 a_M_1 (inb_iff.mp (by decide)) eI10 ?_
  refine go_iload_n (k := 1) d_Mo_goesBy_136 rfl rfl ?_
  cases h
  exact go_ireturn d_Mo_goesBy_137 rfl gb_po_i
def J_Mo_goesBy_55 (x1 s0 : Int32) (I : gb_Mem) : Option (Int32 × gb_Mem) :=
  if s0 = 0 then
    J_Mo_goesBy_74 x1 s0 I
  else
    fstf I 1 4 ((I 1 4) - 1) fun I11 =>
    J_Mo_goesBy_74 x1 s0 I11
set_option maxRecDepth 4000 in
theorem j_Mo_goesBy_55 (l : Launch) (d0 : Nat) (x1 s0 : Int32) (I : gb_Mem) {rz : Int32} {Iz : gb_Mem} (h : J_Mo_goesBy_55 x1 s0 I = some (rz, Iz)) : gb_Go l yMo_goesBy (d0 + 7) 0 0 55 [(0, .inr (some 0)), (1, .inl x1)] [.inl s0] shM I (gb_po shM (some (.inl rz)) Iz) := by
  unfold J_Mo_goesBy_55 at h
  refine go_istore_n (lv' := [(2, .inl s0), (0, .inr (some 0)), (1, .inl x1)]) d_Mo_goesBy_55 rfl (by decide) rfl ?_
  refine go_iload_n (k := 0) d_Mo_goesBy_56 rfl rfl ?_
  refine go_if_eq (tgt := 74) d_Mo_goesBy_57 (by decide) (fun hc => ?_) (fun hc => ?_)
  · rw [if_pos hc] at h
    exact go_lv [1, 2, 0] rfl (j_Mo_goesBy_74 l d0 x1 s0 I h)
  · rw [if_neg hc] at h
    refine go_aload_n (k := 1) d_Mo_goesBy_60 rfl rfl ?_
    refine go_getr (ci := 10) (k := 1) (r := 1) d_Mo_goesBy_61 a_M_0 rfl (by decide) f_Mo_7 rfl ?_
    refine go_iconst (v := 4) d_Mo_goesBy_64 (by decide) ?_
    refine go_aload_n (k := 1) d_Mo_goesBy_65 rfl rfl ?_
    refine go_getr (ci := 10) (k := 1) (r := 1) d_Mo_goesBy_66 a_M_0 rfl (by decide) f_Mo_7 rfl ?_
    refine go_iconst (v := 4) d_Mo_goesBy_69 (by decide) ?_
    refine go_iald2 (v := I 1 4) d_Mo_goesBy_70 a_M_1 (inb_iff.mp (by decide)) rfl ?_
    refine go_iconst (v := 1) d_Mo_goesBy_71 (by decide) ?_
    refine go_isub d_Mo_goesBy_72 ?_
    obtain ⟨I11, eI11, h⟩ := fstf_e h
    refine go_iast (I' := I11) d_Mo_goesBy_73 a_M_1 (inb_iff.mp (by decide)) eI11 ?_
    exact go_lv [1, 2, 0] rfl (j_Mo_goesBy_74 l d0 x1 s0 I11 h)
def F_Mo_goesBy (I : gb_Mem) : Option (Int32 × gb_Mem) :=
  fbd (L_Mo_goesBy_2 5000 0 I) fun I3 =>
  if (I3 1 4) ≤ 0 then
    J_Mo_goesBy_55 0 0 I3
  else
    J_Mo_goesBy_55 0 1 I3
set_option maxRecDepth 4000 in
theorem c_Mo_goesBy (l : Launch) (d0 : Nat) (I : gb_Mem) {rz : Int32} {Iz : gb_Mem} (h : F_Mo_goesBy I = some (rz, Iz)) : gb_Cs l yMo_goesBy (d0 + 7) [.inr (some 0)] shM I (some (.inl rz)) Iz := by
  refine gb_Ct.of (lv := [(0, .inr (some 0))]) rfl (Nat.le_of_ble_eq_true rfl) rfl ?_
  unfold F_Mo_goesBy at h
  show gb_Go l yMo_goesBy (d0 + 7) 0 0 0 [(0, .inr (some 0))] [] shM I (gb_po shM (some (.inl rz)) Iz)
  refine go_iconst (v := 0) d_Mo_goesBy_0 (by decide) ?_
  refine go_istore_n (lv' := [(1, .inl 0), (0, .inr (some 0))]) d_Mo_goesBy_1 rfl (by decide) rfl ?_
  refine go_lv [1, 0] (lv' := [(0, .inr (some 0)), (1, .inl 0)]) rfl ?_
  obtain ⟨I3, w1, h⟩ := fbd_e h
  refine l_Mo_goesBy_2 l d0  5000 0 I w1 (fun I3_ e => ?_)
  cases e
  refine go_iconst (v := 0) d_Mo_goesBy_39 (by decide) ?_
  refine go_istore_n (lv' := [(1, .inl 0), (0, .inr (some 0))]) d_Mo_goesBy_40 rfl (by decide) rfl ?_
  refine go_aload_n (k := 1) d_Mo_goesBy_41 rfl rfl ?_
  refine go_getr (ci := 10) (k := 1) (r := 1) d_Mo_goesBy_42 a_M_0 rfl (by decide) f_Mo_7 rfl ?_
  refine go_iconst (v := 4) d_Mo_goesBy_45 (by decide) ?_
  refine go_iald2 (v := I3 1 4) d_Mo_goesBy_46 a_M_1 (inb_iff.mp (by decide)) rfl ?_
  refine go_if_le (tgt := 54) d_Mo_goesBy_47 (by decide) (fun hc => ?_) (fun hc => ?_)
  · rw [if_pos hc] at h
    refine go_iconst (v := 0) d_Mo_goesBy_54 (by decide) ?_
    exact go_lv [1, 0] rfl (j_Mo_goesBy_55 l d0 0 0 I3 h)
  · rw [if_neg hc] at h
    refine go_iconst (v := 1) d_Mo_goesBy_50 (by decide) ?_
    refine go_goto (tgt := 55) d_Mo_goesBy_51 (by decide) ?_
    exact go_lv [1, 0] rfl (j_Mo_goesBy_55 l d0 0 1 I3 h)
theorem d_Mo_landsIn_0 : decode yMo_landsIn.2.1 0 = .ok (.iconst 0, 1) := by decide +kernel
theorem d_Mo_landsIn_1 : decode yMo_landsIn.2.1 1 = .ok (.istore_n 2, 1) := by decide +kernel
theorem d_Mo_landsIn_2 : decode yMo_landsIn.2.1 2 = .ok (.iload_n 2, 1) := by decide +kernel
theorem d_Mo_landsIn_3 : decode yMo_landsIn.2.1 3 = .ok (.iconst 4, 1) := by decide +kernel
theorem d_Mo_landsIn_4 : decode yMo_landsIn.2.1 4 = .ok (.aload_n 0, 1) := by decide +kernel
theorem d_Mo_landsIn_5 : decode yMo_landsIn.2.1 5 = .ok (.getfield 309, 3) := by decide +kernel
theorem d_Mo_landsIn_8 : decode yMo_landsIn.2.1 8 = .ok (.imul, 1) := by decide +kernel
theorem d_Mo_landsIn_9 : decode yMo_landsIn.2.1 9 = .ok (.if_icmp .ge 30, 3) := by decide +kernel
theorem d_Mo_landsIn_12 : decode yMo_landsIn.2.1 12 = .ok (.aload_n 0, 1) := by decide +kernel
theorem d_Mo_landsIn_13 : decode yMo_landsIn.2.1 13 = .ok (.getfield 71, 3) := by decide +kernel
theorem d_Mo_landsIn_16 : decode yMo_landsIn.2.1 16 = .ok (.iload_n 2, 1) := by decide +kernel
theorem d_Mo_landsIn_17 : decode yMo_landsIn.2.1 17 = .ok (.iaload, 1) := by decide +kernel
theorem d_Mo_landsIn_18 : decode yMo_landsIn.2.1 18 = .ok (.aload_n 0, 1) := by decide +kernel
theorem d_Mo_landsIn_19 : decode yMo_landsIn.2.1 19 = .ok (.getfield 7, 3) := by decide +kernel
theorem d_Mo_landsIn_22 : decode yMo_landsIn.2.1 22 = .ok (.iconst 0, 1) := by decide +kernel
theorem d_Mo_landsIn_23 : decode yMo_landsIn.2.1 23 = .ok (.iaload, 1) := by decide +kernel
theorem d_Mo_landsIn_24 : decode yMo_landsIn.2.1 24 = .ok (.if_icmp .ne 8, 3) := by decide +kernel
theorem d_Mo_landsIn_27 : decode yMo_landsIn.2.1 27 = .ok (.aload_n 0, 1) := by decide +kernel
theorem d_Mo_landsIn_28 : decode yMo_landsIn.2.1 28 = .ok (.iload_n 2, 1) := by decide +kernel
theorem d_Mo_landsIn_29 : decode yMo_landsIn.2.1 29 = .ok (.invokevirtual 404, 3) := by decide +kernel
theorem d_Mo_landsIn_32 : decode yMo_landsIn.2.1 32 = .ok (.iload_n 2, 1) := by decide +kernel
theorem d_Mo_landsIn_33 : decode yMo_landsIn.2.1 33 = .ok (.iconst 4, 1) := by decide +kernel
theorem d_Mo_landsIn_34 : decode yMo_landsIn.2.1 34 = .ok (.iadd, 1) := by decide +kernel
theorem d_Mo_landsIn_35 : decode yMo_landsIn.2.1 35 = .ok (.istore_n 2, 1) := by decide +kernel
theorem d_Mo_landsIn_36 : decode yMo_landsIn.2.1 36 = .ok (.goto (-34), 3) := by decide +kernel
theorem d_Mo_landsIn_39 : decode yMo_landsIn.2.1 39 = .ok (.iconst (-1), 1) := by decide +kernel
theorem d_Mo_landsIn_40 : decode yMo_landsIn.2.1 40 = .ok (.istore_n 2, 1) := by decide +kernel
theorem d_Mo_landsIn_41 : decode yMo_landsIn.2.1 41 = .ok (.aload_n 0, 1) := by decide +kernel
theorem d_Mo_landsIn_42 : decode yMo_landsIn.2.1 42 = .ok (.getfield 7, 3) := by decide +kernel
theorem d_Mo_landsIn_45 : decode yMo_landsIn.2.1 45 = .ok (.iconst 4, 1) := by decide +kernel
theorem d_Mo_landsIn_46 : decode yMo_landsIn.2.1 46 = .ok (.iaload, 1) := by decide +kernel
theorem d_Mo_landsIn_47 : decode yMo_landsIn.2.1 47 = .ok (.ifCond .le 7, 3) := by decide +kernel
theorem d_Mo_landsIn_50 : decode yMo_landsIn.2.1 50 = .ok (.iconst 1, 1) := by decide +kernel
theorem d_Mo_landsIn_51 : decode yMo_landsIn.2.1 51 = .ok (.goto 4, 3) := by decide +kernel
theorem d_Mo_landsIn_54 : decode yMo_landsIn.2.1 54 = .ok (.iconst 0, 1) := by decide +kernel
theorem d_Mo_landsIn_55 : decode yMo_landsIn.2.1 55 = .ok (.istore_n 3, 1) := by decide +kernel
theorem d_Mo_landsIn_56 : decode yMo_landsIn.2.1 56 = .ok (.iload_n 3, 1) := by decide +kernel
theorem d_Mo_landsIn_57 : decode yMo_landsIn.2.1 57 = .ok (.ifCond .eq 17, 3) := by decide +kernel
theorem d_Mo_landsIn_60 : decode yMo_landsIn.2.1 60 = .ok (.aload_n 0, 1) := by decide +kernel
theorem d_Mo_landsIn_61 : decode yMo_landsIn.2.1 61 = .ok (.getfield 7, 3) := by decide +kernel
theorem d_Mo_landsIn_64 : decode yMo_landsIn.2.1 64 = .ok (.iconst 4, 1) := by decide +kernel
theorem d_Mo_landsIn_65 : decode yMo_landsIn.2.1 65 = .ok (.aload_n 0, 1) := by decide +kernel
theorem d_Mo_landsIn_66 : decode yMo_landsIn.2.1 66 = .ok (.getfield 7, 3) := by decide +kernel
theorem d_Mo_landsIn_69 : decode yMo_landsIn.2.1 69 = .ok (.iconst 4, 1) := by decide +kernel
theorem d_Mo_landsIn_70 : decode yMo_landsIn.2.1 70 = .ok (.iaload, 1) := by decide +kernel
theorem d_Mo_landsIn_71 : decode yMo_landsIn.2.1 71 = .ok (.iconst 1, 1) := by decide +kernel
theorem d_Mo_landsIn_72 : decode yMo_landsIn.2.1 72 = .ok (.isub, 1) := by decide +kernel
theorem d_Mo_landsIn_73 : decode yMo_landsIn.2.1 73 = .ok (.iastore, 1) := by decide +kernel
theorem d_Mo_landsIn_74 : decode yMo_landsIn.2.1 74 = .ok (.iconst 0, 1) := by decide +kernel
theorem d_Mo_landsIn_75 : decode yMo_landsIn.2.1 75 = .ok (.istore 4, 2) := by decide +kernel
theorem d_Mo_landsIn_77 : decode yMo_landsIn.2.1 77 = .ok (.iload 4, 2) := by decide +kernel
theorem d_Mo_landsIn_79 : decode yMo_landsIn.2.1 79 = .ok (.aload_n 0, 1) := by decide +kernel
theorem d_Mo_landsIn_80 : decode yMo_landsIn.2.1 80 = .ok (.getfield 150, 3) := by decide +kernel
theorem d_Mo_landsIn_83 : decode yMo_landsIn.2.1 83 = .ok (.if_icmp .ge 51, 3) := by decide +kernel
theorem d_Mo_landsIn_86 : decode yMo_landsIn.2.1 86 = .ok (.iload_n 3, 1) := by decide +kernel
theorem d_Mo_landsIn_87 : decode yMo_landsIn.2.1 87 = .ok (.ifCond .eq 12, 3) := by decide +kernel
theorem d_Mo_landsIn_90 : decode yMo_landsIn.2.1 90 = .ok (.aload_n 0, 1) := by decide +kernel
theorem d_Mo_landsIn_91 : decode yMo_landsIn.2.1 91 = .ok (.iload 4, 2) := by decide +kernel
theorem d_Mo_landsIn_93 : decode yMo_landsIn.2.1 93 = .ok (.invokevirtual 379, 3) := by decide +kernel
theorem d_Mo_landsIn_96 : decode yMo_landsIn.2.1 96 = .ok (.goto 32, 3) := by decide +kernel
theorem d_Mo_landsIn_99 : decode yMo_landsIn.2.1 99 = .ok (.aload_n 0, 1) := by decide +kernel
theorem d_Mo_landsIn_100 : decode yMo_landsIn.2.1 100 = .ok (.iload 4, 2) := by decide +kernel
theorem d_Mo_landsIn_102 : decode yMo_landsIn.2.1 102 = .ok (.invokevirtual 348, 3) := by decide +kernel
theorem d_Mo_landsIn_105 : decode yMo_landsIn.2.1 105 = .ok (.ifCond .ne 23, 3) := by decide +kernel
theorem d_Mo_landsIn_108 : decode yMo_landsIn.2.1 108 = .ok (.aload_n 0, 1) := by decide +kernel
theorem d_Mo_landsIn_109 : decode yMo_landsIn.2.1 109 = .ok (.iload 4, 2) := by decide +kernel
theorem d_Mo_landsIn_111 : decode yMo_landsIn.2.1 111 = .ok (.invokevirtual 407, 3) := by decide +kernel
theorem d_Mo_landsIn_114 : decode yMo_landsIn.2.1 114 = .ok (.ifCond .eq 14, 3) := by decide +kernel
theorem d_Mo_landsIn_117 : decode yMo_landsIn.2.1 117 = .ok (.iload 4, 2) := by decide +kernel
theorem d_Mo_landsIn_119 : decode yMo_landsIn.2.1 119 = .ok (.iload_n 1, 1) := by decide +kernel
theorem d_Mo_landsIn_120 : decode yMo_landsIn.2.1 120 = .ok (.if_icmp .ne 8, 3) := by decide +kernel
theorem d_Mo_landsIn_123 : decode yMo_landsIn.2.1 123 = .ok (.aload_n 0, 1) := by decide +kernel
theorem d_Mo_landsIn_124 : decode yMo_landsIn.2.1 124 = .ok (.getfield 358, 3) := by decide +kernel
theorem d_Mo_landsIn_127 : decode yMo_landsIn.2.1 127 = .ok (.istore_n 2, 1) := by decide +kernel
theorem d_Mo_landsIn_128 : decode yMo_landsIn.2.1 128 = .ok (.iinc 4 1, 3) := by decide +kernel
theorem d_Mo_landsIn_131 : decode yMo_landsIn.2.1 131 = .ok (.goto (-54), 3) := by decide +kernel
theorem d_Mo_landsIn_134 : decode yMo_landsIn.2.1 134 = .ok (.aload_n 0, 1) := by decide +kernel
theorem d_Mo_landsIn_135 : decode yMo_landsIn.2.1 135 = .ok (.getfield 7, 3) := by decide +kernel
theorem d_Mo_landsIn_138 : decode yMo_landsIn.2.1 138 = .ok (.iconst 0, 1) := by decide +kernel
theorem d_Mo_landsIn_139 : decode yMo_landsIn.2.1 139 = .ok (.aload_n 0, 1) := by decide +kernel
theorem d_Mo_landsIn_140 : decode yMo_landsIn.2.1 140 = .ok (.getfield 7, 3) := by decide +kernel
theorem d_Mo_landsIn_143 : decode yMo_landsIn.2.1 143 = .ok (.iconst 0, 1) := by decide +kernel
theorem d_Mo_landsIn_144 : decode yMo_landsIn.2.1 144 = .ok (.iaload, 1) := by decide +kernel
theorem d_Mo_landsIn_145 : decode yMo_landsIn.2.1 145 = .ok (.iconst 1, 1) := by decide +kernel
theorem d_Mo_landsIn_146 : decode yMo_landsIn.2.1 146 = .ok (.iadd, 1) := by decide +kernel
theorem d_Mo_landsIn_147 : decode yMo_landsIn.2.1 147 = .ok (.iastore, 1) := by decide +kernel
theorem d_Mo_landsIn_148 : decode yMo_landsIn.2.1 148 = .ok (.iload_n 2, 1) := by decide +kernel
theorem d_Mo_landsIn_149 : decode yMo_landsIn.2.1 149 = .ok (.ireturn, 1) := by decide +kernel
def J_Mo_landsIn_32 (k : Int32 → gb_Mem → Option (gb_Mem)) (x1 x2 : Int32) (I : gb_Mem) : Option (gb_Mem) :=
  k (x2 + 4) I
set_option maxRecDepth 4000 in
theorem j_Mo_landsIn_32 (l : Launch) (d0 : Nat) {post : Option gb_AV → List gb_Ce → gb_Mem → Prop} (k : Int32 → gb_Mem → Option (gb_Mem)) (x1 x2 : Int32) (I : gb_Mem) {ρ : gb_Mem} (h : J_Mo_landsIn_32 k x1 x2 I = some ρ) (hk : ∀ (z2 : Int32) (Iw : gb_Mem), k z2 Iw = some ρ → gb_Go l yMo_landsIn (d0 + 7) 0 0 2 [(0, .inr (some 0)), (1, .inl x1), (2, .inl z2)] [] shM Iw post) (hX : ∀ (I2 : gb_Mem), ρ = I2 → gb_Go l yMo_landsIn (d0 + 7) 0 0 39 [(0, .inr (some 0)), (1, .inl x1)] [] shM I2 post) : gb_Go l yMo_landsIn (d0 + 7) 0 0 32 [(0, .inr (some 0)), (1, .inl x1), (2, .inl x2)] [] shM I post := by
  unfold J_Mo_landsIn_32 at h
  refine go_iload_n (k := 2) d_Mo_landsIn_32 rfl rfl ?_
  refine go_iconst (v := 4) d_Mo_landsIn_33 (by decide) ?_
  refine go_iadd d_Mo_landsIn_34 ?_
  refine go_istore_n (lv' := [(2, .inl (x2 + 4)), (0, .inr (some 0)), (1, .inl x1)]) d_Mo_landsIn_35 rfl (by decide) rfl ?_
  refine go_goto (tgt := 2) d_Mo_landsIn_36 (by decide) ?_
  exact go_lv [1, 2, 0] rfl (hk _ _ h)
def L_Mo_landsIn_2 (x1 : Int32) : Nat → Int32 → gb_Mem → Option (gb_Mem)
  | 0, _, _ => none
  | n + 1, x2, I =>
    if (4 * (I 0 37)) ≤ x2 then
      some I
    else
      flod I 20 128 x2 fun v1 =>
      if v1 = (I 1 0) then
        fbd (F_Mo_does x2 I) fun I2 =>
        J_Mo_landsIn_32 (L_Mo_landsIn_2 x1 n) x1 x2 I2
      else
        J_Mo_landsIn_32 (L_Mo_landsIn_2 x1 n) x1 x2 I
set_option maxRecDepth 4000 in
theorem l_Mo_landsIn_2 (l : Launch) (d0 : Nat) (x1 : Int32) {post : Option gb_AV → List gb_Ce → gb_Mem → Prop} : ∀ (n : Nat) (x2 : Int32) (I : gb_Mem) {ρ : gb_Mem} (h : L_Mo_landsIn_2 x1 n x2 I = some ρ) (hX : ∀ (I2 : gb_Mem), ρ = I2 → gb_Go l yMo_landsIn (d0 + 7) 0 0 39 [(0, .inr (some 0)), (1, .inl x1)] [] shM I2 post) , gb_Go l yMo_landsIn (d0 + 7) 0 0 2 [(0, .inr (some 0)), (1, .inl x1), (2, .inl x2)] [] shM I post := by
  intro n
  induction n with
  | zero => intro x2 I ρ h hX; cases h
  | succ n ih =>
    intro x2 I ρ h hX
    rw [L_Mo_landsIn_2] at h
    refine go_iload_n (k := 2) d_Mo_landsIn_2 rfl rfl ?_
    refine go_iconst (v := 4) d_Mo_landsIn_3 (by decide) ?_
    refine go_aload_n (k := 0) d_Mo_landsIn_4 rfl rfl ?_
    refine go_geti (ci := 10) (k := 37) d_Mo_landsIn_5 a_M_0 rfl (by decide) f_Mo_309 rfl ?_
    refine go_imul d_Mo_landsIn_8 ?_
    refine go_cmp_ge (tgt := 39) d_Mo_landsIn_9 (by decide) (fun hc => ?_) (fun hc => ?_)
    · rw [if_pos hc] at h
      exact go_lv [0, 1] rfl (hX _ (Option.some.inj h).symm)
    · rw [if_neg hc] at h
      refine go_aload_n (k := 0) d_Mo_landsIn_12 rfl rfl ?_
      refine go_getr (ci := 10) (k := 38) (r := 20) d_Mo_landsIn_13 a_M_0 rfl (by decide) f_Mo_71 rfl ?_
      refine go_iload_n (k := 2) d_Mo_landsIn_16 rfl rfl ?_
      obtain ⟨hi, v1, ev1, h⟩ := flod_e h
      refine go_iald2 d_Mo_landsIn_17 a_M_20 hi ev1 ?_
      refine go_aload_n (k := 0) d_Mo_landsIn_18 rfl rfl ?_
      refine go_getr (ci := 10) (k := 1) (r := 1) d_Mo_landsIn_19 a_M_0 rfl (by decide) f_Mo_7 rfl ?_
      refine go_iconst (v := 0) d_Mo_landsIn_22 (by decide) ?_
      refine go_iald2 (v := I 1 0) d_Mo_landsIn_23 a_M_1 (inb_iff.mp (by decide)) rfl ?_
      refine go_cmp_ne (tgt := 32) d_Mo_landsIn_24 (by decide) (fun hc => ?_) (fun hc => ?_)
      · rw [if_neg hc] at h
        exact go_lv [0, 1, 2] rfl (j_Mo_landsIn_32 l d0 (L_Mo_landsIn_2 x1 n) x1 x2 I h (fun z2 Iw hh => ih z2 Iw hh hX) hX)
      · rw [if_pos hc] at h
        refine go_aload_n (k := 0) d_Mo_landsIn_27 rfl rfl ?_
        refine go_iload_n (k := 2) d_Mo_landsIn_28 rfl rfl ?_
        obtain ⟨I2, w1, h⟩ := fbd_e h
        refine go_callV (y := yMo_does) (asr := [.inl x2]) (v := none) (I' := I2) (st1 := []) d_Mo_landsIn_29 s_yMo_does m_Mo_404 a_M_0 rfl rfl rfl (Nat.le_of_ble_eq_true rfl) rfl rfl (c_Mo_does l (d0 + 4) x2 I w1) ?_
        exact go_lv [0, 1, 2] rfl (j_Mo_landsIn_32 l d0 (L_Mo_landsIn_2 x1 n) x1 x2 I2 h (fun z2 Iw hh => ih z2 Iw hh hX) hX)
def J_Mo_landsIn_128 (k : Int32 → Int32 → gb_Mem → Option (Int32 × gb_Mem)) (x1 x2 x3 x4 : Int32) (I : gb_Mem) : Option (Int32 × gb_Mem) :=
  k x2 (x4 + 1) I
set_option maxRecDepth 4000 in
theorem j_Mo_landsIn_128 (l : Launch) (d0 : Nat) {post : Option gb_AV → List gb_Ce → gb_Mem → Prop} (k : Int32 → Int32 → gb_Mem → Option (Int32 × gb_Mem)) (x1 x2 x3 x4 : Int32) (I : gb_Mem) {ρ : Int32 × gb_Mem} (h : J_Mo_landsIn_128 k x1 x2 x3 x4 I = some ρ) (hk : ∀ (z2 z4 : Int32) (Iw : gb_Mem), k z2 z4 Iw = some ρ → gb_Go l yMo_landsIn (d0 + 7) 0 0 77 [(0, .inr (some 0)), (1, .inl x1), (2, .inl z2), (3, .inl x3), (4, .inl z4)] [] shM Iw post) (hX : ∀ (o2 : Int32) (I2 : gb_Mem), ρ = (o2, I2) → gb_Go l yMo_landsIn (d0 + 7) 0 0 134 [(0, .inr (some 0)), (2, .inl o2)] [] shM I2 post) : gb_Go l yMo_landsIn (d0 + 7) 0 0 128 [(0, .inr (some 0)), (1, .inl x1), (2, .inl x2), (3, .inl x3), (4, .inl x4)] [] shM I post := by
  unfold J_Mo_landsIn_128 at h
  refine go_iinc (k := 4) (v := x4 + 1) (lv' := [(4, .inl (x4 + 1)), (0, .inr (some 0)), (1, .inl x1), (2, .inl x2), (3, .inl x3)]) d_Mo_landsIn_128 rfl rfl (by decide) rfl ?_
  refine go_goto (tgt := 77) d_Mo_landsIn_131 (by decide) ?_
  exact go_lv [1, 2, 3, 4, 0] rfl (hk _ _ _ h)
def L_Mo_landsIn_77 (x1 x3 : Int32) : Nat → Int32 → Int32 → gb_Mem → Option (Int32 × gb_Mem)
  | 0, _, _, _ => none
  | n + 1, x2, x4, I =>
    if (I 0 6) ≤ x4 then
      some (x2, I)
    else
      if x3 = 0 then
        fbd (F_Mo_isAshore x4 I) fun r4 =>
        if r4 = 0 then
          fbd (F_Mo_goesOn x4 I) fun (r6, I5) =>
          if r6 = 0 then
            J_Mo_landsIn_128 (L_Mo_landsIn_77 x1 x3 n) x1 x2 x3 x4 I5
          else
            if x4 = x1 then
              J_Mo_landsIn_128 (L_Mo_landsIn_77 x1 x3 n) x1 (I5 0 43) x3 x4 I5
            else
              J_Mo_landsIn_128 (L_Mo_landsIn_77 x1 x3 n) x1 x2 x3 x4 I5
        else
          J_Mo_landsIn_128 (L_Mo_landsIn_77 x1 x3 n) x1 x2 x3 x4 I
      else
        fbd (F_Mo_isSkinned x4 I) fun I7 =>
        J_Mo_landsIn_128 (L_Mo_landsIn_77 x1 x3 n) x1 x2 x3 x4 I7
set_option maxRecDepth 4000 in
theorem l_Mo_landsIn_77 (l : Launch) (d0 : Nat) (x1 x3 : Int32) {post : Option gb_AV → List gb_Ce → gb_Mem → Prop} : ∀ (n : Nat) (x2 x4 : Int32) (I : gb_Mem) {ρ : Int32 × gb_Mem} (h : L_Mo_landsIn_77 x1 x3 n x2 x4 I = some ρ) (hX : ∀ (o2 : Int32) (I2 : gb_Mem), ρ = (o2, I2) → gb_Go l yMo_landsIn (d0 + 7) 0 0 134 [(0, .inr (some 0)), (2, .inl o2)] [] shM I2 post) , gb_Go l yMo_landsIn (d0 + 7) 0 0 77 [(0, .inr (some 0)), (1, .inl x1), (2, .inl x2), (3, .inl x3), (4, .inl x4)] [] shM I post := by
  intro n
  induction n with
  | zero => intro x2 x4 I ρ h hX; cases h
  | succ n ih =>
    intro x2 x4 I ρ h hX
    rw [L_Mo_landsIn_77] at h
    refine go_iload (k := 4) d_Mo_landsIn_77 rfl ?_
    refine go_aload_n (k := 0) d_Mo_landsIn_79 rfl rfl ?_
    refine go_geti (ci := 10) (k := 6) d_Mo_landsIn_80 a_M_0 rfl (by decide) f_Mo_150 rfl ?_
    refine go_cmp_ge (tgt := 134) d_Mo_landsIn_83 (by decide) (fun hc => ?_) (fun hc => ?_)
    · rw [if_pos hc] at h
      exact go_lv [0, 2] rfl (hX _ _ (Option.some.inj h).symm)
    · rw [if_neg hc] at h
      refine go_iload_n (k := 3) d_Mo_landsIn_86 rfl rfl ?_
      refine go_if_eq (tgt := 99) d_Mo_landsIn_87 (by decide) (fun hc => ?_) (fun hc => ?_)
      · rw [if_pos hc] at h
        refine go_aload_n (k := 0) d_Mo_landsIn_99 rfl rfl ?_
        refine go_iload (k := 4) d_Mo_landsIn_100 rfl ?_
        obtain ⟨r4, w1, h⟩ := fbd_e h
        refine go_callV (y := yMo_isAshore) (asr := [.inl x4]) (v := some (.inl r4)) (I' := I) (st1 := [.inl r4]) d_Mo_landsIn_102 s_yMo_isAshore m_Mo_348 a_M_0 rfl rfl rfl (Nat.le_of_ble_eq_true rfl) rfl rfl (c_Mo_isAshore l (d0 + 5) x4 I w1) ?_
        refine go_if_ne (tgt := 128) d_Mo_landsIn_105 (by decide) (fun hc => ?_) (fun hc => ?_)
        · rw [if_neg hc] at h
          exact go_lv [0, 1, 2, 3, 4] rfl (j_Mo_landsIn_128 l d0 (L_Mo_landsIn_77 x1 x3 n) x1 x2 x3 x4 I h (fun z2 z4 Iw hh => ih z2 z4 Iw hh hX) hX)
        · rw [if_pos hc] at h
          refine go_aload_n (k := 0) d_Mo_landsIn_108 rfl rfl ?_
          refine go_iload (k := 4) d_Mo_landsIn_109 rfl ?_
          obtain ⟨⟨r6, I5⟩, w1, h⟩ := fbd_e h
          try dsimp only at h
          refine go_callV (y := yMo_goesOn) (asr := [.inl x4]) (v := some (.inl r6)) (I' := I5) (st1 := [.inl r6]) d_Mo_landsIn_111 s_yMo_goesOn m_Mo_407 a_M_0 rfl rfl rfl (Nat.le_of_ble_eq_true rfl) rfl rfl (c_Mo_goesOn l (d0 + 0) x4 I w1) ?_
          refine go_if_eq (tgt := 128) d_Mo_landsIn_114 (by decide) (fun hc => ?_) (fun hc => ?_)
          · rw [if_pos hc] at h
            exact go_lv [0, 1, 2, 3, 4] rfl (j_Mo_landsIn_128 l d0 (L_Mo_landsIn_77 x1 x3 n) x1 x2 x3 x4 I5 h (fun z2 z4 Iw hh => ih z2 z4 Iw hh hX) hX)
          · rw [if_neg hc] at h
            refine go_iload (k := 4) d_Mo_landsIn_117 rfl ?_
            refine go_iload_n (k := 1) d_Mo_landsIn_119 rfl rfl ?_
            refine go_cmp_ne (tgt := 128) d_Mo_landsIn_120 (by decide) (fun hc => ?_) (fun hc => ?_)
            · rw [if_neg hc] at h
              exact go_lv [0, 1, 2, 3, 4] rfl (j_Mo_landsIn_128 l d0 (L_Mo_landsIn_77 x1 x3 n) x1 x2 x3 x4 I5 h (fun z2 z4 Iw hh => ih z2 z4 Iw hh hX) hX)
            · rw [if_pos hc] at h
              refine go_aload_n (k := 0) d_Mo_landsIn_123 rfl rfl ?_
              refine go_geti (ci := 10) (k := 43) d_Mo_landsIn_124 a_M_0 rfl (by decide) f_Mo_358 rfl ?_
              refine go_istore_n (lv' := [(2, .inl (I5 0 43)), (0, .inr (some 0)), (1, .inl x1), (3, .inl x3), (4, .inl x4)]) d_Mo_landsIn_127 rfl (by decide) rfl ?_
              exact go_lv [1, 2, 0, 3, 4] rfl (j_Mo_landsIn_128 l d0 (L_Mo_landsIn_77 x1 x3 n) x1 (I5 0 43) x3 x4 I5 h (fun z2 z4 Iw hh => ih z2 z4 Iw hh hX) hX)
      · rw [if_neg hc] at h
        refine go_aload_n (k := 0) d_Mo_landsIn_90 rfl rfl ?_
        refine go_iload (k := 4) d_Mo_landsIn_91 rfl ?_
        obtain ⟨I7, w1, h⟩ := fbd_e h
        refine go_callV (y := yMo_isSkinned) (asr := [.inl x4]) (v := none) (I' := I7) (st1 := []) d_Mo_landsIn_93 s_yMo_isSkinned m_Mo_379 a_M_0 rfl rfl rfl (Nat.le_of_ble_eq_true rfl) rfl rfl (c_Mo_isSkinned l (d0 + 5) x4 I w1) ?_
        refine go_goto (tgt := 128) d_Mo_landsIn_96 (by decide) ?_
        exact go_lv [0, 1, 2, 3, 4] rfl (j_Mo_landsIn_128 l d0 (L_Mo_landsIn_77 x1 x3 n) x1 x2 x3 x4 I7 h (fun z2 z4 Iw hh => ih z2 z4 Iw hh hX) hX)
def J_Mo_landsIn_74 (x1 x2 x3 : Int32) (I : gb_Mem) : Option (Int32 × gb_Mem) :=
  fbd (L_Mo_landsIn_77 x1 x3 5000 x2 0 I) fun (o8, I9) =>
  fstf I9 1 0 ((I9 1 0) + 1) fun I10 =>
  some (o8, I10)
set_option maxRecDepth 4000 in
theorem j_Mo_landsIn_74 (l : Launch) (d0 : Nat) (x1 x2 x3 : Int32) (I : gb_Mem) {rz : Int32} {Iz : gb_Mem} (h : J_Mo_landsIn_74 x1 x2 x3 I = some (rz, Iz)) : gb_Go l yMo_landsIn (d0 + 7) 0 0 74 [(0, .inr (some 0)), (1, .inl x1), (2, .inl x2), (3, .inl x3)] [] shM I (gb_po shM (some (.inl rz)) Iz) := by
  unfold J_Mo_landsIn_74 at h
  refine go_iconst (v := 0) d_Mo_landsIn_74 (by decide) ?_
  refine go_istore (lv' := [(4, .inl 0), (0, .inr (some 0)), (1, .inl x1), (2, .inl x2), (3, .inl x3)]) d_Mo_landsIn_75 (by decide) rfl ?_
  refine go_lv [1, 2, 3, 4, 0] (lv' := [(0, .inr (some 0)), (1, .inl x1), (2, .inl x2), (3, .inl x3), (4, .inl 0)]) rfl ?_
  obtain ⟨⟨o8, I9⟩, w1, h⟩ := fbd_e h
  try dsimp only at h
  refine l_Mo_landsIn_77 l d0 x1 x3 5000 x2 0 I w1 (fun o8_ I9_ e => ?_)
  cases e
  refine go_aload_n (k := 0) d_Mo_landsIn_134 rfl rfl ?_
  refine go_getr (ci := 10) (k := 1) (r := 1) d_Mo_landsIn_135 a_M_0 rfl (by decide) f_Mo_7 rfl ?_
  refine go_iconst (v := 0) d_Mo_landsIn_138 (by decide) ?_
  refine go_aload_n (k := 0) d_Mo_landsIn_139 rfl rfl ?_
  refine go_getr (ci := 10) (k := 1) (r := 1) d_Mo_landsIn_140 a_M_0 rfl (by decide) f_Mo_7 rfl ?_
  refine go_iconst (v := 0) d_Mo_landsIn_143 (by decide) ?_
  refine go_iald2 (v := I9 1 0) d_Mo_landsIn_144 a_M_1 (inb_iff.mp (by decide)) rfl ?_
  refine go_iconst (v := 1) d_Mo_landsIn_145 (by decide) ?_
  refine go_iadd d_Mo_landsIn_146 ?_
  obtain ⟨I10, eI10, h⟩ := fstf_e h
  refine go_iast (I' := I10) d_Mo_landsIn_147 a_M_1 (inb_iff.mp (by decide)) eI10 ?_
  refine go_iload_n (k := 1) d_Mo_landsIn_148 rfl rfl ?_
  cases h
  exact go_ireturn d_Mo_landsIn_149 rfl gb_po_i
def J_Mo_landsIn_55 (x1 x2 s0 : Int32) (I : gb_Mem) : Option (Int32 × gb_Mem) :=
  if s0 = 0 then
    J_Mo_landsIn_74 x1 x2 s0 I
  else
    fstf I 1 4 ((I 1 4) - 1) fun I11 =>
    J_Mo_landsIn_74 x1 x2 s0 I11
set_option maxRecDepth 4000 in
theorem j_Mo_landsIn_55 (l : Launch) (d0 : Nat) (x1 x2 s0 : Int32) (I : gb_Mem) {rz : Int32} {Iz : gb_Mem} (h : J_Mo_landsIn_55 x1 x2 s0 I = some (rz, Iz)) : gb_Go l yMo_landsIn (d0 + 7) 0 0 55 [(0, .inr (some 0)), (1, .inl x1), (2, .inl x2)] [.inl s0] shM I (gb_po shM (some (.inl rz)) Iz) := by
  unfold J_Mo_landsIn_55 at h
  refine go_istore_n (lv' := [(3, .inl s0), (0, .inr (some 0)), (1, .inl x1), (2, .inl x2)]) d_Mo_landsIn_55 rfl (by decide) rfl ?_
  refine go_iload_n (k := 0) d_Mo_landsIn_56 rfl rfl ?_
  refine go_if_eq (tgt := 74) d_Mo_landsIn_57 (by decide) (fun hc => ?_) (fun hc => ?_)
  · rw [if_pos hc] at h
    exact go_lv [1, 2, 3, 0] rfl (j_Mo_landsIn_74 l d0 x1 x2 s0 I h)
  · rw [if_neg hc] at h
    refine go_aload_n (k := 1) d_Mo_landsIn_60 rfl rfl ?_
    refine go_getr (ci := 10) (k := 1) (r := 1) d_Mo_landsIn_61 a_M_0 rfl (by decide) f_Mo_7 rfl ?_
    refine go_iconst (v := 4) d_Mo_landsIn_64 (by decide) ?_
    refine go_aload_n (k := 1) d_Mo_landsIn_65 rfl rfl ?_
    refine go_getr (ci := 10) (k := 1) (r := 1) d_Mo_landsIn_66 a_M_0 rfl (by decide) f_Mo_7 rfl ?_
    refine go_iconst (v := 4) d_Mo_landsIn_69 (by decide) ?_
    refine go_iald2 (v := I 1 4) d_Mo_landsIn_70 a_M_1 (inb_iff.mp (by decide)) rfl ?_
    refine go_iconst (v := 1) d_Mo_landsIn_71 (by decide) ?_
    refine go_isub d_Mo_landsIn_72 ?_
    obtain ⟨I11, eI11, h⟩ := fstf_e h
    refine go_iast (I' := I11) d_Mo_landsIn_73 a_M_1 (inb_iff.mp (by decide)) eI11 ?_
    exact go_lv [1, 2, 3, 0] rfl (j_Mo_landsIn_74 l d0 x1 x2 s0 I11 h)
def F_Mo_landsIn (x1 : Int32) (I : gb_Mem) : Option (Int32 × gb_Mem) :=
  fbd (L_Mo_landsIn_2 x1 5000 0 I) fun I3 =>
  if (I3 1 4) ≤ 0 then
    J_Mo_landsIn_55 x1 (-1) 0 I3
  else
    J_Mo_landsIn_55 x1 (-1) 1 I3
set_option maxRecDepth 4000 in
theorem c_Mo_landsIn (l : Launch) (d0 : Nat) (x1 : Int32) (I : gb_Mem) {rz : Int32} {Iz : gb_Mem} (h : F_Mo_landsIn x1 I = some (rz, Iz)) : gb_Cs l yMo_landsIn (d0 + 7) [.inr (some 0), .inl x1] shM I (some (.inl rz)) Iz := by
  refine gb_Ct.of (lv := [(0, .inr (some 0)), (1, .inl x1)]) rfl (Nat.le_of_ble_eq_true rfl) rfl ?_
  unfold F_Mo_landsIn at h
  show gb_Go l yMo_landsIn (d0 + 7) 0 0 0 [(0, .inr (some 0)), (1, .inl x1)] [] shM I (gb_po shM (some (.inl rz)) Iz)
  refine go_iconst (v := 0) d_Mo_landsIn_0 (by decide) ?_
  refine go_istore_n (lv' := [(2, .inl 0), (0, .inr (some 0)), (1, .inl x1)]) d_Mo_landsIn_1 rfl (by decide) rfl ?_
  refine go_lv [1, 2, 0] (lv' := [(0, .inr (some 0)), (1, .inl x1), (2, .inl 0)]) rfl ?_
  obtain ⟨I3, w1, h⟩ := fbd_e h
  refine l_Mo_landsIn_2 l d0 x1 5000 0 I w1 (fun I3_ e => ?_)
  cases e
  refine go_iconst (v := (-1)) d_Mo_landsIn_39 (by decide) ?_
  refine go_istore_n (lv' := [(2, .inl (-1)), (0, .inr (some 0)), (1, .inl x1)]) d_Mo_landsIn_40 rfl (by decide) rfl ?_
  refine go_aload_n (k := 1) d_Mo_landsIn_41 rfl rfl ?_
  refine go_getr (ci := 10) (k := 1) (r := 1) d_Mo_landsIn_42 a_M_0 rfl (by decide) f_Mo_7 rfl ?_
  refine go_iconst (v := 4) d_Mo_landsIn_45 (by decide) ?_
  refine go_iald2 (v := I3 1 4) d_Mo_landsIn_46 a_M_1 (inb_iff.mp (by decide)) rfl ?_
  refine go_if_le (tgt := 54) d_Mo_landsIn_47 (by decide) (fun hc => ?_) (fun hc => ?_)
  · rw [if_pos hc] at h
    refine go_iconst (v := 0) d_Mo_landsIn_54 (by decide) ?_
    exact go_lv [1, 2, 0] rfl (j_Mo_landsIn_55 l d0 x1 (-1) 0 I3 h)
  · rw [if_neg hc] at h
    refine go_iconst (v := 1) d_Mo_landsIn_50 (by decide) ?_
    refine go_goto (tgt := 55) d_Mo_landsIn_51 (by decide) ?_
    exact go_lv [1, 2, 0] rfl (j_Mo_landsIn_55 l d0 x1 (-1) 1 I3 h)
theorem d_Mo_readAny_0 : decode yMo_readAny.2.1 0 = .ok (.iconst 0, 1) := by decide +kernel
theorem d_Mo_readAny_1 : decode yMo_readAny.2.1 1 = .ok (.istore_n 1, 1) := by decide +kernel
theorem d_Mo_readAny_2 : decode yMo_readAny.2.1 2 = .ok (.aload_n 0, 1) := by decide +kernel
theorem d_Mo_readAny_3 : decode yMo_readAny.2.1 3 = .ok (.iconst 0, 1) := by decide +kernel
theorem d_Mo_readAny_4 : decode yMo_readAny.2.1 4 = .ok (.putfield 241, 3) := by decide +kernel
theorem d_Mo_readAny_7 : decode yMo_readAny.2.1 7 = .ok (.iconst 1, 1) := by decide +kernel
theorem d_Mo_readAny_8 : decode yMo_readAny.2.1 8 = .ok (.istore_n 2, 1) := by decide +kernel
theorem d_Mo_readAny_9 : decode yMo_readAny.2.1 9 = .ok (.iload_n 2, 1) := by decide +kernel
theorem d_Mo_readAny_10 : decode yMo_readAny.2.1 10 = .ok (.ifCond .eq 99, 3) := by decide +kernel
theorem d_Mo_readAny_13 : decode yMo_readAny.2.1 13 = .ok (.aload_n 0, 1) := by decide +kernel
theorem d_Mo_readAny_14 : decode yMo_readAny.2.1 14 = .ok (.bipush 6, 2) := by decide +kernel
theorem d_Mo_readAny_16 : decode yMo_readAny.2.1 16 = .ok (.invokevirtual 247, 3) := by decide +kernel
theorem d_Mo_readAny_19 : decode yMo_readAny.2.1 19 = .ok (.istore_n 3, 1) := by decide +kernel
theorem d_Mo_readAny_20 : decode yMo_readAny.2.1 20 = .ok (.iload_n 3, 1) := by decide +kernel
theorem d_Mo_readAny_21 : decode yMo_readAny.2.1 21 = .ok (.ifCond .ne 12, 3) := by decide +kernel
theorem d_Mo_readAny_24 : decode yMo_readAny.2.1 24 = .ok (.aload_n 0, 1) := by decide +kernel
theorem d_Mo_readAny_25 : decode yMo_readAny.2.1 25 = .ok (.bipush 40, 2) := by decide +kernel
theorem d_Mo_readAny_27 : decode yMo_readAny.2.1 27 = .ok (.invokevirtual 232, 3) := by decide +kernel
theorem d_Mo_readAny_30 : decode yMo_readAny.2.1 30 = .ok (.ifCond .eq 58, 3) := by decide +kernel
theorem d_Mo_readAny_33 : decode yMo_readAny.2.1 33 = .ok (.aload_n 0, 1) := by decide +kernel
theorem d_Mo_readAny_34 : decode yMo_readAny.2.1 34 = .ok (.getfield 244, 3) := by decide +kernel
theorem d_Mo_readAny_37 : decode yMo_readAny.2.1 37 = .ok (.bipush 8, 2) := by decide +kernel
theorem d_Mo_readAny_39 : decode yMo_readAny.2.1 39 = .ok (.if_icmp .ne 9, 3) := by decide +kernel
theorem d_Mo_readAny_42 : decode yMo_readAny.2.1 42 = .ok (.aload_n 0, 1) := by decide +kernel
theorem d_Mo_readAny_43 : decode yMo_readAny.2.1 43 = .ok (.iconst 3, 1) := by decide +kernel
theorem d_Mo_readAny_44 : decode yMo_readAny.2.1 44 = .ok (.invokevirtual 218, 3) := by decide +kernel
theorem d_Mo_readAny_47 : decode yMo_readAny.2.1 47 = .ok (.ireturn, 1) := by decide +kernel
theorem d_Mo_readAny_48 : decode yMo_readAny.2.1 48 = .ok (.aload_n 0, 1) := by decide +kernel
theorem d_Mo_readAny_49 : decode yMo_readAny.2.1 49 = .ok (.aload_n 0, 1) := by decide +kernel
theorem d_Mo_readAny_50 : decode yMo_readAny.2.1 50 = .ok (.getfield 244, 3) := by decide +kernel
theorem d_Mo_readAny_53 : decode yMo_readAny.2.1 53 = .ok (.iconst 1, 1) := by decide +kernel
theorem d_Mo_readAny_54 : decode yMo_readAny.2.1 54 = .ok (.iadd, 1) := by decide +kernel
theorem d_Mo_readAny_55 : decode yMo_readAny.2.1 55 = .ok (.putfield 244, 3) := by decide +kernel
theorem d_Mo_readAny_58 : decode yMo_readAny.2.1 58 = .ok (.iload_n 3, 1) := by decide +kernel
theorem d_Mo_readAny_59 : decode yMo_readAny.2.1 59 = .ok (.ifCond .ne 7, 3) := by decide +kernel
theorem d_Mo_readAny_62 : decode yMo_readAny.2.1 62 = .ok (.iload_n 1, 1) := by decide +kernel
theorem d_Mo_readAny_63 : decode yMo_readAny.2.1 63 = .ok (.iconst 1, 1) := by decide +kernel
theorem d_Mo_readAny_64 : decode yMo_readAny.2.1 64 = .ok (.iadd, 1) := by decide +kernel
theorem d_Mo_readAny_65 : decode yMo_readAny.2.1 65 = .ok (.istore_n 1, 1) := by decide +kernel
theorem d_Mo_readAny_66 : decode yMo_readAny.2.1 66 = .ok (.aload_n 0, 1) := by decide +kernel
theorem d_Mo_readAny_67 : decode yMo_readAny.2.1 67 = .ok (.iload_n 3, 1) := by decide +kernel
theorem d_Mo_readAny_68 : decode yMo_readAny.2.1 68 = .ok (.ifCond .eq 8, 3) := by decide +kernel
theorem d_Mo_readAny_71 : decode yMo_readAny.2.1 71 = .ok (.bipush 9, 2) := by decide +kernel
theorem d_Mo_readAny_73 : decode yMo_readAny.2.1 73 = .ok (.goto 5, 3) := by decide +kernel
theorem d_Mo_readAny_76 : decode yMo_readAny.2.1 76 = .ok (.bipush 12, 2) := by decide +kernel
theorem d_Mo_readAny_78 : decode yMo_readAny.2.1 78 = .ok (.invokevirtual 250, 3) := by decide +kernel
theorem d_Mo_readAny_81 : decode yMo_readAny.2.1 81 = .ok (.aload_n 0, 1) := by decide +kernel
theorem d_Mo_readAny_82 : decode yMo_readAny.2.1 82 = .ok (.invokevirtual 225, 3) := by decide +kernel
theorem d_Mo_readAny_85 : decode yMo_readAny.2.1 85 = .ok (.goto (-76), 3) := by decide +kernel
theorem d_Mo_readAny_88 : decode yMo_readAny.2.1 88 = .ok (.aload_n 0, 1) := by decide +kernel
theorem d_Mo_readAny_89 : decode yMo_readAny.2.1 89 = .ok (.invokevirtual 253, 3) := by decide +kernel
theorem d_Mo_readAny_92 : decode yMo_readAny.2.1 92 = .ok (.iconst (-1), 1) := by decide +kernel
theorem d_Mo_readAny_93 : decode yMo_readAny.2.1 93 = .ok (.if_icmp .ne 5, 3) := by decide +kernel
theorem d_Mo_readAny_96 : decode yMo_readAny.2.1 96 = .ok (.iconst (-1), 1) := by decide +kernel
theorem d_Mo_readAny_97 : decode yMo_readAny.2.1 97 = .ok (.ireturn, 1) := by decide +kernel
theorem d_Mo_readAny_98 : decode yMo_readAny.2.1 98 = .ok (.aload_n 0, 1) := by decide +kernel
theorem d_Mo_readAny_99 : decode yMo_readAny.2.1 99 = .ok (.bipush 9, 2) := by decide +kernel
theorem d_Mo_readAny_101 : decode yMo_readAny.2.1 101 = .ok (.invokevirtual 256, 3) := by decide +kernel
theorem d_Mo_readAny_104 : decode yMo_readAny.2.1 104 = .ok (.iconst 0, 1) := by decide +kernel
theorem d_Mo_readAny_105 : decode yMo_readAny.2.1 105 = .ok (.istore_n 2, 1) := by decide +kernel
theorem d_Mo_readAny_106 : decode yMo_readAny.2.1 106 = .ok (.goto (-97), 3) := by decide +kernel
theorem d_Mo_readAny_109 : decode yMo_readAny.2.1 109 = .ok (.aload_n 0, 1) := by decide +kernel
theorem d_Mo_readAny_110 : decode yMo_readAny.2.1 110 = .ok (.iconst 5, 1) := by decide +kernel
theorem d_Mo_readAny_111 : decode yMo_readAny.2.1 111 = .ok (.invokevirtual 247, 3) := by decide +kernel
theorem d_Mo_readAny_114 : decode yMo_readAny.2.1 114 = .ok (.ifCond .eq 24, 3) := by decide +kernel
theorem d_Mo_readAny_117 : decode yMo_readAny.2.1 117 = .ok (.aload_n 0, 1) := by decide +kernel
theorem d_Mo_readAny_118 : decode yMo_readAny.2.1 118 = .ok (.bipush 10, 2) := by decide +kernel
theorem d_Mo_readAny_120 : decode yMo_readAny.2.1 120 = .ok (.invokevirtual 256, 3) := by decide +kernel
theorem d_Mo_readAny_123 : decode yMo_readAny.2.1 123 = .ok (.aload_n 0, 1) := by decide +kernel
theorem d_Mo_readAny_124 : decode yMo_readAny.2.1 124 = .ok (.bipush 10, 2) := by decide +kernel
theorem d_Mo_readAny_126 : decode yMo_readAny.2.1 126 = .ok (.invokevirtual 250, 3) := by decide +kernel
theorem d_Mo_readAny_129 : decode yMo_readAny.2.1 129 = .ok (.aload_n 0, 1) := by decide +kernel
theorem d_Mo_readAny_130 : decode yMo_readAny.2.1 130 = .ok (.invokevirtual 225, 3) := by decide +kernel
theorem d_Mo_readAny_133 : decode yMo_readAny.2.1 133 = .ok (.iconst 1, 1) := by decide +kernel
theorem d_Mo_readAny_134 : decode yMo_readAny.2.1 134 = .ok (.istore_n 2, 1) := by decide +kernel
theorem d_Mo_readAny_135 : decode yMo_readAny.2.1 135 = .ok (.goto (-126), 3) := by decide +kernel
theorem d_Mo_readAny_138 : decode yMo_readAny.2.1 138 = .ok (.aload_n 0, 1) := by decide +kernel
theorem d_Mo_readAny_139 : decode yMo_readAny.2.1 139 = .ok (.iconst 4, 1) := by decide +kernel
theorem d_Mo_readAny_140 : decode yMo_readAny.2.1 140 = .ok (.invokevirtual 247, 3) := by decide +kernel
theorem d_Mo_readAny_143 : decode yMo_readAny.2.1 143 = .ok (.ifCond .eq 30, 3) := by decide +kernel
theorem d_Mo_readAny_146 : decode yMo_readAny.2.1 146 = .ok (.aload_n 0, 1) := by decide +kernel
theorem d_Mo_readAny_147 : decode yMo_readAny.2.1 147 = .ok (.bipush 10, 2) := by decide +kernel
theorem d_Mo_readAny_149 : decode yMo_readAny.2.1 149 = .ok (.invokevirtual 256, 3) := by decide +kernel
theorem d_Mo_readAny_152 : decode yMo_readAny.2.1 152 = .ok (.aload_n 0, 1) := by decide +kernel
theorem d_Mo_readAny_153 : decode yMo_readAny.2.1 153 = .ok (.bipush 11, 2) := by decide +kernel
theorem d_Mo_readAny_155 : decode yMo_readAny.2.1 155 = .ok (.invokevirtual 256, 3) := by decide +kernel
theorem d_Mo_readAny_158 : decode yMo_readAny.2.1 158 = .ok (.aload_n 0, 1) := by decide +kernel
theorem d_Mo_readAny_159 : decode yMo_readAny.2.1 159 = .ok (.bipush 11, 2) := by decide +kernel
theorem d_Mo_readAny_161 : decode yMo_readAny.2.1 161 = .ok (.invokevirtual 250, 3) := by decide +kernel
theorem d_Mo_readAny_164 : decode yMo_readAny.2.1 164 = .ok (.aload_n 0, 1) := by decide +kernel
theorem d_Mo_readAny_165 : decode yMo_readAny.2.1 165 = .ok (.invokevirtual 225, 3) := by decide +kernel
theorem d_Mo_readAny_168 : decode yMo_readAny.2.1 168 = .ok (.iconst 1, 1) := by decide +kernel
theorem d_Mo_readAny_169 : decode yMo_readAny.2.1 169 = .ok (.istore_n 2, 1) := by decide +kernel
theorem d_Mo_readAny_170 : decode yMo_readAny.2.1 170 = .ok (.goto (-161), 3) := by decide +kernel
theorem d_Mo_readAny_173 : decode yMo_readAny.2.1 173 = .ok (.aload_n 0, 1) := by decide +kernel
theorem d_Mo_readAny_174 : decode yMo_readAny.2.1 174 = .ok (.bipush 10, 2) := by decide +kernel
theorem d_Mo_readAny_176 : decode yMo_readAny.2.1 176 = .ok (.invokevirtual 256, 3) := by decide +kernel
theorem d_Mo_readAny_179 : decode yMo_readAny.2.1 179 = .ok (.aload_n 0, 1) := by decide +kernel
theorem d_Mo_readAny_180 : decode yMo_readAny.2.1 180 = .ok (.bipush 11, 2) := by decide +kernel
theorem d_Mo_readAny_182 : decode yMo_readAny.2.1 182 = .ok (.invokevirtual 256, 3) := by decide +kernel
theorem d_Mo_readAny_185 : decode yMo_readAny.2.1 185 = .ok (.iload_n 1, 1) := by decide +kernel
theorem d_Mo_readAny_186 : decode yMo_readAny.2.1 186 = .ok (.ifCond .ne 5, 3) := by decide +kernel
theorem d_Mo_readAny_189 : decode yMo_readAny.2.1 189 = .ok (.iconst 0, 1) := by decide +kernel
theorem d_Mo_readAny_190 : decode yMo_readAny.2.1 190 = .ok (.ireturn, 1) := by decide +kernel
theorem d_Mo_readAny_191 : decode yMo_readAny.2.1 191 = .ok (.aload_n 0, 1) := by decide +kernel
theorem d_Mo_readAny_192 : decode yMo_readAny.2.1 192 = .ok (.bipush 41, 2) := by decide +kernel
theorem d_Mo_readAny_194 : decode yMo_readAny.2.1 194 = .ok (.invokevirtual 232, 3) := by decide +kernel
theorem d_Mo_readAny_197 : decode yMo_readAny.2.1 197 = .ok (.ifCond .ne 9, 3) := by decide +kernel
theorem d_Mo_readAny_200 : decode yMo_readAny.2.1 200 = .ok (.aload_n 0, 1) := by decide +kernel
theorem d_Mo_readAny_201 : decode yMo_readAny.2.1 201 = .ok (.iconst 1, 1) := by decide +kernel
theorem d_Mo_readAny_202 : decode yMo_readAny.2.1 202 = .ok (.invokevirtual 218, 3) := by decide +kernel
theorem d_Mo_readAny_205 : decode yMo_readAny.2.1 205 = .ok (.ireturn, 1) := by decide +kernel
theorem d_Mo_readAny_206 : decode yMo_readAny.2.1 206 = .ok (.aload_n 0, 1) := by decide +kernel
theorem d_Mo_readAny_207 : decode yMo_readAny.2.1 207 = .ok (.aload_n 0, 1) := by decide +kernel
theorem d_Mo_readAny_208 : decode yMo_readAny.2.1 208 = .ok (.getfield 241, 3) := by decide +kernel
theorem d_Mo_readAny_211 : decode yMo_readAny.2.1 211 = .ok (.iconst 1, 1) := by decide +kernel
theorem d_Mo_readAny_212 : decode yMo_readAny.2.1 212 = .ok (.isub, 1) := by decide +kernel
theorem d_Mo_readAny_213 : decode yMo_readAny.2.1 213 = .ok (.putfield 241, 3) := by decide +kernel
theorem d_Mo_readAny_216 : decode yMo_readAny.2.1 216 = .ok (.iload_n 1, 1) := by decide +kernel
theorem d_Mo_readAny_217 : decode yMo_readAny.2.1 217 = .ok (.iconst 1, 1) := by decide +kernel
theorem d_Mo_readAny_218 : decode yMo_readAny.2.1 218 = .ok (.isub, 1) := by decide +kernel
theorem d_Mo_readAny_219 : decode yMo_readAny.2.1 219 = .ok (.istore_n 1, 1) := by decide +kernel
theorem d_Mo_readAny_220 : decode yMo_readAny.2.1 220 = .ok (.aload_n 0, 1) := by decide +kernel
theorem d_Mo_readAny_221 : decode yMo_readAny.2.1 221 = .ok (.aload_n 0, 1) := by decide +kernel
theorem d_Mo_readAny_222 : decode yMo_readAny.2.1 222 = .ok (.getfield 244, 3) := by decide +kernel
theorem d_Mo_readAny_225 : decode yMo_readAny.2.1 225 = .ok (.iconst 1, 1) := by decide +kernel
theorem d_Mo_readAny_226 : decode yMo_readAny.2.1 226 = .ok (.isub, 1) := by decide +kernel
theorem d_Mo_readAny_227 : decode yMo_readAny.2.1 227 = .ok (.putfield 244, 3) := by decide +kernel
theorem d_Mo_readAny_230 : decode yMo_readAny.2.1 230 = .ok (.aload_n 0, 1) := by decide +kernel
theorem d_Mo_readAny_231 : decode yMo_readAny.2.1 231 = .ok (.bipush 9, 2) := by decide +kernel
theorem d_Mo_readAny_233 : decode yMo_readAny.2.1 233 = .ok (.invokevirtual 256, 3) := by decide +kernel
theorem d_Mo_readAny_236 : decode yMo_readAny.2.1 236 = .ok (.aload_n 0, 1) := by decide +kernel
theorem d_Mo_readAny_237 : decode yMo_readAny.2.1 237 = .ok (.invokevirtual 225, 3) := by decide +kernel
theorem d_Mo_readAny_240 : decode yMo_readAny.2.1 240 = .ok (.goto (-231), 3) := by decide +kernel
def J_Mo_readAny_78 (k : Int32 → Int32 → gb_Mem → Option ((Unit) ⊕ (Int32 × gb_Mem))) (x1 x2 s0 : Int32) (I : gb_Mem) : Option ((Unit) ⊕ (Int32 × gb_Mem)) :=
  fbd (F_Mo_waits s0 I) fun I19 =>
  fbd (F_Mo_reads  I19) fun I20 =>
  k x1 x2 I20
set_option maxRecDepth 4000 in
theorem j_Mo_readAny_78 (l : Launch) (d0 : Nat) {post : Option gb_AV → List gb_Ce → gb_Mem → Prop} (k : Int32 → Int32 → gb_Mem → Option ((Unit) ⊕ (Int32 × gb_Mem))) (x1 x2 s0 : Int32) (I : gb_Mem) {ρ : (Unit) ⊕ (Int32 × gb_Mem)} (h : J_Mo_readAny_78 k x1 x2 s0 I = some ρ) (hk : ∀ (z1 z2 : Int32) (Iw : gb_Mem), k z1 z2 Iw = some ρ → gb_Go l yMo_readAny (d0 + 7) 0 0 9 [(0, .inr (some 0)), (1, .inl z1), (2, .inl z2)] [] shM Iw post) (hR : ∀ (v : Int32) (I3 : gb_Mem), ρ = .inr (v, I3) → post (some (.inl v)) shM I3) : gb_Go l yMo_readAny (d0 + 7) 0 0 78 [(0, .inr (some 0)), (1, .inl x1), (2, .inl x2)] [.inl s0, .inr (some 0)] shM I post := by
  unfold J_Mo_readAny_78 at h
  obtain ⟨I19, w1, h⟩ := fbd_e h
  refine go_callV (y := yMo_waits) (asr := [.inl s0]) (v := none) (I' := I19) (st1 := []) d_Mo_readAny_78 s_yMo_waits m_Mo_250 a_M_0 rfl rfl rfl (Nat.le_of_ble_eq_true rfl) rfl rfl (c_Mo_waits l (d0 + 6) s0 I w1) ?_
  refine go_aload_n (k := 0) d_Mo_readAny_81 rfl rfl ?_
  obtain ⟨I20, w1, h⟩ := fbd_e h
  refine go_callV (y := yMo_reads) (asr := []) (v := none) (I' := I20) (st1 := []) d_Mo_readAny_82 s_yMo_reads m_Mo_225 a_M_0 rfl rfl rfl (Nat.le_of_ble_eq_true rfl) rfl rfl (c_Mo_reads l (d0 + 4)  I19 w1) ?_
  refine go_goto (tgt := 9) d_Mo_readAny_85 (by decide) ?_
  exact go_lv [0, 1, 2] rfl (hk _ _ _ h)
def J_Mo_readAny_66 (k : Int32 → Int32 → gb_Mem → Option ((Unit) ⊕ (Int32 × gb_Mem))) (x1 x2 x3 : Int32) (I : gb_Mem) : Option ((Unit) ⊕ (Int32 × gb_Mem)) :=
  if x3 = 0 then
    J_Mo_readAny_78 k x1 x2 12 I
  else
    J_Mo_readAny_78 k x1 x2 9 I
set_option maxRecDepth 4000 in
theorem j_Mo_readAny_66 (l : Launch) (d0 : Nat) {post : Option gb_AV → List gb_Ce → gb_Mem → Prop} (k : Int32 → Int32 → gb_Mem → Option ((Unit) ⊕ (Int32 × gb_Mem))) (x1 x2 x3 : Int32) (I : gb_Mem) {ρ : (Unit) ⊕ (Int32 × gb_Mem)} (h : J_Mo_readAny_66 k x1 x2 x3 I = some ρ) (hk : ∀ (z1 z2 : Int32) (Iw : gb_Mem), k z1 z2 Iw = some ρ → gb_Go l yMo_readAny (d0 + 7) 0 0 9 [(0, .inr (some 0)), (1, .inl z1), (2, .inl z2)] [] shM Iw post) (hR : ∀ (v : Int32) (I3 : gb_Mem), ρ = .inr (v, I3) → post (some (.inl v)) shM I3) : gb_Go l yMo_readAny (d0 + 7) 0 0 66 [(0, .inr (some 0)), (1, .inl x1), (2, .inl x2), (3, .inl x3)] [] shM I post := by
  unfold J_Mo_readAny_66 at h
  refine go_aload_n (k := 0) d_Mo_readAny_66 rfl rfl ?_
  refine go_iload_n (k := 3) d_Mo_readAny_67 rfl rfl ?_
  refine go_if_eq (tgt := 76) d_Mo_readAny_68 (by decide) (fun hc => ?_) (fun hc => ?_)
  · rw [if_pos hc] at h
    refine go_bipush (v := 12) d_Mo_readAny_76 (by decide) ?_
    exact go_lv [0, 1, 2] rfl (j_Mo_readAny_78 l d0 k x1 x2 12 I h hk hR)
  · rw [if_neg hc] at h
    refine go_bipush (v := 9) d_Mo_readAny_71 (by decide) ?_
    refine go_goto (tgt := 78) d_Mo_readAny_73 (by decide) ?_
    exact go_lv [0, 1, 2] rfl (j_Mo_readAny_78 l d0 k x1 x2 9 I h hk hR)
def J_Mo_readAny_33 (k : Int32 → Int32 → gb_Mem → Option ((Unit) ⊕ (Int32 × gb_Mem))) (x1 x2 x3 : Int32) (I : gb_Mem) : Option ((Unit) ⊕ (Int32 × gb_Mem)) :=
  if (I 0 28) = 8 then
    fbd (F_Mo_errs 3 I) fun (r22, I21) =>
    some (.inr (r22, I21))
  else
    fstf I 0 28 ((I 0 28) + 1) fun I18 =>
    if x3 = 0 then
      J_Mo_readAny_66 k (x1 + 1) x2 x3 I18
    else
      J_Mo_readAny_66 k x1 x2 x3 I18
set_option maxRecDepth 4000 in
theorem j_Mo_readAny_33 (l : Launch) (d0 : Nat) {post : Option gb_AV → List gb_Ce → gb_Mem → Prop} (k : Int32 → Int32 → gb_Mem → Option ((Unit) ⊕ (Int32 × gb_Mem))) (x1 x2 x3 : Int32) (I : gb_Mem) {ρ : (Unit) ⊕ (Int32 × gb_Mem)} (h : J_Mo_readAny_33 k x1 x2 x3 I = some ρ) (hk : ∀ (z1 z2 : Int32) (Iw : gb_Mem), k z1 z2 Iw = some ρ → gb_Go l yMo_readAny (d0 + 7) 0 0 9 [(0, .inr (some 0)), (1, .inl z1), (2, .inl z2)] [] shM Iw post) (hR : ∀ (v : Int32) (I3 : gb_Mem), ρ = .inr (v, I3) → post (some (.inl v)) shM I3) : gb_Go l yMo_readAny (d0 + 7) 0 0 33 [(0, .inr (some 0)), (1, .inl x1), (2, .inl x2), (3, .inl x3)] [] shM I post := by
  unfold J_Mo_readAny_33 at h
  refine go_aload_n (k := 0) d_Mo_readAny_33 rfl rfl ?_
  refine go_geti (ci := 10) (k := 28) d_Mo_readAny_34 a_M_0 rfl (by decide) f_Mo_244 rfl ?_
  refine go_bipush (v := 8) d_Mo_readAny_37 (by decide) ?_
  refine go_cmp_ne (tgt := 48) d_Mo_readAny_39 (by decide) (fun hc => ?_) (fun hc => ?_)
  · rw [if_neg hc] at h
    refine go_aload_n (k := 0) d_Mo_readAny_48 rfl rfl ?_
    refine go_aload_n (k := 0) d_Mo_readAny_49 rfl rfl ?_
    refine go_geti (ci := 10) (k := 28) d_Mo_readAny_50 a_M_0 rfl (by decide) f_Mo_244 rfl ?_
    refine go_iconst (v := 1) d_Mo_readAny_53 (by decide) ?_
    refine go_iadd d_Mo_readAny_54 ?_
    obtain ⟨I18, eI18, h⟩ := fstf_e h
    refine go_putT (ci := 10) (k := 28) (I' := I18) d_Mo_readAny_55 a_M_0 rfl (by decide) f_Mo_244 rfl rfl rfl rfl rfl eI18 ?_
    refine go_iload_n (k := 3) d_Mo_readAny_58 rfl rfl ?_
    refine go_if_ne (tgt := 66) d_Mo_readAny_59 (by decide) (fun hc => ?_) (fun hc => ?_)
    · rw [if_neg hc] at h
      exact go_lv [0, 1, 2, 3] rfl (j_Mo_readAny_66 l d0 k x1 x2 x3 I18 h hk hR)
    · rw [if_pos hc] at h
      refine go_iload_n (k := 1) d_Mo_readAny_62 rfl rfl ?_
      refine go_iconst (v := 1) d_Mo_readAny_63 (by decide) ?_
      refine go_iadd d_Mo_readAny_64 ?_
      refine go_istore_n (lv' := [(1, .inl (x1 + 1)), (0, .inr (some 0)), (2, .inl x2), (3, .inl x3)]) d_Mo_readAny_65 rfl (by decide) rfl ?_
      exact go_lv [1, 0, 2, 3] rfl (j_Mo_readAny_66 l d0 k (x1 + 1) x2 x3 I18 h hk hR)
  · rw [if_pos hc] at h
    refine go_aload_n (k := 0) d_Mo_readAny_42 rfl rfl ?_
    refine go_iconst (v := 3) d_Mo_readAny_43 (by decide) ?_
    obtain ⟨⟨r22, I21⟩, w1, h⟩ := fbd_e h
    try dsimp only at h
    refine go_callV (y := yMo_errs) (asr := [.inl 3]) (v := some (.inl r22)) (I' := I21) (st1 := [.inl r22]) d_Mo_readAny_44 s_yMo_errs m_Mo_218 a_M_0 rfl rfl rfl (Nat.le_of_ble_eq_true rfl) rfl rfl (c_Mo_errs l (d0 + 6) 3 I w1) ?_
    exact go_ireturn d_Mo_readAny_47 rfl (hR _ _ (Option.some.inj h).symm)
def L_Mo_readAny_9 : Nat → Int32 → Int32 → gb_Mem → Option ((Unit) ⊕ (Int32 × gb_Mem))
  | 0, _, _, _ => none
  | n + 1, x1, x2, I =>
    if x2 = 0 then
      if (F_Mo_isWord 5 I) = 0 then
        if (F_Mo_isWord 4 I) = 0 then
          fbd (F_Mo_settles 10 I) fun I2 =>
          fbd (F_Mo_settles 11 I2) fun I3 =>
          if x1 = 0 then
            some (.inr (0, I3))
          else
            if (F_Mo_isSign 41 I3) = 0 then
              fbd (F_Mo_errs 1 I3) fun (r9, I8) =>
              some (.inr (r9, I8))
            else
              fstf I3 0 30 ((I3 0 30) - 1) fun I4 =>
              fstf I4 0 28 ((I4 0 28) - 1) fun I5 =>
              fbd (F_Mo_settles 9 I5) fun I6 =>
              fbd (F_Mo_reads  I6) fun I7 =>
              L_Mo_readAny_9 n (x1 - 1) x2 I7
        else
          fbd (F_Mo_settles 10 I) fun I10 =>
          fbd (F_Mo_settles 11 I10) fun I11 =>
          fbd (F_Mo_waits 11 I11) fun I12 =>
          fbd (F_Mo_reads  I12) fun I13 =>
          L_Mo_readAny_9 n x1 1 I13
      else
        fbd (F_Mo_settles 10 I) fun I14 =>
        fbd (F_Mo_waits 10 I14) fun I15 =>
        fbd (F_Mo_reads  I15) fun I16 =>
        L_Mo_readAny_9 n x1 1 I16
    else
      flt (F_Mo_isWord 6 I) fun y17 =>
      if y17 = 0 then
        if (F_Mo_isSign 40 I) = 0 then
          fbd (F_Mo_readCompared  I) fun (r24, I23) =>
          if r24 = (-1) then
            some (.inr ((-1), I23))
          else
            fbd (F_Mo_settles 9 I23) fun I25 =>
            L_Mo_readAny_9 n x1 0 I25
        else
          J_Mo_readAny_33 (L_Mo_readAny_9 n) x1 x2 y17 I
      else
        J_Mo_readAny_33 (L_Mo_readAny_9 n) x1 x2 y17 I
set_option maxRecDepth 4000 in
theorem l_Mo_readAny_9 (l : Launch) (d0 : Nat) {post : Option gb_AV → List gb_Ce → gb_Mem → Prop} : ∀ (n : Nat) (x1 x2 : Int32) (I : gb_Mem) {ρ : (Unit) ⊕ (Int32 × gb_Mem)} (h : L_Mo_readAny_9 n x1 x2 I = some ρ) (hR : ∀ (v : Int32) (I3 : gb_Mem), ρ = .inr (v, I3) → post (some (.inl v)) shM I3) , gb_Go l yMo_readAny (d0 + 7) 0 0 9 [(0, .inr (some 0)), (1, .inl x1), (2, .inl x2)] [] shM I post := by
  intro n
  induction n with
  | zero => intro x1 x2 I ρ h hR; cases h
  | succ n ih =>
    intro x1 x2 I ρ h hR
    rw [L_Mo_readAny_9] at h
    refine go_iload_n (k := 2) d_Mo_readAny_9 rfl rfl ?_
    refine go_if_eq (tgt := 109) d_Mo_readAny_10 (by decide) (fun hc => ?_) (fun hc => ?_)
    · rw [if_pos hc] at h
      refine go_aload_n (k := 0) d_Mo_readAny_109 rfl rfl ?_
      refine go_iconst (v := 5) d_Mo_readAny_110 (by decide) ?_
      refine go_callV (y := yMo_isWord) (asr := [.inl 5]) (v := some (.inl (F_Mo_isWord 5 I))) (I' := I) (st1 := [.inl (F_Mo_isWord 5 I)]) d_Mo_readAny_111 s_yMo_isWord m_Mo_247 a_M_0 rfl rfl rfl (Nat.le_of_ble_eq_true rfl) rfl rfl (c_Mo_isWord l (d0 + 6) 5 I) ?_
      refine go_if_eq (tgt := 138) d_Mo_readAny_114 (by decide) (fun hc => ?_) (fun hc => ?_)
      · rw [if_pos hc] at h
        refine go_aload_n (k := 0) d_Mo_readAny_138 rfl rfl ?_
        refine go_iconst (v := 4) d_Mo_readAny_139 (by decide) ?_
        refine go_callV (y := yMo_isWord) (asr := [.inl 4]) (v := some (.inl (F_Mo_isWord 4 I))) (I' := I) (st1 := [.inl (F_Mo_isWord 4 I)]) d_Mo_readAny_140 s_yMo_isWord m_Mo_247 a_M_0 rfl rfl rfl (Nat.le_of_ble_eq_true rfl) rfl rfl (c_Mo_isWord l (d0 + 6) 4 I) ?_
        refine go_if_eq (tgt := 173) d_Mo_readAny_143 (by decide) (fun hc => ?_) (fun hc => ?_)
        · rw [if_pos hc] at h
          refine go_aload_n (k := 0) d_Mo_readAny_173 rfl rfl ?_
          refine go_bipush (v := 10) d_Mo_readAny_174 (by decide) ?_
          obtain ⟨I2, w1, h⟩ := fbd_e h
          refine go_callV (y := yMo_settles) (asr := [.inl 10]) (v := none) (I' := I2) (st1 := []) d_Mo_readAny_176 s_yMo_settles m_Mo_256 a_M_0 rfl rfl rfl (Nat.le_of_ble_eq_true rfl) rfl rfl (c_Mo_settles l (d0 + 5) 10 I w1) ?_
          refine go_aload_n (k := 0) d_Mo_readAny_179 rfl rfl ?_
          refine go_bipush (v := 11) d_Mo_readAny_180 (by decide) ?_
          obtain ⟨I3, w1, h⟩ := fbd_e h
          refine go_callV (y := yMo_settles) (asr := [.inl 11]) (v := none) (I' := I3) (st1 := []) d_Mo_readAny_182 s_yMo_settles m_Mo_256 a_M_0 rfl rfl rfl (Nat.le_of_ble_eq_true rfl) rfl rfl (c_Mo_settles l (d0 + 5) 11 I2 w1) ?_
          refine go_iload_n (k := 1) d_Mo_readAny_185 rfl rfl ?_
          refine go_if_ne (tgt := 191) d_Mo_readAny_186 (by decide) (fun hc => ?_) (fun hc => ?_)
          · rw [if_neg hc] at h
            refine go_aload_n (k := 0) d_Mo_readAny_191 rfl rfl ?_
            refine go_bipush (v := 41) d_Mo_readAny_192 (by decide) ?_
            refine go_callV (y := yMo_isSign) (asr := [.inl 41]) (v := some (.inl (F_Mo_isSign 41 I3))) (I' := I3) (st1 := [.inl (F_Mo_isSign 41 I3)]) d_Mo_readAny_194 s_yMo_isSign m_Mo_232 a_M_0 rfl rfl rfl (Nat.le_of_ble_eq_true rfl) rfl rfl (c_Mo_isSign l (d0 + 6) 41 I3) ?_
            refine go_if_ne (tgt := 206) d_Mo_readAny_197 (by decide) (fun hc => ?_) (fun hc => ?_)
            · rw [if_neg hc] at h
              refine go_aload_n (k := 0) d_Mo_readAny_206 rfl rfl ?_
              refine go_aload_n (k := 0) d_Mo_readAny_207 rfl rfl ?_
              refine go_geti (ci := 10) (k := 30) d_Mo_readAny_208 a_M_0 rfl (by decide) f_Mo_241 rfl ?_
              refine go_iconst (v := 1) d_Mo_readAny_211 (by decide) ?_
              refine go_isub d_Mo_readAny_212 ?_
              obtain ⟨I4, eI4, h⟩ := fstf_e h
              refine go_putT (ci := 10) (k := 30) (I' := I4) d_Mo_readAny_213 a_M_0 rfl (by decide) f_Mo_241 rfl rfl rfl rfl rfl eI4 ?_
              refine go_iload_n (k := 1) d_Mo_readAny_216 rfl rfl ?_
              refine go_iconst (v := 1) d_Mo_readAny_217 (by decide) ?_
              refine go_isub d_Mo_readAny_218 ?_
              refine go_istore_n (lv' := [(1, .inl (x1 - 1)), (0, .inr (some 0)), (2, .inl x2)]) d_Mo_readAny_219 rfl (by decide) rfl ?_
              refine go_aload_n (k := 1) d_Mo_readAny_220 rfl rfl ?_
              refine go_aload_n (k := 1) d_Mo_readAny_221 rfl rfl ?_
              refine go_geti (ci := 10) (k := 28) d_Mo_readAny_222 a_M_0 rfl (by decide) f_Mo_244 rfl ?_
              refine go_iconst (v := 1) d_Mo_readAny_225 (by decide) ?_
              refine go_isub d_Mo_readAny_226 ?_
              obtain ⟨I5, eI5, h⟩ := fstf_e h
              refine go_putT (ci := 10) (k := 28) (I' := I5) d_Mo_readAny_227 a_M_0 rfl (by decide) f_Mo_244 rfl rfl rfl rfl rfl eI5 ?_
              refine go_aload_n (k := 1) d_Mo_readAny_230 rfl rfl ?_
              refine go_bipush (v := 9) d_Mo_readAny_231 (by decide) ?_
              obtain ⟨I6, w1, h⟩ := fbd_e h
              refine go_callV (y := yMo_settles) (asr := [.inl 9]) (v := none) (I' := I6) (st1 := []) d_Mo_readAny_233 s_yMo_settles m_Mo_256 a_M_0 rfl rfl rfl (Nat.le_of_ble_eq_true rfl) rfl rfl (c_Mo_settles l (d0 + 5) 9 I5 w1) ?_
              refine go_aload_n (k := 1) d_Mo_readAny_236 rfl rfl ?_
              obtain ⟨I7, w1, h⟩ := fbd_e h
              refine go_callV (y := yMo_reads) (asr := []) (v := none) (I' := I7) (st1 := []) d_Mo_readAny_237 s_yMo_reads m_Mo_225 a_M_0 rfl rfl rfl (Nat.le_of_ble_eq_true rfl) rfl rfl (c_Mo_reads l (d0 + 4)  I6 w1) ?_
              refine go_goto (tgt := 9) d_Mo_readAny_240 (by decide) ?_
              exact go_lv [1, 0, 2] rfl (ih (x1 - 1) x2 I7 h hR)
            · rw [if_pos hc] at h
              refine go_aload_n (k := 0) d_Mo_readAny_200 rfl rfl ?_
              refine go_iconst (v := 1) d_Mo_readAny_201 (by decide) ?_
              obtain ⟨⟨r9, I8⟩, w1, h⟩ := fbd_e h
              try dsimp only at h
              refine go_callV (y := yMo_errs) (asr := [.inl 1]) (v := some (.inl r9)) (I' := I8) (st1 := [.inl r9]) d_Mo_readAny_202 s_yMo_errs m_Mo_218 a_M_0 rfl rfl rfl (Nat.le_of_ble_eq_true rfl) rfl rfl (c_Mo_errs l (d0 + 6) 1 I3 w1) ?_
              exact go_ireturn d_Mo_readAny_205 rfl (hR _ _ (Option.some.inj h).symm)
          · rw [if_pos hc] at h
            refine go_iconst (v := 0) d_Mo_readAny_189 (by decide) ?_
            exact go_ireturn d_Mo_readAny_190 rfl (hR _ _ (Option.some.inj h).symm)
        · rw [if_neg hc] at h
          refine go_aload_n (k := 0) d_Mo_readAny_146 rfl rfl ?_
          refine go_bipush (v := 10) d_Mo_readAny_147 (by decide) ?_
          obtain ⟨I10, w1, h⟩ := fbd_e h
          refine go_callV (y := yMo_settles) (asr := [.inl 10]) (v := none) (I' := I10) (st1 := []) d_Mo_readAny_149 s_yMo_settles m_Mo_256 a_M_0 rfl rfl rfl (Nat.le_of_ble_eq_true rfl) rfl rfl (c_Mo_settles l (d0 + 5) 10 I w1) ?_
          refine go_aload_n (k := 0) d_Mo_readAny_152 rfl rfl ?_
          refine go_bipush (v := 11) d_Mo_readAny_153 (by decide) ?_
          obtain ⟨I11, w1, h⟩ := fbd_e h
          refine go_callV (y := yMo_settles) (asr := [.inl 11]) (v := none) (I' := I11) (st1 := []) d_Mo_readAny_155 s_yMo_settles m_Mo_256 a_M_0 rfl rfl rfl (Nat.le_of_ble_eq_true rfl) rfl rfl (c_Mo_settles l (d0 + 5) 11 I10 w1) ?_
          refine go_aload_n (k := 0) d_Mo_readAny_158 rfl rfl ?_
          refine go_bipush (v := 11) d_Mo_readAny_159 (by decide) ?_
          obtain ⟨I12, w1, h⟩ := fbd_e h
          refine go_callV (y := yMo_waits) (asr := [.inl 11]) (v := none) (I' := I12) (st1 := []) d_Mo_readAny_161 s_yMo_waits m_Mo_250 a_M_0 rfl rfl rfl (Nat.le_of_ble_eq_true rfl) rfl rfl (c_Mo_waits l (d0 + 6) 11 I11 w1) ?_
          refine go_aload_n (k := 0) d_Mo_readAny_164 rfl rfl ?_
          obtain ⟨I13, w1, h⟩ := fbd_e h
          refine go_callV (y := yMo_reads) (asr := []) (v := none) (I' := I13) (st1 := []) d_Mo_readAny_165 s_yMo_reads m_Mo_225 a_M_0 rfl rfl rfl (Nat.le_of_ble_eq_true rfl) rfl rfl (c_Mo_reads l (d0 + 4)  I12 w1) ?_
          refine go_iconst (v := 1) d_Mo_readAny_168 (by decide) ?_
          refine go_istore_n (lv' := [(2, .inl 1), (0, .inr (some 0)), (1, .inl x1)]) d_Mo_readAny_169 rfl (by decide) rfl ?_
          refine go_goto (tgt := 9) d_Mo_readAny_170 (by decide) ?_
          exact go_lv [1, 2, 0] rfl (ih x1 1 I13 h hR)
      · rw [if_neg hc] at h
        refine go_aload_n (k := 0) d_Mo_readAny_117 rfl rfl ?_
        refine go_bipush (v := 10) d_Mo_readAny_118 (by decide) ?_
        obtain ⟨I14, w1, h⟩ := fbd_e h
        refine go_callV (y := yMo_settles) (asr := [.inl 10]) (v := none) (I' := I14) (st1 := []) d_Mo_readAny_120 s_yMo_settles m_Mo_256 a_M_0 rfl rfl rfl (Nat.le_of_ble_eq_true rfl) rfl rfl (c_Mo_settles l (d0 + 5) 10 I w1) ?_
        refine go_aload_n (k := 0) d_Mo_readAny_123 rfl rfl ?_
        refine go_bipush (v := 10) d_Mo_readAny_124 (by decide) ?_
        obtain ⟨I15, w1, h⟩ := fbd_e h
        refine go_callV (y := yMo_waits) (asr := [.inl 10]) (v := none) (I' := I15) (st1 := []) d_Mo_readAny_126 s_yMo_waits m_Mo_250 a_M_0 rfl rfl rfl (Nat.le_of_ble_eq_true rfl) rfl rfl (c_Mo_waits l (d0 + 6) 10 I14 w1) ?_
        refine go_aload_n (k := 0) d_Mo_readAny_129 rfl rfl ?_
        obtain ⟨I16, w1, h⟩ := fbd_e h
        refine go_callV (y := yMo_reads) (asr := []) (v := none) (I' := I16) (st1 := []) d_Mo_readAny_130 s_yMo_reads m_Mo_225 a_M_0 rfl rfl rfl (Nat.le_of_ble_eq_true rfl) rfl rfl (c_Mo_reads l (d0 + 4)  I15 w1) ?_
        refine go_iconst (v := 1) d_Mo_readAny_133 (by decide) ?_
        refine go_istore_n (lv' := [(2, .inl 1), (0, .inr (some 0)), (1, .inl x1)]) d_Mo_readAny_134 rfl (by decide) rfl ?_
        refine go_goto (tgt := 9) d_Mo_readAny_135 (by decide) ?_
        exact go_lv [1, 2, 0] rfl (ih x1 1 I16 h hR)
    · rw [if_neg hc] at h
      refine go_aload_n (k := 0) d_Mo_readAny_13 rfl rfl ?_
      refine go_bipush (v := 6) d_Mo_readAny_14 (by decide) ?_
      refine go_callV (y := yMo_isWord) (asr := [.inl 6]) (v := some (.inl (F_Mo_isWord 6 I))) (I' := I) (st1 := [.inl (F_Mo_isWord 6 I)]) d_Mo_readAny_16 s_yMo_isWord m_Mo_247 a_M_0 rfl rfl rfl (Nat.le_of_ble_eq_true rfl) rfl rfl (c_Mo_isWord l (d0 + 6) 6 I) ?_
      obtain ⟨y17, ey17, h⟩ := flt_e h
      refine go_top ey17 ?_
      refine go_istore_n (lv' := [(3, .inl y17), (0, .inr (some 0)), (1, .inl x1), (2, .inl x2)]) d_Mo_readAny_19 rfl (by decide) rfl ?_
      refine go_iload_n (k := 0) d_Mo_readAny_20 rfl rfl ?_
      refine go_if_ne (tgt := 33) d_Mo_readAny_21 (by decide) (fun hc => ?_) (fun hc => ?_)
      · rw [if_neg hc] at h
        exact go_lv [1, 2, 3, 0] rfl (j_Mo_readAny_33 l d0 (L_Mo_readAny_9 n) x1 x2 y17 I h (fun z1 z2 Iw hh => ih z1 z2 Iw hh hR) hR)
      · rw [if_pos hc] at h
        refine go_aload_n (k := 1) d_Mo_readAny_24 rfl rfl ?_
        refine go_bipush (v := 40) d_Mo_readAny_25 (by decide) ?_
        refine go_callV (y := yMo_isSign) (asr := [.inl 40]) (v := some (.inl (F_Mo_isSign 40 I))) (I' := I) (st1 := [.inl (F_Mo_isSign 40 I)]) d_Mo_readAny_27 s_yMo_isSign m_Mo_232 a_M_0 rfl rfl rfl (Nat.le_of_ble_eq_true rfl) rfl rfl (c_Mo_isSign l (d0 + 6) 40 I) ?_
        refine go_if_eq (tgt := 88) d_Mo_readAny_30 (by decide) (fun hc => ?_) (fun hc => ?_)
        · rw [if_pos hc] at h
          refine go_aload_n (k := 1) d_Mo_readAny_88 rfl rfl ?_
          obtain ⟨⟨r24, I23⟩, w1, h⟩ := fbd_e h
          try dsimp only at h
          refine go_callV (y := yMo_readCompared) (asr := []) (v := some (.inl r24)) (I' := I23) (st1 := [.inl r24]) d_Mo_readAny_89 s_yMo_readCompared m_Mo_253 a_M_0 rfl rfl rfl (Nat.le_of_ble_eq_true rfl) rfl rfl (c_Mo_readCompared l (d0 + 0)  I w1) ?_
          refine go_iconst (v := (-1)) d_Mo_readAny_92 (by decide) ?_
          refine go_cmp_ne (tgt := 98) d_Mo_readAny_93 (by decide) (fun hc => ?_) (fun hc => ?_)
          · rw [if_neg hc] at h
            refine go_aload_n (k := 1) d_Mo_readAny_98 rfl rfl ?_
            refine go_bipush (v := 9) d_Mo_readAny_99 (by decide) ?_
            obtain ⟨I25, w1, h⟩ := fbd_e h
            refine go_callV (y := yMo_settles) (asr := [.inl 9]) (v := none) (I' := I25) (st1 := []) d_Mo_readAny_101 s_yMo_settles m_Mo_256 a_M_0 rfl rfl rfl (Nat.le_of_ble_eq_true rfl) rfl rfl (c_Mo_settles l (d0 + 5) 9 I23 w1) ?_
            refine go_iconst (v := 0) d_Mo_readAny_104 (by decide) ?_
            refine go_istore_n (lv' := [(2, .inl 0), (3, .inl y17), (0, .inr (some 0)), (1, .inl x1)]) d_Mo_readAny_105 rfl (by decide) rfl ?_
            refine go_goto (tgt := 9) d_Mo_readAny_106 (by decide) ?_
            exact go_lv [2, 3, 0] rfl (ih x1 0 I25 h hR)
          · rw [if_pos hc] at h
            refine go_iconst (v := (-1)) d_Mo_readAny_96 (by decide) ?_
            exact go_ireturn d_Mo_readAny_97 rfl (hR _ _ (Option.some.inj h).symm)
        · rw [if_neg hc] at h
          exact go_lv [1, 2, 3, 0] rfl (j_Mo_readAny_33 l d0 (L_Mo_readAny_9 n) x1 x2 y17 I h (fun z1 z2 Iw hh => ih z1 z2 Iw hh hR) hR)
def F_Mo_readAny (I : gb_Mem) : Option (Int32 × gb_Mem) :=
  fstf I 0 30 0 fun I1 =>
  fbr (L_Mo_readAny_9 5000 0 1 I1) (fun _ =>
    none)
    (fun (q27, I28) => some (q27, I28))
set_option maxRecDepth 4000 in
theorem c_Mo_readAny (l : Launch) (d0 : Nat) (I : gb_Mem) {rz : Int32} {Iz : gb_Mem} (h : F_Mo_readAny I = some (rz, Iz)) : gb_Cs l yMo_readAny (d0 + 7) [.inr (some 0)] shM I (some (.inl rz)) Iz := by
  refine gb_Ct.of (lv := [(0, .inr (some 0))]) rfl (Nat.le_of_ble_eq_true rfl) rfl ?_
  unfold F_Mo_readAny at h
  show gb_Go l yMo_readAny (d0 + 7) 0 0 0 [(0, .inr (some 0))] [] shM I (gb_po shM (some (.inl rz)) Iz)
  refine go_iconst (v := 0) d_Mo_readAny_0 (by decide) ?_
  refine go_istore_n (lv' := [(1, .inl 0), (0, .inr (some 0))]) d_Mo_readAny_1 rfl (by decide) rfl ?_
  refine go_aload_n (k := 1) d_Mo_readAny_2 rfl rfl ?_
  refine go_iconst (v := 0) d_Mo_readAny_3 (by decide) ?_
  obtain ⟨I1, eI1, h⟩ := fstf_e h
  refine go_putT (ci := 10) (k := 30) (I' := I1) d_Mo_readAny_4 a_M_0 rfl (by decide) f_Mo_241 rfl rfl rfl rfl rfl eI1 ?_
  refine go_iconst (v := 1) d_Mo_readAny_7 (by decide) ?_
  refine go_istore_n (lv' := [(2, .inl 1), (1, .inl 0), (0, .inr (some 0))]) d_Mo_readAny_8 rfl (by decide) rfl ?_
  refine go_lv [2, 1, 0] (lv' := [(0, .inr (some 0)), (1, .inl 0), (2, .inl 1)]) rfl ?_
  obtain ⟨ρ, w1, w2, w3⟩ := fbr_e2 h
  refine l_Mo_readAny_9 l d0  5000 0 1 I1 w1 (fun q27 I28 e => ?_)
  · have h := w3 _ e
    try dsimp only at h
    cases h
    exact gb_po_i
theorem d_Mo_brings_0 : decode yMo_brings.2.1 0 = .ok (.aload_n 0, 1) := by decide +kernel
theorem d_Mo_brings_1 : decode yMo_brings.2.1 1 = .ok (.iconst 0, 1) := by decide +kernel
theorem d_Mo_brings_2 : decode yMo_brings.2.1 2 = .ok (.putfield 137, 3) := by decide +kernel
theorem d_Mo_brings_5 : decode yMo_brings.2.1 5 = .ok (.aload_n 0, 1) := by decide +kernel
theorem d_Mo_brings_6 : decode yMo_brings.2.1 6 = .ok (.iload_n 1, 1) := by decide +kernel
theorem d_Mo_brings_7 : decode yMo_brings.2.1 7 = .ok (.invokevirtual 165, 3) := by decide +kernel
theorem d_Mo_brings_10 : decode yMo_brings.2.1 10 = .ok (.ifCond .eq 13, 3) := by decide +kernel
theorem d_Mo_brings_13 : decode yMo_brings.2.1 13 = .ok (.aload_n 0, 1) := by decide +kernel
theorem d_Mo_brings_14 : decode yMo_brings.2.1 14 = .ok (.iload_n 2, 1) := by decide +kernel
theorem d_Mo_brings_15 : decode yMo_brings.2.1 15 = .ok (.iconst 0, 1) := by decide +kernel
theorem d_Mo_brings_16 : decode yMo_brings.2.1 16 = .ok (.iconst 1, 1) := by decide +kernel
theorem d_Mo_brings_17 : decode yMo_brings.2.1 17 = .ok (.invokevirtual 157, 3) := by decide +kernel
theorem d_Mo_brings_20 : decode yMo_brings.2.1 20 = .ok (.ifCond .ne 5, 3) := by decide +kernel
theorem d_Mo_brings_23 : decode yMo_brings.2.1 23 = .ok (.iconst (-1), 1) := by decide +kernel
theorem d_Mo_brings_24 : decode yMo_brings.2.1 24 = .ok (.ireturn, 1) := by decide +kernel
theorem d_Mo_brings_25 : decode yMo_brings.2.1 25 = .ok (.aload_n 0, 1) := by decide +kernel
theorem d_Mo_brings_26 : decode yMo_brings.2.1 26 = .ok (.invokevirtual 413, 3) := by decide +kernel
theorem d_Mo_brings_29 : decode yMo_brings.2.1 29 = .ok (.iconst (-1), 1) := by decide +kernel
theorem d_Mo_brings_30 : decode yMo_brings.2.1 30 = .ok (.istore_n 3, 1) := by decide +kernel
theorem d_Mo_brings_31 : decode yMo_brings.2.1 31 = .ok (.iconst 0, 1) := by decide +kernel
theorem d_Mo_brings_32 : decode yMo_brings.2.1 32 = .ok (.istore 4, 2) := by decide +kernel
theorem d_Mo_brings_34 : decode yMo_brings.2.1 34 = .ok (.iload_n 3, 1) := by decide +kernel
theorem d_Mo_brings_35 : decode yMo_brings.2.1 35 = .ok (.iconst (-1), 1) := by decide +kernel
theorem d_Mo_brings_36 : decode yMo_brings.2.1 36 = .ok (.if_icmp .ne 25, 3) := by decide +kernel
theorem d_Mo_brings_39 : decode yMo_brings.2.1 39 = .ok (.iload 4, 2) := by decide +kernel
theorem d_Mo_brings_41 : decode yMo_brings.2.1 41 = .ok (.bipush 60, 2) := by decide +kernel
theorem d_Mo_brings_43 : decode yMo_brings.2.1 43 = .ok (.if_icmp .ge 18, 3) := by decide +kernel
theorem d_Mo_brings_46 : decode yMo_brings.2.1 46 = .ok (.aload_n 0, 1) := by decide +kernel
theorem d_Mo_brings_47 : decode yMo_brings.2.1 47 = .ok (.iload_n 1, 1) := by decide +kernel
theorem d_Mo_brings_48 : decode yMo_brings.2.1 48 = .ok (.invokevirtual 422, 3) := by decide +kernel
theorem d_Mo_brings_51 : decode yMo_brings.2.1 51 = .ok (.istore_n 3, 1) := by decide +kernel
theorem d_Mo_brings_52 : decode yMo_brings.2.1 52 = .ok (.iload 4, 2) := by decide +kernel
theorem d_Mo_brings_54 : decode yMo_brings.2.1 54 = .ok (.iconst 1, 1) := by decide +kernel
theorem d_Mo_brings_55 : decode yMo_brings.2.1 55 = .ok (.iadd, 1) := by decide +kernel
theorem d_Mo_brings_56 : decode yMo_brings.2.1 56 = .ok (.istore 4, 2) := by decide +kernel
theorem d_Mo_brings_58 : decode yMo_brings.2.1 58 = .ok (.goto (-24), 3) := by decide +kernel
theorem d_Mo_brings_61 : decode yMo_brings.2.1 61 = .ok (.aload_n 0, 1) := by decide +kernel
theorem d_Mo_brings_62 : decode yMo_brings.2.1 62 = .ok (.invokevirtual 419, 3) := by decide +kernel
theorem d_Mo_brings_65 : decode yMo_brings.2.1 65 = .ok (.iload_n 3, 1) := by decide +kernel
theorem d_Mo_brings_66 : decode yMo_brings.2.1 66 = .ok (.iconst (-1), 1) := by decide +kernel
theorem d_Mo_brings_67 : decode yMo_brings.2.1 67 = .ok (.if_icmp .eq 7, 3) := by decide +kernel
theorem d_Mo_brings_70 : decode yMo_brings.2.1 70 = .ok (.iload_n 2, 1) := by decide +kernel
theorem d_Mo_brings_71 : decode yMo_brings.2.1 71 = .ok (.ifCond .ne 7, 3) := by decide +kernel
theorem d_Mo_brings_74 : decode yMo_brings.2.1 74 = .ok (.iload_n 3, 1) := by decide +kernel
theorem d_Mo_brings_75 : decode yMo_brings.2.1 75 = .ok (.goto 5, 3) := by decide +kernel
theorem d_Mo_brings_78 : decode yMo_brings.2.1 78 = .ok (.iload 4, 2) := by decide +kernel
theorem d_Mo_brings_80 : decode yMo_brings.2.1 80 = .ok (.ireturn, 1) := by decide +kernel
def L_Mo_brings_34 (x1 x2 : Int32) : Nat → Int32 → Int32 → gb_Mem → Option (Int32 × Int32 × gb_Mem)
  | 0, _, _, _ => none
  | n + 1, x3, x4, I =>
    if x3 = (-1) then
      if 60 ≤ x4 then
        some (x3, x4, I)
      else
        fbd (F_Mo_landsIn x1 I) fun (r4, I3) =>
        L_Mo_brings_34 x1 x2 n r4 (x4 + 1) I3
    else
      some (x3, x4, I)
set_option maxRecDepth 4000 in
theorem l_Mo_brings_34 (l : Launch) (d0 : Nat) (x1 x2 : Int32) {post : Option gb_AV → List gb_Ce → gb_Mem → Prop} : ∀ (n : Nat) (x3 x4 : Int32) (I : gb_Mem) {ρ : Int32 × Int32 × gb_Mem} (h : L_Mo_brings_34 x1 x2 n x3 x4 I = some ρ) (hX : ∀ (o3 : Int32) (o4 : Int32) (I2 : gb_Mem), ρ = (o3, o4, I2) → gb_Go l yMo_brings (d0 + 8) 0 0 61 [(0, .inr (some 0)), (2, .inl x2), (3, .inl o3), (4, .inl o4)] [] shM I2 post) , gb_Go l yMo_brings (d0 + 8) 0 0 34 [(0, .inr (some 0)), (1, .inl x1), (2, .inl x2), (3, .inl x3), (4, .inl x4)] [] shM I post := by
  intro n
  induction n with
  | zero => intro x3 x4 I ρ h hX; cases h
  | succ n ih =>
    intro x3 x4 I ρ h hX
    rw [L_Mo_brings_34] at h
    refine go_iload_n (k := 3) d_Mo_brings_34 rfl rfl ?_
    refine go_iconst (v := (-1)) d_Mo_brings_35 (by decide) ?_
    refine go_cmp_ne (tgt := 61) d_Mo_brings_36 (by decide) (fun hc => ?_) (fun hc => ?_)
    · rw [if_neg hc] at h
      exact go_lv [0, 2, 3, 4] rfl (hX _ _ _ (Option.some.inj h).symm)
    · rw [if_pos hc] at h
      refine go_iload (k := 4) d_Mo_brings_39 rfl ?_
      refine go_bipush (v := 60) d_Mo_brings_41 (by decide) ?_
      refine go_cmp_ge (tgt := 61) d_Mo_brings_43 (by decide) (fun hc => ?_) (fun hc => ?_)
      · rw [if_pos hc] at h
        exact go_lv [0, 2, 3, 4] rfl (hX _ _ _ (Option.some.inj h).symm)
      · rw [if_neg hc] at h
        refine go_aload_n (k := 0) d_Mo_brings_46 rfl rfl ?_
        refine go_iload_n (k := 1) d_Mo_brings_47 rfl rfl ?_
        obtain ⟨⟨r4, I3⟩, w1, h⟩ := fbd_e h
        try dsimp only at h
        refine go_callV (y := yMo_landsIn) (asr := [.inl x1]) (v := some (.inl r4)) (I' := I3) (st1 := [.inl r4]) d_Mo_brings_48 s_yMo_landsIn m_Mo_422 a_M_0 rfl rfl rfl (Nat.le_of_ble_eq_true rfl) rfl rfl (c_Mo_landsIn l (d0 + 0) x1 I w1) ?_
        refine go_istore_n (lv' := [(3, .inl r4), (0, .inr (some 0)), (1, .inl x1), (2, .inl x2), (4, .inl x4)]) d_Mo_brings_51 rfl (by decide) rfl ?_
        refine go_iload (k := 4) d_Mo_brings_52 rfl ?_
        refine go_iconst (v := 1) d_Mo_brings_54 (by decide) ?_
        refine go_iadd d_Mo_brings_55 ?_
        refine go_istore (lv' := [(4, .inl (x4 + 1)), (3, .inl r4), (0, .inr (some 0)), (1, .inl x1), (2, .inl x2)]) d_Mo_brings_56 (by decide) rfl ?_
        refine go_goto (tgt := 34) d_Mo_brings_58 (by decide) ?_
        exact go_lv [2, 3, 4, 1, 0] rfl (ih r4 (x4 + 1) I3 h hX)
def J_Mo_brings_74 (x3 : Int32) (I : gb_Mem) : Option (Int32 × gb_Mem) :=
  some (x3, I)
set_option maxRecDepth 4000 in
theorem j_Mo_brings_74 (l : Launch) (d0 : Nat) (x3 : Int32) (I : gb_Mem) {rz : Int32} {Iz : gb_Mem} (h : J_Mo_brings_74 x3 I = some (rz, Iz)) : gb_Go l yMo_brings (d0 + 8) 0 0 74 [(3, .inl x3)] [] shM I (gb_po shM (some (.inl rz)) Iz) := by
  unfold J_Mo_brings_74 at h
  refine go_iload_n (k := 0) d_Mo_brings_74 rfl rfl ?_
  refine go_goto (tgt := 80) d_Mo_brings_75 (by decide) ?_
  cases h
  exact go_ireturn d_Mo_brings_80 rfl gb_po_i
def J_Mo_brings_61 (x2 x3 x4 : Int32) (I : gb_Mem) : Option (Int32 × gb_Mem) :=
  fbd (F_Mo_endsThought  I) fun I8 =>
  if x3 = (-1) then
    J_Mo_brings_74 x3 I8
  else
    if x2 = 0 then
      J_Mo_brings_74 x3 I8
    else
      some (x4, I8)
set_option maxRecDepth 4000 in
theorem j_Mo_brings_61 (l : Launch) (d0 : Nat) (x2 x3 x4 : Int32) (I : gb_Mem) {rz : Int32} {Iz : gb_Mem} (h : J_Mo_brings_61 x2 x3 x4 I = some (rz, Iz)) : gb_Go l yMo_brings (d0 + 8) 0 0 61 [(0, .inr (some 0)), (2, .inl x2), (3, .inl x3), (4, .inl x4)] [] shM I (gb_po shM (some (.inl rz)) Iz) := by
  unfold J_Mo_brings_61 at h
  refine go_aload_n (k := 0) d_Mo_brings_61 rfl rfl ?_
  obtain ⟨I8, w1, h⟩ := fbd_e h
  refine go_callV (y := yMo_endsThought) (asr := []) (v := none) (I' := I8) (st1 := []) d_Mo_brings_62 s_yMo_endsThought m_Mo_419 a_M_0 rfl rfl rfl (Nat.le_of_ble_eq_true rfl) rfl rfl (c_Mo_endsThought l (d0 + 7)  I w1) ?_
  refine go_iload_n (k := 2) d_Mo_brings_65 rfl rfl ?_
  refine go_iconst (v := (-1)) d_Mo_brings_66 (by decide) ?_
  refine go_cmp_eq (tgt := 74) d_Mo_brings_67 (by decide) (fun hc => ?_) (fun hc => ?_)
  · rw [if_pos hc] at h
    exact go_lv [2] rfl (j_Mo_brings_74 l d0 x3 I8 h)
  · rw [if_neg hc] at h
    refine go_iload_n (k := 1) d_Mo_brings_70 rfl rfl ?_
    refine go_if_ne (tgt := 78) d_Mo_brings_71 (by decide) (fun hc => ?_) (fun hc => ?_)
    · rw [if_neg hc] at h
      refine go_iload (k := 3) d_Mo_brings_78 rfl ?_
      cases h
      exact go_ireturn d_Mo_brings_80 rfl gb_po_i
    · rw [if_pos hc] at h
      exact go_lv [2] rfl (j_Mo_brings_74 l d0 x3 I8 h)
def F_Mo_brings (x1 x2 : Int32) (I : gb_Mem) : Option (Int32 × gb_Mem) :=
  fstf I 0 0 0 fun I1 =>
  if (F_Mo_isBoat x1 I1) = 0 then
    some ((-1), I1)
  else
    if (F_Mo_isIn x2 0 1 I1) = 0 then
      some ((-1), I1)
    else
      fbd (F_Mo_thinks  I1) fun I2 =>
      fbd (L_Mo_brings_34 x1 x2 5000 (-1) 0 I2) fun (o5, o6, I7) =>
      J_Mo_brings_61 x2 o5 o6 I7
set_option maxRecDepth 4000 in
theorem c_Mo_brings (l : Launch) (d0 : Nat) (x1 x2 : Int32) (I : gb_Mem) {rz : Int32} {Iz : gb_Mem} (h : F_Mo_brings x1 x2 I = some (rz, Iz)) : gb_Cs l yMo_brings (d0 + 8) [.inr (some 0), .inl x1, .inl x2] shM I (some (.inl rz)) Iz := by
  refine gb_Ct.of (lv := [(0, .inr (some 0)), (1, .inl x1), (2, .inl x2)]) rfl (Nat.le_of_ble_eq_true rfl) rfl ?_
  unfold F_Mo_brings at h
  show gb_Go l yMo_brings (d0 + 8) 0 0 0 [(0, .inr (some 0)), (1, .inl x1), (2, .inl x2)] [] shM I (gb_po shM (some (.inl rz)) Iz)
  refine go_aload_n (k := 0) d_Mo_brings_0 rfl rfl ?_
  refine go_iconst (v := 0) d_Mo_brings_1 (by decide) ?_
  obtain ⟨I1, eI1, h⟩ := fstf_e h
  refine go_putT (ci := 10) (k := 0) (I' := I1) d_Mo_brings_2 a_M_0 rfl (by decide) f_Mo_137 rfl rfl rfl rfl rfl eI1 ?_
  refine go_aload_n (k := 0) d_Mo_brings_5 rfl rfl ?_
  refine go_iload_n (k := 1) d_Mo_brings_6 rfl rfl ?_
  refine go_callV (y := yMo_isBoat) (asr := [.inl x1]) (v := some (.inl (F_Mo_isBoat x1 I1))) (I' := I1) (st1 := [.inl (F_Mo_isBoat x1 I1)]) d_Mo_brings_7 s_yMo_isBoat m_Mo_165 a_M_0 rfl rfl rfl (Nat.le_of_ble_eq_true rfl) rfl rfl (c_Mo_isBoat l (d0 + 7) x1 I1) ?_
  refine go_if_eq (tgt := 23) d_Mo_brings_10 (by decide) (fun hc => ?_) (fun hc => ?_)
  · rw [if_pos hc] at h
    refine go_iconst (v := (-1)) d_Mo_brings_23 (by decide) ?_
    cases h
    exact go_ireturn d_Mo_brings_24 rfl gb_po_i
  · rw [if_neg hc] at h
    refine go_aload_n (k := 0) d_Mo_brings_13 rfl rfl ?_
    refine go_iload_n (k := 2) d_Mo_brings_14 rfl rfl ?_
    refine go_iconst (v := 0) d_Mo_brings_15 (by decide) ?_
    refine go_iconst (v := 1) d_Mo_brings_16 (by decide) ?_
    refine go_callV (y := yMo_isIn) (asr := [.inl x2, .inl 0, .inl 1]) (v := some (.inl (F_Mo_isIn x2 0 1 I1))) (I' := I1) (st1 := [.inl (F_Mo_isIn x2 0 1 I1)]) d_Mo_brings_17 s_yMo_isIn m_Mo_157 a_M_0 rfl rfl rfl (Nat.le_of_ble_eq_true rfl) rfl rfl (c_Mo_isIn l (d0 + 7) x2 0 1 I1) ?_
    refine go_if_ne (tgt := 25) d_Mo_brings_20 (by decide) (fun hc => ?_) (fun hc => ?_)
    · rw [if_neg hc] at h
      refine go_aload_n (k := 0) d_Mo_brings_25 rfl rfl ?_
      obtain ⟨I2, w1, h⟩ := fbd_e h
      refine go_callV (y := yMo_thinks) (asr := []) (v := none) (I' := I2) (st1 := []) d_Mo_brings_26 s_yMo_thinks m_Mo_413 a_M_0 rfl rfl rfl (Nat.le_of_ble_eq_true rfl) rfl rfl (c_Mo_thinks l (d0 + 7)  I1 w1) ?_
      refine go_iconst (v := (-1)) d_Mo_brings_29 (by decide) ?_
      refine go_istore_n (lv' := [(3, .inl (-1)), (0, .inr (some 0)), (1, .inl x1), (2, .inl x2)]) d_Mo_brings_30 rfl (by decide) rfl ?_
      refine go_iconst (v := 0) d_Mo_brings_31 (by decide) ?_
      refine go_istore (lv' := [(4, .inl 0), (3, .inl (-1)), (0, .inr (some 0)), (1, .inl x1), (2, .inl x2)]) d_Mo_brings_32 (by decide) rfl ?_
      refine go_lv [2, 3, 4, 1, 0] (lv' := [(0, .inr (some 0)), (1, .inl x1), (2, .inl x2), (3, .inl (-1)), (4, .inl 0)]) rfl ?_
      obtain ⟨⟨o5, o6, I7⟩, w1, h⟩ := fbd_e h
      try dsimp only at h
      refine l_Mo_brings_34 l d0 x1 x2 5000 (-1) 0 I2 w1 (fun o5_ o6_ I7_ e => ?_)
      cases e
      exact go_lv [0, 1, 2, 3] rfl (j_Mo_brings_61 l d0 x2 o5 o6 I7 h)
    · rw [if_pos hc] at h
      refine go_iconst (v := (-1)) d_Mo_brings_23 (by decide) ?_
      cases h
      exact go_ireturn d_Mo_brings_24 rfl gb_po_i
theorem d_Mo_goes_0 : decode yMo_goes.2.1 0 = .ok (.aload_n 0, 1) := by decide +kernel
theorem d_Mo_goes_1 : decode yMo_goes.2.1 1 = .ok (.iconst 0, 1) := by decide +kernel
theorem d_Mo_goes_2 : decode yMo_goes.2.1 2 = .ok (.putfield 137, 3) := by decide +kernel
theorem d_Mo_goes_5 : decode yMo_goes.2.1 5 = .ok (.aload_n 0, 1) := by decide +kernel
theorem d_Mo_goes_6 : decode yMo_goes.2.1 6 = .ok (.iload_n 1, 1) := by decide +kernel
theorem d_Mo_goes_7 : decode yMo_goes.2.1 7 = .ok (.iconst 1, 1) := by decide +kernel
theorem d_Mo_goes_8 : decode yMo_goes.2.1 8 = .ok (.bipush 60, 2) := by decide +kernel
theorem d_Mo_goes_10 : decode yMo_goes.2.1 10 = .ok (.invokevirtual 157, 3) := by decide +kernel
theorem d_Mo_goes_13 : decode yMo_goes.2.1 13 = .ok (.ifCond .eq 13, 3) := by decide +kernel
theorem d_Mo_goes_16 : decode yMo_goes.2.1 16 = .ok (.aload_n 0, 1) := by decide +kernel
theorem d_Mo_goes_17 : decode yMo_goes.2.1 17 = .ok (.iload_n 2, 1) := by decide +kernel
theorem d_Mo_goes_18 : decode yMo_goes.2.1 18 = .ok (.iconst 0, 1) := by decide +kernel
theorem d_Mo_goes_19 : decode yMo_goes.2.1 19 = .ok (.iconst 3, 1) := by decide +kernel
theorem d_Mo_goes_20 : decode yMo_goes.2.1 20 = .ok (.invokevirtual 157, 3) := by decide +kernel
theorem d_Mo_goes_23 : decode yMo_goes.2.1 23 = .ok (.ifCond .ne 5, 3) := by decide +kernel
theorem d_Mo_goes_26 : decode yMo_goes.2.1 26 = .ok (.iconst (-1), 1) := by decide +kernel
theorem d_Mo_goes_27 : decode yMo_goes.2.1 27 = .ok (.ireturn, 1) := by decide +kernel
theorem d_Mo_goes_28 : decode yMo_goes.2.1 28 = .ok (.aload_n 0, 1) := by decide +kernel
theorem d_Mo_goes_29 : decode yMo_goes.2.1 29 = .ok (.invokevirtual 413, 3) := by decide +kernel
theorem d_Mo_goes_32 : decode yMo_goes.2.1 32 = .ok (.iconst 0, 1) := by decide +kernel
theorem d_Mo_goes_33 : decode yMo_goes.2.1 33 = .ok (.istore_n 3, 1) := by decide +kernel
theorem d_Mo_goes_34 : decode yMo_goes.2.1 34 = .ok (.iload_n 3, 1) := by decide +kernel
theorem d_Mo_goes_35 : decode yMo_goes.2.1 35 = .ok (.iload_n 1, 1) := by decide +kernel
theorem d_Mo_goes_36 : decode yMo_goes.2.1 36 = .ok (.if_icmp .ge 14, 3) := by decide +kernel
theorem d_Mo_goes_39 : decode yMo_goes.2.1 39 = .ok (.aload_n 0, 1) := by decide +kernel
theorem d_Mo_goes_40 : decode yMo_goes.2.1 40 = .ok (.invokevirtual 410, 3) := by decide +kernel
theorem d_Mo_goes_43 : decode yMo_goes.2.1 43 = .ok (.pop, 1) := by decide +kernel
theorem d_Mo_goes_44 : decode yMo_goes.2.1 44 = .ok (.iinc 3 1, 3) := by decide +kernel
theorem d_Mo_goes_47 : decode yMo_goes.2.1 47 = .ok (.goto (-13), 3) := by decide +kernel
theorem d_Mo_goes_50 : decode yMo_goes.2.1 50 = .ok (.iload_n 2, 1) := by decide +kernel
theorem d_Mo_goes_51 : decode yMo_goes.2.1 51 = .ok (.ifCond .ne 14, 3) := by decide +kernel
theorem d_Mo_goes_54 : decode yMo_goes.2.1 54 = .ok (.aload_n 0, 1) := by decide +kernel
theorem d_Mo_goes_55 : decode yMo_goes.2.1 55 = .ok (.bipush 30, 2) := by decide +kernel
theorem d_Mo_goes_57 : decode yMo_goes.2.1 57 = .ok (.bipush 10, 2) := by decide +kernel
theorem d_Mo_goes_59 : decode yMo_goes.2.1 59 = .ok (.invokevirtual 416, 3) := by decide +kernel
theorem d_Mo_goes_62 : decode yMo_goes.2.1 62 = .ok (.goto 43, 3) := by decide +kernel
theorem d_Mo_goes_65 : decode yMo_goes.2.1 65 = .ok (.iload_n 2, 1) := by decide +kernel
theorem d_Mo_goes_66 : decode yMo_goes.2.1 66 = .ok (.iconst 1, 1) := by decide +kernel
theorem d_Mo_goes_67 : decode yMo_goes.2.1 67 = .ok (.if_icmp .ne 12, 3) := by decide +kernel
theorem d_Mo_goes_70 : decode yMo_goes.2.1 70 = .ok (.aload_n 0, 1) := by decide +kernel
theorem d_Mo_goes_71 : decode yMo_goes.2.1 71 = .ok (.getfield 7, 3) := by decide +kernel
theorem d_Mo_goes_74 : decode yMo_goes.2.1 74 = .ok (.iconst 3, 1) := by decide +kernel
theorem d_Mo_goes_75 : decode yMo_goes.2.1 75 = .ok (.iaload, 1) := by decide +kernel
theorem d_Mo_goes_76 : decode yMo_goes.2.1 76 = .ok (.goto 29, 3) := by decide +kernel
theorem d_Mo_goes_79 : decode yMo_goes.2.1 79 = .ok (.iload_n 2, 1) := by decide +kernel
theorem d_Mo_goes_80 : decode yMo_goes.2.1 80 = .ok (.iconst 2, 1) := by decide +kernel
theorem d_Mo_goes_81 : decode yMo_goes.2.1 81 = .ok (.if_icmp .ne 14, 3) := by decide +kernel
theorem d_Mo_goes_84 : decode yMo_goes.2.1 84 = .ok (.aload_n 0, 1) := by decide +kernel
theorem d_Mo_goes_85 : decode yMo_goes.2.1 85 = .ok (.bipush 18, 2) := by decide +kernel
theorem d_Mo_goes_87 : decode yMo_goes.2.1 87 = .ok (.bipush 12, 2) := by decide +kernel
theorem d_Mo_goes_89 : decode yMo_goes.2.1 89 = .ok (.invokevirtual 416, 3) := by decide +kernel
theorem d_Mo_goes_92 : decode yMo_goes.2.1 92 = .ok (.goto 13, 3) := by decide +kernel
theorem d_Mo_goes_95 : decode yMo_goes.2.1 95 = .ok (.aload_n 0, 1) := by decide +kernel
theorem d_Mo_goes_96 : decode yMo_goes.2.1 96 = .ok (.bipush 64, 2) := by decide +kernel
theorem d_Mo_goes_98 : decode yMo_goes.2.1 98 = .ok (.aload_n 0, 1) := by decide +kernel
theorem d_Mo_goes_99 : decode yMo_goes.2.1 99 = .ok (.getfield 150, 3) := by decide +kernel
theorem d_Mo_goes_102 : decode yMo_goes.2.1 102 = .ok (.invokevirtual 416, 3) := by decide +kernel
theorem d_Mo_goes_105 : decode yMo_goes.2.1 105 = .ok (.istore_n 3, 1) := by decide +kernel
theorem d_Mo_goes_106 : decode yMo_goes.2.1 106 = .ok (.aload_n 0, 1) := by decide +kernel
theorem d_Mo_goes_107 : decode yMo_goes.2.1 107 = .ok (.invokevirtual 419, 3) := by decide +kernel
theorem d_Mo_goes_110 : decode yMo_goes.2.1 110 = .ok (.iload_n 3, 1) := by decide +kernel
theorem d_Mo_goes_111 : decode yMo_goes.2.1 111 = .ok (.ireturn, 1) := by decide +kernel
def L_Mo_goes_34 (x1 x2 : Int32) : Nat → Int32 → gb_Mem → Option (gb_Mem)
  | 0, _, _ => none
  | n + 1, x3, I =>
    if x1 ≤ x3 then
      some I
    else
      fbd (F_Mo_goesBy  I) fun (r4, I3) =>
      L_Mo_goes_34 x1 x2 n (x3 + 1) I3
set_option maxRecDepth 4000 in
theorem l_Mo_goes_34 (l : Launch) (d0 : Nat) (x1 x2 : Int32) {post : Option gb_AV → List gb_Ce → gb_Mem → Prop} : ∀ (n : Nat) (x3 : Int32) (I : gb_Mem) {ρ : gb_Mem} (h : L_Mo_goes_34 x1 x2 n x3 I = some ρ) (hX : ∀ (I2 : gb_Mem), ρ = I2 → gb_Go l yMo_goes (d0 + 8) 0 0 50 [(0, .inr (some 0)), (2, .inl x2)] [] shM I2 post) , gb_Go l yMo_goes (d0 + 8) 0 0 34 [(0, .inr (some 0)), (1, .inl x1), (2, .inl x2), (3, .inl x3)] [] shM I post := by
  intro n
  induction n with
  | zero => intro x3 I ρ h hX; cases h
  | succ n ih =>
    intro x3 I ρ h hX
    rw [L_Mo_goes_34] at h
    refine go_iload_n (k := 3) d_Mo_goes_34 rfl rfl ?_
    refine go_iload_n (k := 1) d_Mo_goes_35 rfl rfl ?_
    refine go_cmp_ge (tgt := 50) d_Mo_goes_36 (by decide) (fun hc => ?_) (fun hc => ?_)
    · rw [if_pos hc] at h
      exact go_lv [0, 2] rfl (hX _ (Option.some.inj h).symm)
    · rw [if_neg hc] at h
      refine go_aload_n (k := 0) d_Mo_goes_39 rfl rfl ?_
      obtain ⟨⟨r4, I3⟩, w1, h⟩ := fbd_e h
      try dsimp only at h
      refine go_callV (y := yMo_goesBy) (asr := []) (v := some (.inl r4)) (I' := I3) (st1 := [.inl r4]) d_Mo_goes_40 s_yMo_goesBy m_Mo_410 a_M_0 rfl rfl rfl (Nat.le_of_ble_eq_true rfl) rfl rfl (c_Mo_goesBy l (d0 + 0)  I w1) ?_
      refine go_pop d_Mo_goes_43 ?_
      refine go_iinc (k := 3) (v := x3 + 1) (lv' := [(3, .inl (x3 + 1)), (0, .inr (some 0)), (1, .inl x1), (2, .inl x2)]) d_Mo_goes_44 rfl rfl (by decide) rfl ?_
      refine go_goto (tgt := 34) d_Mo_goes_47 (by decide) ?_
      exact go_lv [1, 2, 3, 0] rfl (ih (x3 + 1) I3 h hX)
def J_Mo_goes_105 (s0 : Int32) (I : gb_Mem) : Option (Int32 × gb_Mem) :=
  fbd (F_Mo_endsThought  I) fun I7 =>
  some (s0, I7)
set_option maxRecDepth 4000 in
theorem j_Mo_goes_105 (l : Launch) (d0 : Nat) (s0 : Int32) (I : gb_Mem) {rz : Int32} {Iz : gb_Mem} (h : J_Mo_goes_105 s0 I = some (rz, Iz)) : gb_Go l yMo_goes (d0 + 8) 0 0 105 [(0, .inr (some 0))] [.inl s0] shM I (gb_po shM (some (.inl rz)) Iz) := by
  unfold J_Mo_goes_105 at h
  refine go_istore_n (lv' := [(3, .inl s0), (0, .inr (some 0))]) d_Mo_goes_105 rfl (by decide) rfl ?_
  refine go_aload_n (k := 1) d_Mo_goes_106 rfl rfl ?_
  obtain ⟨I7, w1, h⟩ := fbd_e h
  refine go_callV (y := yMo_endsThought) (asr := []) (v := none) (I' := I7) (st1 := []) d_Mo_goes_107 s_yMo_endsThought m_Mo_419 a_M_0 rfl rfl rfl (Nat.le_of_ble_eq_true rfl) rfl rfl (c_Mo_endsThought l (d0 + 7)  I w1) ?_
  refine go_iload_n (k := 0) d_Mo_goes_110 rfl rfl ?_
  cases h
  exact go_ireturn d_Mo_goes_111 rfl gb_po_i
def F_Mo_goes (x1 x2 : Int32) (I : gb_Mem) : Option (Int32 × gb_Mem) :=
  fstf I 0 0 0 fun I1 =>
  if (F_Mo_isIn x1 1 60 I1) = 0 then
    some ((-1), I1)
  else
    if (F_Mo_isIn x2 0 3 I1) = 0 then
      some ((-1), I1)
    else
      fbd (F_Mo_thinks  I1) fun I2 =>
      fbd (L_Mo_goes_34 x1 x2 5000 0 I2) fun I5 =>
      if x2 = 0 then
        fbd (F_Mo_sumOf 30 10 I5) fun r9 =>
        J_Mo_goes_105 r9 I5
      else
        if x2 = 1 then
          J_Mo_goes_105 (I5 1 3) I5
        else
          if x2 = 2 then
            fbd (F_Mo_sumOf 18 12 I5) fun r8 =>
            J_Mo_goes_105 r8 I5
          else
            fbd (F_Mo_sumOf 64 (I5 0 6) I5) fun r6 =>
            J_Mo_goes_105 r6 I5
set_option maxRecDepth 4000 in
theorem c_Mo_goes (l : Launch) (d0 : Nat) (x1 x2 : Int32) (I : gb_Mem) {rz : Int32} {Iz : gb_Mem} (h : F_Mo_goes x1 x2 I = some (rz, Iz)) : gb_Cs l yMo_goes (d0 + 8) [.inr (some 0), .inl x1, .inl x2] shM I (some (.inl rz)) Iz := by
  refine gb_Ct.of (lv := [(0, .inr (some 0)), (1, .inl x1), (2, .inl x2)]) rfl (Nat.le_of_ble_eq_true rfl) rfl ?_
  unfold F_Mo_goes at h
  show gb_Go l yMo_goes (d0 + 8) 0 0 0 [(0, .inr (some 0)), (1, .inl x1), (2, .inl x2)] [] shM I (gb_po shM (some (.inl rz)) Iz)
  refine go_aload_n (k := 0) d_Mo_goes_0 rfl rfl ?_
  refine go_iconst (v := 0) d_Mo_goes_1 (by decide) ?_
  obtain ⟨I1, eI1, h⟩ := fstf_e h
  refine go_putT (ci := 10) (k := 0) (I' := I1) d_Mo_goes_2 a_M_0 rfl (by decide) f_Mo_137 rfl rfl rfl rfl rfl eI1 ?_
  refine go_aload_n (k := 0) d_Mo_goes_5 rfl rfl ?_
  refine go_iload_n (k := 1) d_Mo_goes_6 rfl rfl ?_
  refine go_iconst (v := 1) d_Mo_goes_7 (by decide) ?_
  refine go_bipush (v := 60) d_Mo_goes_8 (by decide) ?_
  refine go_callV (y := yMo_isIn) (asr := [.inl x1, .inl 1, .inl 60]) (v := some (.inl (F_Mo_isIn x1 1 60 I1))) (I' := I1) (st1 := [.inl (F_Mo_isIn x1 1 60 I1)]) d_Mo_goes_10 s_yMo_isIn m_Mo_157 a_M_0 rfl rfl rfl (Nat.le_of_ble_eq_true rfl) rfl rfl (c_Mo_isIn l (d0 + 7) x1 1 60 I1) ?_
  refine go_if_eq (tgt := 26) d_Mo_goes_13 (by decide) (fun hc => ?_) (fun hc => ?_)
  · rw [if_pos hc] at h
    refine go_iconst (v := (-1)) d_Mo_goes_26 (by decide) ?_
    cases h
    exact go_ireturn d_Mo_goes_27 rfl gb_po_i
  · rw [if_neg hc] at h
    refine go_aload_n (k := 0) d_Mo_goes_16 rfl rfl ?_
    refine go_iload_n (k := 2) d_Mo_goes_17 rfl rfl ?_
    refine go_iconst (v := 0) d_Mo_goes_18 (by decide) ?_
    refine go_iconst (v := 3) d_Mo_goes_19 (by decide) ?_
    refine go_callV (y := yMo_isIn) (asr := [.inl x2, .inl 0, .inl 3]) (v := some (.inl (F_Mo_isIn x2 0 3 I1))) (I' := I1) (st1 := [.inl (F_Mo_isIn x2 0 3 I1)]) d_Mo_goes_20 s_yMo_isIn m_Mo_157 a_M_0 rfl rfl rfl (Nat.le_of_ble_eq_true rfl) rfl rfl (c_Mo_isIn l (d0 + 7) x2 0 3 I1) ?_
    refine go_if_ne (tgt := 28) d_Mo_goes_23 (by decide) (fun hc => ?_) (fun hc => ?_)
    · rw [if_neg hc] at h
      refine go_aload_n (k := 0) d_Mo_goes_28 rfl rfl ?_
      obtain ⟨I2, w1, h⟩ := fbd_e h
      refine go_callV (y := yMo_thinks) (asr := []) (v := none) (I' := I2) (st1 := []) d_Mo_goes_29 s_yMo_thinks m_Mo_413 a_M_0 rfl rfl rfl (Nat.le_of_ble_eq_true rfl) rfl rfl (c_Mo_thinks l (d0 + 7)  I1 w1) ?_
      refine go_iconst (v := 0) d_Mo_goes_32 (by decide) ?_
      refine go_istore_n (lv' := [(3, .inl 0), (0, .inr (some 0)), (1, .inl x1), (2, .inl x2)]) d_Mo_goes_33 rfl (by decide) rfl ?_
      refine go_lv [1, 2, 3, 0] (lv' := [(0, .inr (some 0)), (1, .inl x1), (2, .inl x2), (3, .inl 0)]) rfl ?_
      obtain ⟨I5, w1, h⟩ := fbd_e h
      refine l_Mo_goes_34 l d0 x1 x2 5000 0 I2 w1 (fun I5_ e => ?_)
      cases e
      refine go_iload_n (k := 1) d_Mo_goes_50 rfl rfl ?_
      refine go_if_ne (tgt := 65) d_Mo_goes_51 (by decide) (fun hc => ?_) (fun hc => ?_)
      · rw [if_neg hc] at h
        refine go_iload_n (k := 1) d_Mo_goes_65 rfl rfl ?_
        refine go_iconst (v := 1) d_Mo_goes_66 (by decide) ?_
        refine go_cmp_ne (tgt := 79) d_Mo_goes_67 (by decide) (fun hc => ?_) (fun hc => ?_)
        · rw [if_neg hc] at h
          refine go_iload_n (k := 1) d_Mo_goes_79 rfl rfl ?_
          refine go_iconst (v := 2) d_Mo_goes_80 (by decide) ?_
          refine go_cmp_ne (tgt := 95) d_Mo_goes_81 (by decide) (fun hc => ?_) (fun hc => ?_)
          · rw [if_neg hc] at h
            refine go_aload_n (k := 0) d_Mo_goes_95 rfl rfl ?_
            refine go_bipush (v := 64) d_Mo_goes_96 (by decide) ?_
            refine go_aload_n (k := 0) d_Mo_goes_98 rfl rfl ?_
            refine go_geti (ci := 10) (k := 6) d_Mo_goes_99 a_M_0 rfl (by decide) f_Mo_150 rfl ?_
            obtain ⟨r6, w1, h⟩ := fbd_e h
            refine go_callV (y := yMo_sumOf) (asr := [.inl 64, .inl (I5 0 6)]) (v := some (.inl r6)) (I' := I5) (st1 := [.inl r6]) d_Mo_goes_102 s_yMo_sumOf m_Mo_416 a_M_0 rfl rfl rfl (Nat.le_of_ble_eq_true rfl) rfl rfl (c_Mo_sumOf l (d0 + 7) 64 (I5 0 6) I5 w1) ?_
            exact go_lv [0] rfl (j_Mo_goes_105 l d0 r6 I5 h)
          · rw [if_pos hc] at h
            refine go_aload_n (k := 0) d_Mo_goes_84 rfl rfl ?_
            refine go_bipush (v := 18) d_Mo_goes_85 (by decide) ?_
            refine go_bipush (v := 12) d_Mo_goes_87 (by decide) ?_
            obtain ⟨r8, w1, h⟩ := fbd_e h
            refine go_callV (y := yMo_sumOf) (asr := [.inl 18, .inl 12]) (v := some (.inl r8)) (I' := I5) (st1 := [.inl r8]) d_Mo_goes_89 s_yMo_sumOf m_Mo_416 a_M_0 rfl rfl rfl (Nat.le_of_ble_eq_true rfl) rfl rfl (c_Mo_sumOf l (d0 + 7) 18 12 I5 w1) ?_
            refine go_goto (tgt := 105) d_Mo_goes_92 (by decide) ?_
            exact go_lv [0] rfl (j_Mo_goes_105 l d0 r8 I5 h)
        · rw [if_pos hc] at h
          refine go_aload_n (k := 0) d_Mo_goes_70 rfl rfl ?_
          refine go_getr (ci := 10) (k := 1) (r := 1) d_Mo_goes_71 a_M_0 rfl (by decide) f_Mo_7 rfl ?_
          refine go_iconst (v := 3) d_Mo_goes_74 (by decide) ?_
          refine go_iald2 (v := I5 1 3) d_Mo_goes_75 a_M_1 (inb_iff.mp (by decide)) rfl ?_
          refine go_goto (tgt := 105) d_Mo_goes_76 (by decide) ?_
          exact go_lv [0] rfl (j_Mo_goes_105 l d0 (I5 1 3) I5 h)
      · rw [if_pos hc] at h
        refine go_aload_n (k := 0) d_Mo_goes_54 rfl rfl ?_
        refine go_bipush (v := 30) d_Mo_goes_55 (by decide) ?_
        refine go_bipush (v := 10) d_Mo_goes_57 (by decide) ?_
        obtain ⟨r9, w1, h⟩ := fbd_e h
        refine go_callV (y := yMo_sumOf) (asr := [.inl 30, .inl 10]) (v := some (.inl r9)) (I' := I5) (st1 := [.inl r9]) d_Mo_goes_59 s_yMo_sumOf m_Mo_416 a_M_0 rfl rfl rfl (Nat.le_of_ble_eq_true rfl) rfl rfl (c_Mo_sumOf l (d0 + 7) 30 10 I5 w1) ?_
        refine go_goto (tgt := 105) d_Mo_goes_62 (by decide) ?_
        exact go_lv [0] rfl (j_Mo_goes_105 l d0 r9 I5 h)
    · rw [if_pos hc] at h
      refine go_iconst (v := (-1)) d_Mo_goes_26 (by decide) ?_
      cases h
      exact go_ireturn d_Mo_goes_27 rfl gb_po_i
theorem d_Mo_minutes_0 : decode yMo_minutes.2.1 0 = .ok (.aload_n 0, 1) := by decide +kernel
theorem d_Mo_minutes_1 : decode yMo_minutes.2.1 1 = .ok (.iconst 0, 1) := by decide +kernel
theorem d_Mo_minutes_2 : decode yMo_minutes.2.1 2 = .ok (.putfield 137, 3) := by decide +kernel
theorem d_Mo_minutes_5 : decode yMo_minutes.2.1 5 = .ok (.aload_n 0, 1) := by decide +kernel
theorem d_Mo_minutes_6 : decode yMo_minutes.2.1 6 = .ok (.iload_n 1, 1) := by decide +kernel
theorem d_Mo_minutes_7 : decode yMo_minutes.2.1 7 = .ok (.iconst 1, 1) := by decide +kernel
theorem d_Mo_minutes_8 : decode yMo_minutes.2.1 8 = .ok (.bipush 60, 2) := by decide +kernel
theorem d_Mo_minutes_10 : decode yMo_minutes.2.1 10 = .ok (.invokevirtual 157, 3) := by decide +kernel
theorem d_Mo_minutes_13 : decode yMo_minutes.2.1 13 = .ok (.ifCond .eq 17, 3) := by decide +kernel
theorem d_Mo_minutes_16 : decode yMo_minutes.2.1 16 = .ok (.aload_n 0, 1) := by decide +kernel
theorem d_Mo_minutes_17 : decode yMo_minutes.2.1 17 = .ok (.getfield 7, 3) := by decide +kernel
theorem d_Mo_minutes_20 : decode yMo_minutes.2.1 20 = .ok (.iconst 0, 1) := by decide +kernel
theorem d_Mo_minutes_21 : decode yMo_minutes.2.1 21 = .ok (.iaload, 1) := by decide +kernel
theorem d_Mo_minutes_22 : decode yMo_minutes.2.1 22 = .ok (.iload_n 1, 1) := by decide +kernel
theorem d_Mo_minutes_23 : decode yMo_minutes.2.1 23 = .ok (.iadd, 1) := by decide +kernel
theorem d_Mo_minutes_24 : decode yMo_minutes.2.1 24 = .ok (.sipush 9999, 3) := by decide +kernel
theorem d_Mo_minutes_27 : decode yMo_minutes.2.1 27 = .ok (.if_icmp .le 5, 3) := by decide +kernel
theorem d_Mo_minutes_30 : decode yMo_minutes.2.1 30 = .ok (.iconst (-1), 1) := by decide +kernel
theorem d_Mo_minutes_31 : decode yMo_minutes.2.1 31 = .ok (.ireturn, 1) := by decide +kernel
theorem d_Mo_minutes_32 : decode yMo_minutes.2.1 32 = .ok (.iconst 0, 1) := by decide +kernel
theorem d_Mo_minutes_33 : decode yMo_minutes.2.1 33 = .ok (.istore_n 2, 1) := by decide +kernel
theorem d_Mo_minutes_34 : decode yMo_minutes.2.1 34 = .ok (.iconst 0, 1) := by decide +kernel
theorem d_Mo_minutes_35 : decode yMo_minutes.2.1 35 = .ok (.istore_n 3, 1) := by decide +kernel
theorem d_Mo_minutes_36 : decode yMo_minutes.2.1 36 = .ok (.iload_n 3, 1) := by decide +kernel
theorem d_Mo_minutes_37 : decode yMo_minutes.2.1 37 = .ok (.iload_n 1, 1) := by decide +kernel
theorem d_Mo_minutes_38 : decode yMo_minutes.2.1 38 = .ok (.if_icmp .ge 20, 3) := by decide +kernel
theorem d_Mo_minutes_41 : decode yMo_minutes.2.1 41 = .ok (.aload_n 0, 1) := by decide +kernel
theorem d_Mo_minutes_42 : decode yMo_minutes.2.1 42 = .ok (.invokevirtual 398, 3) := by decide +kernel
theorem d_Mo_minutes_45 : decode yMo_minutes.2.1 45 = .ok (.iload_n 2, 1) := by decide +kernel
theorem d_Mo_minutes_46 : decode yMo_minutes.2.1 46 = .ok (.aload_n 0, 1) := by decide +kernel
theorem d_Mo_minutes_47 : decode yMo_minutes.2.1 47 = .ok (.invokevirtual 410, 3) := by decide +kernel
theorem d_Mo_minutes_50 : decode yMo_minutes.2.1 50 = .ok (.iadd, 1) := by decide +kernel
theorem d_Mo_minutes_51 : decode yMo_minutes.2.1 51 = .ok (.istore_n 2, 1) := by decide +kernel
theorem d_Mo_minutes_52 : decode yMo_minutes.2.1 52 = .ok (.iinc 3 1, 3) := by decide +kernel
theorem d_Mo_minutes_55 : decode yMo_minutes.2.1 55 = .ok (.goto (-19), 3) := by decide +kernel
theorem d_Mo_minutes_58 : decode yMo_minutes.2.1 58 = .ok (.iload_n 2, 1) := by decide +kernel
theorem d_Mo_minutes_59 : decode yMo_minutes.2.1 59 = .ok (.ireturn, 1) := by decide +kernel
def L_Mo_minutes_36 (x1 : Int32) : Nat → Int32 → Int32 → gb_Mem → Option (Int32 × gb_Mem)
  | 0, _, _, _ => none
  | n + 1, x2, x3, I =>
    if x1 ≤ x3 then
      some (x2, I)
    else
      fbd (F_Mo_keepsAhead  I) fun I2 =>
      fbd (F_Mo_goesBy  I2) fun (r4, I3) =>
      L_Mo_minutes_36 x1 n (x2 + r4) (x3 + 1) I3
set_option maxRecDepth 4000 in
theorem l_Mo_minutes_36 (l : Launch) (d0 : Nat) (x1 : Int32) {post : Option gb_AV → List gb_Ce → gb_Mem → Prop} : ∀ (n : Nat) (x2 x3 : Int32) (I : gb_Mem) {ρ : Int32 × gb_Mem} (h : L_Mo_minutes_36 x1 n x2 x3 I = some ρ) (hX : ∀ (o2 : Int32) (I2 : gb_Mem), ρ = (o2, I2) → gb_Go l yMo_minutes (d0 + 8) 0 0 58 [(2, .inl o2)] [] shM I2 post) , gb_Go l yMo_minutes (d0 + 8) 0 0 36 [(0, .inr (some 0)), (1, .inl x1), (2, .inl x2), (3, .inl x3)] [] shM I post := by
  intro n
  induction n with
  | zero => intro x2 x3 I ρ h hX; cases h
  | succ n ih =>
    intro x2 x3 I ρ h hX
    rw [L_Mo_minutes_36] at h
    refine go_iload_n (k := 3) d_Mo_minutes_36 rfl rfl ?_
    refine go_iload_n (k := 1) d_Mo_minutes_37 rfl rfl ?_
    refine go_cmp_ge (tgt := 58) d_Mo_minutes_38 (by decide) (fun hc => ?_) (fun hc => ?_)
    · rw [if_pos hc] at h
      exact go_lv [2] rfl (hX _ _ (Option.some.inj h).symm)
    · rw [if_neg hc] at h
      refine go_aload_n (k := 0) d_Mo_minutes_41 rfl rfl ?_
      obtain ⟨I2, w1, h⟩ := fbd_e h
      refine go_callV (y := yMo_keepsAhead) (asr := []) (v := none) (I' := I2) (st1 := []) d_Mo_minutes_42 s_yMo_keepsAhead m_Mo_398 a_M_0 rfl rfl rfl (Nat.le_of_ble_eq_true rfl) rfl rfl (c_Mo_keepsAhead l (d0 + 7)  I w1) ?_
      refine go_iload_n (k := 2) d_Mo_minutes_45 rfl rfl ?_
      refine go_aload_n (k := 0) d_Mo_minutes_46 rfl rfl ?_
      obtain ⟨⟨r4, I3⟩, w1, h⟩ := fbd_e h
      try dsimp only at h
      refine go_callV (y := yMo_goesBy) (asr := []) (v := some (.inl r4)) (I' := I3) (st1 := [.inl r4, .inl x2]) d_Mo_minutes_47 s_yMo_goesBy m_Mo_410 a_M_0 rfl rfl rfl (Nat.le_of_ble_eq_true rfl) rfl rfl (c_Mo_goesBy l (d0 + 0)  I2 w1) ?_
      refine go_iadd d_Mo_minutes_50 ?_
      refine go_istore_n (lv' := [(2, .inl (x2 + r4)), (0, .inr (some 0)), (1, .inl x1), (3, .inl x3)]) d_Mo_minutes_51 rfl (by decide) rfl ?_
      refine go_iinc (k := 3) (v := x3 + 1) (lv' := [(3, .inl (x3 + 1)), (2, .inl (x2 + r4)), (0, .inr (some 0)), (1, .inl x1)]) d_Mo_minutes_52 rfl rfl (by decide) rfl ?_
      refine go_goto (tgt := 36) d_Mo_minutes_55 (by decide) ?_
      exact go_lv [2, 3, 1, 0] rfl (ih (x2 + r4) (x3 + 1) I3 h hX)
def F_Mo_minutes (x1 : Int32) (I : gb_Mem) : Option (Int32 × gb_Mem) :=
  fstf I 0 0 0 fun I1 =>
  if (F_Mo_isIn x1 1 60 I1) = 0 then
    some ((-1), I1)
  else
    if ((I1 1 0) + x1) ≤ 9999 then
      fbd (L_Mo_minutes_36 x1 5000 0 0 I1) fun (o5, I6) =>
      some (o5, I6)
    else
      some ((-1), I1)
set_option maxRecDepth 4000 in
theorem c_Mo_minutes (l : Launch) (d0 : Nat) (x1 : Int32) (I : gb_Mem) {rz : Int32} {Iz : gb_Mem} (h : F_Mo_minutes x1 I = some (rz, Iz)) : gb_Cs l yMo_minutes (d0 + 8) [.inr (some 0), .inl x1] shM I (some (.inl rz)) Iz := by
  refine gb_Ct.of (lv := [(0, .inr (some 0)), (1, .inl x1)]) rfl (Nat.le_of_ble_eq_true rfl) rfl ?_
  unfold F_Mo_minutes at h
  show gb_Go l yMo_minutes (d0 + 8) 0 0 0 [(0, .inr (some 0)), (1, .inl x1)] [] shM I (gb_po shM (some (.inl rz)) Iz)
  refine go_aload_n (k := 0) d_Mo_minutes_0 rfl rfl ?_
  refine go_iconst (v := 0) d_Mo_minutes_1 (by decide) ?_
  obtain ⟨I1, eI1, h⟩ := fstf_e h
  refine go_putT (ci := 10) (k := 0) (I' := I1) d_Mo_minutes_2 a_M_0 rfl (by decide) f_Mo_137 rfl rfl rfl rfl rfl eI1 ?_
  refine go_aload_n (k := 0) d_Mo_minutes_5 rfl rfl ?_
  refine go_iload_n (k := 1) d_Mo_minutes_6 rfl rfl ?_
  refine go_iconst (v := 1) d_Mo_minutes_7 (by decide) ?_
  refine go_bipush (v := 60) d_Mo_minutes_8 (by decide) ?_
  refine go_callV (y := yMo_isIn) (asr := [.inl x1, .inl 1, .inl 60]) (v := some (.inl (F_Mo_isIn x1 1 60 I1))) (I' := I1) (st1 := [.inl (F_Mo_isIn x1 1 60 I1)]) d_Mo_minutes_10 s_yMo_isIn m_Mo_157 a_M_0 rfl rfl rfl (Nat.le_of_ble_eq_true rfl) rfl rfl (c_Mo_isIn l (d0 + 7) x1 1 60 I1) ?_
  refine go_if_eq (tgt := 30) d_Mo_minutes_13 (by decide) (fun hc => ?_) (fun hc => ?_)
  · rw [if_pos hc] at h
    refine go_iconst (v := (-1)) d_Mo_minutes_30 (by decide) ?_
    cases h
    exact go_ireturn d_Mo_minutes_31 rfl gb_po_i
  · rw [if_neg hc] at h
    refine go_aload_n (k := 0) d_Mo_minutes_16 rfl rfl ?_
    refine go_getr (ci := 10) (k := 1) (r := 1) d_Mo_minutes_17 a_M_0 rfl (by decide) f_Mo_7 rfl ?_
    refine go_iconst (v := 0) d_Mo_minutes_20 (by decide) ?_
    refine go_iald2 (v := I1 1 0) d_Mo_minutes_21 a_M_1 (inb_iff.mp (by decide)) rfl ?_
    refine go_iload_n (k := 1) d_Mo_minutes_22 rfl rfl ?_
    refine go_iadd d_Mo_minutes_23 ?_
    refine go_sipush (v := 9999) d_Mo_minutes_24 (by decide) ?_
    refine go_cmp_le (tgt := 32) d_Mo_minutes_27 (by decide) (fun hc => ?_) (fun hc => ?_)
    · rw [if_pos hc] at h
      refine go_iconst (v := 0) d_Mo_minutes_32 (by decide) ?_
      refine go_istore_n (lv' := [(2, .inl 0), (0, .inr (some 0)), (1, .inl x1)]) d_Mo_minutes_33 rfl (by decide) rfl ?_
      refine go_iconst (v := 0) d_Mo_minutes_34 (by decide) ?_
      refine go_istore_n (lv' := [(3, .inl 0), (2, .inl 0), (0, .inr (some 0)), (1, .inl x1)]) d_Mo_minutes_35 rfl (by decide) rfl ?_
      refine go_lv [2, 3, 1, 0] (lv' := [(0, .inr (some 0)), (1, .inl x1), (2, .inl 0), (3, .inl 0)]) rfl ?_
      obtain ⟨⟨o5, I6⟩, w1, h⟩ := fbd_e h
      try dsimp only at h
      refine l_Mo_minutes_36 l d0 x1 5000 0 0 I1 w1 (fun o5_ I6_ e => ?_)
      cases e
      refine go_iload_n (k := 0) d_Mo_minutes_58 rfl rfl ?_
      cases h
      exact go_ireturn d_Mo_minutes_59 rfl gb_po_i
    · rw [if_neg hc] at h
      refine go_iconst (v := (-1)) d_Mo_minutes_30 (by decide) ?_
      cases h
      exact go_ireturn d_Mo_minutes_31 rfl gb_po_i
