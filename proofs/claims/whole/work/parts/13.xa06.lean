theorem d_Co_sail_0 : decode yCo_sail.2.1 0 = .ok (.aload_n 0, 1) := by decide +kernel
theorem d_Co_sail_1 : decode yCo_sail.2.1 1 = .ok (.iload_n 1, 1) := by decide +kernel
theorem d_Co_sail_2 : decode yCo_sail.2.1 2 = .ok (.aload_n 0, 1) := by decide +kernel
theorem d_Co_sail_3 : decode yCo_sail.2.1 3 = .ok (.getfield 15, 3) := by decide +kernel
theorem d_Co_sail_6 : decode yCo_sail.2.1 6 = .ok (.getfield 110, 3) := by decide +kernel
theorem d_Co_sail_9 : decode yCo_sail.2.1 9 = .ok (.aload_n 0, 1) := by decide +kernel
theorem d_Co_sail_10 : decode yCo_sail.2.1 10 = .ok (.getfield 19, 3) := by decide +kernel
theorem d_Co_sail_13 : decode yCo_sail.2.1 13 = .ok (.iconst 1, 1) := by decide +kernel
theorem d_Co_sail_14 : decode yCo_sail.2.1 14 = .ok (.iload_n 1, 1) := by decide +kernel
theorem d_Co_sail_15 : decode yCo_sail.2.1 15 = .ok (.invokevirtual 114, 3) := by decide +kernel
theorem d_Co_sail_18 : decode yCo_sail.2.1 18 = .ok (.invokevirtual 120, 3) := by decide +kernel
theorem d_Co_sail_21 : decode yCo_sail.2.1 21 = .ok (.aload_n 0, 1) := by decide +kernel
theorem d_Co_sail_22 : decode yCo_sail.2.1 22 = .ok (.aload_n 0, 1) := by decide +kernel
theorem d_Co_sail_23 : decode yCo_sail.2.1 23 = .ok (.getfield 15, 3) := by decide +kernel
theorem d_Co_sail_26 : decode yCo_sail.2.1 26 = .ok (.getfield 110, 3) := by decide +kernel
theorem d_Co_sail_29 : decode yCo_sail.2.1 29 = .ok (.aload_n 0, 1) := by decide +kernel
theorem d_Co_sail_30 : decode yCo_sail.2.1 30 = .ok (.getfield 19, 3) := by decide +kernel
theorem d_Co_sail_33 : decode yCo_sail.2.1 33 = .ok (.iconst 0, 1) := by decide +kernel
theorem d_Co_sail_34 : decode yCo_sail.2.1 34 = .ok (.iload_n 1, 1) := by decide +kernel
theorem d_Co_sail_35 : decode yCo_sail.2.1 35 = .ok (.invokevirtual 114, 3) := by decide +kernel
theorem d_Co_sail_38 : decode yCo_sail.2.1 38 = .ok (.invokevirtual 124, 3) := by decide +kernel
theorem d_Co_sail_41 : decode yCo_sail.2.1 41 = .ok (.ifCond .eq 79, 3) := by decide +kernel
theorem d_Co_sail_44 : decode yCo_sail.2.1 44 = .ok (.aload_n 0, 1) := by decide +kernel
theorem d_Co_sail_45 : decode yCo_sail.2.1 45 = .ok (.getfield 19, 3) := by decide +kernel
theorem d_Co_sail_48 : decode yCo_sail.2.1 48 = .ok (.iconst 3, 1) := by decide +kernel
theorem d_Co_sail_49 : decode yCo_sail.2.1 49 = .ok (.iload_n 1, 1) := by decide +kernel
theorem d_Co_sail_50 : decode yCo_sail.2.1 50 = .ok (.invokevirtual 68, 3) := by decide +kernel
theorem d_Co_sail_53 : decode yCo_sail.2.1 53 = .ok (.iconst 1, 1) := by decide +kernel
theorem d_Co_sail_54 : decode yCo_sail.2.1 54 = .ok (.if_icmp .ne 7, 3) := by decide +kernel
theorem d_Co_sail_57 : decode yCo_sail.2.1 57 = .ok (.iconst 1, 1) := by decide +kernel
theorem d_Co_sail_58 : decode yCo_sail.2.1 58 = .ok (.goto 4, 3) := by decide +kernel
theorem d_Co_sail_61 : decode yCo_sail.2.1 61 = .ok (.iconst (-1), 1) := by decide +kernel
theorem d_Co_sail_62 : decode yCo_sail.2.1 62 = .ok (.istore_n 2, 1) := by decide +kernel
theorem d_Co_sail_63 : decode yCo_sail.2.1 63 = .ok (.aload_n 0, 1) := by decide +kernel
theorem d_Co_sail_64 : decode yCo_sail.2.1 64 = .ok (.getfield 19, 3) := by decide +kernel
theorem d_Co_sail_67 : decode yCo_sail.2.1 67 = .ok (.iconst 2, 1) := by decide +kernel
theorem d_Co_sail_68 : decode yCo_sail.2.1 68 = .ok (.iload_n 1, 1) := by decide +kernel
theorem d_Co_sail_69 : decode yCo_sail.2.1 69 = .ok (.aload_n 0, 1) := by decide +kernel
theorem d_Co_sail_70 : decode yCo_sail.2.1 70 = .ok (.getfield 19, 3) := by decide +kernel
theorem d_Co_sail_73 : decode yCo_sail.2.1 73 = .ok (.iconst 2, 1) := by decide +kernel
theorem d_Co_sail_74 : decode yCo_sail.2.1 74 = .ok (.iload_n 1, 1) := by decide +kernel
theorem d_Co_sail_75 : decode yCo_sail.2.1 75 = .ok (.invokevirtual 68, 3) := by decide +kernel
theorem d_Co_sail_78 : decode yCo_sail.2.1 78 = .ok (.iload_n 2, 1) := by decide +kernel
theorem d_Co_sail_79 : decode yCo_sail.2.1 79 = .ok (.iadd, 1) := by decide +kernel
theorem d_Co_sail_80 : decode yCo_sail.2.1 80 = .ok (.invokevirtual 57, 3) := by decide +kernel
theorem d_Co_sail_83 : decode yCo_sail.2.1 83 = .ok (.aload_n 0, 1) := by decide +kernel
theorem d_Co_sail_84 : decode yCo_sail.2.1 84 = .ok (.getfield 15, 3) := by decide +kernel
theorem d_Co_sail_87 : decode yCo_sail.2.1 87 = .ok (.getfield 110, 3) := by decide +kernel
theorem d_Co_sail_90 : decode yCo_sail.2.1 90 = .ok (.aload_n 0, 1) := by decide +kernel
theorem d_Co_sail_91 : decode yCo_sail.2.1 91 = .ok (.getfield 19, 3) := by decide +kernel
theorem d_Co_sail_94 : decode yCo_sail.2.1 94 = .ok (.iconst 2, 1) := by decide +kernel
theorem d_Co_sail_95 : decode yCo_sail.2.1 95 = .ok (.iload_n 1, 1) := by decide +kernel
theorem d_Co_sail_96 : decode yCo_sail.2.1 96 = .ok (.invokevirtual 114, 3) := by decide +kernel
theorem d_Co_sail_99 : decode yCo_sail.2.1 99 = .ok (.istore_n 3, 1) := by decide +kernel
theorem d_Co_sail_100 : decode yCo_sail.2.1 100 = .ok (.iload_n 3, 1) := by decide +kernel
theorem d_Co_sail_101 : decode yCo_sail.2.1 101 = .ok (.ifCond .le 16, 3) := by decide +kernel
theorem d_Co_sail_104 : decode yCo_sail.2.1 104 = .ok (.aload_n 0, 1) := by decide +kernel
theorem d_Co_sail_105 : decode yCo_sail.2.1 105 = .ok (.iload_n 3, 1) := by decide +kernel
theorem d_Co_sail_106 : decode yCo_sail.2.1 106 = .ok (.invokevirtual 124, 3) := by decide +kernel
theorem d_Co_sail_109 : decode yCo_sail.2.1 109 = .ok (.ifCond .eq 8, 3) := by decide +kernel
theorem d_Co_sail_112 : decode yCo_sail.2.1 112 = .ok (.aload_n 0, 1) := by decide +kernel
theorem d_Co_sail_113 : decode yCo_sail.2.1 113 = .ok (.iload_n 1, 1) := by decide +kernel
theorem d_Co_sail_114 : decode yCo_sail.2.1 114 = .ok (.invokevirtual 127, 3) := by decide +kernel
theorem d_Co_sail_117 : decode yCo_sail.2.1 117 = .ok (.goto 11, 3) := by decide +kernel
theorem d_Co_sail_120 : decode yCo_sail.2.1 120 = .ok (.aload_n 0, 1) := by decide +kernel
theorem d_Co_sail_121 : decode yCo_sail.2.1 121 = .ok (.getfield 19, 3) := by decide +kernel
theorem d_Co_sail_124 : decode yCo_sail.2.1 124 = .ok (.iload_n 1, 1) := by decide +kernel
theorem d_Co_sail_125 : decode yCo_sail.2.1 125 = .ok (.invokevirtual 107, 3) := by decide +kernel
theorem d_Co_sail_128 : decode yCo_sail.2.1 128 = .ok (.aload_n 0, 1) := by decide +kernel
theorem d_Co_sail_129 : decode yCo_sail.2.1 129 = .ok (.getfield 19, 3) := by decide +kernel
theorem d_Co_sail_132 : decode yCo_sail.2.1 132 = .ok (.iload_n 1, 1) := by decide +kernel
theorem d_Co_sail_133 : decode yCo_sail.2.1 133 = .ok (.invokevirtual 46, 3) := by decide +kernel
theorem d_Co_sail_136 : decode yCo_sail.2.1 136 = .ok (.ifCond .ne 5, 3) := by decide +kernel
theorem d_Co_sail_139 : decode yCo_sail.2.1 139 = .ok (.iconst 0, 1) := by decide +kernel
theorem d_Co_sail_140 : decode yCo_sail.2.1 140 = .ok (.ireturn, 1) := by decide +kernel
theorem d_Co_sail_141 : decode yCo_sail.2.1 141 = .ok (.aload_n 0, 1) := by decide +kernel
theorem d_Co_sail_142 : decode yCo_sail.2.1 142 = .ok (.iload_n 1, 1) := by decide +kernel
theorem d_Co_sail_143 : decode yCo_sail.2.1 143 = .ok (.invokevirtual 64, 3) := by decide +kernel
theorem d_Co_sail_146 : decode yCo_sail.2.1 146 = .ok (.iconst 1, 1) := by decide +kernel
theorem d_Co_sail_147 : decode yCo_sail.2.1 147 = .ok (.ireturn, 1) := by decide +kernel
def J_Co_sail_128 (h0 t0 : Nat) (x1 : Int32) (I : gb_Mem) : Option (Int32 × gb_Mem) :=
  fbd (F_Ta_isAtItsShore t0 x1 I) fun r9 =>
  if r9 = 0 then
    some (0, I)
  else
    fbd (F_Co_land h0 t0 x1 I) fun I10 =>
    some (1, I10)
set_option maxRecDepth 4000 in
theorem j_Co_sail_128 (l : Launch) (d0 : Nat) (h0 t0 : Nat) (H0 : isCo h0 t0) (x1 : Int32) (I : gb_Mem) {rz : Int32} {Iz : gb_Mem} (h : J_Co_sail_128 h0 t0 x1 I = some (rz, Iz)) : gb_Go l yCo_sail (d0 + 5) 0 0 128 [(0, .inr (some h0)), (1, .inl x1)] [] shX I (gb_po shX (some (.inl rz)) Iz) := by
  unfold J_Co_sail_128 at h
  refine go_aload_n (k := 0) d_Co_sail_128 rfl rfl ?_
  refine go_getr (ci := 6) (k := 1) (r := t0) d_Co_sail_129 H0.1 rfl (by decide) f_Co_19 rfl ?_
  refine go_iload_n (k := 1) d_Co_sail_132 rfl rfl ?_
  obtain ⟨r9, w1, h⟩ := fbd_e h
  refine go_callV (y := yTa_isAtItsShore) (asr := [.inl x1]) (v := some (.inl r9)) (I' := I) (st1 := [.inl r9]) d_Co_sail_133 s_yTa_isAtItsShore m_Co_46 H0.2.2.1 rfl rfl rfl (Nat.le_of_ble_eq_true rfl) rfl rfl (c_Ta_isAtItsShore l (d0 + 2) t0 H0.2.2 x1 I w1) ?_
  refine go_if_ne (tgt := 141) d_Co_sail_136 (by decide) (fun hc => ?_) (fun hc => ?_)
  · rw [if_neg hc] at h
    refine go_aload_n (k := 0) d_Co_sail_141 rfl rfl ?_
    refine go_iload_n (k := 1) d_Co_sail_142 rfl rfl ?_
    obtain ⟨I10, w1, h⟩ := fbd_e h
    refine go_callV (y := yCo_land) (asr := [.inl x1]) (v := none) (I' := I10) (st1 := []) d_Co_sail_143 s_yCo_land m_Co_64 H0.1 rfl rfl rfl (Nat.le_of_ble_eq_true rfl) rfl rfl (c_Co_land l (d0 + 0) h0 t0 H0 x1 I w1) ?_
    refine go_iconst (v := 1) d_Co_sail_146 (by decide) ?_
    cases h
    exact go_ireturn d_Co_sail_147 rfl gb_po_i
  · rw [if_pos hc] at h
    refine go_iconst (v := 0) d_Co_sail_139 (by decide) ?_
    cases h
    exact go_ireturn d_Co_sail_140 rfl gb_po_i
def J_Co_sail_117 (h0 t0 : Nat) (x1 : Int32) (I : gb_Mem) : Option (Int32 × gb_Mem) :=
  J_Co_sail_128 h0 t0 x1 I
set_option maxRecDepth 4000 in
theorem j_Co_sail_117 (l : Launch) (d0 : Nat) (h0 t0 : Nat) (H0 : isCo h0 t0) (x1 : Int32) (I : gb_Mem) {rz : Int32} {Iz : gb_Mem} (h : J_Co_sail_117 h0 t0 x1 I = some (rz, Iz)) : gb_Go l yCo_sail (d0 + 5) 0 0 117 [(0, .inr (some h0)), (1, .inl x1)] [] shX I (gb_po shX (some (.inl rz)) Iz) := by
  unfold J_Co_sail_117 at h
  refine go_goto (tgt := 128) d_Co_sail_117 (by decide) ?_
  exact go_lv [0, 1] rfl (j_Co_sail_128 l d0 h0 t0 H0 x1 I h)
def J_Co_sail_62 (h0 t0 : Nat) (x1 s0 : Int32) (I : gb_Mem) : Option (Int32 × gb_Mem) :=
  fbd (F_Ta_ofBoat t0 2 x1 I) fun r12 =>
  fbd (F_Ta_putBoat t0 2 x1 (r12 + s0) I) fun I13 =>
  fbd (F_La_tells 6 t0 2 x1 I13) fun (r15, I14) =>
  if r15 ≤ 0 then
    J_Co_sail_117 h0 t0 x1 I14
  else
    fbd (F_Co_happens h0 t0 r15 I14) fun (r17, I16) =>
    if r17 = 0 then
      J_Co_sail_117 h0 t0 x1 I16
    else
      fbd (F_Co_spill h0 t0 x1 I16) fun I18 =>
      J_Co_sail_117 h0 t0 x1 I18
set_option maxRecDepth 4000 in
theorem j_Co_sail_62 (l : Launch) (d0 : Nat) (h0 t0 : Nat) (H0 : isCo h0 t0) (x1 s0 : Int32) (I : gb_Mem) {rz : Int32} {Iz : gb_Mem} (h : J_Co_sail_62 h0 t0 x1 s0 I = some (rz, Iz)) : gb_Go l yCo_sail (d0 + 5) 0 0 62 [(0, .inr (some h0)), (1, .inl x1)] [.inl s0] shX I (gb_po shX (some (.inl rz)) Iz) := by
  unfold J_Co_sail_62 at h
  refine go_istore_n (lv' := [(2, .inl s0), (0, .inr (some h0)), (1, .inl x1)]) d_Co_sail_62 rfl (by decide) rfl ?_
  refine go_aload_n (k := 1) d_Co_sail_63 rfl rfl ?_
  refine go_getr (ci := 6) (k := 1) (r := t0) d_Co_sail_64 H0.1 rfl (by decide) f_Co_19 rfl ?_
  refine go_iconst (v := 2) d_Co_sail_67 (by decide) ?_
  refine go_iload_n (k := 2) d_Co_sail_68 rfl rfl ?_
  refine go_aload_n (k := 1) d_Co_sail_69 rfl rfl ?_
  refine go_getr (ci := 6) (k := 1) (r := t0) d_Co_sail_70 H0.1 rfl (by decide) f_Co_19 rfl ?_
  refine go_iconst (v := 2) d_Co_sail_73 (by decide) ?_
  refine go_iload_n (k := 2) d_Co_sail_74 rfl rfl ?_
  obtain ⟨r12, w1, h⟩ := fbd_e h
  refine go_callV (y := yTa_ofBoat) (asr := [.inl 2, .inl x1]) (v := some (.inl r12)) (I' := I) (st1 := [.inl r12, .inl x1, .inl 2, .inr (some t0)]) d_Co_sail_75 s_yTa_ofBoat m_Co_68 H0.2.2.1 rfl rfl rfl (Nat.le_of_ble_eq_true rfl) rfl rfl (c_Ta_ofBoat l (d0 + 3) t0 H0.2.2 2 x1 I w1) ?_
  refine go_iload_n (k := 0) d_Co_sail_78 rfl rfl ?_
  refine go_iadd d_Co_sail_79 ?_
  obtain ⟨I13, w1, h⟩ := fbd_e h
  refine go_callV (y := yTa_putBoat) (asr := [.inl 2, .inl x1, .inl (r12 + s0)]) (v := none) (I' := I13) (st1 := []) d_Co_sail_80 s_yTa_putBoat m_Co_57 H0.2.2.1 rfl rfl rfl (Nat.le_of_ble_eq_true rfl) rfl rfl (c_Ta_putBoat l (d0 + 3) t0 H0.2.2 2 x1 (r12 + s0) I w1) ?_
  refine go_aload_n (k := 1) d_Co_sail_83 rfl rfl ?_
  refine go_getr (ci := 6) (k := 0) (r := 1) d_Co_sail_84 H0.1 rfl (by decide) f_Co_15 rfl ?_
  refine go_getrN (ci := 1) (k := 1) (r := 6) d_Co_sail_87 a_X_1 rfl (by decide) f_Co_110 rfl ?_
  refine go_aload_n (k := 1) d_Co_sail_90 rfl rfl ?_
  refine go_getr (ci := 6) (k := 1) (r := t0) d_Co_sail_91 H0.1 rfl (by decide) f_Co_19 rfl ?_
  refine go_iconst (v := 2) d_Co_sail_94 (by decide) ?_
  refine go_iload_n (k := 2) d_Co_sail_95 rfl rfl ?_
  obtain ⟨⟨r15, I14⟩, w1, h⟩ := fbd_e h
  try dsimp only at h
  refine go_callV (y := yLa_tells) (asr := [.inr (some t0), .inl 2, .inl x1]) (v := some (.inl r15)) (I' := I14) (st1 := [.inl r15]) d_Co_sail_96 s_yLa_tells m_Co_114 a_X_6 rfl rfl rfl (Nat.le_of_ble_eq_true rfl) rfl rfl (c_La_tells l (d0 + 0) 6 t0 isLa_6 H0.2.2 2 x1 I13 w1) ?_
  refine go_istore_n (lv' := [(3, .inl r15), (2, .inl s0), (0, .inr (some h0)), (1, .inl x1)]) d_Co_sail_99 rfl (by decide) rfl ?_
  refine go_iload_n (k := 0) d_Co_sail_100 rfl rfl ?_
  refine go_if_le (tgt := 117) d_Co_sail_101 (by decide) (fun hc => ?_) (fun hc => ?_)
  · rw [if_pos hc] at h
    exact go_lv [2, 3] rfl (j_Co_sail_117 l d0 h0 t0 H0 x1 I14 h)
  · rw [if_neg hc] at h
    refine go_aload_n (k := 2) d_Co_sail_104 rfl rfl ?_
    refine go_iload_n (k := 0) d_Co_sail_105 rfl rfl ?_
    obtain ⟨⟨r17, I16⟩, w1, h⟩ := fbd_e h
    try dsimp only at h
    refine go_callV (y := yCo_happens) (asr := [.inl r15]) (v := some (.inl r17)) (I' := I16) (st1 := [.inl r17]) d_Co_sail_106 s_yCo_happens m_Co_124 H0.1 rfl rfl rfl (Nat.le_of_ble_eq_true rfl) rfl rfl (c_Co_happens l (d0 + 3) h0 t0 H0 r15 I14 w1) ?_
    refine go_if_eq (tgt := 117) d_Co_sail_109 (by decide) (fun hc => ?_) (fun hc => ?_)
    · rw [if_pos hc] at h
      exact go_lv [2, 3] rfl (j_Co_sail_117 l d0 h0 t0 H0 x1 I16 h)
    · rw [if_neg hc] at h
      refine go_aload_n (k := 2) d_Co_sail_112 rfl rfl ?_
      refine go_iload_n (k := 3) d_Co_sail_113 rfl rfl ?_
      obtain ⟨I18, w1, h⟩ := fbd_e h
      refine go_callV (y := yCo_spill) (asr := [.inl x1]) (v := none) (I' := I18) (st1 := []) d_Co_sail_114 s_yCo_spill m_Co_127 H0.1 rfl rfl rfl (Nat.le_of_ble_eq_true rfl) rfl rfl (c_Co_spill l (d0 + 2) h0 t0 H0 x1 I16 w1) ?_
      exact go_lv [2, 3] rfl (j_Co_sail_117 l d0 h0 t0 H0 x1 I18 h)
def F_Co_sail (h0 t0 : Nat) (x1 : Int32) (I : gb_Mem) : Option (Int32 × gb_Mem) :=
  fbd (F_La_tells 6 t0 1 x1 I) fun (r2, I1) =>
  fbd (F_Co_pourOut h0 t0 x1 r2 I1) fun I3 =>
  fbd (F_La_tells 6 t0 0 x1 I3) fun (r5, I4) =>
  fbd (F_Co_happens h0 t0 r5 I4) fun (r7, I6) =>
  if r7 = 0 then
    fbd (F_Ta_thickenSkin t0 x1 I6) fun I8 =>
    J_Co_sail_128 h0 t0 x1 I8
  else
    fbd (F_Ta_ofBoat t0 3 x1 I6) fun r11 =>
    if r11 = 1 then
      J_Co_sail_62 h0 t0 x1 1 I6
    else
      J_Co_sail_62 h0 t0 x1 (-1) I6
set_option maxRecDepth 4000 in
theorem c_Co_sail (l : Launch) (d0 : Nat) (h0 t0 : Nat) (H0 : isCo h0 t0) (x1 : Int32) (I : gb_Mem) {rz : Int32} {Iz : gb_Mem} (h : F_Co_sail h0 t0 x1 I = some (rz, Iz)) : gb_Cs l yCo_sail (d0 + 5) [.inr (some h0), .inl x1] shX I (some (.inl rz)) Iz := by
  refine gb_Ct.of (lv := [(0, .inr (some h0)), (1, .inl x1)]) rfl (Nat.le_of_ble_eq_true rfl) rfl ?_
  unfold F_Co_sail at h
  show gb_Go l yCo_sail (d0 + 5) 0 0 0 [(0, .inr (some h0)), (1, .inl x1)] [] shX I (gb_po shX (some (.inl rz)) Iz)
  refine go_aload_n (k := 0) d_Co_sail_0 rfl rfl ?_
  refine go_iload_n (k := 1) d_Co_sail_1 rfl rfl ?_
  refine go_aload_n (k := 0) d_Co_sail_2 rfl rfl ?_
  refine go_getr (ci := 6) (k := 0) (r := 1) d_Co_sail_3 H0.1 rfl (by decide) f_Co_15 rfl ?_
  refine go_getrN (ci := 1) (k := 1) (r := 6) d_Co_sail_6 a_X_1 rfl (by decide) f_Co_110 rfl ?_
  refine go_aload_n (k := 0) d_Co_sail_9 rfl rfl ?_
  refine go_getr (ci := 6) (k := 1) (r := t0) d_Co_sail_10 H0.1 rfl (by decide) f_Co_19 rfl ?_
  refine go_iconst (v := 1) d_Co_sail_13 (by decide) ?_
  refine go_iload_n (k := 1) d_Co_sail_14 rfl rfl ?_
  obtain ⟨⟨r2, I1⟩, w1, h⟩ := fbd_e h
  try dsimp only at h
  refine go_callV (y := yLa_tells) (asr := [.inr (some t0), .inl 1, .inl x1]) (v := some (.inl r2)) (I' := I1) (st1 := [.inl r2, .inl x1, .inr (some h0)]) d_Co_sail_15 s_yLa_tells m_Co_114 a_X_6 rfl rfl rfl (Nat.le_of_ble_eq_true rfl) rfl rfl (c_La_tells l (d0 + 0) 6 t0 isLa_6 H0.2.2 1 x1 I w1) ?_
  obtain ⟨I3, w1, h⟩ := fbd_e h
  refine go_callV (y := yCo_pourOut) (asr := [.inl x1, .inl r2]) (v := none) (I' := I3) (st1 := []) d_Co_sail_18 s_yCo_pourOut m_Co_120 H0.1 rfl rfl rfl (Nat.le_of_ble_eq_true rfl) rfl rfl (c_Co_pourOut l (d0 + 2) h0 t0 H0 x1 r2 I1 w1) ?_
  refine go_aload_n (k := 0) d_Co_sail_21 rfl rfl ?_
  refine go_aload_n (k := 0) d_Co_sail_22 rfl rfl ?_
  refine go_getr (ci := 6) (k := 0) (r := 1) d_Co_sail_23 H0.1 rfl (by decide) f_Co_15 rfl ?_
  refine go_getrN (ci := 1) (k := 1) (r := 6) d_Co_sail_26 a_X_1 rfl (by decide) f_Co_110 rfl ?_
  refine go_aload_n (k := 0) d_Co_sail_29 rfl rfl ?_
  refine go_getr (ci := 6) (k := 1) (r := t0) d_Co_sail_30 H0.1 rfl (by decide) f_Co_19 rfl ?_
  refine go_iconst (v := 0) d_Co_sail_33 (by decide) ?_
  refine go_iload_n (k := 1) d_Co_sail_34 rfl rfl ?_
  obtain ⟨⟨r5, I4⟩, w1, h⟩ := fbd_e h
  try dsimp only at h
  refine go_callV (y := yLa_tells) (asr := [.inr (some t0), .inl 0, .inl x1]) (v := some (.inl r5)) (I' := I4) (st1 := [.inl r5, .inr (some h0)]) d_Co_sail_35 s_yLa_tells m_Co_114 a_X_6 rfl rfl rfl (Nat.le_of_ble_eq_true rfl) rfl rfl (c_La_tells l (d0 + 0) 6 t0 isLa_6 H0.2.2 0 x1 I3 w1) ?_
  obtain ⟨⟨r7, I6⟩, w1, h⟩ := fbd_e h
  try dsimp only at h
  refine go_callV (y := yCo_happens) (asr := [.inl r5]) (v := some (.inl r7)) (I' := I6) (st1 := [.inl r7]) d_Co_sail_38 s_yCo_happens m_Co_124 H0.1 rfl rfl rfl (Nat.le_of_ble_eq_true rfl) rfl rfl (c_Co_happens l (d0 + 3) h0 t0 H0 r5 I4 w1) ?_
  refine go_if_eq (tgt := 120) d_Co_sail_41 (by decide) (fun hc => ?_) (fun hc => ?_)
  · rw [if_pos hc] at h
    refine go_aload_n (k := 0) d_Co_sail_120 rfl rfl ?_
    refine go_getr (ci := 6) (k := 1) (r := t0) d_Co_sail_121 H0.1 rfl (by decide) f_Co_19 rfl ?_
    refine go_iload_n (k := 1) d_Co_sail_124 rfl rfl ?_
    obtain ⟨I8, w1, h⟩ := fbd_e h
    refine go_callV (y := yTa_thickenSkin) (asr := [.inl x1]) (v := none) (I' := I8) (st1 := []) d_Co_sail_125 s_yTa_thickenSkin m_Co_107 H0.2.2.1 rfl rfl rfl (Nat.le_of_ble_eq_true rfl) rfl rfl (c_Ta_thickenSkin l (d0 + 2) t0 H0.2.2 x1 I6 w1) ?_
    exact go_lv [0, 1] rfl (j_Co_sail_128 l d0 h0 t0 H0 x1 I8 h)
  · rw [if_neg hc] at h
    refine go_aload_n (k := 0) d_Co_sail_44 rfl rfl ?_
    refine go_getr (ci := 6) (k := 1) (r := t0) d_Co_sail_45 H0.1 rfl (by decide) f_Co_19 rfl ?_
    refine go_iconst (v := 3) d_Co_sail_48 (by decide) ?_
    refine go_iload_n (k := 1) d_Co_sail_49 rfl rfl ?_
    obtain ⟨r11, w1, h⟩ := fbd_e h
    refine go_callV (y := yTa_ofBoat) (asr := [.inl 3, .inl x1]) (v := some (.inl r11)) (I' := I6) (st1 := [.inl r11]) d_Co_sail_50 s_yTa_ofBoat m_Co_68 H0.2.2.1 rfl rfl rfl (Nat.le_of_ble_eq_true rfl) rfl rfl (c_Ta_ofBoat l (d0 + 3) t0 H0.2.2 3 x1 I6 w1) ?_
    refine go_iconst (v := 1) d_Co_sail_53 (by decide) ?_
    refine go_cmp_ne (tgt := 61) d_Co_sail_54 (by decide) (fun hc => ?_) (fun hc => ?_)
    · rw [if_neg hc] at h
      refine go_iconst (v := (-1)) d_Co_sail_61 (by decide) ?_
      exact go_lv [0, 1] rfl (j_Co_sail_62 l d0 h0 t0 H0 x1 (-1) I6 h)
    · rw [if_pos hc] at h
      refine go_iconst (v := 1) d_Co_sail_57 (by decide) ?_
      refine go_goto (tgt := 62) d_Co_sail_58 (by decide) ?_
      exact go_lv [0, 1] rfl (j_Co_sail_62 l d0 h0 t0 H0 x1 1 I6 h)
theorem d_Gb_hands_0 : decode yGb_hands.2.1 0 = .ok (.iload_n 1, 1) := by decide +kernel
theorem d_Gb_hands_1 : decode yGb_hands.2.1 1 = .ok (.iconst 0, 1) := by decide +kernel
theorem d_Gb_hands_2 : decode yGb_hands.2.1 2 = .ok (.bipush 11, 2) := by decide +kernel
theorem d_Gb_hands_4 : decode yGb_hands.2.1 4 = .ok (.invokestatic 84, 3) := by decide +kernel
theorem d_Gb_hands_7 : decode yGb_hands.2.1 7 = .ok (.ifCond .eq 22, 3) := by decide +kernel
theorem d_Gb_hands_10 : decode yGb_hands.2.1 10 = .ok (.iload_n 2, 1) := by decide +kernel
theorem d_Gb_hands_11 : decode yGb_hands.2.1 11 = .ok (.iconst 0, 1) := by decide +kernel
theorem d_Gb_hands_12 : decode yGb_hands.2.1 12 = .ok (.bipush 11, 2) := by decide +kernel
theorem d_Gb_hands_14 : decode yGb_hands.2.1 14 = .ok (.invokestatic 84, 3) := by decide +kernel
theorem d_Gb_hands_17 : decode yGb_hands.2.1 17 = .ok (.ifCond .eq 12, 3) := by decide +kernel
theorem d_Gb_hands_20 : decode yGb_hands.2.1 20 = .ok (.iload_n 3, 1) := by decide +kernel
theorem d_Gb_hands_21 : decode yGb_hands.2.1 21 = .ok (.iconst 0, 1) := by decide +kernel
theorem d_Gb_hands_22 : decode yGb_hands.2.1 22 = .ok (.iconst 1, 1) := by decide +kernel
theorem d_Gb_hands_23 : decode yGb_hands.2.1 23 = .ok (.invokestatic 84, 3) := by decide +kernel
theorem d_Gb_hands_26 : decode yGb_hands.2.1 26 = .ok (.ifCond .ne 5, 3) := by decide +kernel
theorem d_Gb_hands_29 : decode yGb_hands.2.1 29 = .ok (.iconst (-1), 1) := by decide +kernel
theorem d_Gb_hands_30 : decode yGb_hands.2.1 30 = .ok (.ireturn, 1) := by decide +kernel
theorem d_Gb_hands_31 : decode yGb_hands.2.1 31 = .ok (.aload_n 0, 1) := by decide +kernel
theorem d_Gb_hands_32 : decode yGb_hands.2.1 32 = .ok (.getfield 53, 3) := by decide +kernel
theorem d_Gb_hands_35 : decode yGb_hands.2.1 35 = .ok (.iload_n 1, 1) := by decide +kernel
theorem d_Gb_hands_36 : decode yGb_hands.2.1 36 = .ok (.iload_n 2, 1) := by decide +kernel
theorem d_Gb_hands_37 : decode yGb_hands.2.1 37 = .ok (.iload_n 3, 1) := by decide +kernel
theorem d_Gb_hands_38 : decode yGb_hands.2.1 38 = .ok (.iconst 1, 1) := by decide +kernel
theorem d_Gb_hands_39 : decode yGb_hands.2.1 39 = .ok (.if_icmp .ne 7, 3) := by decide +kernel
theorem d_Gb_hands_42 : decode yGb_hands.2.1 42 = .ok (.iconst 1, 1) := by decide +kernel
theorem d_Gb_hands_43 : decode yGb_hands.2.1 43 = .ok (.goto 4, 3) := by decide +kernel
theorem d_Gb_hands_46 : decode yGb_hands.2.1 46 = .ok (.iconst 0, 1) := by decide +kernel
theorem d_Gb_hands_47 : decode yGb_hands.2.1 47 = .ok (.invokevirtual 207, 3) := by decide +kernel
theorem d_Gb_hands_50 : decode yGb_hands.2.1 50 = .ok (.ireturn, 1) := by decide +kernel
def J_Gb_hands_47 (s0 s1 s2 : Int32) (I : gb_Mem) : Option (Int32 × gb_Mem) :=
  fbd (F_Se_shortest s2 s1 s0 I) fun (r2, I1) =>
  some (r2, I1)
set_option maxRecDepth 4000 in
theorem j_Gb_hands_47 (l : Launch) (d0 : Nat) (s0 s1 s2 : Int32) (I : gb_Mem) {rz : Int32} {Iz : gb_Mem} (h : J_Gb_hands_47 s0 s1 s2 I = some (rz, Iz)) : gb_Go l yGb_hands (d0 + 5) 0 0 47 [] [.inl s0, .inl s1, .inl s2, .inr (some 104)] shX I (gb_po shX (some (.inl rz)) Iz) := by
  unfold J_Gb_hands_47 at h
  obtain ⟨⟨r2, I1⟩, w1, h⟩ := fbd_e h
  try dsimp only at h
  refine go_callV (y := ySe_shortest) (asr := [.inl s2, .inl s1, .inl s0]) (v := some (.inl r2)) (I' := I1) (st1 := [.inl r2]) d_Gb_hands_47 s_ySe_shortest m_Gb_207 a_X_104 rfl rfl rfl (Nat.le_of_ble_eq_true rfl) rfl rfl (c_Se_shortest l (d0 + 0) s2 s1 s0 I w1) ?_
  cases h
  exact go_ireturn d_Gb_hands_50 rfl gb_po_i
def F_Gb_hands (x1 x2 x3 : Int32) (I : gb_Mem) : Option (Int32 × gb_Mem) :=
  if (F_Gb_within x1 0 11 I) = 0 then
    some ((-1), I)
  else
    if (F_Gb_within x2 0 11 I) = 0 then
      some ((-1), I)
    else
      if (F_Gb_within x3 0 1 I) = 0 then
        some ((-1), I)
      else
        if x3 = 1 then
          J_Gb_hands_47 1 x2 x1 I
        else
          J_Gb_hands_47 0 x2 x1 I
set_option maxRecDepth 4000 in
theorem c_Gb_hands (l : Launch) (d0 : Nat) (x1 x2 x3 : Int32) (I : gb_Mem) {rz : Int32} {Iz : gb_Mem} (h : F_Gb_hands x1 x2 x3 I = some (rz, Iz)) : gb_Cs l yGb_hands (d0 + 5) [.inr (some 0), .inl x1, .inl x2, .inl x3] shX I (some (.inl rz)) Iz := by
  refine gb_Ct.of (lv := [(0, .inr (some 0)), (1, .inl x1), (2, .inl x2), (3, .inl x3)]) rfl (Nat.le_of_ble_eq_true rfl) rfl ?_
  unfold F_Gb_hands at h
  show gb_Go l yGb_hands (d0 + 5) 0 0 0 [(0, .inr (some 0)), (1, .inl x1), (2, .inl x2), (3, .inl x3)] [] shX I (gb_po shX (some (.inl rz)) Iz)
  refine go_iload_n (k := 1) d_Gb_hands_0 rfl rfl ?_
  refine go_iconst (v := 0) d_Gb_hands_1 (by decide) ?_
  refine go_bipush (v := 11) d_Gb_hands_2 (by decide) ?_
  refine go_callS (y := yGb_within) (asr := [.inl x1, .inl 0, .inl 11]) (v := some (.inl (F_Gb_within x1 0 11 I))) (I' := I) (st1 := [.inl (F_Gb_within x1 0 11 I)]) d_Gb_hands_4 s_yGb_within m_Gb_84 rfl (Nat.le_of_ble_eq_true rfl) rfl rfl (c_Gb_within l (d0 + 4) x1 0 11 I) ?_
  refine go_if_eq (tgt := 29) d_Gb_hands_7 (by decide) (fun hc => ?_) (fun hc => ?_)
  · rw [if_pos hc] at h
    refine go_iconst (v := (-1)) d_Gb_hands_29 (by decide) ?_
    cases h
    exact go_ireturn d_Gb_hands_30 rfl gb_po_i
  · rw [if_neg hc] at h
    refine go_iload_n (k := 2) d_Gb_hands_10 rfl rfl ?_
    refine go_iconst (v := 0) d_Gb_hands_11 (by decide) ?_
    refine go_bipush (v := 11) d_Gb_hands_12 (by decide) ?_
    refine go_callS (y := yGb_within) (asr := [.inl x2, .inl 0, .inl 11]) (v := some (.inl (F_Gb_within x2 0 11 I))) (I' := I) (st1 := [.inl (F_Gb_within x2 0 11 I)]) d_Gb_hands_14 s_yGb_within m_Gb_84 rfl (Nat.le_of_ble_eq_true rfl) rfl rfl (c_Gb_within l (d0 + 4) x2 0 11 I) ?_
    refine go_if_eq (tgt := 29) d_Gb_hands_17 (by decide) (fun hc => ?_) (fun hc => ?_)
    · rw [if_pos hc] at h
      refine go_iconst (v := (-1)) d_Gb_hands_29 (by decide) ?_
      cases h
      exact go_ireturn d_Gb_hands_30 rfl gb_po_i
    · rw [if_neg hc] at h
      refine go_iload_n (k := 3) d_Gb_hands_20 rfl rfl ?_
      refine go_iconst (v := 0) d_Gb_hands_21 (by decide) ?_
      refine go_iconst (v := 1) d_Gb_hands_22 (by decide) ?_
      refine go_callS (y := yGb_within) (asr := [.inl x3, .inl 0, .inl 1]) (v := some (.inl (F_Gb_within x3 0 1 I))) (I' := I) (st1 := [.inl (F_Gb_within x3 0 1 I)]) d_Gb_hands_23 s_yGb_within m_Gb_84 rfl (Nat.le_of_ble_eq_true rfl) rfl rfl (c_Gb_within l (d0 + 4) x3 0 1 I) ?_
      refine go_if_ne (tgt := 31) d_Gb_hands_26 (by decide) (fun hc => ?_) (fun hc => ?_)
      · rw [if_neg hc] at h
        refine go_aload_n (k := 0) d_Gb_hands_31 rfl rfl ?_
        refine go_getr (ci := 0) (k := 7) (r := 104) d_Gb_hands_32 a_X_0 rfl (by decide) f_Gb_53 rfl ?_
        refine go_iload_n (k := 1) d_Gb_hands_35 rfl rfl ?_
        refine go_iload_n (k := 2) d_Gb_hands_36 rfl rfl ?_
        refine go_iload_n (k := 3) d_Gb_hands_37 rfl rfl ?_
        refine go_iconst (v := 1) d_Gb_hands_38 (by decide) ?_
        refine go_cmp_ne (tgt := 46) d_Gb_hands_39 (by decide) (fun hc => ?_) (fun hc => ?_)
        · rw [if_neg hc] at h
          refine go_iconst (v := 0) d_Gb_hands_46 (by decide) ?_
          exact go_lv [] rfl (j_Gb_hands_47 l d0 0 x2 x1 I h)
        · rw [if_pos hc] at h
          refine go_iconst (v := 1) d_Gb_hands_42 (by decide) ?_
          refine go_goto (tgt := 47) d_Gb_hands_43 (by decide) ?_
          exact go_lv [] rfl (j_Gb_hands_47 l d0 1 x2 x1 I h)
      · rw [if_pos hc] at h
        refine go_iconst (v := (-1)) d_Gb_hands_29 (by decide) ?_
        cases h
        exact go_ireturn d_Gb_hands_30 rfl gb_po_i
theorem d_Gb_of_0 : decode yGb_of.2.1 0 = .ok (.aload_n 0, 1) := by decide +kernel
theorem d_Gb_of_1 : decode yGb_of.2.1 1 = .ok (.getfield 12, 3) := by decide +kernel
theorem d_Gb_of_4 : decode yGb_of.2.1 4 = .ok (.getfield 35, 3) := by decide +kernel
theorem d_Gb_of_7 : decode yGb_of.2.1 7 = .ok (.astore_n 3, 1) := by decide +kernel
theorem d_Gb_of_8 : decode yGb_of.2.1 8 = .ok (.iload_n 1, 1) := by decide +kernel
theorem d_Gb_of_9 : decode yGb_of.2.1 9 = .ok (.iconst 0, 1) := by decide +kernel
theorem d_Gb_of_10 : decode yGb_of.2.1 10 = .ok (.aload_n 3, 1) := by decide +kernel
theorem d_Gb_of_11 : decode yGb_of.2.1 11 = .ok (.getfield 95, 3) := by decide +kernel
theorem d_Gb_of_14 : decode yGb_of.2.1 14 = .ok (.iconst 1, 1) := by decide +kernel
theorem d_Gb_of_15 : decode yGb_of.2.1 15 = .ok (.isub, 1) := by decide +kernel
theorem d_Gb_of_16 : decode yGb_of.2.1 16 = .ok (.invokestatic 84, 3) := by decide +kernel
theorem d_Gb_of_19 : decode yGb_of.2.1 19 = .ok (.ifCond .eq 13, 3) := by decide +kernel
theorem d_Gb_of_22 : decode yGb_of.2.1 22 = .ok (.iload_n 2, 1) := by decide +kernel
theorem d_Gb_of_23 : decode yGb_of.2.1 23 = .ok (.iconst 0, 1) := by decide +kernel
theorem d_Gb_of_24 : decode yGb_of.2.1 24 = .ok (.bipush 8, 2) := by decide +kernel
theorem d_Gb_of_26 : decode yGb_of.2.1 26 = .ok (.invokestatic 84, 3) := by decide +kernel
theorem d_Gb_of_29 : decode yGb_of.2.1 29 = .ok (.ifCond .ne 5, 3) := by decide +kernel
theorem d_Gb_of_32 : decode yGb_of.2.1 32 = .ok (.iconst (-1), 1) := by decide +kernel
theorem d_Gb_of_33 : decode yGb_of.2.1 33 = .ok (.ireturn, 1) := by decide +kernel
theorem d_Gb_of_34 : decode yGb_of.2.1 34 = .ok (.iload_n 2, 1) := by decide +kernel
theorem d_Gb_of_35 : decode yGb_of.2.1 35 = .ok (.bipush 6, 2) := by decide +kernel
theorem d_Gb_of_37 : decode yGb_of.2.1 37 = .ok (.if_icmp .ge 12, 3) := by decide +kernel
theorem d_Gb_of_40 : decode yGb_of.2.1 40 = .ok (.aload_n 3, 1) := by decide +kernel
theorem d_Gb_of_41 : decode yGb_of.2.1 41 = .ok (.iload_n 2, 1) := by decide +kernel
theorem d_Gb_of_42 : decode yGb_of.2.1 42 = .ok (.iload_n 1, 1) := by decide +kernel
theorem d_Gb_of_43 : decode yGb_of.2.1 43 = .ok (.invokevirtual 162, 3) := by decide +kernel
theorem d_Gb_of_46 : decode yGb_of.2.1 46 = .ok (.goto 19, 3) := by decide +kernel
theorem d_Gb_of_49 : decode yGb_of.2.1 49 = .ok (.aload_n 0, 1) := by decide +kernel
theorem d_Gb_of_50 : decode yGb_of.2.1 50 = .ok (.getfield 12, 3) := by decide +kernel
theorem d_Gb_of_53 : decode yGb_of.2.1 53 = .ok (.getfield 166, 3) := by decide +kernel
theorem d_Gb_of_56 : decode yGb_of.2.1 56 = .ok (.aload_n 3, 1) := by decide +kernel
theorem d_Gb_of_57 : decode yGb_of.2.1 57 = .ok (.iload_n 2, 1) := by decide +kernel
theorem d_Gb_of_58 : decode yGb_of.2.1 58 = .ok (.bipush 6, 2) := by decide +kernel
theorem d_Gb_of_60 : decode yGb_of.2.1 60 = .ok (.isub, 1) := by decide +kernel
theorem d_Gb_of_61 : decode yGb_of.2.1 61 = .ok (.iload_n 1, 1) := by decide +kernel
theorem d_Gb_of_62 : decode yGb_of.2.1 62 = .ok (.invokevirtual 170, 3) := by decide +kernel
theorem d_Gb_of_65 : decode yGb_of.2.1 65 = .ok (.ireturn, 1) := by decide +kernel
def F_Gb_of (x1 x2 : Int32) (I : gb_Mem) : Option (Int32 × gb_Mem) :=
  if (F_Gb_within x1 0 ((I 2 5) - 1) I) = 0 then
    some ((-1), I)
  else
    if (F_Gb_within x2 0 8 I) = 0 then
      some ((-1), I)
    else
      if 6 ≤ x2 then
        fbd (F_La_tells 6 2 (x2 - 6) x1 I) fun (r2, I1) =>
        some (r2, I1)
      else
        fbd (F_Ta_ofBoat 2 x2 x1 I) fun r3 =>
        some (r3, I)
set_option maxRecDepth 4000 in
theorem c_Gb_of (l : Launch) (d0 : Nat) (x1 x2 : Int32) (I : gb_Mem) {rz : Int32} {Iz : gb_Mem} (h : F_Gb_of x1 x2 I = some (rz, Iz)) : gb_Cs l yGb_of (d0 + 5) [.inr (some 0), .inl x1, .inl x2] shX I (some (.inl rz)) Iz := by
  refine gb_Ct.of (lv := [(0, .inr (some 0)), (1, .inl x1), (2, .inl x2)]) rfl (Nat.le_of_ble_eq_true rfl) rfl ?_
  unfold F_Gb_of at h
  show gb_Go l yGb_of (d0 + 5) 0 0 0 [(0, .inr (some 0)), (1, .inl x1), (2, .inl x2)] [] shX I (gb_po shX (some (.inl rz)) Iz)
  refine go_aload_n (k := 0) d_Gb_of_0 rfl rfl ?_
  refine go_getr (ci := 0) (k := 0) (r := 1) d_Gb_of_1 a_X_0 rfl (by decide) f_Gb_12 rfl ?_
  refine go_getrN (ci := 1) (k := 0) (r := 2) d_Gb_of_4 a_X_1 rfl (by decide) f_Gb_35 rfl ?_
  refine go_astore_n (lv' := [(3, .inr (some 2)), (0, .inr (some 0)), (1, .inl x1), (2, .inl x2)]) d_Gb_of_7 rfl (by decide) rfl ?_
  refine go_iload_n (k := 2) d_Gb_of_8 rfl rfl ?_
  refine go_iconst (v := 0) d_Gb_of_9 (by decide) ?_
  refine go_aload_n (k := 0) d_Gb_of_10 rfl rfl ?_
  refine go_getiN (ci := 2) (k := 5) d_Gb_of_11 a_X_2 rfl (by decide) f_Gb_95 rfl ?_
  refine go_iconst (v := 1) d_Gb_of_14 (by decide) ?_
  refine go_isub d_Gb_of_15 ?_
  refine go_callS (y := yGb_within) (asr := [.inl x1, .inl 0, .inl ((I 2 5) - 1)]) (v := some (.inl (F_Gb_within x1 0 ((I 2 5) - 1) I))) (I' := I) (st1 := [.inl (F_Gb_within x1 0 ((I 2 5) - 1) I)]) d_Gb_of_16 s_yGb_within m_Gb_84 rfl (Nat.le_of_ble_eq_true rfl) rfl rfl (c_Gb_within l (d0 + 4) x1 0 ((I 2 5) - 1) I) ?_
  refine go_if_eq (tgt := 32) d_Gb_of_19 (by decide) (fun hc => ?_) (fun hc => ?_)
  · rw [if_pos hc] at h
    refine go_iconst (v := (-1)) d_Gb_of_32 (by decide) ?_
    cases h
    exact go_ireturn d_Gb_of_33 rfl gb_po_i
  · rw [if_neg hc] at h
    refine go_iload_n (k := 3) d_Gb_of_22 rfl rfl ?_
    refine go_iconst (v := 0) d_Gb_of_23 (by decide) ?_
    refine go_bipush (v := 8) d_Gb_of_24 (by decide) ?_
    refine go_callS (y := yGb_within) (asr := [.inl x2, .inl 0, .inl 8]) (v := some (.inl (F_Gb_within x2 0 8 I))) (I' := I) (st1 := [.inl (F_Gb_within x2 0 8 I)]) d_Gb_of_26 s_yGb_within m_Gb_84 rfl (Nat.le_of_ble_eq_true rfl) rfl rfl (c_Gb_within l (d0 + 4) x2 0 8 I) ?_
    refine go_if_ne (tgt := 34) d_Gb_of_29 (by decide) (fun hc => ?_) (fun hc => ?_)
    · rw [if_neg hc] at h
      refine go_iload_n (k := 3) d_Gb_of_34 rfl rfl ?_
      refine go_bipush (v := 6) d_Gb_of_35 (by decide) ?_
      refine go_cmp_ge (tgt := 49) d_Gb_of_37 (by decide) (fun hc => ?_) (fun hc => ?_)
      · rw [if_pos hc] at h
        refine go_aload_n (k := 1) d_Gb_of_49 rfl rfl ?_
        refine go_getr (ci := 0) (k := 0) (r := 1) d_Gb_of_50 a_X_0 rfl (by decide) f_Gb_12 rfl ?_
        refine go_getrN (ci := 1) (k := 1) (r := 6) d_Gb_of_53 a_X_1 rfl (by decide) f_Gb_166 rfl ?_
        refine go_aload_n (k := 0) d_Gb_of_56 rfl rfl ?_
        refine go_iload_n (k := 3) d_Gb_of_57 rfl rfl ?_
        refine go_bipush (v := 6) d_Gb_of_58 (by decide) ?_
        refine go_isub d_Gb_of_60 ?_
        refine go_iload_n (k := 2) d_Gb_of_61 rfl rfl ?_
        obtain ⟨⟨r2, I1⟩, w1, h⟩ := fbd_e h
        try dsimp only at h
        refine go_callV (y := yLa_tells) (asr := [.inr (some 2), .inl (x2 - 6), .inl x1]) (v := some (.inl r2)) (I' := I1) (st1 := [.inl r2]) d_Gb_of_62 s_yLa_tells m_Gb_170 a_X_6 rfl rfl rfl (Nat.le_of_ble_eq_true rfl) rfl rfl (c_La_tells l (d0 + 0) 6 2 isLa_6 isTa_2 (x2 - 6) x1 I w1) ?_
        cases h
        exact go_ireturn d_Gb_of_65 rfl gb_po_i
      · rw [if_neg hc] at h
        refine go_aload_n (k := 0) d_Gb_of_40 rfl rfl ?_
        refine go_iload_n (k := 3) d_Gb_of_41 rfl rfl ?_
        refine go_iload_n (k := 2) d_Gb_of_42 rfl rfl ?_
        obtain ⟨r3, w1, h⟩ := fbd_e h
        refine go_callV (y := yTa_ofBoat) (asr := [.inl x2, .inl x1]) (v := some (.inl r3)) (I' := I) (st1 := [.inl r3]) d_Gb_of_43 s_yTa_ofBoat m_Gb_162 a_X_2 rfl rfl rfl (Nat.le_of_ble_eq_true rfl) rfl rfl (c_Ta_ofBoat l (d0 + 3) 2 isTa_2 x2 x1 I w1) ?_
        refine go_goto (tgt := 65) d_Gb_of_46 (by decide) ?_
        cases h
        exact go_ireturn d_Gb_of_65 rfl gb_po_i
    · rw [if_pos hc] at h
      refine go_iconst (v := (-1)) d_Gb_of_32 (by decide) ?_
      cases h
      exact go_ireturn d_Gb_of_33 rfl gb_po_i
theorem d_Rd_wordOf_0 : decode yRd_wordOf.2.1 0 = .ok (.sipush 200, 3) := by decide +kernel
theorem d_Rd_wordOf_3 : decode yRd_wordOf.2.1 3 = .ok (.istore_n 3, 1) := by decide +kernel
theorem d_Rd_wordOf_4 : decode yRd_wordOf.2.1 4 = .ok (.iconst 0, 1) := by decide +kernel
theorem d_Rd_wordOf_5 : decode yRd_wordOf.2.1 5 = .ok (.istore 4, 2) := by decide +kernel
theorem d_Rd_wordOf_7 : decode yRd_wordOf.2.1 7 = .ok (.iconst 0, 1) := by decide +kernel
theorem d_Rd_wordOf_8 : decode yRd_wordOf.2.1 8 = .ok (.istore 5, 2) := by decide +kernel
theorem d_Rd_wordOf_10 : decode yRd_wordOf.2.1 10 = .ok (.iload 5, 2) := by decide +kernel
theorem d_Rd_wordOf_12 : decode yRd_wordOf.2.1 12 = .ok (.ldc 166, 2) := by decide +kernel
theorem d_Rd_wordOf_14 : decode yRd_wordOf.2.1 14 = .ok (.invokevirtual 168, 3) := by decide +kernel
theorem d_Rd_wordOf_17 : decode yRd_wordOf.2.1 17 = .ok (.if_icmp .ge 54, 3) := by decide +kernel
theorem d_Rd_wordOf_20 : decode yRd_wordOf.2.1 20 = .ok (.ldc 166, 2) := by decide +kernel
theorem d_Rd_wordOf_22 : decode yRd_wordOf.2.1 22 = .ok (.iload 5, 2) := by decide +kernel
theorem d_Rd_wordOf_24 : decode yRd_wordOf.2.1 24 = .ok (.invokevirtual 170, 3) := by decide +kernel
theorem d_Rd_wordOf_27 : decode yRd_wordOf.2.1 27 = .ok (.bipush 32, 2) := by decide +kernel
theorem d_Rd_wordOf_29 : decode yRd_wordOf.2.1 29 = .ok (.if_icmp .ne 36, 3) := by decide +kernel
theorem d_Rd_wordOf_32 : decode yRd_wordOf.2.1 32 = .ok (.iload 5, 2) := by decide +kernel
theorem d_Rd_wordOf_34 : decode yRd_wordOf.2.1 34 = .ok (.iload 4, 2) := by decide +kernel
theorem d_Rd_wordOf_36 : decode yRd_wordOf.2.1 36 = .ok (.isub, 1) := by decide +kernel
theorem d_Rd_wordOf_37 : decode yRd_wordOf.2.1 37 = .ok (.iload_n 2, 1) := by decide +kernel
theorem d_Rd_wordOf_38 : decode yRd_wordOf.2.1 38 = .ok (.iload_n 1, 1) := by decide +kernel
theorem d_Rd_wordOf_39 : decode yRd_wordOf.2.1 39 = .ok (.isub, 1) := by decide +kernel
theorem d_Rd_wordOf_40 : decode yRd_wordOf.2.1 40 = .ok (.if_icmp .ne 16, 3) := by decide +kernel
theorem d_Rd_wordOf_43 : decode yRd_wordOf.2.1 43 = .ok (.aload_n 0, 1) := by decide +kernel
theorem d_Rd_wordOf_44 : decode yRd_wordOf.2.1 44 = .ok (.iload 4, 2) := by decide +kernel
theorem d_Rd_wordOf_46 : decode yRd_wordOf.2.1 46 = .ok (.iload_n 1, 1) := by decide +kernel
theorem d_Rd_wordOf_47 : decode yRd_wordOf.2.1 47 = .ok (.iload_n 2, 1) := by decide +kernel
theorem d_Rd_wordOf_48 : decode yRd_wordOf.2.1 48 = .ok (.invokevirtual 173, 3) := by decide +kernel
theorem d_Rd_wordOf_51 : decode yRd_wordOf.2.1 51 = .ok (.ifCond .eq 5, 3) := by decide +kernel
theorem d_Rd_wordOf_54 : decode yRd_wordOf.2.1 54 = .ok (.iload_n 3, 1) := by decide +kernel
theorem d_Rd_wordOf_55 : decode yRd_wordOf.2.1 55 = .ok (.ireturn, 1) := by decide +kernel
theorem d_Rd_wordOf_56 : decode yRd_wordOf.2.1 56 = .ok (.iinc 3 1, 3) := by decide +kernel
theorem d_Rd_wordOf_59 : decode yRd_wordOf.2.1 59 = .ok (.iload 5, 2) := by decide +kernel
theorem d_Rd_wordOf_61 : decode yRd_wordOf.2.1 61 = .ok (.iconst 1, 1) := by decide +kernel
theorem d_Rd_wordOf_62 : decode yRd_wordOf.2.1 62 = .ok (.iadd, 1) := by decide +kernel
theorem d_Rd_wordOf_63 : decode yRd_wordOf.2.1 63 = .ok (.istore 4, 2) := by decide +kernel
theorem d_Rd_wordOf_65 : decode yRd_wordOf.2.1 65 = .ok (.iinc 5 1, 3) := by decide +kernel
theorem d_Rd_wordOf_68 : decode yRd_wordOf.2.1 68 = .ok (.goto (-58), 3) := by decide +kernel
theorem d_Rd_wordOf_71 : decode yRd_wordOf.2.1 71 = .ok (.iconst 1, 1) := by decide +kernel
theorem d_Rd_wordOf_72 : decode yRd_wordOf.2.1 72 = .ok (.ireturn, 1) := by decide +kernel
def J_Rd_wordOf_65 (k : Int32 → Int32 → Int32 → Option ((Unit) ⊕ (Int32))) (x1 x2 x3 x4 x5 : Int32) (I : gb_Mem) : Option ((Unit) ⊕ (Int32)) :=
  k x3 x4 (x5 + 1)
set_option maxRecDepth 4000 in
theorem j_Rd_wordOf_65 (l : Launch) (d0 : Nat) {post : Option gb_AV → List gb_Ce → gb_Mem → Prop} (k : Int32 → Int32 → Int32 → Option ((Unit) ⊕ (Int32))) (x1 x2 x3 x4 x5 : Int32) (I : gb_Mem) {ρ : (Unit) ⊕ (Int32)} (h : J_Rd_wordOf_65 k x1 x2 x3 x4 x5 I = some ρ) (hk : ∀ (z3 z4 z5 : Int32), k z3 z4 z5 = some ρ → gb_Go l yRd_wordOf (d0 + 5) 0 0 10 [(0, .inr (some 111)), (1, .inl x1), (2, .inl x2), (3, .inl z3), (4, .inl z4), (5, .inl z5)] [] shX I post) (hX : ρ = .inl () → gb_Go l yRd_wordOf (d0 + 5) 0 0 71 [] [] shX I post) (hR : ∀ (v : Int32), ρ = .inr v → post (some (.inl v)) shX I) : gb_Go l yRd_wordOf (d0 + 5) 0 0 65 [(0, .inr (some 111)), (1, .inl x1), (2, .inl x2), (3, .inl x3), (4, .inl x4), (5, .inl x5)] [] shX I post := by
  unfold J_Rd_wordOf_65 at h
  refine go_iinc (k := 5) (v := x5 + 1) (lv' := [(5, .inl (x5 + 1)), (0, .inr (some 111)), (1, .inl x1), (2, .inl x2), (3, .inl x3), (4, .inl x4)]) d_Rd_wordOf_65 rfl rfl (by decide) rfl ?_
  refine go_goto (tgt := 10) d_Rd_wordOf_68 (by decide) ?_
  exact go_lv [1, 2, 3, 4, 5, 0] rfl (hk _ _ _ h)
def J_Rd_wordOf_56 (k : Int32 → Int32 → Int32 → Option ((Unit) ⊕ (Int32))) (x1 x2 x3 x5 : Int32) (I : gb_Mem) : Option ((Unit) ⊕ (Int32)) :=
  J_Rd_wordOf_65 k x1 x2 (x3 + 1) (x5 + 1) x5 I
set_option maxRecDepth 4000 in
theorem j_Rd_wordOf_56 (l : Launch) (d0 : Nat) {post : Option gb_AV → List gb_Ce → gb_Mem → Prop} (k : Int32 → Int32 → Int32 → Option ((Unit) ⊕ (Int32))) (x1 x2 x3 x5 : Int32) (I : gb_Mem) {ρ : (Unit) ⊕ (Int32)} (h : J_Rd_wordOf_56 k x1 x2 x3 x5 I = some ρ) (hk : ∀ (z3 z4 z5 : Int32), k z3 z4 z5 = some ρ → gb_Go l yRd_wordOf (d0 + 5) 0 0 10 [(0, .inr (some 111)), (1, .inl x1), (2, .inl x2), (3, .inl z3), (4, .inl z4), (5, .inl z5)] [] shX I post) (hX : ρ = .inl () → gb_Go l yRd_wordOf (d0 + 5) 0 0 71 [] [] shX I post) (hR : ∀ (v : Int32), ρ = .inr v → post (some (.inl v)) shX I) : gb_Go l yRd_wordOf (d0 + 5) 0 0 56 [(0, .inr (some 111)), (1, .inl x1), (2, .inl x2), (3, .inl x3), (5, .inl x5)] [] shX I post := by
  unfold J_Rd_wordOf_56 at h
  refine go_iinc (k := 3) (v := x3 + 1) (lv' := [(3, .inl (x3 + 1)), (0, .inr (some 111)), (1, .inl x1), (2, .inl x2), (5, .inl x5)]) d_Rd_wordOf_56 rfl rfl (by decide) rfl ?_
  refine go_iload (k := 4) d_Rd_wordOf_59 rfl ?_
  refine go_iconst (v := 1) d_Rd_wordOf_61 (by decide) ?_
  refine go_iadd d_Rd_wordOf_62 ?_
  refine go_istore (lv' := [(4, .inl (x5 + 1)), (3, .inl (x3 + 1)), (0, .inr (some 111)), (1, .inl x1), (2, .inl x2), (5, .inl x5)]) d_Rd_wordOf_63 (by decide) rfl ?_
  exact go_lv [2, 3, 4, 1, 0, 5] rfl (j_Rd_wordOf_65 l d0 k x1 x2 (x3 + 1) (x5 + 1) x5 I h hk hX hR)
def L_Rd_wordOf_10 (x1 x2 : Int32) (I : gb_Mem) : Nat → Int32 → Int32 → Int32 → Option ((Unit) ⊕ (Int32))
  | 0, _, _, _ => none
  | n + 1, x3, x4, x5 =>
    if (F_Js_length  I) ≤ x5 then
      some (.inl ())
    else
      fbd (F_Js_charAt x5 I) fun r1 =>
      if r1 = 32 then
        if (x5 - x4) = (x2 - x1) then
          fbd (F_Rd_isWordAt x4 x1 x2 I) fun r2 =>
          if r2 = 0 then
            J_Rd_wordOf_56 (L_Rd_wordOf_10 x1 x2 I n) x1 x2 x3 x5 I
          else
            some (.inr x3)
        else
          J_Rd_wordOf_56 (L_Rd_wordOf_10 x1 x2 I n) x1 x2 x3 x5 I
      else
        J_Rd_wordOf_65 (L_Rd_wordOf_10 x1 x2 I n) x1 x2 x3 x4 x5 I
set_option maxRecDepth 4000 in
theorem l_Rd_wordOf_10 (l : Launch) (d0 : Nat) (x1 x2 : Int32) (I : gb_Mem) {post : Option gb_AV → List gb_Ce → gb_Mem → Prop} : ∀ (n : Nat) (x3 x4 x5 : Int32) {ρ : (Unit) ⊕ (Int32)} (h : L_Rd_wordOf_10 x1 x2 I n x3 x4 x5 = some ρ) (hX : ρ = .inl () → gb_Go l yRd_wordOf (d0 + 5) 0 0 71 [] [] shX I post) (hR : ∀ (v : Int32), ρ = .inr v → post (some (.inl v)) shX I) , gb_Go l yRd_wordOf (d0 + 5) 0 0 10 [(0, .inr (some 111)), (1, .inl x1), (2, .inl x2), (3, .inl x3), (4, .inl x4), (5, .inl x5)] [] shX I post := by
  intro n
  induction n with
  | zero => intro x3 x4 x5 ρ h hX hR; cases h
  | succ n ih =>
    intro x3 x4 x5 ρ h hX hR
    rw [L_Rd_wordOf_10] at h
    refine go_iload (k := 5) d_Rd_wordOf_10 rfl ?_
    refine go_ldcS0 d_Rd_wordOf_12 rfl ?_
    refine go_callT (a := 1001) (y := yJs_length) (asr := []) (v := some (.inl (F_Js_length  I))) (I' := I) (st1 := [.inl (F_Js_length  I), .inl x5]) (Or.inl rfl) d_Rd_wordOf_14 s_yJs_length m_Rd_168 rfl rfl (Nat.le_of_ble_eq_true rfl) rfl rfl (c_Js_length l (d0 + 3)  I) ?_
    refine go_cmp_ge (tgt := 71) d_Rd_wordOf_17 (by decide) (fun hc => ?_) (fun hc => ?_)
    · rw [if_pos hc] at h
      exact go_lv [] rfl (hX (Option.some.inj h).symm)
    · rw [if_neg hc] at h
      refine go_ldcS0 d_Rd_wordOf_20 rfl ?_
      refine go_iload (k := 5) d_Rd_wordOf_22 rfl ?_
      obtain ⟨r1, w1, h⟩ := fbd_e h
      refine go_callT (a := 1001) (y := yJs_charAt) (asr := [.inl x5]) (v := some (.inl r1)) (I' := I) (st1 := [.inl r1]) (Or.inl rfl) d_Rd_wordOf_24 s_yJs_charAt m_Rd_170 rfl rfl (Nat.le_of_ble_eq_true rfl) rfl rfl (c_Js_charAt l (d0 + 1) x5 I w1) ?_
      refine go_bipush (v := 32) d_Rd_wordOf_27 (by decide) ?_
      refine go_cmp_ne (tgt := 65) d_Rd_wordOf_29 (by decide) (fun hc => ?_) (fun hc => ?_)
      · rw [if_neg hc] at h
        exact go_lv [0, 1, 2, 3, 4, 5] rfl (j_Rd_wordOf_65 l d0 (L_Rd_wordOf_10 x1 x2 I n) x1 x2 x3 x4 x5 I h (fun z3 z4 z5 hh => ih z3 z4 z5 hh hX hR) hX hR)
      · rw [if_pos hc] at h
        refine go_iload (k := 5) d_Rd_wordOf_32 rfl ?_
        refine go_iload (k := 4) d_Rd_wordOf_34 rfl ?_
        refine go_isub d_Rd_wordOf_36 ?_
        refine go_iload_n (k := 2) d_Rd_wordOf_37 rfl rfl ?_
        refine go_iload_n (k := 1) d_Rd_wordOf_38 rfl rfl ?_
        refine go_isub d_Rd_wordOf_39 ?_
        refine go_cmp_ne (tgt := 56) d_Rd_wordOf_40 (by decide) (fun hc => ?_) (fun hc => ?_)
        · rw [if_neg hc] at h
          exact go_lv [0, 1, 2, 3, 5] rfl (j_Rd_wordOf_56 l d0 (L_Rd_wordOf_10 x1 x2 I n) x1 x2 x3 x5 I h (fun z3 z4 z5 hh => ih z3 z4 z5 hh hX hR) hX hR)
        · rw [if_pos hc] at h
          refine go_aload_n (k := 0) d_Rd_wordOf_43 rfl rfl ?_
          refine go_iload (k := 4) d_Rd_wordOf_44 rfl ?_
          refine go_iload_n (k := 1) d_Rd_wordOf_46 rfl rfl ?_
          refine go_iload_n (k := 2) d_Rd_wordOf_47 rfl rfl ?_
          obtain ⟨r2, w1, h⟩ := fbd_e h
          refine go_callV (y := yRd_isWordAt) (asr := [.inl x4, .inl x1, .inl x2]) (v := some (.inl r2)) (I' := I) (st1 := [.inl r2]) d_Rd_wordOf_48 s_yRd_isWordAt m_Rd_173 a_X_111 rfl rfl rfl (Nat.le_of_ble_eq_true rfl) rfl rfl (c_Rd_isWordAt l (d0 + 0) x4 x1 x2 I w1) ?_
          refine go_if_eq (tgt := 56) d_Rd_wordOf_51 (by decide) (fun hc => ?_) (fun hc => ?_)
          · rw [if_pos hc] at h
            exact go_lv [0, 1, 2, 3, 5] rfl (j_Rd_wordOf_56 l d0 (L_Rd_wordOf_10 x1 x2 I n) x1 x2 x3 x5 I h (fun z3 z4 z5 hh => ih z3 z4 z5 hh hX hR) hX hR)
          · rw [if_neg hc] at h
            refine go_iload_n (k := 3) d_Rd_wordOf_54 rfl rfl ?_
            exact go_ireturn d_Rd_wordOf_55 rfl (hR _ (Option.some.inj h).symm)
def F_Rd_wordOf (x1 x2 : Int32) (I : gb_Mem) : Option (Int32) :=
  fbr (L_Rd_wordOf_10 x1 x2 I 5000 200 0 0) (fun _ =>
    some 1)
    (fun q3 => some q3)
set_option maxRecDepth 4000 in
theorem c_Rd_wordOf (l : Launch) (d0 : Nat) (x1 x2 : Int32) (I : gb_Mem) {rz : Int32} (h : F_Rd_wordOf x1 x2 I = some rz) : gb_Cs l yRd_wordOf (d0 + 5) [.inr (some 111), .inl x1, .inl x2] shX I (some (.inl rz)) I := by
  refine gb_Ct.of (lv := [(0, .inr (some 111)), (1, .inl x1), (2, .inl x2)]) rfl (Nat.le_of_ble_eq_true rfl) rfl ?_
  unfold F_Rd_wordOf at h
  show gb_Go l yRd_wordOf (d0 + 5) 0 0 0 [(0, .inr (some 111)), (1, .inl x1), (2, .inl x2)] [] shX I (gb_po shX (some (.inl rz)) I)
  refine go_sipush (v := 200) d_Rd_wordOf_0 (by decide) ?_
  refine go_istore_n (lv' := [(3, .inl 200), (0, .inr (some 111)), (1, .inl x1), (2, .inl x2)]) d_Rd_wordOf_3 rfl (by decide) rfl ?_
  refine go_iconst (v := 0) d_Rd_wordOf_4 (by decide) ?_
  refine go_istore (lv' := [(4, .inl 0), (3, .inl 200), (0, .inr (some 111)), (1, .inl x1), (2, .inl x2)]) d_Rd_wordOf_5 (by decide) rfl ?_
  refine go_iconst (v := 0) d_Rd_wordOf_7 (by decide) ?_
  refine go_istore (lv' := [(5, .inl 0), (4, .inl 0), (3, .inl 200), (0, .inr (some 111)), (1, .inl x1), (2, .inl x2)]) d_Rd_wordOf_8 (by decide) rfl ?_
  refine go_lv [3, 4, 5, 2, 1, 0] (lv' := [(0, .inr (some 111)), (1, .inl x1), (2, .inl x2), (3, .inl 200), (4, .inl 0), (5, .inl 0)]) rfl ?_
  obtain ⟨ρ, w1, w2, w3⟩ := fbr_e2 h
  refine l_Rd_wordOf_10 l d0 x1 x2 I 5000 200 0 0 w1 (fun  e => ?_) (fun q3 e => ?_)
  · have h := w2 _ e
    try dsimp only at h
    refine go_iconst (v := 1) d_Rd_wordOf_71 (by decide) ?_
    cases h
    exact go_ireturn d_Rd_wordOf_72 rfl gb_po_i
  · have h := w3 _ e
    try dsimp only at h
    cases h
    exact gb_po_i
theorem d_Co_goByOne_0 : decode yCo_goByOne.2.1 0 = .ok (.aload_n 0, 1) := by decide +kernel
theorem d_Co_goByOne_1 : decode yCo_goByOne.2.1 1 = .ok (.invokevirtual 31, 3) := by decide +kernel
theorem d_Co_goByOne_4 : decode yCo_goByOne.2.1 4 = .ok (.iconst 0, 1) := by decide +kernel
theorem d_Co_goByOne_5 : decode yCo_goByOne.2.1 5 = .ok (.istore_n 1, 1) := by decide +kernel
theorem d_Co_goByOne_6 : decode yCo_goByOne.2.1 6 = .ok (.aload_n 0, 1) := by decide +kernel
theorem d_Co_goByOne_7 : decode yCo_goByOne.2.1 7 = .ok (.getfield 19, 3) := by decide +kernel
theorem d_Co_goByOne_10 : decode yCo_goByOne.2.1 10 = .ok (.getfield 34, 3) := by decide +kernel
theorem d_Co_goByOne_13 : decode yCo_goByOne.2.1 13 = .ok (.ifCond .le 10, 3) := by decide +kernel
theorem d_Co_goByOne_16 : decode yCo_goByOne.2.1 16 = .ok (.aload_n 0, 1) := by decide +kernel
theorem d_Co_goByOne_17 : decode yCo_goByOne.2.1 17 = .ok (.invokevirtual 40, 3) := by decide +kernel
theorem d_Co_goByOne_20 : decode yCo_goByOne.2.1 20 = .ok (.goto 45, 3) := by decide +kernel
theorem d_Co_goByOne_23 : decode yCo_goByOne.2.1 23 = .ok (.iconst 0, 1) := by decide +kernel
theorem d_Co_goByOne_24 : decode yCo_goByOne.2.1 24 = .ok (.istore_n 2, 1) := by decide +kernel
theorem d_Co_goByOne_25 : decode yCo_goByOne.2.1 25 = .ok (.iload_n 2, 1) := by decide +kernel
theorem d_Co_goByOne_26 : decode yCo_goByOne.2.1 26 = .ok (.aload_n 0, 1) := by decide +kernel
theorem d_Co_goByOne_27 : decode yCo_goByOne.2.1 27 = .ok (.getfield 19, 3) := by decide +kernel
theorem d_Co_goByOne_30 : decode yCo_goByOne.2.1 30 = .ok (.getfield 43, 3) := by decide +kernel
theorem d_Co_goByOne_33 : decode yCo_goByOne.2.1 33 = .ok (.if_icmp .ge 32, 3) := by decide +kernel
theorem d_Co_goByOne_36 : decode yCo_goByOne.2.1 36 = .ok (.iload_n 1, 1) := by decide +kernel
theorem d_Co_goByOne_37 : decode yCo_goByOne.2.1 37 = .ok (.aload_n 0, 1) := by decide +kernel
theorem d_Co_goByOne_38 : decode yCo_goByOne.2.1 38 = .ok (.getfield 19, 3) := by decide +kernel
theorem d_Co_goByOne_41 : decode yCo_goByOne.2.1 41 = .ok (.iload_n 2, 1) := by decide +kernel
theorem d_Co_goByOne_42 : decode yCo_goByOne.2.1 42 = .ok (.invokevirtual 46, 3) := by decide +kernel
theorem d_Co_goByOne_45 : decode yCo_goByOne.2.1 45 = .ok (.ifCond .eq 7, 3) := by decide +kernel
theorem d_Co_goByOne_48 : decode yCo_goByOne.2.1 48 = .ok (.iconst 0, 1) := by decide +kernel
theorem d_Co_goByOne_49 : decode yCo_goByOne.2.1 49 = .ok (.goto 8, 3) := by decide +kernel
theorem d_Co_goByOne_52 : decode yCo_goByOne.2.1 52 = .ok (.aload_n 0, 1) := by decide +kernel
theorem d_Co_goByOne_53 : decode yCo_goByOne.2.1 53 = .ok (.iload_n 2, 1) := by decide +kernel
theorem d_Co_goByOne_54 : decode yCo_goByOne.2.1 54 = .ok (.invokevirtual 50, 3) := by decide +kernel
theorem d_Co_goByOne_57 : decode yCo_goByOne.2.1 57 = .ok (.iadd, 1) := by decide +kernel
theorem d_Co_goByOne_58 : decode yCo_goByOne.2.1 58 = .ok (.istore_n 1, 1) := by decide +kernel
theorem d_Co_goByOne_59 : decode yCo_goByOne.2.1 59 = .ok (.iinc 2 1, 3) := by decide +kernel
theorem d_Co_goByOne_62 : decode yCo_goByOne.2.1 62 = .ok (.goto (-37), 3) := by decide +kernel
theorem d_Co_goByOne_65 : decode yCo_goByOne.2.1 65 = .ok (.aload_n 0, 1) := by decide +kernel
theorem d_Co_goByOne_66 : decode yCo_goByOne.2.1 66 = .ok (.getfield 19, 3) := by decide +kernel
theorem d_Co_goByOne_69 : decode yCo_goByOne.2.1 69 = .ok (.dup, 1) := by decide +kernel
theorem d_Co_goByOne_70 : decode yCo_goByOne.2.1 70 = .ok (.getfield 54, 3) := by decide +kernel
theorem d_Co_goByOne_73 : decode yCo_goByOne.2.1 73 = .ok (.iconst 1, 1) := by decide +kernel
theorem d_Co_goByOne_74 : decode yCo_goByOne.2.1 74 = .ok (.iadd, 1) := by decide +kernel
theorem d_Co_goByOne_75 : decode yCo_goByOne.2.1 75 = .ok (.putfield 54, 3) := by decide +kernel
theorem d_Co_goByOne_78 : decode yCo_goByOne.2.1 78 = .ok (.iload_n 1, 1) := by decide +kernel
theorem d_Co_goByOne_79 : decode yCo_goByOne.2.1 79 = .ok (.ireturn, 1) := by decide +kernel
def J_Co_goByOne_57 (h0 t0 : Nat) (k : Int32 → Int32 → gb_Mem → Option (Int32 × gb_Mem)) (x2 s0 s1 : Int32) (I : gb_Mem) : Option (Int32 × gb_Mem) :=
  k (s1 + s0) (x2 + 1) I
set_option maxRecDepth 4000 in
theorem j_Co_goByOne_57 (l : Launch) (d0 : Nat) (h0 t0 : Nat) (H0 : isCo h0 t0) {post : Option gb_AV → List gb_Ce → gb_Mem → Prop} (k : Int32 → Int32 → gb_Mem → Option (Int32 × gb_Mem)) (x2 s0 s1 : Int32) (I : gb_Mem) {ρ : Int32 × gb_Mem} (h : J_Co_goByOne_57 h0 t0 k x2 s0 s1 I = some ρ) (hk : ∀ (z1 z2 : Int32) (Iw : gb_Mem), k z1 z2 Iw = some ρ → gb_Go l yCo_goByOne (d0 + 6) 0 0 25 [(0, .inr (some h0)), (1, .inl z1), (2, .inl z2)] [] shX Iw post) (hX : ∀ (o1 : Int32) (I2 : gb_Mem), ρ = (o1, I2) → gb_Go l yCo_goByOne (d0 + 6) 0 0 65 [(0, .inr (some h0)), (1, .inl o1)] [] shX I2 post) : gb_Go l yCo_goByOne (d0 + 6) 0 0 57 [(0, .inr (some h0)), (2, .inl x2)] [.inl s0, .inl s1] shX I post := by
  unfold J_Co_goByOne_57 at h
  refine go_iadd d_Co_goByOne_57 ?_
  refine go_istore_n (lv' := [(1, .inl (s1 + s0)), (0, .inr (some h0)), (2, .inl x2)]) d_Co_goByOne_58 rfl (by decide) rfl ?_
  refine go_iinc (k := 2) (v := x2 + 1) (lv' := [(2, .inl (x2 + 1)), (1, .inl (s1 + s0)), (0, .inr (some h0))]) d_Co_goByOne_59 rfl rfl (by decide) rfl ?_
  refine go_goto (tgt := 25) d_Co_goByOne_62 (by decide) ?_
  exact go_lv [2, 1, 0] rfl (hk _ _ _ h)
def L_Co_goByOne_25 (h0 t0 : Nat) : Nat → Int32 → Int32 → gb_Mem → Option (Int32 × gb_Mem)
  | 0, _, _, _ => none
  | n + 1, x1, x2, I =>
    if (I t0 5) ≤ x2 then
      some (x1, I)
    else
      fbd (F_Ta_isAtItsShore t0 x2 I) fun r2 =>
      if r2 = 0 then
        fbd (F_Co_sail h0 t0 x2 I) fun (r4, I3) =>
        J_Co_goByOne_57 h0 t0 (L_Co_goByOne_25 h0 t0 n) x2 r4 x1 I3
      else
        J_Co_goByOne_57 h0 t0 (L_Co_goByOne_25 h0 t0 n) x2 0 x1 I
set_option maxRecDepth 4000 in
theorem l_Co_goByOne_25 (l : Launch) (d0 : Nat) (h0 t0 : Nat) (H0 : isCo h0 t0) {post : Option gb_AV → List gb_Ce → gb_Mem → Prop} : ∀ (n : Nat) (x1 x2 : Int32) (I : gb_Mem) {ρ : Int32 × gb_Mem} (h : L_Co_goByOne_25 h0 t0 n x1 x2 I = some ρ) (hX : ∀ (o1 : Int32) (I2 : gb_Mem), ρ = (o1, I2) → gb_Go l yCo_goByOne (d0 + 6) 0 0 65 [(0, .inr (some h0)), (1, .inl o1)] [] shX I2 post) , gb_Go l yCo_goByOne (d0 + 6) 0 0 25 [(0, .inr (some h0)), (1, .inl x1), (2, .inl x2)] [] shX I post := by
  intro n
  induction n with
  | zero => intro x1 x2 I ρ h hX; cases h
  | succ n ih =>
    intro x1 x2 I ρ h hX
    rw [L_Co_goByOne_25] at h
    refine go_iload_n (k := 2) d_Co_goByOne_25 rfl rfl ?_
    refine go_aload_n (k := 0) d_Co_goByOne_26 rfl rfl ?_
    refine go_getr (ci := 6) (k := 1) (r := t0) d_Co_goByOne_27 H0.1 rfl (by decide) f_Co_19 rfl ?_
    refine go_getiN (ci := 2) (k := 5) d_Co_goByOne_30 H0.2.2.1 rfl (by decide) f_Co_43 rfl ?_
    refine go_cmp_ge (tgt := 65) d_Co_goByOne_33 (by decide) (fun hc => ?_) (fun hc => ?_)
    · rw [if_pos hc] at h
      exact go_lv [0, 1] rfl (hX _ _ (Option.some.inj h).symm)
    · rw [if_neg hc] at h
      refine go_iload_n (k := 1) d_Co_goByOne_36 rfl rfl ?_
      refine go_aload_n (k := 0) d_Co_goByOne_37 rfl rfl ?_
      refine go_getr (ci := 6) (k := 1) (r := t0) d_Co_goByOne_38 H0.1 rfl (by decide) f_Co_19 rfl ?_
      refine go_iload_n (k := 2) d_Co_goByOne_41 rfl rfl ?_
      obtain ⟨r2, w1, h⟩ := fbd_e h
      refine go_callV (y := yTa_isAtItsShore) (asr := [.inl x2]) (v := some (.inl r2)) (I' := I) (st1 := [.inl r2, .inl x1]) d_Co_goByOne_42 s_yTa_isAtItsShore m_Co_46 H0.2.2.1 rfl rfl rfl (Nat.le_of_ble_eq_true rfl) rfl rfl (c_Ta_isAtItsShore l (d0 + 3) t0 H0.2.2 x2 I w1) ?_
      refine go_if_eq (tgt := 52) d_Co_goByOne_45 (by decide) (fun hc => ?_) (fun hc => ?_)
      · rw [if_pos hc] at h
        refine go_aload_n (k := 0) d_Co_goByOne_52 rfl rfl ?_
        refine go_iload_n (k := 2) d_Co_goByOne_53 rfl rfl ?_
        obtain ⟨⟨r4, I3⟩, w1, h⟩ := fbd_e h
        try dsimp only at h
        refine go_callV (y := yCo_sail) (asr := [.inl x2]) (v := some (.inl r4)) (I' := I3) (st1 := [.inl r4, .inl x1]) d_Co_goByOne_54 s_yCo_sail m_Co_50 H0.1 rfl rfl rfl (Nat.le_of_ble_eq_true rfl) rfl rfl (c_Co_sail l (d0 + 0) h0 t0 H0 x2 I w1) ?_
        exact go_lv [0, 2] rfl (j_Co_goByOne_57 l d0 h0 t0 H0 (L_Co_goByOne_25 h0 t0 n) x2 r4 x1 I3 h (fun z1 z2 Iw hh => ih z1 z2 Iw hh hX) hX)
      · rw [if_neg hc] at h
        refine go_iconst (v := 0) d_Co_goByOne_48 (by decide) ?_
        refine go_goto (tgt := 57) d_Co_goByOne_49 (by decide) ?_
        exact go_lv [0, 2] rfl (j_Co_goByOne_57 l d0 h0 t0 H0 (L_Co_goByOne_25 h0 t0 n) x2 0 x1 I h (fun z1 z2 Iw hh => ih z1 z2 Iw hh hX) hX)
def J_Co_goByOne_65 (h0 t0 : Nat) (x1 : Int32) (I : gb_Mem) : Option (Int32 × gb_Mem) :=
  fstf I t0 4 ((I t0 4) + 1) fun I7 =>
  some (x1, I7)
set_option maxRecDepth 4000 in
theorem j_Co_goByOne_65 (l : Launch) (d0 : Nat) (h0 t0 : Nat) (H0 : isCo h0 t0) (x1 : Int32) (I : gb_Mem) {rz : Int32} {Iz : gb_Mem} (h : J_Co_goByOne_65 h0 t0 x1 I = some (rz, Iz)) : gb_Go l yCo_goByOne (d0 + 6) 0 0 65 [(0, .inr (some h0)), (1, .inl x1)] [] shX I (gb_po shX (some (.inl rz)) Iz) := by
  unfold J_Co_goByOne_65 at h
  refine go_aload_n (k := 0) d_Co_goByOne_65 rfl rfl ?_
  refine go_getr (ci := 6) (k := 1) (r := t0) d_Co_goByOne_66 H0.1 rfl (by decide) f_Co_19 rfl ?_
  refine go_dup d_Co_goByOne_69 ?_
  refine go_getiN (ci := 2) (k := 4) d_Co_goByOne_70 H0.2.2.1 rfl (by decide) f_Co_54 rfl ?_
  refine go_iconst (v := 1) d_Co_goByOne_73 (by decide) ?_
  refine go_iadd d_Co_goByOne_74 ?_
  obtain ⟨I7, eI7, h⟩ := fstf_e h
  refine go_putTN (ci := 2) (k := 4) (I' := I7) d_Co_goByOne_75 H0.2.2.1 rfl (by decide) f_Co_54 rfl rfl rfl rfl rfl eI7 ?_
  refine go_iload_n (k := 1) d_Co_goByOne_78 rfl rfl ?_
  cases h
  exact go_ireturn d_Co_goByOne_79 rfl gb_po_i
def F_Co_goByOne (h0 t0 : Nat) (I : gb_Mem) : Option (Int32 × gb_Mem) :=
  fbd (F_Co_serve h0 t0 I) fun I1 =>
  if (I1 t0 2) ≤ 0 then
    fbd (L_Co_goByOne_25 h0 t0 5000 0 0 I1) fun (o5, I6) =>
    J_Co_goByOne_65 h0 t0 o5 I6
  else
    fbd (F_Co_listen h0 t0 I1) fun I8 =>
    J_Co_goByOne_65 h0 t0 0 I8
set_option maxRecDepth 4000 in
theorem c_Co_goByOne (l : Launch) (d0 : Nat) (h0 t0 : Nat) (H0 : isCo h0 t0) (I : gb_Mem) {rz : Int32} {Iz : gb_Mem} (h : F_Co_goByOne h0 t0 I = some (rz, Iz)) : gb_Cs l yCo_goByOne (d0 + 6) [.inr (some h0)] shX I (some (.inl rz)) Iz := by
  refine gb_Ct.of (lv := [(0, .inr (some h0))]) rfl (Nat.le_of_ble_eq_true rfl) rfl ?_
  unfold F_Co_goByOne at h
  show gb_Go l yCo_goByOne (d0 + 6) 0 0 0 [(0, .inr (some h0))] [] shX I (gb_po shX (some (.inl rz)) Iz)
  refine go_aload_n (k := 0) d_Co_goByOne_0 rfl rfl ?_
  obtain ⟨I1, w1, h⟩ := fbd_e h
  refine go_callV (y := yCo_serve) (asr := []) (v := none) (I' := I1) (st1 := []) d_Co_goByOne_1 s_yCo_serve m_Co_31 H0.1 rfl rfl rfl (Nat.le_of_ble_eq_true rfl) rfl rfl (c_Co_serve l (d0 + 1) h0 t0 H0 I w1) ?_
  refine go_iconst (v := 0) d_Co_goByOne_4 (by decide) ?_
  refine go_istore_n (lv' := [(1, .inl 0), (0, .inr (some h0))]) d_Co_goByOne_5 rfl (by decide) rfl ?_
  refine go_aload_n (k := 1) d_Co_goByOne_6 rfl rfl ?_
  refine go_getr (ci := 6) (k := 1) (r := t0) d_Co_goByOne_7 H0.1 rfl (by decide) f_Co_19 rfl ?_
  refine go_getiN (ci := 2) (k := 2) d_Co_goByOne_10 H0.2.2.1 rfl (by decide) f_Co_34 rfl ?_
  refine go_if_le (tgt := 23) d_Co_goByOne_13 (by decide) (fun hc => ?_) (fun hc => ?_)
  · rw [if_pos hc] at h
    refine go_iconst (v := 0) d_Co_goByOne_23 (by decide) ?_
    refine go_istore_n (lv' := [(2, .inl 0), (1, .inl 0), (0, .inr (some h0))]) d_Co_goByOne_24 rfl (by decide) rfl ?_
    refine go_lv [2, 1, 0] (lv' := [(0, .inr (some h0)), (1, .inl 0), (2, .inl 0)]) rfl ?_
    obtain ⟨⟨o5, I6⟩, w1, h⟩ := fbd_e h
    try dsimp only at h
    refine l_Co_goByOne_25 l d0 h0 t0 H0 5000 0 0 I1 w1 (fun o5_ I6_ e => ?_)
    cases e
    exact go_lv [0, 1] rfl (j_Co_goByOne_65 l d0 h0 t0 H0 o5 I6 h)
  · rw [if_neg hc] at h
    refine go_aload_n (k := 1) d_Co_goByOne_16 rfl rfl ?_
    obtain ⟨I8, w1, h⟩ := fbd_e h
    refine go_callV (y := yCo_listen) (asr := []) (v := none) (I' := I8) (st1 := []) d_Co_goByOne_17 s_yCo_listen m_Co_40 H0.1 rfl rfl rfl (Nat.le_of_ble_eq_true rfl) rfl rfl (c_Co_listen l (d0 + 2) h0 t0 H0 I1 w1) ?_
    refine go_goto (tgt := 65) d_Co_goByOne_20 (by decide) ?_
    exact go_lv [1, 0] rfl (j_Co_goByOne_65 l d0 h0 t0 H0 0 I8 h)
theorem d_Gb_act_0 : decode yGb_act.2.1 0 = .ok (.aload_n 0, 1) := by decide +kernel
theorem d_Gb_act_1 : decode yGb_act.2.1 1 = .ok (.iload_n 1, 1) := by decide +kernel
theorem d_Gb_act_2 : decode yGb_act.2.1 2 = .ok (.iload_n 2, 1) := by decide +kernel
theorem d_Gb_act_3 : decode yGb_act.2.1 3 = .ok (.iload_n 3, 1) := by decide +kernel
theorem d_Gb_act_4 : decode yGb_act.2.1 4 = .ok (.invokevirtual 111, 3) := by decide +kernel
theorem d_Gb_act_7 : decode yGb_act.2.1 7 = .ok (.ifCond .ne 5, 3) := by decide +kernel
theorem d_Gb_act_10 : decode yGb_act.2.1 10 = .ok (.iconst 0, 1) := by decide +kernel
theorem d_Gb_act_11 : decode yGb_act.2.1 11 = .ok (.ireturn, 1) := by decide +kernel
theorem d_Gb_act_12 : decode yGb_act.2.1 12 = .ok (.aload_n 0, 1) := by decide +kernel
theorem d_Gb_act_13 : decode yGb_act.2.1 13 = .ok (.getfield 22, 3) := by decide +kernel
theorem d_Gb_act_16 : decode yGb_act.2.1 16 = .ok (.aload_n 0, 1) := by decide +kernel
theorem d_Gb_act_17 : decode yGb_act.2.1 17 = .ok (.getfield 12, 3) := by decide +kernel
theorem d_Gb_act_20 : decode yGb_act.2.1 20 = .ok (.invokevirtual 114, 3) := by decide +kernel
theorem d_Gb_act_23 : decode yGb_act.2.1 23 = .ok (.iload_n 1, 1) := by decide +kernel
theorem d_Gb_act_24 : decode yGb_act.2.1 24 = .ok (.ifCond .ne 15, 3) := by decide +kernel
theorem d_Gb_act_27 : decode yGb_act.2.1 27 = .ok (.aload_n 0, 1) := by decide +kernel
theorem d_Gb_act_28 : decode yGb_act.2.1 28 = .ok (.getfield 41, 3) := by decide +kernel
theorem d_Gb_act_31 : decode yGb_act.2.1 31 = .ok (.iload_n 2, 1) := by decide +kernel
theorem d_Gb_act_32 : decode yGb_act.2.1 32 = .ok (.iload_n 3, 1) := by decide +kernel
theorem d_Gb_act_33 : decode yGb_act.2.1 33 = .ok (.invokevirtual 117, 3) := by decide +kernel
theorem d_Gb_act_36 : decode yGb_act.2.1 36 = .ok (.goto 47, 3) := by decide +kernel
theorem d_Gb_act_39 : decode yGb_act.2.1 39 = .ok (.iload_n 1, 1) := by decide +kernel
theorem d_Gb_act_40 : decode yGb_act.2.1 40 = .ok (.iconst 1, 1) := by decide +kernel
theorem d_Gb_act_41 : decode yGb_act.2.1 41 = .ok (.if_icmp .ne 15, 3) := by decide +kernel
theorem d_Gb_act_44 : decode yGb_act.2.1 44 = .ok (.aload_n 0, 1) := by decide +kernel
theorem d_Gb_act_45 : decode yGb_act.2.1 45 = .ok (.getfield 41, 3) := by decide +kernel
theorem d_Gb_act_48 : decode yGb_act.2.1 48 = .ok (.iload_n 2, 1) := by decide +kernel
theorem d_Gb_act_49 : decode yGb_act.2.1 49 = .ok (.iload_n 3, 1) := by decide +kernel
theorem d_Gb_act_50 : decode yGb_act.2.1 50 = .ok (.invokevirtual 121, 3) := by decide +kernel
theorem d_Gb_act_53 : decode yGb_act.2.1 53 = .ok (.goto 30, 3) := by decide +kernel
theorem d_Gb_act_56 : decode yGb_act.2.1 56 = .ok (.iload_n 1, 1) := by decide +kernel
theorem d_Gb_act_57 : decode yGb_act.2.1 57 = .ok (.iconst 2, 1) := by decide +kernel
theorem d_Gb_act_58 : decode yGb_act.2.1 58 = .ok (.if_icmp .ne 14, 3) := by decide +kernel
theorem d_Gb_act_61 : decode yGb_act.2.1 61 = .ok (.aload_n 0, 1) := by decide +kernel
theorem d_Gb_act_62 : decode yGb_act.2.1 62 = .ok (.getfield 41, 3) := by decide +kernel
theorem d_Gb_act_65 : decode yGb_act.2.1 65 = .ok (.iload_n 2, 1) := by decide +kernel
theorem d_Gb_act_66 : decode yGb_act.2.1 66 = .ok (.invokevirtual 124, 3) := by decide +kernel
theorem d_Gb_act_69 : decode yGb_act.2.1 69 = .ok (.goto 14, 3) := by decide +kernel
theorem d_Gb_act_72 : decode yGb_act.2.1 72 = .ok (.aload_n 0, 1) := by decide +kernel
theorem d_Gb_act_73 : decode yGb_act.2.1 73 = .ok (.getfield 12, 3) := by decide +kernel
theorem d_Gb_act_76 : decode yGb_act.2.1 76 = .ok (.getfield 35, 3) := by decide +kernel
theorem d_Gb_act_79 : decode yGb_act.2.1 79 = .ok (.iload_n 3, 1) := by decide +kernel
theorem d_Gb_act_80 : decode yGb_act.2.1 80 = .ok (.putfield 128, 3) := by decide +kernel
theorem d_Gb_act_83 : decode yGb_act.2.1 83 = .ok (.iconst 1, 1) := by decide +kernel
theorem d_Gb_act_84 : decode yGb_act.2.1 84 = .ok (.ireturn, 1) := by decide +kernel
def F_Gb_act (x1 x2 x3 : Int32) (I : gb_Mem) : Option (Int32 × gb_Mem) :=
  fbd (F_Gb_canAct x1 x2 x3 I) fun r1 =>
  if r1 = 0 then
    some (0, I)
  else
    fbd (F_Pa_keep 1 I) fun I2 =>
    if x1 = 0 then
      fbd (F_Co_passByHand 100 2 x2 x3 I2) fun I6 =>
      some (1, I6)
    else
      if x1 = 1 then
        fbd (F_Co_pourByHand 100 2 x2 x3 I2) fun I5 =>
        some (1, I5)
      else
        if x1 = 2 then
          fbd (F_Co_salt 100 2 x2 I2) fun I4 =>
          some (1, I4)
        else
          fstf I2 2 2 x3 fun I3 =>
          some (1, I3)
set_option maxRecDepth 4000 in
theorem c_Gb_act (l : Launch) (d0 : Nat) (x1 x2 x3 : Int32) (I : gb_Mem) {rz : Int32} {Iz : gb_Mem} (h : F_Gb_act x1 x2 x3 I = some (rz, Iz)) : gb_Cs l yGb_act (d0 + 6) [.inr (some 0), .inl x1, .inl x2, .inl x3] shX I (some (.inl rz)) Iz := by
  refine gb_Ct.of (lv := [(0, .inr (some 0)), (1, .inl x1), (2, .inl x2), (3, .inl x3)]) rfl (Nat.le_of_ble_eq_true rfl) rfl ?_
  unfold F_Gb_act at h
  show gb_Go l yGb_act (d0 + 6) 0 0 0 [(0, .inr (some 0)), (1, .inl x1), (2, .inl x2), (3, .inl x3)] [] shX I (gb_po shX (some (.inl rz)) Iz)
  refine go_aload_n (k := 0) d_Gb_act_0 rfl rfl ?_
  refine go_iload_n (k := 1) d_Gb_act_1 rfl rfl ?_
  refine go_iload_n (k := 2) d_Gb_act_2 rfl rfl ?_
  refine go_iload_n (k := 3) d_Gb_act_3 rfl rfl ?_
  obtain ⟨r1, w1, h⟩ := fbd_e h
  refine go_callV (y := yGb_canAct) (asr := [.inl x1, .inl x2, .inl x3]) (v := some (.inl r1)) (I' := I) (st1 := [.inl r1]) d_Gb_act_4 s_yGb_canAct m_Gb_111 a_X_0 rfl rfl rfl (Nat.le_of_ble_eq_true rfl) rfl rfl (c_Gb_canAct l (d0 + 2) x1 x2 x3 I w1) ?_
  refine go_if_ne (tgt := 12) d_Gb_act_7 (by decide) (fun hc => ?_) (fun hc => ?_)
  · rw [if_neg hc] at h
    refine go_aload_n (k := 0) d_Gb_act_12 rfl rfl ?_
    refine go_getr (ci := 0) (k := 3) (r := 69) d_Gb_act_13 a_X_0 rfl (by decide) f_Gb_22 rfl ?_
    refine go_aload_n (k := 0) d_Gb_act_16 rfl rfl ?_
    refine go_getr (ci := 0) (k := 0) (r := 1) d_Gb_act_17 a_X_0 rfl (by decide) f_Gb_12 rfl ?_
    obtain ⟨I2, w1, h⟩ := fbd_e h
    refine go_callV (y := yPa_keep) (asr := [.inr (some 1)]) (v := none) (I' := I2) (st1 := []) d_Gb_act_20 s_yPa_keep m_Gb_114 a_X_69 rfl rfl rfl (Nat.le_of_ble_eq_true rfl) rfl rfl (c_Pa_keep l (d0 + 3) 1 isWo_1 I w1) ?_
    refine go_iload_n (k := 1) d_Gb_act_23 rfl rfl ?_
    refine go_if_ne (tgt := 39) d_Gb_act_24 (by decide) (fun hc => ?_) (fun hc => ?_)
    · rw [if_neg hc] at h
      refine go_iload_n (k := 1) d_Gb_act_39 rfl rfl ?_
      refine go_iconst (v := 1) d_Gb_act_40 (by decide) ?_
      refine go_cmp_ne (tgt := 56) d_Gb_act_41 (by decide) (fun hc => ?_) (fun hc => ?_)
      · rw [if_neg hc] at h
        refine go_iload_n (k := 1) d_Gb_act_56 rfl rfl ?_
        refine go_iconst (v := 2) d_Gb_act_57 (by decide) ?_
        refine go_cmp_ne (tgt := 72) d_Gb_act_58 (by decide) (fun hc => ?_) (fun hc => ?_)
        · rw [if_neg hc] at h
          refine go_aload_n (k := 0) d_Gb_act_72 rfl rfl ?_
          refine go_getr (ci := 0) (k := 0) (r := 1) d_Gb_act_73 a_X_0 rfl (by decide) f_Gb_12 rfl ?_
          refine go_getrN (ci := 1) (k := 0) (r := 2) d_Gb_act_76 a_X_1 rfl (by decide) f_Gb_35 rfl ?_
          refine go_iload_n (k := 3) d_Gb_act_79 rfl rfl ?_
          obtain ⟨I3, eI3, h⟩ := fstf_e h
          refine go_putTN (ci := 2) (k := 2) (I' := I3) d_Gb_act_80 a_X_2 rfl (by decide) f_Gb_128 rfl rfl rfl rfl rfl eI3 ?_
          refine go_iconst (v := 1) d_Gb_act_83 (by decide) ?_
          cases h
          exact go_zreturn d_Gb_act_84 rfl (Or.inr rfl) gb_po_i
        · rw [if_pos hc] at h
          refine go_aload_n (k := 0) d_Gb_act_61 rfl rfl ?_
          refine go_getr (ci := 0) (k := 5) (r := 100) d_Gb_act_62 a_X_0 rfl (by decide) f_Gb_41 rfl ?_
          refine go_iload_n (k := 2) d_Gb_act_65 rfl rfl ?_
          obtain ⟨I4, w1, h⟩ := fbd_e h
          refine go_callV (y := yCo_salt) (asr := [.inl x2]) (v := none) (I' := I4) (st1 := []) d_Gb_act_66 s_yCo_salt m_Gb_124 a_X_100 rfl rfl rfl (Nat.le_of_ble_eq_true rfl) rfl rfl (c_Co_salt l (d0 + 3) 100 2 isCo_100 x2 I2 w1) ?_
          refine go_goto (tgt := 83) d_Gb_act_69 (by decide) ?_
          refine go_iconst (v := 1) d_Gb_act_83 (by decide) ?_
          cases h
          exact go_zreturn d_Gb_act_84 rfl (Or.inr rfl) gb_po_i
      · rw [if_pos hc] at h
        refine go_aload_n (k := 0) d_Gb_act_44 rfl rfl ?_
        refine go_getr (ci := 0) (k := 5) (r := 100) d_Gb_act_45 a_X_0 rfl (by decide) f_Gb_41 rfl ?_
        refine go_iload_n (k := 2) d_Gb_act_48 rfl rfl ?_
        refine go_iload_n (k := 3) d_Gb_act_49 rfl rfl ?_
        obtain ⟨I5, w1, h⟩ := fbd_e h
        refine go_callV (y := yCo_pourByHand) (asr := [.inl x2, .inl x3]) (v := none) (I' := I5) (st1 := []) d_Gb_act_50 s_yCo_pourByHand m_Gb_121 a_X_100 rfl rfl rfl (Nat.le_of_ble_eq_true rfl) rfl rfl (c_Co_pourByHand l (d0 + 3) 100 2 isCo_100 x2 x3 I2 w1) ?_
        refine go_goto (tgt := 83) d_Gb_act_53 (by decide) ?_
        refine go_iconst (v := 1) d_Gb_act_83 (by decide) ?_
        cases h
        exact go_zreturn d_Gb_act_84 rfl (Or.inr rfl) gb_po_i
    · rw [if_pos hc] at h
      refine go_aload_n (k := 0) d_Gb_act_27 rfl rfl ?_
      refine go_getr (ci := 0) (k := 5) (r := 100) d_Gb_act_28 a_X_0 rfl (by decide) f_Gb_41 rfl ?_
      refine go_iload_n (k := 2) d_Gb_act_31 rfl rfl ?_
      refine go_iload_n (k := 3) d_Gb_act_32 rfl rfl ?_
      obtain ⟨I6, w1, h⟩ := fbd_e h
      refine go_callV (y := yCo_passByHand) (asr := [.inl x2, .inl x3]) (v := none) (I' := I6) (st1 := []) d_Gb_act_33 s_yCo_passByHand m_Gb_117 a_X_100 rfl rfl rfl (Nat.le_of_ble_eq_true rfl) rfl rfl (c_Co_passByHand l (d0 + 0) 100 2 isCo_100 x2 x3 I2 w1) ?_
      refine go_goto (tgt := 83) d_Gb_act_36 (by decide) ?_
      refine go_iconst (v := 1) d_Gb_act_83 (by decide) ?_
      cases h
      exact go_zreturn d_Gb_act_84 rfl (Or.inr rfl) gb_po_i
  · rw [if_pos hc] at h
    refine go_iconst (v := 0) d_Gb_act_10 (by decide) ?_
    cases h
    exact go_zreturn d_Gb_act_11 rfl (Or.inl rfl) gb_po_i
theorem d_Rd_tokenOf_0 : decode yRd_tokenOf.2.1 0 = .ok (.aload_n 0, 1) := by decide +kernel
theorem d_Rd_tokenOf_1 : decode yRd_tokenOf.2.1 1 = .ok (.iload_n 1, 1) := by decide +kernel
theorem d_Rd_tokenOf_2 : decode yRd_tokenOf.2.1 2 = .ok (.invokevirtual 137, 3) := by decide +kernel
theorem d_Rd_tokenOf_5 : decode yRd_tokenOf.2.1 5 = .ok (.istore_n 3, 1) := by decide +kernel
theorem d_Rd_tokenOf_6 : decode yRd_tokenOf.2.1 6 = .ok (.iload_n 3, 1) := by decide +kernel
theorem d_Rd_tokenOf_7 : decode yRd_tokenOf.2.1 7 = .ok (.invokestatic 146, 3) := by decide +kernel
theorem d_Rd_tokenOf_10 : decode yRd_tokenOf.2.1 10 = .ok (.ifCond .eq 10, 3) := by decide +kernel
theorem d_Rd_tokenOf_13 : decode yRd_tokenOf.2.1 13 = .ok (.aload_n 0, 1) := by decide +kernel
theorem d_Rd_tokenOf_14 : decode yRd_tokenOf.2.1 14 = .ok (.iload_n 1, 1) := by decide +kernel
theorem d_Rd_tokenOf_15 : decode yRd_tokenOf.2.1 15 = .ok (.iload_n 2, 1) := by decide +kernel
theorem d_Rd_tokenOf_16 : decode yRd_tokenOf.2.1 16 = .ok (.invokevirtual 153, 3) := by decide +kernel
theorem d_Rd_tokenOf_19 : decode yRd_tokenOf.2.1 19 = .ok (.ireturn, 1) := by decide +kernel
theorem d_Rd_tokenOf_20 : decode yRd_tokenOf.2.1 20 = .ok (.iload_n 3, 1) := by decide +kernel
theorem d_Rd_tokenOf_21 : decode yRd_tokenOf.2.1 21 = .ok (.invokestatic 150, 3) := by decide +kernel
theorem d_Rd_tokenOf_24 : decode yRd_tokenOf.2.1 24 = .ok (.ifCond .eq 10, 3) := by decide +kernel
theorem d_Rd_tokenOf_27 : decode yRd_tokenOf.2.1 27 = .ok (.aload_n 0, 1) := by decide +kernel
theorem d_Rd_tokenOf_28 : decode yRd_tokenOf.2.1 28 = .ok (.iload_n 1, 1) := by decide +kernel
theorem d_Rd_tokenOf_29 : decode yRd_tokenOf.2.1 29 = .ok (.iload_n 2, 1) := by decide +kernel
theorem d_Rd_tokenOf_30 : decode yRd_tokenOf.2.1 30 = .ok (.invokevirtual 156, 3) := by decide +kernel
theorem d_Rd_tokenOf_33 : decode yRd_tokenOf.2.1 33 = .ok (.ireturn, 1) := by decide +kernel
theorem d_Rd_tokenOf_34 : decode yRd_tokenOf.2.1 34 = .ok (.iload_n 3, 1) := by decide +kernel
theorem d_Rd_tokenOf_35 : decode yRd_tokenOf.2.1 35 = .ok (.sipush 128, 3) := by decide +kernel
theorem d_Rd_tokenOf_38 : decode yRd_tokenOf.2.1 38 = .ok (.if_icmp .ge 17, 3) := by decide +kernel
theorem d_Rd_tokenOf_41 : decode yRd_tokenOf.2.1 41 = .ok (.ldc 159, 2) := by decide +kernel
theorem d_Rd_tokenOf_43 : decode yRd_tokenOf.2.1 43 = .ok (.iload_n 3, 1) := by decide +kernel
theorem d_Rd_tokenOf_44 : decode yRd_tokenOf.2.1 44 = .ok (.i2c, 1) := by decide +kernel
theorem d_Rd_tokenOf_45 : decode yRd_tokenOf.2.1 45 = .ok (.invokevirtual 161, 3) := by decide +kernel
theorem d_Rd_tokenOf_48 : decode yRd_tokenOf.2.1 48 = .ok (.ifCond .lt 7, 3) := by decide +kernel
theorem d_Rd_tokenOf_51 : decode yRd_tokenOf.2.1 51 = .ok (.iload_n 3, 1) := by decide +kernel
theorem d_Rd_tokenOf_52 : decode yRd_tokenOf.2.1 52 = .ok (.goto 4, 3) := by decide +kernel
theorem d_Rd_tokenOf_55 : decode yRd_tokenOf.2.1 55 = .ok (.iconst 1, 1) := by decide +kernel
theorem d_Rd_tokenOf_56 : decode yRd_tokenOf.2.1 56 = .ok (.ireturn, 1) := by decide +kernel
def F_Rd_tokenOf (x1 x2 : Int32) (I : gb_Mem) : Option (Int32) :=
  fbd (F_Rd_charAt x1 I) fun r1 =>
  if (F_Rd_isLetter r1 I) = 0 then
    if (F_Rd_isDigit r1 I) = 0 then
      if 128 ≤ r1 then
        some 1
      else
        if (F_Js_indexOf ((r1.toUInt32 % 65536).toInt32) I) < 0 then
          some 1
        else
          some r1
    else
      fbd (F_Rd_numberOf x1 x2 I) fun r2 =>
      some r2
  else
    fbd (F_Rd_wordOf x1 x2 I) fun r3 =>
    some r3
set_option maxRecDepth 4000 in
theorem c_Rd_tokenOf (l : Launch) (d0 : Nat) (x1 x2 : Int32) (I : gb_Mem) {rz : Int32} (h : F_Rd_tokenOf x1 x2 I = some rz) : gb_Cs l yRd_tokenOf (d0 + 6) [.inr (some 111), .inl x1, .inl x2] shX I (some (.inl rz)) I := by
  refine gb_Ct.of (lv := [(0, .inr (some 111)), (1, .inl x1), (2, .inl x2)]) rfl (Nat.le_of_ble_eq_true rfl) rfl ?_
  unfold F_Rd_tokenOf at h
  show gb_Go l yRd_tokenOf (d0 + 6) 0 0 0 [(0, .inr (some 111)), (1, .inl x1), (2, .inl x2)] [] shX I (gb_po shX (some (.inl rz)) I)
  refine go_aload_n (k := 0) d_Rd_tokenOf_0 rfl rfl ?_
  refine go_iload_n (k := 1) d_Rd_tokenOf_1 rfl rfl ?_
  obtain ⟨r1, w1, h⟩ := fbd_e h
  refine go_callV (y := yRd_charAt) (asr := [.inl x1]) (v := some (.inl r1)) (I' := I) (st1 := [.inl r1]) d_Rd_tokenOf_2 s_yRd_charAt m_Rd_137 a_X_111 rfl rfl rfl (Nat.le_of_ble_eq_true rfl) rfl rfl (c_Rd_charAt l (d0 + 4) x1 I w1) ?_
  refine go_istore_n (lv' := [(3, .inl r1), (0, .inr (some 111)), (1, .inl x1), (2, .inl x2)]) d_Rd_tokenOf_5 rfl (by decide) rfl ?_
  refine go_iload_n (k := 0) d_Rd_tokenOf_6 rfl rfl ?_
  refine go_callS (y := yRd_isLetter) (asr := [.inl r1]) (v := some (.inl (F_Rd_isLetter r1 I))) (I' := I) (st1 := [.inl (F_Rd_isLetter r1 I)]) d_Rd_tokenOf_7 s_yRd_isLetter m_Rd_146 rfl (Nat.le_of_ble_eq_true rfl) rfl rfl (c_Rd_isLetter l (d0 + 4) r1 I) ?_
  refine go_if_eq (tgt := 20) d_Rd_tokenOf_10 (by decide) (fun hc => ?_) (fun hc => ?_)
  · rw [if_pos hc] at h
    refine go_iload_n (k := 0) d_Rd_tokenOf_20 rfl rfl ?_
    refine go_callS (y := yRd_isDigit) (asr := [.inl r1]) (v := some (.inl (F_Rd_isDigit r1 I))) (I' := I) (st1 := [.inl (F_Rd_isDigit r1 I)]) d_Rd_tokenOf_21 s_yRd_isDigit m_Rd_150 rfl (Nat.le_of_ble_eq_true rfl) rfl rfl (c_Rd_isDigit l (d0 + 4) r1 I) ?_
    refine go_if_eq (tgt := 34) d_Rd_tokenOf_24 (by decide) (fun hc => ?_) (fun hc => ?_)
    · rw [if_pos hc] at h
      refine go_iload_n (k := 0) d_Rd_tokenOf_34 rfl rfl ?_
      refine go_sipush (v := 128) d_Rd_tokenOf_35 (by decide) ?_
      refine go_cmp_ge (tgt := 55) d_Rd_tokenOf_38 (by decide) (fun hc => ?_) (fun hc => ?_)
      · rw [if_pos hc] at h
        refine go_iconst (v := 1) d_Rd_tokenOf_55 (by decide) ?_
        cases h
        exact go_ireturn d_Rd_tokenOf_56 rfl gb_po_i
      · rw [if_neg hc] at h
        refine go_ldcS1 d_Rd_tokenOf_41 rfl ?_
        refine go_iload_n (k := 0) d_Rd_tokenOf_43 rfl rfl ?_
        refine go_i2c d_Rd_tokenOf_44 ?_
        refine go_callT (a := 1003) (y := yJs_indexOf) (asr := [.inl ((r1.toUInt32 % 65536).toInt32)]) (v := some (.inl (F_Js_indexOf ((r1.toUInt32 % 65536).toInt32) I))) (I' := I) (st1 := [.inl (F_Js_indexOf ((r1.toUInt32 % 65536).toInt32) I)]) (Or.inr rfl) d_Rd_tokenOf_45 s_yJs_indexOf m_Rd_161 rfl rfl (Nat.le_of_ble_eq_true rfl) rfl rfl (c_Js_indexOf l (d0 + 2) ((r1.toUInt32 % 65536).toInt32) I) ?_
        refine go_if_lt (tgt := 55) d_Rd_tokenOf_48 (by decide) (fun hc => ?_) (fun hc => ?_)
        · rw [if_pos hc] at h
          refine go_iconst (v := 1) d_Rd_tokenOf_55 (by decide) ?_
          cases h
          exact go_ireturn d_Rd_tokenOf_56 rfl gb_po_i
        · rw [if_neg hc] at h
          refine go_iload_n (k := 0) d_Rd_tokenOf_51 rfl rfl ?_
          refine go_goto (tgt := 56) d_Rd_tokenOf_52 (by decide) ?_
          cases h
          exact go_ireturn d_Rd_tokenOf_56 rfl gb_po_i
    · rw [if_neg hc] at h
      refine go_aload_n (k := 1) d_Rd_tokenOf_27 rfl rfl ?_
      refine go_iload_n (k := 2) d_Rd_tokenOf_28 rfl rfl ?_
      refine go_iload_n (k := 3) d_Rd_tokenOf_29 rfl rfl ?_
      obtain ⟨r2, w1, h⟩ := fbd_e h
      refine go_callV (y := yRd_numberOf) (asr := [.inl x1, .inl x2]) (v := some (.inl r2)) (I' := I) (st1 := [.inl r2]) d_Rd_tokenOf_30 s_yRd_numberOf m_Rd_156 a_X_111 rfl rfl rfl (Nat.le_of_ble_eq_true rfl) rfl rfl (c_Rd_numberOf l (d0 + 3) x1 x2 I w1) ?_
      cases h
      exact go_ireturn d_Rd_tokenOf_33 rfl gb_po_i
  · rw [if_neg hc] at h
    refine go_aload_n (k := 1) d_Rd_tokenOf_13 rfl rfl ?_
    refine go_iload_n (k := 2) d_Rd_tokenOf_14 rfl rfl ?_
    refine go_iload_n (k := 3) d_Rd_tokenOf_15 rfl rfl ?_
    obtain ⟨r3, w1, h⟩ := fbd_e h
    refine go_callV (y := yRd_wordOf) (asr := [.inl x1, .inl x2]) (v := some (.inl r3)) (I' := I) (st1 := [.inl r3]) d_Rd_tokenOf_16 s_yRd_wordOf m_Rd_153 a_X_111 rfl rfl rfl (Nat.le_of_ble_eq_true rfl) rfl rfl (c_Rd_wordOf l (d0 + 0) x1 x2 I w1) ?_
    cases h
    exact go_ireturn d_Rd_tokenOf_19 rfl gb_po_i
theorem d_Gb_brings_0 : decode yGb_brings.2.1 0 = .ok (.iload_n 1, 1) := by decide +kernel
theorem d_Gb_brings_1 : decode yGb_brings.2.1 1 = .ok (.iconst 0, 1) := by decide +kernel
theorem d_Gb_brings_2 : decode yGb_brings.2.1 2 = .ok (.aload_n 0, 1) := by decide +kernel
theorem d_Gb_brings_3 : decode yGb_brings.2.1 3 = .ok (.getfield 12, 3) := by decide +kernel
theorem d_Gb_brings_6 : decode yGb_brings.2.1 6 = .ok (.getfield 35, 3) := by decide +kernel
theorem d_Gb_brings_9 : decode yGb_brings.2.1 9 = .ok (.getfield 95, 3) := by decide +kernel
theorem d_Gb_brings_12 : decode yGb_brings.2.1 12 = .ok (.iconst 1, 1) := by decide +kernel
theorem d_Gb_brings_13 : decode yGb_brings.2.1 13 = .ok (.isub, 1) := by decide +kernel
theorem d_Gb_brings_14 : decode yGb_brings.2.1 14 = .ok (.invokestatic 84, 3) := by decide +kernel
theorem d_Gb_brings_17 : decode yGb_brings.2.1 17 = .ok (.ifCond .eq 12, 3) := by decide +kernel
theorem d_Gb_brings_20 : decode yGb_brings.2.1 20 = .ok (.iload_n 2, 1) := by decide +kernel
theorem d_Gb_brings_21 : decode yGb_brings.2.1 21 = .ok (.iconst 0, 1) := by decide +kernel
theorem d_Gb_brings_22 : decode yGb_brings.2.1 22 = .ok (.iconst 1, 1) := by decide +kernel
theorem d_Gb_brings_23 : decode yGb_brings.2.1 23 = .ok (.invokestatic 84, 3) := by decide +kernel
theorem d_Gb_brings_26 : decode yGb_brings.2.1 26 = .ok (.ifCond .ne 5, 3) := by decide +kernel
theorem d_Gb_brings_29 : decode yGb_brings.2.1 29 = .ok (.iconst (-1), 1) := by decide +kernel
theorem d_Gb_brings_30 : decode yGb_brings.2.1 30 = .ok (.ireturn, 1) := by decide +kernel
theorem d_Gb_brings_31 : decode yGb_brings.2.1 31 = .ok (.aload_n 0, 1) := by decide +kernel
theorem d_Gb_brings_32 : decode yGb_brings.2.1 32 = .ok (.getfield 29, 3) := by decide +kernel
theorem d_Gb_brings_35 : decode yGb_brings.2.1 35 = .ok (.aload_n 0, 1) := by decide +kernel
theorem d_Gb_brings_36 : decode yGb_brings.2.1 36 = .ok (.getfield 12, 3) := by decide +kernel
theorem d_Gb_brings_39 : decode yGb_brings.2.1 39 = .ok (.getfield 35, 3) := by decide +kernel
theorem d_Gb_brings_42 : decode yGb_brings.2.1 42 = .ok (.invokevirtual 197, 3) := by decide +kernel
theorem d_Gb_brings_45 : decode yGb_brings.2.1 45 = .ok (.aload_n 0, 1) := by decide +kernel
theorem d_Gb_brings_46 : decode yGb_brings.2.1 46 = .ok (.getfield 29, 3) := by decide +kernel
theorem d_Gb_brings_49 : decode yGb_brings.2.1 49 = .ok (.iconst 5, 1) := by decide +kernel
theorem d_Gb_brings_50 : decode yGb_brings.2.1 50 = .ok (.iload_n 1, 1) := by decide +kernel
theorem d_Gb_brings_51 : decode yGb_brings.2.1 51 = .ok (.invokevirtual 162, 3) := by decide +kernel
theorem d_Gb_brings_54 : decode yGb_brings.2.1 54 = .ok (.istore_n 3, 1) := by decide +kernel
theorem d_Gb_brings_55 : decode yGb_brings.2.1 55 = .ok (.iconst 1, 1) := by decide +kernel
theorem d_Gb_brings_56 : decode yGb_brings.2.1 56 = .ok (.istore 4, 2) := by decide +kernel
theorem d_Gb_brings_58 : decode yGb_brings.2.1 58 = .ok (.iload 4, 2) := by decide +kernel
theorem d_Gb_brings_60 : decode yGb_brings.2.1 60 = .ok (.bipush 60, 2) := by decide +kernel
theorem d_Gb_brings_62 : decode yGb_brings.2.1 62 = .ok (.if_icmp .gt 48, 3) := by decide +kernel
theorem d_Gb_brings_65 : decode yGb_brings.2.1 65 = .ok (.aload_n 0, 1) := by decide +kernel
theorem d_Gb_brings_66 : decode yGb_brings.2.1 66 = .ok (.getfield 45, 3) := by decide +kernel
theorem d_Gb_brings_69 : decode yGb_brings.2.1 69 = .ok (.invokevirtual 134, 3) := by decide +kernel
theorem d_Gb_brings_72 : decode yGb_brings.2.1 72 = .ok (.pop, 1) := by decide +kernel
theorem d_Gb_brings_73 : decode yGb_brings.2.1 73 = .ok (.aload_n 0, 1) := by decide +kernel
theorem d_Gb_brings_74 : decode yGb_brings.2.1 74 = .ok (.getfield 29, 3) := by decide +kernel
theorem d_Gb_brings_77 : decode yGb_brings.2.1 77 = .ok (.iconst 5, 1) := by decide +kernel
theorem d_Gb_brings_78 : decode yGb_brings.2.1 78 = .ok (.iload_n 1, 1) := by decide +kernel
theorem d_Gb_brings_79 : decode yGb_brings.2.1 79 = .ok (.invokevirtual 162, 3) := by decide +kernel
theorem d_Gb_brings_82 : decode yGb_brings.2.1 82 = .ok (.iload_n 3, 1) := by decide +kernel
theorem d_Gb_brings_83 : decode yGb_brings.2.1 83 = .ok (.if_icmp .eq 21, 3) := by decide +kernel
theorem d_Gb_brings_86 : decode yGb_brings.2.1 86 = .ok (.iload_n 2, 1) := by decide +kernel
theorem d_Gb_brings_87 : decode yGb_brings.2.1 87 = .ok (.ifCond .ne 14, 3) := by decide +kernel
theorem d_Gb_brings_90 : decode yGb_brings.2.1 90 = .ok (.aload_n 0, 1) := by decide +kernel
theorem d_Gb_brings_91 : decode yGb_brings.2.1 91 = .ok (.getfield 45, 3) := by decide +kernel
theorem d_Gb_brings_94 : decode yGb_brings.2.1 94 = .ok (.iload_n 1, 1) := by decide +kernel
theorem d_Gb_brings_95 : decode yGb_brings.2.1 95 = .ok (.invokevirtual 204, 3) := by decide +kernel
theorem d_Gb_brings_98 : decode yGb_brings.2.1 98 = .ok (.goto 5, 3) := by decide +kernel
theorem d_Gb_brings_101 : decode yGb_brings.2.1 101 = .ok (.iload 4, 2) := by decide +kernel
theorem d_Gb_brings_103 : decode yGb_brings.2.1 103 = .ok (.ireturn, 1) := by decide +kernel
theorem d_Gb_brings_104 : decode yGb_brings.2.1 104 = .ok (.iinc 4 1, 3) := by decide +kernel
theorem d_Gb_brings_107 : decode yGb_brings.2.1 107 = .ok (.goto (-49), 3) := by decide +kernel
theorem d_Gb_brings_110 : decode yGb_brings.2.1 110 = .ok (.iconst (-1), 1) := by decide +kernel
theorem d_Gb_brings_111 : decode yGb_brings.2.1 111 = .ok (.ireturn, 1) := by decide +kernel
def L_Gb_brings_58 (x1 x2 x3 : Int32) : Nat → Int32 → gb_Mem → Option ((gb_Mem) ⊕ (Int32 × gb_Mem))
  | 0, _, _ => none
  | n + 1, x4, I =>
    if 60 < x4 then
      some (.inl I)
    else
      fbd (F_Co_goByOne 102 96 I) fun (r4, I3) =>
      fbd (F_Ta_ofBoat 96 5 x1 I3) fun r5 =>
      if r5 = x3 then
        L_Gb_brings_58 x1 x2 x3 n (x4 + 1) I3
      else
        if x2 = 0 then
          fbd (F_Co_broughtBy 102 96 x1 I3) fun r6 =>
          some (.inr (r6, I3))
        else
          some (.inr (x4, I3))
set_option maxRecDepth 4000 in
theorem l_Gb_brings_58 (l : Launch) (d0 : Nat) (x1 x2 x3 : Int32) {post : Option gb_AV → List gb_Ce → gb_Mem → Prop} : ∀ (n : Nat) (x4 : Int32) (I : gb_Mem) {ρ : (gb_Mem) ⊕ (Int32 × gb_Mem)} (h : L_Gb_brings_58 x1 x2 x3 n x4 I = some ρ) (hX : ∀ (I2 : gb_Mem), ρ = .inl I2 → gb_Go l yGb_brings (d0 + 7) 0 0 110 [] [] shX I2 post) (hR : ∀ (v : Int32) (I3 : gb_Mem), ρ = .inr (v, I3) → post (some (.inl v)) shX I3) , gb_Go l yGb_brings (d0 + 7) 0 0 58 [(0, .inr (some 0)), (1, .inl x1), (2, .inl x2), (3, .inl x3), (4, .inl x4)] [] shX I post := by
  intro n
  induction n with
  | zero => intro x4 I ρ h hX hR; cases h
  | succ n ih =>
    intro x4 I ρ h hX hR
    rw [L_Gb_brings_58] at h
    refine go_iload (k := 4) d_Gb_brings_58 rfl ?_
    refine go_bipush (v := 60) d_Gb_brings_60 (by decide) ?_
    refine go_cmp_gt (tgt := 110) d_Gb_brings_62 (by decide) (fun hc => ?_) (fun hc => ?_)
    · rw [if_pos hc] at h
      exact go_lv [] rfl (hX _ (Option.some.inj h).symm)
    · rw [if_neg hc] at h
      refine go_aload_n (k := 0) d_Gb_brings_65 rfl rfl ?_
      refine go_getr (ci := 0) (k := 6) (r := 102) d_Gb_brings_66 a_X_0 rfl (by decide) f_Gb_45 rfl ?_
      obtain ⟨⟨r4, I3⟩, w1, h⟩ := fbd_e h
      try dsimp only at h
      refine go_callV (y := yCo_goByOne) (asr := []) (v := some (.inl r4)) (I' := I3) (st1 := [.inl r4]) d_Gb_brings_69 s_yCo_goByOne m_Gb_134 a_X_102 rfl rfl rfl (Nat.le_of_ble_eq_true rfl) rfl rfl (c_Co_goByOne l (d0 + 0) 102 96 isCo_102 I w1) ?_
      refine go_pop d_Gb_brings_72 ?_
      refine go_aload_n (k := 0) d_Gb_brings_73 rfl rfl ?_
      refine go_getr (ci := 0) (k := 4) (r := 96) d_Gb_brings_74 a_X_0 rfl (by decide) f_Gb_29 rfl ?_
      refine go_iconst (v := 5) d_Gb_brings_77 (by decide) ?_
      refine go_iload_n (k := 1) d_Gb_brings_78 rfl rfl ?_
      obtain ⟨r5, w1, h⟩ := fbd_e h
      refine go_callV (y := yTa_ofBoat) (asr := [.inl 5, .inl x1]) (v := some (.inl r5)) (I' := I3) (st1 := [.inl r5]) d_Gb_brings_79 s_yTa_ofBoat m_Gb_162 a_X_96 rfl rfl rfl (Nat.le_of_ble_eq_true rfl) rfl rfl (c_Ta_ofBoat l (d0 + 5) 96 isTa_96 5 x1 I3 w1) ?_
      refine go_iload_n (k := 3) d_Gb_brings_82 rfl rfl ?_
      refine go_cmp_eq (tgt := 104) d_Gb_brings_83 (by decide) (fun hc => ?_) (fun hc => ?_)
      · rw [if_pos hc] at h
        refine go_iinc (k := 4) (v := x4 + 1) (lv' := [(4, .inl (x4 + 1)), (0, .inr (some 0)), (1, .inl x1), (2, .inl x2), (3, .inl x3)]) d_Gb_brings_104 rfl rfl (by decide) rfl ?_
        refine go_goto (tgt := 58) d_Gb_brings_107 (by decide) ?_
        exact go_lv [1, 2, 3, 4, 0] rfl (ih (x4 + 1) I3 h hX hR)
      · rw [if_neg hc] at h
        refine go_iload_n (k := 2) d_Gb_brings_86 rfl rfl ?_
        refine go_if_ne (tgt := 101) d_Gb_brings_87 (by decide) (fun hc => ?_) (fun hc => ?_)
        · rw [if_neg hc] at h
          refine go_iload (k := 4) d_Gb_brings_101 rfl ?_
          exact go_ireturn d_Gb_brings_103 rfl (hR _ _ (Option.some.inj h).symm)
        · rw [if_pos hc] at h
          refine go_aload_n (k := 0) d_Gb_brings_90 rfl rfl ?_
          refine go_getr (ci := 0) (k := 6) (r := 102) d_Gb_brings_91 a_X_0 rfl (by decide) f_Gb_45 rfl ?_
          refine go_iload_n (k := 1) d_Gb_brings_94 rfl rfl ?_
          obtain ⟨r6, w1, h⟩ := fbd_e h
          refine go_callV (y := yCo_broughtBy) (asr := [.inl x1]) (v := some (.inl r6)) (I' := I3) (st1 := [.inl r6]) d_Gb_brings_95 s_yCo_broughtBy m_Gb_204 a_X_102 rfl rfl rfl (Nat.le_of_ble_eq_true rfl) rfl rfl (c_Co_broughtBy l (d0 + 5) 102 96 isCo_102 x1 I3 w1) ?_
          refine go_goto (tgt := 103) d_Gb_brings_98 (by decide) ?_
          exact go_ireturn d_Gb_brings_103 rfl (hR _ _ (Option.some.inj h).symm)
def F_Gb_brings (x1 x2 : Int32) (I : gb_Mem) : Option (Int32 × gb_Mem) :=
  if (F_Gb_within x1 0 ((I 2 5) - 1) I) = 0 then
    some ((-1), I)
  else
    if (F_Gb_within x2 0 1 I) = 0 then
      some ((-1), I)
    else
      fbd (F_Ta_copyFrom 96 2 I) fun I1 =>
      fbd (F_Ta_ofBoat 96 5 x1 I1) fun r2 =>
      fbr (L_Gb_brings_58 x1 x2 r2 5000 1 I1) (fun I7 =>
        some ((-1), I7))
        (fun (q8, I9) => some (q8, I9))
set_option maxRecDepth 4000 in
theorem c_Gb_brings (l : Launch) (d0 : Nat) (x1 x2 : Int32) (I : gb_Mem) {rz : Int32} {Iz : gb_Mem} (h : F_Gb_brings x1 x2 I = some (rz, Iz)) : gb_Cs l yGb_brings (d0 + 7) [.inr (some 0), .inl x1, .inl x2] shX I (some (.inl rz)) Iz := by
  refine gb_Ct.of (lv := [(0, .inr (some 0)), (1, .inl x1), (2, .inl x2)]) rfl (Nat.le_of_ble_eq_true rfl) rfl ?_
  unfold F_Gb_brings at h
  show gb_Go l yGb_brings (d0 + 7) 0 0 0 [(0, .inr (some 0)), (1, .inl x1), (2, .inl x2)] [] shX I (gb_po shX (some (.inl rz)) Iz)
  refine go_iload_n (k := 1) d_Gb_brings_0 rfl rfl ?_
  refine go_iconst (v := 0) d_Gb_brings_1 (by decide) ?_
  refine go_aload_n (k := 0) d_Gb_brings_2 rfl rfl ?_
  refine go_getr (ci := 0) (k := 0) (r := 1) d_Gb_brings_3 a_X_0 rfl (by decide) f_Gb_12 rfl ?_
  refine go_getrN (ci := 1) (k := 0) (r := 2) d_Gb_brings_6 a_X_1 rfl (by decide) f_Gb_35 rfl ?_
  refine go_getiN (ci := 2) (k := 5) d_Gb_brings_9 a_X_2 rfl (by decide) f_Gb_95 rfl ?_
  refine go_iconst (v := 1) d_Gb_brings_12 (by decide) ?_
  refine go_isub d_Gb_brings_13 ?_
  refine go_callS (y := yGb_within) (asr := [.inl x1, .inl 0, .inl ((I 2 5) - 1)]) (v := some (.inl (F_Gb_within x1 0 ((I 2 5) - 1) I))) (I' := I) (st1 := [.inl (F_Gb_within x1 0 ((I 2 5) - 1) I)]) d_Gb_brings_14 s_yGb_within m_Gb_84 rfl (Nat.le_of_ble_eq_true rfl) rfl rfl (c_Gb_within l (d0 + 6) x1 0 ((I 2 5) - 1) I) ?_
  refine go_if_eq (tgt := 29) d_Gb_brings_17 (by decide) (fun hc => ?_) (fun hc => ?_)
  · rw [if_pos hc] at h
    refine go_iconst (v := (-1)) d_Gb_brings_29 (by decide) ?_
    cases h
    exact go_ireturn d_Gb_brings_30 rfl gb_po_i
  · rw [if_neg hc] at h
    refine go_iload_n (k := 2) d_Gb_brings_20 rfl rfl ?_
    refine go_iconst (v := 0) d_Gb_brings_21 (by decide) ?_
    refine go_iconst (v := 1) d_Gb_brings_22 (by decide) ?_
    refine go_callS (y := yGb_within) (asr := [.inl x2, .inl 0, .inl 1]) (v := some (.inl (F_Gb_within x2 0 1 I))) (I' := I) (st1 := [.inl (F_Gb_within x2 0 1 I)]) d_Gb_brings_23 s_yGb_within m_Gb_84 rfl (Nat.le_of_ble_eq_true rfl) rfl rfl (c_Gb_within l (d0 + 6) x2 0 1 I) ?_
    refine go_if_ne (tgt := 31) d_Gb_brings_26 (by decide) (fun hc => ?_) (fun hc => ?_)
    · rw [if_neg hc] at h
      refine go_aload_n (k := 0) d_Gb_brings_31 rfl rfl ?_
      refine go_getr (ci := 0) (k := 4) (r := 96) d_Gb_brings_32 a_X_0 rfl (by decide) f_Gb_29 rfl ?_
      refine go_aload_n (k := 0) d_Gb_brings_35 rfl rfl ?_
      refine go_getr (ci := 0) (k := 0) (r := 1) d_Gb_brings_36 a_X_0 rfl (by decide) f_Gb_12 rfl ?_
      refine go_getrN (ci := 1) (k := 0) (r := 2) d_Gb_brings_39 a_X_1 rfl (by decide) f_Gb_35 rfl ?_
      obtain ⟨I1, w1, h⟩ := fbd_e h
      refine go_callV (y := yTa_copyFrom) (asr := [.inr (some 2)]) (v := none) (I' := I1) (st1 := []) d_Gb_brings_42 s_yTa_copyFrom m_Gb_197 a_X_96 rfl rfl rfl (Nat.le_of_ble_eq_true rfl) rfl rfl (c_Ta_copyFrom l (d0 + 5) 96 2 isTa_96 isTa_2 I w1) ?_
      refine go_aload_n (k := 0) d_Gb_brings_45 rfl rfl ?_
      refine go_getr (ci := 0) (k := 4) (r := 96) d_Gb_brings_46 a_X_0 rfl (by decide) f_Gb_29 rfl ?_
      refine go_iconst (v := 5) d_Gb_brings_49 (by decide) ?_
      refine go_iload_n (k := 1) d_Gb_brings_50 rfl rfl ?_
      obtain ⟨r2, w1, h⟩ := fbd_e h
      refine go_callV (y := yTa_ofBoat) (asr := [.inl 5, .inl x1]) (v := some (.inl r2)) (I' := I1) (st1 := [.inl r2]) d_Gb_brings_51 s_yTa_ofBoat m_Gb_162 a_X_96 rfl rfl rfl (Nat.le_of_ble_eq_true rfl) rfl rfl (c_Ta_ofBoat l (d0 + 5) 96 isTa_96 5 x1 I1 w1) ?_
      refine go_istore_n (lv' := [(3, .inl r2), (0, .inr (some 0)), (1, .inl x1), (2, .inl x2)]) d_Gb_brings_54 rfl (by decide) rfl ?_
      refine go_iconst (v := 1) d_Gb_brings_55 (by decide) ?_
      refine go_istore (lv' := [(4, .inl 1), (3, .inl r2), (0, .inr (some 0)), (1, .inl x1), (2, .inl x2)]) d_Gb_brings_56 (by decide) rfl ?_
      refine go_lv [2, 3, 4, 1, 0] (lv' := [(0, .inr (some 0)), (1, .inl x1), (2, .inl x2), (3, .inl r2), (4, .inl 1)]) rfl ?_
      obtain ⟨ρ, w1, w2, w3⟩ := fbr_e2 h
      refine l_Gb_brings_58 l d0 x1 x2 r2 5000 1 I1 w1 (fun I7 e => ?_) (fun q8 I9 e => ?_)
      · have h := w2 _ e
        try dsimp only at h
        refine go_iconst (v := (-1)) d_Gb_brings_110 (by decide) ?_
        cases h
        exact go_ireturn d_Gb_brings_111 rfl gb_po_i
      · have h := w3 _ e
        try dsimp only at h
        cases h
        exact gb_po_i
    · rw [if_pos hc] at h
      refine go_iconst (v := (-1)) d_Gb_brings_29 (by decide) ?_
      cases h
      exact go_ireturn d_Gb_brings_30 rfl gb_po_i
theorem d_Gb_goes_0 : decode yGb_goes.2.1 0 = .ok (.iload_n 1, 1) := by decide +kernel
theorem d_Gb_goes_1 : decode yGb_goes.2.1 1 = .ok (.iconst 1, 1) := by decide +kernel
theorem d_Gb_goes_2 : decode yGb_goes.2.1 2 = .ok (.bipush 60, 2) := by decide +kernel
theorem d_Gb_goes_4 : decode yGb_goes.2.1 4 = .ok (.invokestatic 84, 3) := by decide +kernel
theorem d_Gb_goes_7 : decode yGb_goes.2.1 7 = .ok (.ifCond .eq 12, 3) := by decide +kernel
theorem d_Gb_goes_10 : decode yGb_goes.2.1 10 = .ok (.iload_n 2, 1) := by decide +kernel
theorem d_Gb_goes_11 : decode yGb_goes.2.1 11 = .ok (.iconst 0, 1) := by decide +kernel
theorem d_Gb_goes_12 : decode yGb_goes.2.1 12 = .ok (.iconst 3, 1) := by decide +kernel
theorem d_Gb_goes_13 : decode yGb_goes.2.1 13 = .ok (.invokestatic 84, 3) := by decide +kernel
theorem d_Gb_goes_16 : decode yGb_goes.2.1 16 = .ok (.ifCond .ne 5, 3) := by decide +kernel
theorem d_Gb_goes_19 : decode yGb_goes.2.1 19 = .ok (.iconst (-1), 1) := by decide +kernel
theorem d_Gb_goes_20 : decode yGb_goes.2.1 20 = .ok (.ireturn, 1) := by decide +kernel
theorem d_Gb_goes_21 : decode yGb_goes.2.1 21 = .ok (.aload_n 0, 1) := by decide +kernel
theorem d_Gb_goes_22 : decode yGb_goes.2.1 22 = .ok (.getfield 29, 3) := by decide +kernel
theorem d_Gb_goes_25 : decode yGb_goes.2.1 25 = .ok (.aload_n 0, 1) := by decide +kernel
theorem d_Gb_goes_26 : decode yGb_goes.2.1 26 = .ok (.getfield 12, 3) := by decide +kernel
theorem d_Gb_goes_29 : decode yGb_goes.2.1 29 = .ok (.getfield 35, 3) := by decide +kernel
theorem d_Gb_goes_32 : decode yGb_goes.2.1 32 = .ok (.invokevirtual 197, 3) := by decide +kernel
theorem d_Gb_goes_35 : decode yGb_goes.2.1 35 = .ok (.iconst 0, 1) := by decide +kernel
theorem d_Gb_goes_36 : decode yGb_goes.2.1 36 = .ok (.istore_n 3, 1) := by decide +kernel
theorem d_Gb_goes_37 : decode yGb_goes.2.1 37 = .ok (.iload_n 3, 1) := by decide +kernel
theorem d_Gb_goes_38 : decode yGb_goes.2.1 38 = .ok (.iload_n 1, 1) := by decide +kernel
theorem d_Gb_goes_39 : decode yGb_goes.2.1 39 = .ok (.if_icmp .ge 17, 3) := by decide +kernel
theorem d_Gb_goes_42 : decode yGb_goes.2.1 42 = .ok (.aload_n 0, 1) := by decide +kernel
theorem d_Gb_goes_43 : decode yGb_goes.2.1 43 = .ok (.getfield 45, 3) := by decide +kernel
theorem d_Gb_goes_46 : decode yGb_goes.2.1 46 = .ok (.invokevirtual 134, 3) := by decide +kernel
theorem d_Gb_goes_49 : decode yGb_goes.2.1 49 = .ok (.pop, 1) := by decide +kernel
theorem d_Gb_goes_50 : decode yGb_goes.2.1 50 = .ok (.iinc 3 1, 3) := by decide +kernel
theorem d_Gb_goes_53 : decode yGb_goes.2.1 53 = .ok (.goto (-16), 3) := by decide +kernel
theorem d_Gb_goes_56 : decode yGb_goes.2.1 56 = .ok (.aload_n 0, 1) := by decide +kernel
theorem d_Gb_goes_57 : decode yGb_goes.2.1 57 = .ok (.getfield 29, 3) := by decide +kernel
theorem d_Gb_goes_60 : decode yGb_goes.2.1 60 = .ok (.iload_n 2, 1) := by decide +kernel
theorem d_Gb_goes_61 : decode yGb_goes.2.1 61 = .ok (.invokevirtual 201, 3) := by decide +kernel
theorem d_Gb_goes_64 : decode yGb_goes.2.1 64 = .ok (.ireturn, 1) := by decide +kernel
def L_Gb_goes_37 (x1 x2 : Int32) : Nat → Int32 → gb_Mem → Option (gb_Mem)
  | 0, _, _ => none
  | n + 1, x3, I =>
    if x1 ≤ x3 then
      some I
    else
      fbd (F_Co_goByOne 102 96 I) fun (r3, I2) =>
      L_Gb_goes_37 x1 x2 n (x3 + 1) I2
set_option maxRecDepth 4000 in
theorem l_Gb_goes_37 (l : Launch) (d0 : Nat) (x1 x2 : Int32) {post : Option gb_AV → List gb_Ce → gb_Mem → Prop} : ∀ (n : Nat) (x3 : Int32) (I : gb_Mem) {ρ : gb_Mem} (h : L_Gb_goes_37 x1 x2 n x3 I = some ρ) (hX : ∀ (I2 : gb_Mem), ρ = I2 → gb_Go l yGb_goes (d0 + 7) 0 0 56 [(0, .inr (some 0)), (2, .inl x2)] [] shX I2 post) , gb_Go l yGb_goes (d0 + 7) 0 0 37 [(0, .inr (some 0)), (1, .inl x1), (2, .inl x2), (3, .inl x3)] [] shX I post := by
  intro n
  induction n with
  | zero => intro x3 I ρ h hX; cases h
  | succ n ih =>
    intro x3 I ρ h hX
    rw [L_Gb_goes_37] at h
    refine go_iload_n (k := 3) d_Gb_goes_37 rfl rfl ?_
    refine go_iload_n (k := 1) d_Gb_goes_38 rfl rfl ?_
    refine go_cmp_ge (tgt := 56) d_Gb_goes_39 (by decide) (fun hc => ?_) (fun hc => ?_)
    · rw [if_pos hc] at h
      exact go_lv [0, 2] rfl (hX _ (Option.some.inj h).symm)
    · rw [if_neg hc] at h
      refine go_aload_n (k := 0) d_Gb_goes_42 rfl rfl ?_
      refine go_getr (ci := 0) (k := 6) (r := 102) d_Gb_goes_43 a_X_0 rfl (by decide) f_Gb_45 rfl ?_
      obtain ⟨⟨r3, I2⟩, w1, h⟩ := fbd_e h
      try dsimp only at h
      refine go_callV (y := yCo_goByOne) (asr := []) (v := some (.inl r3)) (I' := I2) (st1 := [.inl r3]) d_Gb_goes_46 s_yCo_goByOne m_Gb_134 a_X_102 rfl rfl rfl (Nat.le_of_ble_eq_true rfl) rfl rfl (c_Co_goByOne l (d0 + 0) 102 96 isCo_102 I w1) ?_
      refine go_pop d_Gb_goes_49 ?_
      refine go_iinc (k := 3) (v := x3 + 1) (lv' := [(3, .inl (x3 + 1)), (0, .inr (some 0)), (1, .inl x1), (2, .inl x2)]) d_Gb_goes_50 rfl rfl (by decide) rfl ?_
      refine go_goto (tgt := 37) d_Gb_goes_53 (by decide) ?_
      exact go_lv [1, 2, 3, 0] rfl (ih (x3 + 1) I2 h hX)
def F_Gb_goes (x1 x2 : Int32) (I : gb_Mem) : Option (Int32 × gb_Mem) :=
  if (F_Gb_within x1 1 60 I) = 0 then
    some ((-1), I)
  else
    if (F_Gb_within x2 0 3 I) = 0 then
      some ((-1), I)
    else
      fbd (F_Ta_copyFrom 96 2 I) fun I1 =>
      fbd (L_Gb_goes_37 x1 x2 5000 0 I1) fun I4 =>
      fbd (F_Ta_sumOf 96 x2 I4) fun r5 =>
      some (r5, I4)
set_option maxRecDepth 4000 in
theorem c_Gb_goes (l : Launch) (d0 : Nat) (x1 x2 : Int32) (I : gb_Mem) {rz : Int32} {Iz : gb_Mem} (h : F_Gb_goes x1 x2 I = some (rz, Iz)) : gb_Cs l yGb_goes (d0 + 7) [.inr (some 0), .inl x1, .inl x2] shX I (some (.inl rz)) Iz := by
  refine gb_Ct.of (lv := [(0, .inr (some 0)), (1, .inl x1), (2, .inl x2)]) rfl (Nat.le_of_ble_eq_true rfl) rfl ?_
  unfold F_Gb_goes at h
  show gb_Go l yGb_goes (d0 + 7) 0 0 0 [(0, .inr (some 0)), (1, .inl x1), (2, .inl x2)] [] shX I (gb_po shX (some (.inl rz)) Iz)
  refine go_iload_n (k := 1) d_Gb_goes_0 rfl rfl ?_
  refine go_iconst (v := 1) d_Gb_goes_1 (by decide) ?_
  refine go_bipush (v := 60) d_Gb_goes_2 (by decide) ?_
  refine go_callS (y := yGb_within) (asr := [.inl x1, .inl 1, .inl 60]) (v := some (.inl (F_Gb_within x1 1 60 I))) (I' := I) (st1 := [.inl (F_Gb_within x1 1 60 I)]) d_Gb_goes_4 s_yGb_within m_Gb_84 rfl (Nat.le_of_ble_eq_true rfl) rfl rfl (c_Gb_within l (d0 + 6) x1 1 60 I) ?_
  refine go_if_eq (tgt := 19) d_Gb_goes_7 (by decide) (fun hc => ?_) (fun hc => ?_)
  · rw [if_pos hc] at h
    refine go_iconst (v := (-1)) d_Gb_goes_19 (by decide) ?_
    cases h
    exact go_ireturn d_Gb_goes_20 rfl gb_po_i
  · rw [if_neg hc] at h
    refine go_iload_n (k := 2) d_Gb_goes_10 rfl rfl ?_
    refine go_iconst (v := 0) d_Gb_goes_11 (by decide) ?_
    refine go_iconst (v := 3) d_Gb_goes_12 (by decide) ?_
    refine go_callS (y := yGb_within) (asr := [.inl x2, .inl 0, .inl 3]) (v := some (.inl (F_Gb_within x2 0 3 I))) (I' := I) (st1 := [.inl (F_Gb_within x2 0 3 I)]) d_Gb_goes_13 s_yGb_within m_Gb_84 rfl (Nat.le_of_ble_eq_true rfl) rfl rfl (c_Gb_within l (d0 + 6) x2 0 3 I) ?_
    refine go_if_ne (tgt := 21) d_Gb_goes_16 (by decide) (fun hc => ?_) (fun hc => ?_)
    · rw [if_neg hc] at h
      refine go_aload_n (k := 0) d_Gb_goes_21 rfl rfl ?_
      refine go_getr (ci := 0) (k := 4) (r := 96) d_Gb_goes_22 a_X_0 rfl (by decide) f_Gb_29 rfl ?_
      refine go_aload_n (k := 0) d_Gb_goes_25 rfl rfl ?_
      refine go_getr (ci := 0) (k := 0) (r := 1) d_Gb_goes_26 a_X_0 rfl (by decide) f_Gb_12 rfl ?_
      refine go_getrN (ci := 1) (k := 0) (r := 2) d_Gb_goes_29 a_X_1 rfl (by decide) f_Gb_35 rfl ?_
      obtain ⟨I1, w1, h⟩ := fbd_e h
      refine go_callV (y := yTa_copyFrom) (asr := [.inr (some 2)]) (v := none) (I' := I1) (st1 := []) d_Gb_goes_32 s_yTa_copyFrom m_Gb_197 a_X_96 rfl rfl rfl (Nat.le_of_ble_eq_true rfl) rfl rfl (c_Ta_copyFrom l (d0 + 5) 96 2 isTa_96 isTa_2 I w1) ?_
      refine go_iconst (v := 0) d_Gb_goes_35 (by decide) ?_
      refine go_istore_n (lv' := [(3, .inl 0), (0, .inr (some 0)), (1, .inl x1), (2, .inl x2)]) d_Gb_goes_36 rfl (by decide) rfl ?_
      refine go_lv [1, 2, 3, 0] (lv' := [(0, .inr (some 0)), (1, .inl x1), (2, .inl x2), (3, .inl 0)]) rfl ?_
      obtain ⟨I4, w1, h⟩ := fbd_e h
      refine l_Gb_goes_37 l d0 x1 x2 5000 0 I1 w1 (fun I4_ e => ?_)
      cases e
      refine go_aload_n (k := 0) d_Gb_goes_56 rfl rfl ?_
      refine go_getr (ci := 0) (k := 4) (r := 96) d_Gb_goes_57 a_X_0 rfl (by decide) f_Gb_29 rfl ?_
      refine go_iload_n (k := 1) d_Gb_goes_60 rfl rfl ?_
      obtain ⟨r5, w1, h⟩ := fbd_e h
      refine go_callV (y := yTa_sumOf) (asr := [.inl x2]) (v := some (.inl r5)) (I' := I4) (st1 := [.inl r5]) d_Gb_goes_61 s_yTa_sumOf m_Gb_201 a_X_96 rfl rfl rfl (Nat.le_of_ble_eq_true rfl) rfl rfl (c_Ta_sumOf l (d0 + 4) 96 isTa_96 x2 I4 w1) ?_
      cases h
      exact go_ireturn d_Gb_goes_64 rfl gb_po_i
    · rw [if_pos hc] at h
      refine go_iconst (v := (-1)) d_Gb_goes_19 (by decide) ?_
      cases h
      exact go_ireturn d_Gb_goes_20 rfl gb_po_i
theorem d_Gb_minutes_0 : decode yGb_minutes.2.1 0 = .ok (.iload_n 1, 1) := by decide +kernel
theorem d_Gb_minutes_1 : decode yGb_minutes.2.1 1 = .ok (.iconst 1, 1) := by decide +kernel
theorem d_Gb_minutes_2 : decode yGb_minutes.2.1 2 = .ok (.bipush 60, 2) := by decide +kernel
theorem d_Gb_minutes_4 : decode yGb_minutes.2.1 4 = .ok (.invokestatic 84, 3) := by decide +kernel
theorem d_Gb_minutes_7 : decode yGb_minutes.2.1 7 = .ok (.ifCond .eq 21, 3) := by decide +kernel
theorem d_Gb_minutes_10 : decode yGb_minutes.2.1 10 = .ok (.aload_n 0, 1) := by decide +kernel
theorem d_Gb_minutes_11 : decode yGb_minutes.2.1 11 = .ok (.getfield 12, 3) := by decide +kernel
theorem d_Gb_minutes_14 : decode yGb_minutes.2.1 14 = .ok (.getfield 35, 3) := by decide +kernel
theorem d_Gb_minutes_17 : decode yGb_minutes.2.1 17 = .ok (.getfield 131, 3) := by decide +kernel
theorem d_Gb_minutes_20 : decode yGb_minutes.2.1 20 = .ok (.iload_n 1, 1) := by decide +kernel
theorem d_Gb_minutes_21 : decode yGb_minutes.2.1 21 = .ok (.iadd, 1) := by decide +kernel
theorem d_Gb_minutes_22 : decode yGb_minutes.2.1 22 = .ok (.sipush 9999, 3) := by decide +kernel
theorem d_Gb_minutes_25 : decode yGb_minutes.2.1 25 = .ok (.if_icmp .le 5, 3) := by decide +kernel
theorem d_Gb_minutes_28 : decode yGb_minutes.2.1 28 = .ok (.iconst (-1), 1) := by decide +kernel
theorem d_Gb_minutes_29 : decode yGb_minutes.2.1 29 = .ok (.ireturn, 1) := by decide +kernel
theorem d_Gb_minutes_30 : decode yGb_minutes.2.1 30 = .ok (.iconst 0, 1) := by decide +kernel
theorem d_Gb_minutes_31 : decode yGb_minutes.2.1 31 = .ok (.istore_n 2, 1) := by decide +kernel
theorem d_Gb_minutes_32 : decode yGb_minutes.2.1 32 = .ok (.iconst 0, 1) := by decide +kernel
theorem d_Gb_minutes_33 : decode yGb_minutes.2.1 33 = .ok (.istore_n 3, 1) := by decide +kernel
theorem d_Gb_minutes_34 : decode yGb_minutes.2.1 34 = .ok (.iload_n 3, 1) := by decide +kernel
theorem d_Gb_minutes_35 : decode yGb_minutes.2.1 35 = .ok (.iload_n 1, 1) := by decide +kernel
theorem d_Gb_minutes_36 : decode yGb_minutes.2.1 36 = .ok (.if_icmp .ge 30, 3) := by decide +kernel
theorem d_Gb_minutes_39 : decode yGb_minutes.2.1 39 = .ok (.aload_n 0, 1) := by decide +kernel
theorem d_Gb_minutes_40 : decode yGb_minutes.2.1 40 = .ok (.getfield 22, 3) := by decide +kernel
theorem d_Gb_minutes_43 : decode yGb_minutes.2.1 43 = .ok (.aload_n 0, 1) := by decide +kernel
theorem d_Gb_minutes_44 : decode yGb_minutes.2.1 44 = .ok (.getfield 12, 3) := by decide +kernel
theorem d_Gb_minutes_47 : decode yGb_minutes.2.1 47 = .ok (.invokevirtual 114, 3) := by decide +kernel
theorem d_Gb_minutes_50 : decode yGb_minutes.2.1 50 = .ok (.iload_n 2, 1) := by decide +kernel
theorem d_Gb_minutes_51 : decode yGb_minutes.2.1 51 = .ok (.aload_n 0, 1) := by decide +kernel
theorem d_Gb_minutes_52 : decode yGb_minutes.2.1 52 = .ok (.getfield 41, 3) := by decide +kernel
theorem d_Gb_minutes_55 : decode yGb_minutes.2.1 55 = .ok (.invokevirtual 134, 3) := by decide +kernel
theorem d_Gb_minutes_58 : decode yGb_minutes.2.1 58 = .ok (.iadd, 1) := by decide +kernel
theorem d_Gb_minutes_59 : decode yGb_minutes.2.1 59 = .ok (.istore_n 2, 1) := by decide +kernel
theorem d_Gb_minutes_60 : decode yGb_minutes.2.1 60 = .ok (.iinc 3 1, 3) := by decide +kernel
theorem d_Gb_minutes_63 : decode yGb_minutes.2.1 63 = .ok (.goto (-29), 3) := by decide +kernel
theorem d_Gb_minutes_66 : decode yGb_minutes.2.1 66 = .ok (.iload_n 2, 1) := by decide +kernel
theorem d_Gb_minutes_67 : decode yGb_minutes.2.1 67 = .ok (.ireturn, 1) := by decide +kernel
def L_Gb_minutes_34 (x1 : Int32) : Nat → Int32 → Int32 → gb_Mem → Option (Int32 × gb_Mem)
  | 0, _, _, _ => none
  | n + 1, x2, x3, I =>
    if x1 ≤ x3 then
      some (x2, I)
    else
      fbd (F_Pa_keep 1 I) fun I1 =>
      fbd (F_Co_goByOne 100 2 I1) fun (r3, I2) =>
      L_Gb_minutes_34 x1 n (x2 + r3) (x3 + 1) I2
set_option maxRecDepth 4000 in
theorem l_Gb_minutes_34 (l : Launch) (d0 : Nat) (x1 : Int32) {post : Option gb_AV → List gb_Ce → gb_Mem → Prop} : ∀ (n : Nat) (x2 x3 : Int32) (I : gb_Mem) {ρ : Int32 × gb_Mem} (h : L_Gb_minutes_34 x1 n x2 x3 I = some ρ) (hX : ∀ (o2 : Int32) (I2 : gb_Mem), ρ = (o2, I2) → gb_Go l yGb_minutes (d0 + 7) 0 0 66 [(2, .inl o2)] [] shX I2 post) , gb_Go l yGb_minutes (d0 + 7) 0 0 34 [(0, .inr (some 0)), (1, .inl x1), (2, .inl x2), (3, .inl x3)] [] shX I post := by
  intro n
  induction n with
  | zero => intro x2 x3 I ρ h hX; cases h
  | succ n ih =>
    intro x2 x3 I ρ h hX
    rw [L_Gb_minutes_34] at h
    refine go_iload_n (k := 3) d_Gb_minutes_34 rfl rfl ?_
    refine go_iload_n (k := 1) d_Gb_minutes_35 rfl rfl ?_
    refine go_cmp_ge (tgt := 66) d_Gb_minutes_36 (by decide) (fun hc => ?_) (fun hc => ?_)
    · rw [if_pos hc] at h
      exact go_lv [2] rfl (hX _ _ (Option.some.inj h).symm)
    · rw [if_neg hc] at h
      refine go_aload_n (k := 0) d_Gb_minutes_39 rfl rfl ?_
      refine go_getr (ci := 0) (k := 3) (r := 69) d_Gb_minutes_40 a_X_0 rfl (by decide) f_Gb_22 rfl ?_
      refine go_aload_n (k := 0) d_Gb_minutes_43 rfl rfl ?_
      refine go_getr (ci := 0) (k := 0) (r := 1) d_Gb_minutes_44 a_X_0 rfl (by decide) f_Gb_12 rfl ?_
      obtain ⟨I1, w1, h⟩ := fbd_e h
      refine go_callV (y := yPa_keep) (asr := [.inr (some 1)]) (v := none) (I' := I1) (st1 := []) d_Gb_minutes_47 s_yPa_keep m_Gb_114 a_X_69 rfl rfl rfl (Nat.le_of_ble_eq_true rfl) rfl rfl (c_Pa_keep l (d0 + 4) 1 isWo_1 I w1) ?_
      refine go_iload_n (k := 2) d_Gb_minutes_50 rfl rfl ?_
      refine go_aload_n (k := 0) d_Gb_minutes_51 rfl rfl ?_
      refine go_getr (ci := 0) (k := 5) (r := 100) d_Gb_minutes_52 a_X_0 rfl (by decide) f_Gb_41 rfl ?_
      obtain ⟨⟨r3, I2⟩, w1, h⟩ := fbd_e h
      try dsimp only at h
      refine go_callV (y := yCo_goByOne) (asr := []) (v := some (.inl r3)) (I' := I2) (st1 := [.inl r3, .inl x2]) d_Gb_minutes_55 s_yCo_goByOne m_Gb_134 a_X_100 rfl rfl rfl (Nat.le_of_ble_eq_true rfl) rfl rfl (c_Co_goByOne l (d0 + 0) 100 2 isCo_100 I1 w1) ?_
      refine go_iadd d_Gb_minutes_58 ?_
      refine go_istore_n (lv' := [(2, .inl (x2 + r3)), (0, .inr (some 0)), (1, .inl x1), (3, .inl x3)]) d_Gb_minutes_59 rfl (by decide) rfl ?_
      refine go_iinc (k := 3) (v := x3 + 1) (lv' := [(3, .inl (x3 + 1)), (2, .inl (x2 + r3)), (0, .inr (some 0)), (1, .inl x1)]) d_Gb_minutes_60 rfl rfl (by decide) rfl ?_
      refine go_goto (tgt := 34) d_Gb_minutes_63 (by decide) ?_
      exact go_lv [2, 3, 1, 0] rfl (ih (x2 + r3) (x3 + 1) I2 h hX)
def F_Gb_minutes (x1 : Int32) (I : gb_Mem) : Option (Int32 × gb_Mem) :=
  if (F_Gb_within x1 1 60 I) = 0 then
    some ((-1), I)
  else
    if ((I 2 4) + x1) ≤ 9999 then
      fbd (L_Gb_minutes_34 x1 5000 0 0 I) fun (o4, I5) =>
      some (o4, I5)
    else
      some ((-1), I)
set_option maxRecDepth 4000 in
theorem c_Gb_minutes (l : Launch) (d0 : Nat) (x1 : Int32) (I : gb_Mem) {rz : Int32} {Iz : gb_Mem} (h : F_Gb_minutes x1 I = some (rz, Iz)) : gb_Cs l yGb_minutes (d0 + 7) [.inr (some 0), .inl x1] shX I (some (.inl rz)) Iz := by
  refine gb_Ct.of (lv := [(0, .inr (some 0)), (1, .inl x1)]) rfl (Nat.le_of_ble_eq_true rfl) rfl ?_
  unfold F_Gb_minutes at h
  show gb_Go l yGb_minutes (d0 + 7) 0 0 0 [(0, .inr (some 0)), (1, .inl x1)] [] shX I (gb_po shX (some (.inl rz)) Iz)
  refine go_iload_n (k := 1) d_Gb_minutes_0 rfl rfl ?_
  refine go_iconst (v := 1) d_Gb_minutes_1 (by decide) ?_
  refine go_bipush (v := 60) d_Gb_minutes_2 (by decide) ?_
  refine go_callS (y := yGb_within) (asr := [.inl x1, .inl 1, .inl 60]) (v := some (.inl (F_Gb_within x1 1 60 I))) (I' := I) (st1 := [.inl (F_Gb_within x1 1 60 I)]) d_Gb_minutes_4 s_yGb_within m_Gb_84 rfl (Nat.le_of_ble_eq_true rfl) rfl rfl (c_Gb_within l (d0 + 6) x1 1 60 I) ?_
  refine go_if_eq (tgt := 28) d_Gb_minutes_7 (by decide) (fun hc => ?_) (fun hc => ?_)
  · rw [if_pos hc] at h
    refine go_iconst (v := (-1)) d_Gb_minutes_28 (by decide) ?_
    cases h
    exact go_ireturn d_Gb_minutes_29 rfl gb_po_i
  · rw [if_neg hc] at h
    refine go_aload_n (k := 0) d_Gb_minutes_10 rfl rfl ?_
    refine go_getr (ci := 0) (k := 0) (r := 1) d_Gb_minutes_11 a_X_0 rfl (by decide) f_Gb_12 rfl ?_
    refine go_getrN (ci := 1) (k := 0) (r := 2) d_Gb_minutes_14 a_X_1 rfl (by decide) f_Gb_35 rfl ?_
    refine go_getiN (ci := 2) (k := 4) d_Gb_minutes_17 a_X_2 rfl (by decide) f_Gb_131 rfl ?_
    refine go_iload_n (k := 1) d_Gb_minutes_20 rfl rfl ?_
    refine go_iadd d_Gb_minutes_21 ?_
    refine go_sipush (v := 9999) d_Gb_minutes_22 (by decide) ?_
    refine go_cmp_le (tgt := 30) d_Gb_minutes_25 (by decide) (fun hc => ?_) (fun hc => ?_)
    · rw [if_pos hc] at h
      refine go_iconst (v := 0) d_Gb_minutes_30 (by decide) ?_
      refine go_istore_n (lv' := [(2, .inl 0), (0, .inr (some 0)), (1, .inl x1)]) d_Gb_minutes_31 rfl (by decide) rfl ?_
      refine go_iconst (v := 0) d_Gb_minutes_32 (by decide) ?_
      refine go_istore_n (lv' := [(3, .inl 0), (2, .inl 0), (0, .inr (some 0)), (1, .inl x1)]) d_Gb_minutes_33 rfl (by decide) rfl ?_
      refine go_lv [2, 3, 1, 0] (lv' := [(0, .inr (some 0)), (1, .inl x1), (2, .inl 0), (3, .inl 0)]) rfl ?_
      obtain ⟨⟨o4, I5⟩, w1, h⟩ := fbd_e h
      try dsimp only at h
      refine l_Gb_minutes_34 l d0 x1 5000 0 0 I w1 (fun o4_ I5_ e => ?_)
      cases e
      refine go_iload_n (k := 0) d_Gb_minutes_66 rfl rfl ?_
      cases h
      exact go_ireturn d_Gb_minutes_67 rfl gb_po_i
    · rw [if_neg hc] at h
      refine go_iconst (v := (-1)) d_Gb_minutes_28 (by decide) ?_
      cases h
      exact go_ireturn d_Gb_minutes_29 rfl gb_po_i
theorem d_Rd_cutTokens_0 : decode yRd_cutTokens.2.1 0 = .ok (.aload_n 0, 1) := by decide +kernel
theorem d_Rd_cutTokens_1 : decode yRd_cutTokens.2.1 1 = .ok (.iconst 0, 1) := by decide +kernel
theorem d_Rd_cutTokens_2 : decode yRd_cutTokens.2.1 2 = .ok (.putfield 131, 3) := by decide +kernel
theorem d_Rd_cutTokens_5 : decode yRd_cutTokens.2.1 5 = .ok (.aload_n 0, 1) := by decide +kernel
theorem d_Rd_cutTokens_6 : decode yRd_cutTokens.2.1 6 = .ok (.iconst 0, 1) := by decide +kernel
theorem d_Rd_cutTokens_7 : decode yRd_cutTokens.2.1 7 = .ok (.putfield 80, 3) := by decide +kernel
theorem d_Rd_cutTokens_10 : decode yRd_cutTokens.2.1 10 = .ok (.iconst 0, 1) := by decide +kernel
theorem d_Rd_cutTokens_11 : decode yRd_cutTokens.2.1 11 = .ok (.istore_n 1, 1) := by decide +kernel
theorem d_Rd_cutTokens_12 : decode yRd_cutTokens.2.1 12 = .ok (.iconst 0, 1) := by decide +kernel
theorem d_Rd_cutTokens_13 : decode yRd_cutTokens.2.1 13 = .ok (.istore_n 2, 1) := by decide +kernel
theorem d_Rd_cutTokens_14 : decode yRd_cutTokens.2.1 14 = .ok (.iload_n 2, 1) := by decide +kernel
theorem d_Rd_cutTokens_15 : decode yRd_cutTokens.2.1 15 = .ok (.aload_n 0, 1) := by decide +kernel
theorem d_Rd_cutTokens_16 : decode yRd_cutTokens.2.1 16 = .ok (.getfield 47, 3) := by decide +kernel
theorem d_Rd_cutTokens_19 : decode yRd_cutTokens.2.1 19 = .ok (.if_icmp .ge 85, 3) := by decide +kernel
theorem d_Rd_cutTokens_22 : decode yRd_cutTokens.2.1 22 = .ok (.aload_n 0, 1) := by decide +kernel
theorem d_Rd_cutTokens_23 : decode yRd_cutTokens.2.1 23 = .ok (.iload_n 2, 1) := by decide +kernel
theorem d_Rd_cutTokens_24 : decode yRd_cutTokens.2.1 24 = .ok (.invokevirtual 134, 3) := by decide +kernel
theorem d_Rd_cutTokens_27 : decode yRd_cutTokens.2.1 27 = .ok (.istore_n 1, 1) := by decide +kernel
theorem d_Rd_cutTokens_28 : decode yRd_cutTokens.2.1 28 = .ok (.aload_n 0, 1) := by decide +kernel
theorem d_Rd_cutTokens_29 : decode yRd_cutTokens.2.1 29 = .ok (.iload_n 2, 1) := by decide +kernel
theorem d_Rd_cutTokens_30 : decode yRd_cutTokens.2.1 30 = .ok (.invokevirtual 137, 3) := by decide +kernel
theorem d_Rd_cutTokens_33 : decode yRd_cutTokens.2.1 33 = .ok (.bipush 32, 2) := by decide +kernel
theorem d_Rd_cutTokens_35 : decode yRd_cutTokens.2.1 35 = .ok (.if_icmp .eq 58, 3) := by decide +kernel
theorem d_Rd_cutTokens_38 : decode yRd_cutTokens.2.1 38 = .ok (.aload_n 0, 1) := by decide +kernel
theorem d_Rd_cutTokens_39 : decode yRd_cutTokens.2.1 39 = .ok (.iload_n 2, 1) := by decide +kernel
theorem d_Rd_cutTokens_40 : decode yRd_cutTokens.2.1 40 = .ok (.invokevirtual 137, 3) := by decide +kernel
theorem d_Rd_cutTokens_43 : decode yRd_cutTokens.2.1 43 = .ok (.bipush 10, 2) := by decide +kernel
theorem d_Rd_cutTokens_45 : decode yRd_cutTokens.2.1 45 = .ok (.if_icmp .eq 48, 3) := by decide +kernel
theorem d_Rd_cutTokens_48 : decode yRd_cutTokens.2.1 48 = .ok (.aload_n 0, 1) := by decide +kernel
theorem d_Rd_cutTokens_49 : decode yRd_cutTokens.2.1 49 = .ok (.getfield 131, 3) := by decide +kernel
theorem d_Rd_cutTokens_52 : decode yRd_cutTokens.2.1 52 = .ok (.sipush 400, 3) := by decide +kernel
theorem d_Rd_cutTokens_55 : decode yRd_cutTokens.2.1 55 = .ok (.if_icmp .ge 38, 3) := by decide +kernel
theorem d_Rd_cutTokens_58 : decode yRd_cutTokens.2.1 58 = .ok (.aload_n 0, 1) := by decide +kernel
theorem d_Rd_cutTokens_59 : decode yRd_cutTokens.2.1 59 = .ok (.getfield 9, 3) := by decide +kernel
theorem d_Rd_cutTokens_62 : decode yRd_cutTokens.2.1 62 = .ok (.aload_n 0, 1) := by decide +kernel
theorem d_Rd_cutTokens_63 : decode yRd_cutTokens.2.1 63 = .ok (.getfield 131, 3) := by decide +kernel
theorem d_Rd_cutTokens_66 : decode yRd_cutTokens.2.1 66 = .ok (.aload_n 0, 1) := by decide +kernel
theorem d_Rd_cutTokens_67 : decode yRd_cutTokens.2.1 67 = .ok (.iload_n 2, 1) := by decide +kernel
theorem d_Rd_cutTokens_68 : decode yRd_cutTokens.2.1 68 = .ok (.iload_n 1, 1) := by decide +kernel
theorem d_Rd_cutTokens_69 : decode yRd_cutTokens.2.1 69 = .ok (.invokevirtual 140, 3) := by decide +kernel
theorem d_Rd_cutTokens_72 : decode yRd_cutTokens.2.1 72 = .ok (.iastore, 1) := by decide +kernel
theorem d_Rd_cutTokens_73 : decode yRd_cutTokens.2.1 73 = .ok (.aload_n 0, 1) := by decide +kernel
theorem d_Rd_cutTokens_74 : decode yRd_cutTokens.2.1 74 = .ok (.getfield 15, 3) := by decide +kernel
theorem d_Rd_cutTokens_77 : decode yRd_cutTokens.2.1 77 = .ok (.aload_n 0, 1) := by decide +kernel
theorem d_Rd_cutTokens_78 : decode yRd_cutTokens.2.1 78 = .ok (.getfield 131, 3) := by decide +kernel
theorem d_Rd_cutTokens_81 : decode yRd_cutTokens.2.1 81 = .ok (.iload_n 2, 1) := by decide +kernel
theorem d_Rd_cutTokens_82 : decode yRd_cutTokens.2.1 82 = .ok (.iastore, 1) := by decide +kernel
theorem d_Rd_cutTokens_83 : decode yRd_cutTokens.2.1 83 = .ok (.aload_n 0, 1) := by decide +kernel
theorem d_Rd_cutTokens_84 : decode yRd_cutTokens.2.1 84 = .ok (.dup, 1) := by decide +kernel
theorem d_Rd_cutTokens_85 : decode yRd_cutTokens.2.1 85 = .ok (.getfield 131, 3) := by decide +kernel
theorem d_Rd_cutTokens_88 : decode yRd_cutTokens.2.1 88 = .ok (.iconst 1, 1) := by decide +kernel
theorem d_Rd_cutTokens_89 : decode yRd_cutTokens.2.1 89 = .ok (.iadd, 1) := by decide +kernel
theorem d_Rd_cutTokens_90 : decode yRd_cutTokens.2.1 90 = .ok (.putfield 131, 3) := by decide +kernel
theorem d_Rd_cutTokens_93 : decode yRd_cutTokens.2.1 93 = .ok (.iload_n 2, 1) := by decide +kernel
theorem d_Rd_cutTokens_94 : decode yRd_cutTokens.2.1 94 = .ok (.iconst 1, 1) := by decide +kernel
theorem d_Rd_cutTokens_95 : decode yRd_cutTokens.2.1 95 = .ok (.iadd, 1) := by decide +kernel
theorem d_Rd_cutTokens_96 : decode yRd_cutTokens.2.1 96 = .ok (.iload_n 1, 1) := by decide +kernel
theorem d_Rd_cutTokens_97 : decode yRd_cutTokens.2.1 97 = .ok (.invokestatic 143, 3) := by decide +kernel
theorem d_Rd_cutTokens_100 : decode yRd_cutTokens.2.1 100 = .ok (.istore_n 2, 1) := by decide +kernel
theorem d_Rd_cutTokens_101 : decode yRd_cutTokens.2.1 101 = .ok (.goto (-87), 3) := by decide +kernel
theorem d_Rd_cutTokens_104 : decode yRd_cutTokens.2.1 104 = .ok (.return_, 1) := by decide +kernel
def J_Rd_cutTokens_93 (k : Int32 → gb_Mem → Option (gb_Mem)) (x1 x2 : Int32) (I : gb_Mem) : Option (gb_Mem) :=
  k (mx (x2 + 1) x1) I
set_option maxRecDepth 4000 in
theorem j_Rd_cutTokens_93 (l : Launch) (d0 : Nat) {post : Option gb_AV → List gb_Ce → gb_Mem → Prop} (k : Int32 → gb_Mem → Option (gb_Mem)) (x1 x2 : Int32) (I : gb_Mem) {ρ : gb_Mem} (h : J_Rd_cutTokens_93 k x1 x2 I = some ρ) (hk : ∀ (z2 : Int32) (Iw : gb_Mem), k z2 Iw = some ρ → gb_Go l yRd_cutTokens (d0 + 7) 0 0 14 [(0, .inr (some 111)), (2, .inl z2)] [] shX Iw post) (hX : ∀ (I2 : gb_Mem), ρ = I2 → gb_Go l yRd_cutTokens (d0 + 7) 0 0 104 [] [] shX I2 post) : gb_Go l yRd_cutTokens (d0 + 7) 0 0 93 [(0, .inr (some 111)), (1, .inl x1), (2, .inl x2)] [] shX I post := by
  unfold J_Rd_cutTokens_93 at h
  refine go_iload_n (k := 2) d_Rd_cutTokens_93 rfl rfl ?_
  refine go_iconst (v := 1) d_Rd_cutTokens_94 (by decide) ?_
  refine go_iadd d_Rd_cutTokens_95 ?_
  refine go_iload_n (k := 1) d_Rd_cutTokens_96 rfl rfl ?_
  refine go_mmax d_Rd_cutTokens_97 m_Rd_143 (Nat.le_of_ble_eq_true rfl) ?_
  refine go_istore_n (lv' := [(2, .inl (mx (x2 + 1) x1)), (0, .inr (some 111)), (1, .inl x1)]) d_Rd_cutTokens_100 rfl (by decide) rfl ?_
  refine go_goto (tgt := 14) d_Rd_cutTokens_101 (by decide) ?_
  exact go_lv [1, 0] rfl (hk _ _ h)
def L_Rd_cutTokens_14 : Nat → Int32 → gb_Mem → Option (gb_Mem)
  | 0, _, _ => none
  | n + 1, x2, I =>
    if (I 111 1) ≤ x2 then
      some I
    else
      fbd (F_Rd_runEnd x2 I) fun r3 =>
      fbd (F_Rd_charAt x2 I) fun r4 =>
      if r4 = 32 then
        J_Rd_cutTokens_93 (L_Rd_cutTokens_14 n) r3 x2 I
      else
        fbd (F_Rd_charAt x2 I) fun r5 =>
        if r5 = 10 then
          J_Rd_cutTokens_93 (L_Rd_cutTokens_14 n) r3 x2 I
        else
          if 400 ≤ (I 111 5) then
            J_Rd_cutTokens_93 (L_Rd_cutTokens_14 n) r3 x2 I
          else
            fbd (F_Rd_tokenOf x2 r3 I) fun r6 =>
            fsto I 112 401 (I 111 5) r6 fun I7 =>
            fsto I7 113 401 (I7 111 5) x2 fun I8 =>
            fstf I8 111 5 ((I8 111 5) + 1) fun I9 =>
            J_Rd_cutTokens_93 (L_Rd_cutTokens_14 n) r3 x2 I9
set_option maxRecDepth 4000 in
theorem l_Rd_cutTokens_14 (l : Launch) (d0 : Nat) {post : Option gb_AV → List gb_Ce → gb_Mem → Prop} : ∀ (n : Nat) (x2 : Int32) (I : gb_Mem) {ρ : gb_Mem} (h : L_Rd_cutTokens_14 n x2 I = some ρ) (hX : ∀ (I2 : gb_Mem), ρ = I2 → gb_Go l yRd_cutTokens (d0 + 7) 0 0 104 [] [] shX I2 post) , gb_Go l yRd_cutTokens (d0 + 7) 0 0 14 [(0, .inr (some 111)), (2, .inl x2)] [] shX I post := by
  intro n
  induction n with
  | zero => intro x2 I ρ h hX; cases h
  | succ n ih =>
    intro x2 I ρ h hX
    rw [L_Rd_cutTokens_14] at h
    refine go_iload_n (k := 1) d_Rd_cutTokens_14 rfl rfl ?_
    refine go_aload_n (k := 0) d_Rd_cutTokens_15 rfl rfl ?_
    refine go_geti (ci := 9) (k := 1) d_Rd_cutTokens_16 a_X_111 rfl (by decide) f_Rd_47 rfl ?_
    refine go_cmp_ge (tgt := 104) d_Rd_cutTokens_19 (by decide) (fun hc => ?_) (fun hc => ?_)
    · rw [if_pos hc] at h
      exact go_lv [] rfl (hX _ (Option.some.inj h).symm)
    · rw [if_neg hc] at h
      refine go_aload_n (k := 0) d_Rd_cutTokens_22 rfl rfl ?_
      refine go_iload_n (k := 1) d_Rd_cutTokens_23 rfl rfl ?_
      obtain ⟨r3, w1, h⟩ := fbd_e h
      refine go_callV (y := yRd_runEnd) (asr := [.inl x2]) (v := some (.inl r3)) (I' := I) (st1 := [.inl r3]) d_Rd_cutTokens_24 s_yRd_runEnd m_Rd_134 a_X_111 rfl rfl rfl (Nat.le_of_ble_eq_true rfl) rfl rfl (c_Rd_runEnd l (d0 + 4) x2 I w1) ?_
      refine go_istore_n (lv' := [(1, .inl r3), (0, .inr (some 111)), (2, .inl x2)]) d_Rd_cutTokens_27 rfl (by decide) rfl ?_
      refine go_aload_n (k := 1) d_Rd_cutTokens_28 rfl rfl ?_
      refine go_iload_n (k := 2) d_Rd_cutTokens_29 rfl rfl ?_
      obtain ⟨r4, w1, h⟩ := fbd_e h
      refine go_callV (y := yRd_charAt) (asr := [.inl x2]) (v := some (.inl r4)) (I' := I) (st1 := [.inl r4]) d_Rd_cutTokens_30 s_yRd_charAt m_Rd_137 a_X_111 rfl rfl rfl (Nat.le_of_ble_eq_true rfl) rfl rfl (c_Rd_charAt l (d0 + 5) x2 I w1) ?_
      refine go_bipush (v := 32) d_Rd_cutTokens_33 (by decide) ?_
      refine go_cmp_eq (tgt := 93) d_Rd_cutTokens_35 (by decide) (fun hc => ?_) (fun hc => ?_)
      · rw [if_pos hc] at h
        exact go_lv [1, 0, 2] rfl (j_Rd_cutTokens_93 l d0 (L_Rd_cutTokens_14 n) r3 x2 I h (fun z2 Iw hh => ih z2 Iw hh hX) hX)
      · rw [if_neg hc] at h
        refine go_aload_n (k := 1) d_Rd_cutTokens_38 rfl rfl ?_
        refine go_iload_n (k := 2) d_Rd_cutTokens_39 rfl rfl ?_
        obtain ⟨r5, w1, h⟩ := fbd_e h
        refine go_callV (y := yRd_charAt) (asr := [.inl x2]) (v := some (.inl r5)) (I' := I) (st1 := [.inl r5]) d_Rd_cutTokens_40 s_yRd_charAt m_Rd_137 a_X_111 rfl rfl rfl (Nat.le_of_ble_eq_true rfl) rfl rfl (c_Rd_charAt l (d0 + 5) x2 I w1) ?_
        refine go_bipush (v := 10) d_Rd_cutTokens_43 (by decide) ?_
        refine go_cmp_eq (tgt := 93) d_Rd_cutTokens_45 (by decide) (fun hc => ?_) (fun hc => ?_)
        · rw [if_pos hc] at h
          exact go_lv [1, 0, 2] rfl (j_Rd_cutTokens_93 l d0 (L_Rd_cutTokens_14 n) r3 x2 I h (fun z2 Iw hh => ih z2 Iw hh hX) hX)
        · rw [if_neg hc] at h
          refine go_aload_n (k := 1) d_Rd_cutTokens_48 rfl rfl ?_
          refine go_geti (ci := 9) (k := 5) d_Rd_cutTokens_49 a_X_111 rfl (by decide) f_Rd_131 rfl ?_
          refine go_sipush (v := 400) d_Rd_cutTokens_52 (by decide) ?_
          refine go_cmp_ge (tgt := 93) d_Rd_cutTokens_55 (by decide) (fun hc => ?_) (fun hc => ?_)
          · rw [if_pos hc] at h
            exact go_lv [1, 0, 2] rfl (j_Rd_cutTokens_93 l d0 (L_Rd_cutTokens_14 n) r3 x2 I h (fun z2 Iw hh => ih z2 Iw hh hX) hX)
          · rw [if_neg hc] at h
            refine go_aload_n (k := 1) d_Rd_cutTokens_58 rfl rfl ?_
            refine go_getr (ci := 9) (k := 3) (r := 112) d_Rd_cutTokens_59 a_X_111 rfl (by decide) f_Rd_9 rfl ?_
            refine go_aload_n (k := 1) d_Rd_cutTokens_62 rfl rfl ?_
            refine go_geti (ci := 9) (k := 5) d_Rd_cutTokens_63 a_X_111 rfl (by decide) f_Rd_131 rfl ?_
            refine go_aload_n (k := 1) d_Rd_cutTokens_66 rfl rfl ?_
            refine go_iload_n (k := 2) d_Rd_cutTokens_67 rfl rfl ?_
            refine go_iload_n (k := 0) d_Rd_cutTokens_68 rfl rfl ?_
            obtain ⟨r6, w1, h⟩ := fbd_e h
            refine go_callV (y := yRd_tokenOf) (asr := [.inl x2, .inl r3]) (v := some (.inl r6)) (I' := I) (st1 := [.inl r6, .inl (I 111 5), .inr (some 112)]) d_Rd_cutTokens_69 s_yRd_tokenOf m_Rd_140 a_X_111 rfl rfl rfl (Nat.le_of_ble_eq_true rfl) rfl rfl (c_Rd_tokenOf l (d0 + 0) x2 r3 I w1) ?_
            obtain ⟨hi, I7, eI7, h⟩ := fsto_e h
            refine go_iast (I' := I7) d_Rd_cutTokens_72 a_X_112 hi eI7 ?_
            refine go_aload_n (k := 1) d_Rd_cutTokens_73 rfl rfl ?_
            refine go_getr (ci := 9) (k := 4) (r := 113) d_Rd_cutTokens_74 a_X_111 rfl (by decide) f_Rd_15 rfl ?_
            refine go_aload_n (k := 1) d_Rd_cutTokens_77 rfl rfl ?_
            refine go_geti (ci := 9) (k := 5) d_Rd_cutTokens_78 a_X_111 rfl (by decide) f_Rd_131 rfl ?_
            refine go_iload_n (k := 2) d_Rd_cutTokens_81 rfl rfl ?_
            obtain ⟨hi, I8, eI8, h⟩ := fsto_e h
            refine go_iast (I' := I8) d_Rd_cutTokens_82 a_X_113 hi eI8 ?_
            refine go_aload_n (k := 1) d_Rd_cutTokens_83 rfl rfl ?_
            refine go_dup d_Rd_cutTokens_84 ?_
            refine go_geti (ci := 9) (k := 5) d_Rd_cutTokens_85 a_X_111 rfl (by decide) f_Rd_131 rfl ?_
            refine go_iconst (v := 1) d_Rd_cutTokens_88 (by decide) ?_
            refine go_iadd d_Rd_cutTokens_89 ?_
            obtain ⟨I9, eI9, h⟩ := fstf_e h
            refine go_putT (ci := 9) (k := 5) (I' := I9) d_Rd_cutTokens_90 a_X_111 rfl (by decide) f_Rd_131 rfl rfl rfl rfl rfl eI9 ?_
            exact go_lv [1, 0, 2] rfl (j_Rd_cutTokens_93 l d0 (L_Rd_cutTokens_14 n) r3 x2 I9 h (fun z2 Iw hh => ih z2 Iw hh hX) hX)
def F_Rd_cutTokens (I : gb_Mem) : Option (gb_Mem) :=
  fstf I 111 5 0 fun I1 =>
  fstf I1 111 6 0 fun I2 =>
  fbd (L_Rd_cutTokens_14 5000 0 I2) fun I10 =>
  some I10
set_option maxRecDepth 4000 in
theorem c_Rd_cutTokens (l : Launch) (d0 : Nat) (I : gb_Mem) {Iz : gb_Mem} (h : F_Rd_cutTokens I = some Iz) : gb_Cs l yRd_cutTokens (d0 + 7) [.inr (some 111)] shX I none Iz := by
  refine gb_Ct.of (lv := [(0, .inr (some 111))]) rfl (Nat.le_of_ble_eq_true rfl) rfl ?_
  unfold F_Rd_cutTokens at h
  show gb_Go l yRd_cutTokens (d0 + 7) 0 0 0 [(0, .inr (some 111))] [] shX I (gb_po shX none Iz)
  refine go_aload_n (k := 0) d_Rd_cutTokens_0 rfl rfl ?_
  refine go_iconst (v := 0) d_Rd_cutTokens_1 (by decide) ?_
  obtain ⟨I1, eI1, h⟩ := fstf_e h
  refine go_putT (ci := 9) (k := 5) (I' := I1) d_Rd_cutTokens_2 a_X_111 rfl (by decide) f_Rd_131 rfl rfl rfl rfl rfl eI1 ?_
  refine go_aload_n (k := 0) d_Rd_cutTokens_5 rfl rfl ?_
  refine go_iconst (v := 0) d_Rd_cutTokens_6 (by decide) ?_
  obtain ⟨I2, eI2, h⟩ := fstf_e h
  refine go_putT (ci := 9) (k := 6) (I' := I2) d_Rd_cutTokens_7 a_X_111 rfl (by decide) f_Rd_80 rfl rfl rfl rfl rfl eI2 ?_
  refine go_iconst (v := 0) d_Rd_cutTokens_10 (by decide) ?_
  refine go_istore_n (lv' := [(1, .inl 0), (0, .inr (some 111))]) d_Rd_cutTokens_11 rfl (by decide) rfl ?_
  refine go_iconst (v := 0) d_Rd_cutTokens_12 (by decide) ?_
  refine go_istore_n (lv' := [(2, .inl 0), (1, .inl 0), (0, .inr (some 111))]) d_Rd_cutTokens_13 rfl (by decide) rfl ?_
  refine go_lv [2, 0] (lv' := [(0, .inr (some 111)), (2, .inl 0)]) rfl ?_
  obtain ⟨I10, w1, h⟩ := fbd_e h
  refine l_Rd_cutTokens_14 l d0  5000 0 I2 w1 (fun I10_ e => ?_)
  cases e
  cases h
  exact go_return d_Rd_cutTokens_104 rfl gb_po_i
theorem d_Rd_readLines_0 : decode yRd_readLines.2.1 0 = .ok (.aload_n 0, 1) := by decide +kernel
theorem d_Rd_readLines_1 : decode yRd_readLines.2.1 1 = .ok (.invokevirtual 56, 3) := by decide +kernel
theorem d_Rd_readLines_4 : decode yRd_readLines.2.1 4 = .ok (.aload_n 0, 1) := by decide +kernel
theorem d_Rd_readLines_5 : decode yRd_readLines.2.1 5 = .ok (.getfield 34, 3) := by decide +kernel
theorem d_Rd_readLines_8 : decode yRd_readLines.2.1 8 = .ok (.iconst 0, 1) := by decide +kernel
theorem d_Rd_readLines_9 : decode yRd_readLines.2.1 9 = .ok (.putfield 93, 3) := by decide +kernel
theorem d_Rd_readLines_12 : decode yRd_readLines.2.1 12 = .ok (.iload_n 1, 1) := by decide +kernel
theorem d_Rd_readLines_13 : decode yRd_readLines.2.1 13 = .ok (.iconst 1, 1) := by decide +kernel
theorem d_Rd_readLines_14 : decode yRd_readLines.2.1 14 = .ok (.if_icmp .ne 9, 3) := by decide +kernel
theorem d_Rd_readLines_17 : decode yRd_readLines.2.1 17 = .ok (.sipush 219, 3) := by decide +kernel
theorem d_Rd_readLines_20 : decode yRd_readLines.2.1 20 = .ok (.goto 17, 3) := by decide +kernel
theorem d_Rd_readLines_23 : decode yRd_readLines.2.1 23 = .ok (.iload_n 1, 1) := by decide +kernel
theorem d_Rd_readLines_24 : decode yRd_readLines.2.1 24 = .ok (.iconst 2, 1) := by decide +kernel
theorem d_Rd_readLines_25 : decode yRd_readLines.2.1 25 = .ok (.if_icmp .ne 9, 3) := by decide +kernel
theorem d_Rd_readLines_28 : decode yRd_readLines.2.1 28 = .ok (.sipush 221, 3) := by decide +kernel
theorem d_Rd_readLines_31 : decode yRd_readLines.2.1 31 = .ok (.goto 6, 3) := by decide +kernel
theorem d_Rd_readLines_34 : decode yRd_readLines.2.1 34 = .ok (.sipush 210, 3) := by decide +kernel
theorem d_Rd_readLines_37 : decode yRd_readLines.2.1 37 = .ok (.istore_n 2, 1) := by decide +kernel
theorem d_Rd_readLines_38 : decode yRd_readLines.2.1 38 = .ok (.iconst 0, 1) := by decide +kernel
theorem d_Rd_readLines_39 : decode yRd_readLines.2.1 39 = .ok (.istore_n 3, 1) := by decide +kernel
theorem d_Rd_readLines_40 : decode yRd_readLines.2.1 40 = .ok (.iload_n 3, 1) := by decide +kernel
theorem d_Rd_readLines_41 : decode yRd_readLines.2.1 41 = .ok (.bipush 16, 2) := by decide +kernel
theorem d_Rd_readLines_43 : decode yRd_readLines.2.1 43 = .ok (.if_icmp .gt 75, 3) := by decide +kernel
theorem d_Rd_readLines_46 : decode yRd_readLines.2.1 46 = .ok (.aload_n 0, 1) := by decide +kernel
theorem d_Rd_readLines_47 : decode yRd_readLines.2.1 47 = .ok (.getfield 53, 3) := by decide +kernel
theorem d_Rd_readLines_50 : decode yRd_readLines.2.1 50 = .ok (.ifCond .ne 68, 3) := by decide +kernel
theorem d_Rd_readLines_53 : decode yRd_readLines.2.1 53 = .ok (.aload_n 0, 1) := by decide +kernel
theorem d_Rd_readLines_54 : decode yRd_readLines.2.1 54 = .ok (.invokevirtual 62, 3) := by decide +kernel
theorem d_Rd_readLines_57 : decode yRd_readLines.2.1 57 = .ok (.ifCond .eq 61, 3) := by decide +kernel
theorem d_Rd_readLines_60 : decode yRd_readLines.2.1 60 = .ok (.aload_n 0, 1) := by decide +kernel
theorem d_Rd_readLines_61 : decode yRd_readLines.2.1 61 = .ok (.iload_n 3, 1) := by decide +kernel
theorem d_Rd_readLines_62 : decode yRd_readLines.2.1 62 = .ok (.aload_n 0, 1) := by decide +kernel
theorem d_Rd_readLines_63 : decode yRd_readLines.2.1 63 = .ok (.invokevirtual 62, 3) := by decide +kernel
theorem d_Rd_readLines_66 : decode yRd_readLines.2.1 66 = .ok (.iload_n 2, 1) := by decide +kernel
theorem d_Rd_readLines_67 : decode yRd_readLines.2.1 67 = .ok (.if_icmp .ne 7, 3) := by decide +kernel
theorem d_Rd_readLines_70 : decode yRd_readLines.2.1 70 = .ok (.iconst 1, 1) := by decide +kernel
theorem d_Rd_readLines_71 : decode yRd_readLines.2.1 71 = .ok (.goto 4, 3) := by decide +kernel
theorem d_Rd_readLines_74 : decode yRd_readLines.2.1 74 = .ok (.iconst 0, 1) := by decide +kernel
theorem d_Rd_readLines_75 : decode yRd_readLines.2.1 75 = .ok (.invokevirtual 70, 3) := by decide +kernel
theorem d_Rd_readLines_78 : decode yRd_readLines.2.1 78 = .ok (.iload_n 1, 1) := by decide +kernel
theorem d_Rd_readLines_79 : decode yRd_readLines.2.1 79 = .ok (.iconst 1, 1) := by decide +kernel
theorem d_Rd_readLines_80 : decode yRd_readLines.2.1 80 = .ok (.if_icmp .ne 10, 3) := by decide +kernel
theorem d_Rd_readLines_83 : decode yRd_readLines.2.1 83 = .ok (.aload_n 0, 1) := by decide +kernel
theorem d_Rd_readLines_84 : decode yRd_readLines.2.1 84 = .ok (.invokevirtual 96, 3) := by decide +kernel
theorem d_Rd_readLines_87 : decode yRd_readLines.2.1 87 = .ok (.goto 19, 3) := by decide +kernel
theorem d_Rd_readLines_90 : decode yRd_readLines.2.1 90 = .ok (.iload_n 1, 1) := by decide +kernel
theorem d_Rd_readLines_91 : decode yRd_readLines.2.1 91 = .ok (.iconst 2, 1) := by decide +kernel
theorem d_Rd_readLines_92 : decode yRd_readLines.2.1 92 = .ok (.if_icmp .ne 10, 3) := by decide +kernel
theorem d_Rd_readLines_95 : decode yRd_readLines.2.1 95 = .ok (.aload_n 0, 1) := by decide +kernel
theorem d_Rd_readLines_96 : decode yRd_readLines.2.1 96 = .ok (.invokevirtual 99, 3) := by decide +kernel
theorem d_Rd_readLines_99 : decode yRd_readLines.2.1 99 = .ok (.goto 7, 3) := by decide +kernel
theorem d_Rd_readLines_102 : decode yRd_readLines.2.1 102 = .ok (.aload_n 0, 1) := by decide +kernel
theorem d_Rd_readLines_103 : decode yRd_readLines.2.1 103 = .ok (.invokevirtual 102, 3) := by decide +kernel
theorem d_Rd_readLines_106 : decode yRd_readLines.2.1 106 = .ok (.aload_n 0, 1) := by decide +kernel
theorem d_Rd_readLines_107 : decode yRd_readLines.2.1 107 = .ok (.bipush 59, 2) := by decide +kernel
theorem d_Rd_readLines_109 : decode yRd_readLines.2.1 109 = .ok (.invokevirtual 86, 3) := by decide +kernel
theorem d_Rd_readLines_112 : decode yRd_readLines.2.1 112 = .ok (.iinc 3 1, 3) := by decide +kernel
theorem d_Rd_readLines_115 : decode yRd_readLines.2.1 115 = .ok (.goto (-75), 3) := by decide +kernel
theorem d_Rd_readLines_118 : decode yRd_readLines.2.1 118 = .ok (.return_, 1) := by decide +kernel
def J_Rd_readLines_106 (k : Int32 → gb_Mem → Option (gb_Mem)) (x1 x2 x3 : Int32) (I : gb_Mem) : Option (gb_Mem) :=
  fbd (F_Rd_take 59 I) fun I7 =>
  k (x3 + 1) I7
set_option maxRecDepth 4000 in
theorem j_Rd_readLines_106 (l : Launch) (d0 : Nat) {post : Option gb_AV → List gb_Ce → gb_Mem → Prop} (k : Int32 → gb_Mem → Option (gb_Mem)) (x1 x2 x3 : Int32) (I : gb_Mem) {ρ : gb_Mem} (h : J_Rd_readLines_106 k x1 x2 x3 I = some ρ) (hk : ∀ (z3 : Int32) (Iw : gb_Mem), k z3 Iw = some ρ → gb_Go l yRd_readLines (d0 + 8) 0 0 40 [(0, .inr (some 111)), (1, .inl x1), (2, .inl x2), (3, .inl z3)] [] shX Iw post) (hX : ∀ (I2 : gb_Mem), ρ = I2 → gb_Go l yRd_readLines (d0 + 8) 0 0 118 [] [] shX I2 post) : gb_Go l yRd_readLines (d0 + 8) 0 0 106 [(0, .inr (some 111)), (1, .inl x1), (2, .inl x2), (3, .inl x3)] [] shX I post := by
  unfold J_Rd_readLines_106 at h
  refine go_aload_n (k := 0) d_Rd_readLines_106 rfl rfl ?_
  refine go_bipush (v := 59) d_Rd_readLines_107 (by decide) ?_
  obtain ⟨I7, w1, h⟩ := fbd_e h
  refine go_callV (y := yRd_take) (asr := [.inl 59]) (v := none) (I' := I7) (st1 := []) d_Rd_readLines_109 s_yRd_take m_Rd_86 a_X_111 rfl rfl rfl (Nat.le_of_ble_eq_true rfl) rfl rfl (c_Rd_take l (d0 + 6) 59 I w1) ?_
  refine go_iinc (k := 3) (v := x3 + 1) (lv' := [(3, .inl (x3 + 1)), (0, .inr (some 111)), (1, .inl x1), (2, .inl x2)]) d_Rd_readLines_112 rfl rfl (by decide) rfl ?_
  refine go_goto (tgt := 40) d_Rd_readLines_115 (by decide) ?_
  exact go_lv [1, 2, 3, 0] rfl (hk _ _ h)
def J_Rd_readLines_75 (k : Int32 → gb_Mem → Option (gb_Mem)) (x1 x2 x3 s0 s1 : Int32) (I : gb_Mem) : Option (gb_Mem) :=
  fbd (F_Rd_openLine s1 s0 I) fun I5 =>
  if x1 = 1 then
    fbd (F_Rd_readVoyage  I5) fun I9 =>
    J_Rd_readLines_106 k x1 x2 x3 I9
  else
    if x1 = 2 then
      fbd (F_Rd_readEvent  I5) fun I8 =>
      J_Rd_readLines_106 k x1 x2 x3 I8
    else
      fbd (F_Rd_readReach  I5) fun I6 =>
      J_Rd_readLines_106 k x1 x2 x3 I6
set_option maxRecDepth 4000 in
theorem j_Rd_readLines_75 (l : Launch) (d0 : Nat) {post : Option gb_AV → List gb_Ce → gb_Mem → Prop} (k : Int32 → gb_Mem → Option (gb_Mem)) (x1 x2 x3 s0 s1 : Int32) (I : gb_Mem) {ρ : gb_Mem} (h : J_Rd_readLines_75 k x1 x2 x3 s0 s1 I = some ρ) (hk : ∀ (z3 : Int32) (Iw : gb_Mem), k z3 Iw = some ρ → gb_Go l yRd_readLines (d0 + 8) 0 0 40 [(0, .inr (some 111)), (1, .inl x1), (2, .inl x2), (3, .inl z3)] [] shX Iw post) (hX : ∀ (I2 : gb_Mem), ρ = I2 → gb_Go l yRd_readLines (d0 + 8) 0 0 118 [] [] shX I2 post) : gb_Go l yRd_readLines (d0 + 8) 0 0 75 [(0, .inr (some 111)), (1, .inl x1), (2, .inl x2), (3, .inl x3)] [.inl s0, .inl s1, .inr (some 111)] shX I post := by
  unfold J_Rd_readLines_75 at h
  obtain ⟨I5, w1, h⟩ := fbd_e h
  refine go_callV (y := yRd_openLine) (asr := [.inl s1, .inl s0]) (v := none) (I' := I5) (st1 := []) d_Rd_readLines_75 s_yRd_openLine m_Rd_70 a_X_111 rfl rfl rfl (Nat.le_of_ble_eq_true rfl) rfl rfl (c_Rd_openLine l (d0 + 6) s1 s0 I w1) ?_
  refine go_iload_n (k := 1) d_Rd_readLines_78 rfl rfl ?_
  refine go_iconst (v := 1) d_Rd_readLines_79 (by decide) ?_
  refine go_cmp_ne (tgt := 90) d_Rd_readLines_80 (by decide) (fun hc => ?_) (fun hc => ?_)
  · rw [if_neg hc] at h
    refine go_iload_n (k := 1) d_Rd_readLines_90 rfl rfl ?_
    refine go_iconst (v := 2) d_Rd_readLines_91 (by decide) ?_
    refine go_cmp_ne (tgt := 102) d_Rd_readLines_92 (by decide) (fun hc => ?_) (fun hc => ?_)
    · rw [if_neg hc] at h
      refine go_aload_n (k := 0) d_Rd_readLines_102 rfl rfl ?_
      obtain ⟨I6, w1, h⟩ := fbd_e h
      refine go_callV (y := yRd_readReach) (asr := []) (v := none) (I' := I6) (st1 := []) d_Rd_readLines_103 s_yRd_readReach m_Rd_102 a_X_111 rfl rfl rfl (Nat.le_of_ble_eq_true rfl) rfl rfl (c_Rd_readReach l (d0 + 5)  I5 w1) ?_
      exact go_lv [0, 1, 2, 3] rfl (j_Rd_readLines_106 l d0 k x1 x2 x3 I6 h hk hX)
    · rw [if_pos hc] at h
      refine go_aload_n (k := 0) d_Rd_readLines_95 rfl rfl ?_
      obtain ⟨I8, w1, h⟩ := fbd_e h
      refine go_callV (y := yRd_readEvent) (asr := []) (v := none) (I' := I8) (st1 := []) d_Rd_readLines_96 s_yRd_readEvent m_Rd_99 a_X_111 rfl rfl rfl (Nat.le_of_ble_eq_true rfl) rfl rfl (c_Rd_readEvent l (d0 + 5)  I5 w1) ?_
      refine go_goto (tgt := 106) d_Rd_readLines_99 (by decide) ?_
      exact go_lv [0, 1, 2, 3] rfl (j_Rd_readLines_106 l d0 k x1 x2 x3 I8 h hk hX)
  · rw [if_pos hc] at h
    refine go_aload_n (k := 0) d_Rd_readLines_83 rfl rfl ?_
    obtain ⟨I9, w1, h⟩ := fbd_e h
    refine go_callV (y := yRd_readVoyage) (asr := []) (v := none) (I' := I9) (st1 := []) d_Rd_readLines_84 s_yRd_readVoyage m_Rd_96 a_X_111 rfl rfl rfl (Nat.le_of_ble_eq_true rfl) rfl rfl (c_Rd_readVoyage l (d0 + 5)  I5 w1) ?_
    refine go_goto (tgt := 106) d_Rd_readLines_87 (by decide) ?_
    exact go_lv [0, 1, 2, 3] rfl (j_Rd_readLines_106 l d0 k x1 x2 x3 I9 h hk hX)
def L_Rd_readLines_40 (x1 x2 : Int32) : Nat → Int32 → gb_Mem → Option (gb_Mem)
  | 0, _, _ => none
  | n + 1, x3, I =>
    if 16 < x3 then
      some I
    else
      if (I 111 7) = 0 then
        fbd (F_Rd_now  I) fun r3 =>
        if r3 = 0 then
          some I
        else
          fbd (F_Rd_now  I) fun r4 =>
          if r4 = x2 then
            J_Rd_readLines_75 (L_Rd_readLines_40 x1 x2 n) x1 x2 x3 1 x3 I
          else
            J_Rd_readLines_75 (L_Rd_readLines_40 x1 x2 n) x1 x2 x3 0 x3 I
      else
        some I
set_option maxRecDepth 4000 in
theorem l_Rd_readLines_40 (l : Launch) (d0 : Nat) (x1 x2 : Int32) {post : Option gb_AV → List gb_Ce → gb_Mem → Prop} : ∀ (n : Nat) (x3 : Int32) (I : gb_Mem) {ρ : gb_Mem} (h : L_Rd_readLines_40 x1 x2 n x3 I = some ρ) (hX : ∀ (I2 : gb_Mem), ρ = I2 → gb_Go l yRd_readLines (d0 + 8) 0 0 118 [] [] shX I2 post) , gb_Go l yRd_readLines (d0 + 8) 0 0 40 [(0, .inr (some 111)), (1, .inl x1), (2, .inl x2), (3, .inl x3)] [] shX I post := by
  intro n
  induction n with
  | zero => intro x3 I ρ h hX; cases h
  | succ n ih =>
    intro x3 I ρ h hX
    rw [L_Rd_readLines_40] at h
    refine go_iload_n (k := 3) d_Rd_readLines_40 rfl rfl ?_
    refine go_bipush (v := 16) d_Rd_readLines_41 (by decide) ?_
    refine go_cmp_gt (tgt := 118) d_Rd_readLines_43 (by decide) (fun hc => ?_) (fun hc => ?_)
    · rw [if_pos hc] at h
      exact go_lv [] rfl (hX _ (Option.some.inj h).symm)
    · rw [if_neg hc] at h
      refine go_aload_n (k := 0) d_Rd_readLines_46 rfl rfl ?_
      refine go_geti (ci := 9) (k := 7) d_Rd_readLines_47 a_X_111 rfl (by decide) f_Rd_53 rfl ?_
      refine go_if_ne (tgt := 118) d_Rd_readLines_50 (by decide) (fun hc => ?_) (fun hc => ?_)
      · rw [if_neg hc] at h
        exact go_lv [] rfl (hX _ (Option.some.inj h).symm)
      · rw [if_pos hc] at h
        refine go_aload_n (k := 0) d_Rd_readLines_53 rfl rfl ?_
        obtain ⟨r3, w1, h⟩ := fbd_e h
        refine go_callV (y := yRd_now) (asr := []) (v := some (.inl r3)) (I' := I) (st1 := [.inl r3]) d_Rd_readLines_54 s_yRd_now m_Rd_62 a_X_111 rfl rfl rfl (Nat.le_of_ble_eq_true rfl) rfl rfl (c_Rd_now l (d0 + 7)  I w1) ?_
        refine go_if_eq (tgt := 118) d_Rd_readLines_57 (by decide) (fun hc => ?_) (fun hc => ?_)
        · rw [if_pos hc] at h
          exact go_lv [] rfl (hX _ (Option.some.inj h).symm)
        · rw [if_neg hc] at h
          refine go_aload_n (k := 0) d_Rd_readLines_60 rfl rfl ?_
          refine go_iload_n (k := 3) d_Rd_readLines_61 rfl rfl ?_
          refine go_aload_n (k := 0) d_Rd_readLines_62 rfl rfl ?_
          obtain ⟨r4, w1, h⟩ := fbd_e h
          refine go_callV (y := yRd_now) (asr := []) (v := some (.inl r4)) (I' := I) (st1 := [.inl r4, .inl x3, .inr (some 111)]) d_Rd_readLines_63 s_yRd_now m_Rd_62 a_X_111 rfl rfl rfl (Nat.le_of_ble_eq_true rfl) rfl rfl (c_Rd_now l (d0 + 7)  I w1) ?_
          refine go_iload_n (k := 2) d_Rd_readLines_66 rfl rfl ?_
          refine go_cmp_ne (tgt := 74) d_Rd_readLines_67 (by decide) (fun hc => ?_) (fun hc => ?_)
          · rw [if_neg hc] at h
            refine go_iconst (v := 0) d_Rd_readLines_74 (by decide) ?_
            exact go_lv [0, 1, 2, 3] rfl (j_Rd_readLines_75 l d0 (L_Rd_readLines_40 x1 x2 n) x1 x2 x3 0 x3 I h (fun z3 Iw hh => ih z3 Iw hh hX) hX)
          · rw [if_pos hc] at h
            refine go_iconst (v := 1) d_Rd_readLines_70 (by decide) ?_
            refine go_goto (tgt := 75) d_Rd_readLines_71 (by decide) ?_
            exact go_lv [0, 1, 2, 3] rfl (j_Rd_readLines_75 l d0 (L_Rd_readLines_40 x1 x2 n) x1 x2 x3 1 x3 I h (fun z3 Iw hh => ih z3 Iw hh hX) hX)
def J_Rd_readLines_37 (x1 s0 : Int32) (I : gb_Mem) : Option (gb_Mem) :=
  fbd (L_Rd_readLines_40 x1 s0 5000 0 I) fun I10 =>
  some I10
set_option maxRecDepth 4000 in
theorem j_Rd_readLines_37 (l : Launch) (d0 : Nat) (x1 s0 : Int32) (I : gb_Mem) {Iz : gb_Mem} (h : J_Rd_readLines_37 x1 s0 I = some Iz) : gb_Go l yRd_readLines (d0 + 8) 0 0 37 [(0, .inr (some 111)), (1, .inl x1)] [.inl s0] shX I (gb_po shX none Iz) := by
  unfold J_Rd_readLines_37 at h
  refine go_istore_n (lv' := [(2, .inl s0), (0, .inr (some 111)), (1, .inl x1)]) d_Rd_readLines_37 rfl (by decide) rfl ?_
  refine go_iconst (v := 0) d_Rd_readLines_38 (by decide) ?_
  refine go_istore_n (lv' := [(3, .inl 0), (2, .inl s0), (0, .inr (some 111)), (1, .inl x1)]) d_Rd_readLines_39 rfl (by decide) rfl ?_
  refine go_lv [2, 3, 1, 0] (lv' := [(0, .inr (some 111)), (1, .inl x1), (2, .inl s0), (3, .inl 0)]) rfl ?_
  obtain ⟨I10, w1, h⟩ := fbd_e h
  refine l_Rd_readLines_40 l d0 x1 s0 5000 0 I w1 (fun I10_ e => ?_)
  cases e
  cases h
  exact go_return d_Rd_readLines_118 rfl gb_po_i
def F_Rd_readLines (x1 : Int32) (I : gb_Mem) : Option (gb_Mem) :=
  fbd (F_Rd_cutTokens  I) fun I1 =>
  fstf I1 119 2 0 fun I2 =>
  if x1 = 1 then
    J_Rd_readLines_37 x1 219 I2
  else
    if x1 = 2 then
      J_Rd_readLines_37 x1 221 I2
    else
      J_Rd_readLines_37 x1 210 I2
set_option maxRecDepth 4000 in
theorem c_Rd_readLines (l : Launch) (d0 : Nat) (x1 : Int32) (I : gb_Mem) {Iz : gb_Mem} (h : F_Rd_readLines x1 I = some Iz) : gb_Cs l yRd_readLines (d0 + 8) [.inr (some 111), .inl x1] shX I none Iz := by
  refine gb_Ct.of (lv := [(0, .inr (some 111)), (1, .inl x1)]) rfl (Nat.le_of_ble_eq_true rfl) rfl ?_
  unfold F_Rd_readLines at h
  show gb_Go l yRd_readLines (d0 + 8) 0 0 0 [(0, .inr (some 111)), (1, .inl x1)] [] shX I (gb_po shX none Iz)
  refine go_aload_n (k := 0) d_Rd_readLines_0 rfl rfl ?_
  obtain ⟨I1, w1, h⟩ := fbd_e h
  refine go_callV (y := yRd_cutTokens) (asr := []) (v := none) (I' := I1) (st1 := []) d_Rd_readLines_1 s_yRd_cutTokens m_Rd_56 a_X_111 rfl rfl rfl (Nat.le_of_ble_eq_true rfl) rfl rfl (c_Rd_cutTokens l (d0 + 0)  I w1) ?_
  refine go_aload_n (k := 0) d_Rd_readLines_4 rfl rfl ?_
  refine go_getr (ci := 9) (k := 10) (r := 119) d_Rd_readLines_5 a_X_111 rfl (by decide) f_Rd_34 rfl ?_
  refine go_iconst (v := 0) d_Rd_readLines_8 (by decide) ?_
  obtain ⟨I2, eI2, h⟩ := fstf_e h
  refine go_putTN (ci := 4) (k := 2) (I' := I2) d_Rd_readLines_9 a_X_119 rfl (by decide) f_Rd_93 rfl rfl rfl rfl rfl eI2 ?_
  refine go_iload_n (k := 1) d_Rd_readLines_12 rfl rfl ?_
  refine go_iconst (v := 1) d_Rd_readLines_13 (by decide) ?_
  refine go_cmp_ne (tgt := 23) d_Rd_readLines_14 (by decide) (fun hc => ?_) (fun hc => ?_)
  · rw [if_neg hc] at h
    refine go_iload_n (k := 1) d_Rd_readLines_23 rfl rfl ?_
    refine go_iconst (v := 2) d_Rd_readLines_24 (by decide) ?_
    refine go_cmp_ne (tgt := 34) d_Rd_readLines_25 (by decide) (fun hc => ?_) (fun hc => ?_)
    · rw [if_neg hc] at h
      refine go_sipush (v := 210) d_Rd_readLines_34 (by decide) ?_
      exact go_lv [0, 1] rfl (j_Rd_readLines_37 l d0 x1 210 I2 h)
    · rw [if_pos hc] at h
      refine go_sipush (v := 221) d_Rd_readLines_28 (by decide) ?_
      refine go_goto (tgt := 37) d_Rd_readLines_31 (by decide) ?_
      exact go_lv [0, 1] rfl (j_Rd_readLines_37 l d0 x1 221 I2 h)
  · rw [if_pos hc] at h
    refine go_sipush (v := 219) d_Rd_readLines_17 (by decide) ?_
    refine go_goto (tgt := 37) d_Rd_readLines_20 (by decide) ?_
    exact go_lv [0, 1] rfl (j_Rd_readLines_37 l d0 x1 219 I2 h)
