theorem d_Mo_added_0 : decode yMo_added.2.1 0 = .ok (.iload_n 1, 1) := by decide +kernel
theorem d_Mo_added_1 : decode yMo_added.2.1 1 = .ok (.ldc 140, 2) := by decide +kernel
theorem d_Mo_added_3 : decode yMo_added.2.1 3 = .ok (.iload_n 2, 1) := by decide +kernel
theorem d_Mo_added_4 : decode yMo_added.2.1 4 = .ok (.isub, 1) := by decide +kernel
theorem d_Mo_added_5 : decode yMo_added.2.1 5 = .ok (.if_icmp .lt 12, 3) := by decide +kernel
theorem d_Mo_added_8 : decode yMo_added.2.1 8 = .ok (.iload_n 1, 1) := by decide +kernel
theorem d_Mo_added_9 : decode yMo_added.2.1 9 = .ok (.ldc 140, 2) := by decide +kernel
theorem d_Mo_added_11 : decode yMo_added.2.1 11 = .ok (.iload_n 2, 1) := by decide +kernel
theorem d_Mo_added_12 : decode yMo_added.2.1 12 = .ok (.isub, 1) := by decide +kernel
theorem d_Mo_added_13 : decode yMo_added.2.1 13 = .ok (.isub, 1) := by decide +kernel
theorem d_Mo_added_14 : decode yMo_added.2.1 14 = .ok (.goto 6, 3) := by decide +kernel
theorem d_Mo_added_17 : decode yMo_added.2.1 17 = .ok (.iload_n 1, 1) := by decide +kernel
theorem d_Mo_added_18 : decode yMo_added.2.1 18 = .ok (.iload_n 2, 1) := by decide +kernel
theorem d_Mo_added_19 : decode yMo_added.2.1 19 = .ok (.iadd, 1) := by decide +kernel
theorem d_Mo_added_20 : decode yMo_added.2.1 20 = .ok (.ireturn, 1) := by decide +kernel
def F_Mo_added (x1 x2 : Int32) (I : gb_Mem) : Int32 :=
  if x1 < (1000000007 - x2) then
    x1 + x2
  else
    x1 - (1000000007 - x2)
set_option maxRecDepth 4000 in
theorem c_Mo_added (l : Launch) (d0 : Nat) (x1 x2 : Int32) (I : gb_Mem)  : gb_Cs l yMo_added (d0 + 0) [.inr (some 0), .inl x1, .inl x2] shM I (some (.inl (F_Mo_added x1 x2 I))) I := by
  refine gb_Ct.of (lv := [(0, .inr (some 0)), (1, .inl x1), (2, .inl x2)]) rfl (Nat.le_of_ble_eq_true rfl) rfl ?_
  generalize h : F_Mo_added x1 x2 I = rz
  unfold F_Mo_added at h
  show gb_Go l yMo_added (d0 + 0) 0 0 0 [(0, .inr (some 0)), (1, .inl x1), (2, .inl x2)] [] shM I (gb_po shM (some (.inl rz)) I)
  refine go_iload_n (k := 1) d_Mo_added_0 rfl rfl ?_
  refine go_ldc (v := 1000000007) d_Mo_added_1 k_Mo_140 ?_
  refine go_iload_n (k := 2) d_Mo_added_3 rfl rfl ?_
  refine go_isub d_Mo_added_4 ?_
  refine go_cmp_lt (tgt := 17) d_Mo_added_5 (by decide) (fun hc => ?_) (fun hc => ?_)
  · rw [if_pos hc] at h
    refine go_iload_n (k := 1) d_Mo_added_17 rfl rfl ?_
    refine go_iload_n (k := 2) d_Mo_added_18 rfl rfl ?_
    refine go_iadd d_Mo_added_19 ?_
    subst h
    exact go_ireturn d_Mo_added_20 rfl gb_po_i
  · rw [if_neg hc] at h
    refine go_iload_n (k := 1) d_Mo_added_8 rfl rfl ?_
    refine go_ldc (v := 1000000007) d_Mo_added_9 k_Mo_140 ?_
    refine go_iload_n (k := 2) d_Mo_added_11 rfl rfl ?_
    refine go_isub d_Mo_added_12 ?_
    refine go_isub d_Mo_added_13 ?_
    refine go_goto (tgt := 20) d_Mo_added_14 (by decide) ?_
    subst h
    exact go_ireturn d_Mo_added_20 rfl gb_po_i
theorem d_Mo_apart_0 : decode yMo_apart.2.1 0 = .ok (.iload_n 1, 1) := by decide +kernel
theorem d_Mo_apart_1 : decode yMo_apart.2.1 1 = .ok (.iload_n 2, 1) := by decide +kernel
theorem d_Mo_apart_2 : decode yMo_apart.2.1 2 = .ok (.if_icmp .le 9, 3) := by decide +kernel
theorem d_Mo_apart_5 : decode yMo_apart.2.1 5 = .ok (.iload_n 1, 1) := by decide +kernel
theorem d_Mo_apart_6 : decode yMo_apart.2.1 6 = .ok (.iload_n 2, 1) := by decide +kernel
theorem d_Mo_apart_7 : decode yMo_apart.2.1 7 = .ok (.isub, 1) := by decide +kernel
theorem d_Mo_apart_8 : decode yMo_apart.2.1 8 = .ok (.goto 6, 3) := by decide +kernel
theorem d_Mo_apart_11 : decode yMo_apart.2.1 11 = .ok (.iload_n 2, 1) := by decide +kernel
theorem d_Mo_apart_12 : decode yMo_apart.2.1 12 = .ok (.iload_n 1, 1) := by decide +kernel
theorem d_Mo_apart_13 : decode yMo_apart.2.1 13 = .ok (.isub, 1) := by decide +kernel
theorem d_Mo_apart_14 : decode yMo_apart.2.1 14 = .ok (.ireturn, 1) := by decide +kernel
def F_Mo_apart (x1 x2 : Int32) (I : gb_Mem) : Int32 :=
  if x1 ≤ x2 then
    x2 - x1
  else
    x1 - x2
set_option maxRecDepth 4000 in
theorem c_Mo_apart (l : Launch) (d0 : Nat) (x1 x2 : Int32) (I : gb_Mem)  : gb_Cs l yMo_apart (d0 + 0) [.inr (some 0), .inl x1, .inl x2] shM I (some (.inl (F_Mo_apart x1 x2 I))) I := by
  refine gb_Ct.of (lv := [(0, .inr (some 0)), (1, .inl x1), (2, .inl x2)]) rfl (Nat.le_of_ble_eq_true rfl) rfl ?_
  generalize h : F_Mo_apart x1 x2 I = rz
  unfold F_Mo_apart at h
  show gb_Go l yMo_apart (d0 + 0) 0 0 0 [(0, .inr (some 0)), (1, .inl x1), (2, .inl x2)] [] shM I (gb_po shM (some (.inl rz)) I)
  refine go_iload_n (k := 1) d_Mo_apart_0 rfl rfl ?_
  refine go_iload_n (k := 2) d_Mo_apart_1 rfl rfl ?_
  refine go_cmp_le (tgt := 11) d_Mo_apart_2 (by decide) (fun hc => ?_) (fun hc => ?_)
  · rw [if_pos hc] at h
    refine go_iload_n (k := 2) d_Mo_apart_11 rfl rfl ?_
    refine go_iload_n (k := 1) d_Mo_apart_12 rfl rfl ?_
    refine go_isub d_Mo_apart_13 ?_
    subst h
    exact go_ireturn d_Mo_apart_14 rfl gb_po_i
  · rw [if_neg hc] at h
    refine go_iload_n (k := 1) d_Mo_apart_5 rfl rfl ?_
    refine go_iload_n (k := 2) d_Mo_apart_6 rfl rfl ?_
    refine go_isub d_Mo_apart_7 ?_
    refine go_goto (tgt := 14) d_Mo_apart_8 (by decide) ?_
    subst h
    exact go_ireturn d_Mo_apart_14 rfl gb_po_i
theorem d_Mo_draw_0 : decode yMo_draw.2.1 0 = .ok (.aload_n 0, 1) := by decide +kernel
theorem d_Mo_draw_1 : decode yMo_draw.2.1 1 = .ok (.getfield 7, 3) := by decide +kernel
theorem d_Mo_draw_4 : decode yMo_draw.2.1 4 = .ok (.iconst 1, 1) := by decide +kernel
theorem d_Mo_draw_5 : decode yMo_draw.2.1 5 = .ok (.ldc 148, 2) := by decide +kernel
theorem d_Mo_draw_7 : decode yMo_draw.2.1 7 = .ok (.aload_n 0, 1) := by decide +kernel
theorem d_Mo_draw_8 : decode yMo_draw.2.1 8 = .ok (.getfield 7, 3) := by decide +kernel
theorem d_Mo_draw_11 : decode yMo_draw.2.1 11 = .ok (.iconst 1, 1) := by decide +kernel
theorem d_Mo_draw_12 : decode yMo_draw.2.1 12 = .ok (.iaload, 1) := by decide +kernel
theorem d_Mo_draw_13 : decode yMo_draw.2.1 13 = .ok (.imul, 1) := by decide +kernel
theorem d_Mo_draw_14 : decode yMo_draw.2.1 14 = .ok (.ldc 149, 2) := by decide +kernel
theorem d_Mo_draw_16 : decode yMo_draw.2.1 16 = .ok (.iadd, 1) := by decide +kernel
theorem d_Mo_draw_17 : decode yMo_draw.2.1 17 = .ok (.iastore, 1) := by decide +kernel
theorem d_Mo_draw_18 : decode yMo_draw.2.1 18 = .ok (.aload_n 0, 1) := by decide +kernel
theorem d_Mo_draw_19 : decode yMo_draw.2.1 19 = .ok (.getfield 7, 3) := by decide +kernel
theorem d_Mo_draw_22 : decode yMo_draw.2.1 22 = .ok (.iconst 1, 1) := by decide +kernel
theorem d_Mo_draw_23 : decode yMo_draw.2.1 23 = .ok (.iaload, 1) := by decide +kernel
theorem d_Mo_draw_24 : decode yMo_draw.2.1 24 = .ok (.bipush 8, 2) := by decide +kernel
theorem d_Mo_draw_26 : decode yMo_draw.2.1 26 = .ok (.iushr, 1) := by decide +kernel
theorem d_Mo_draw_27 : decode yMo_draw.2.1 27 = .ok (.iload_n 1, 1) := by decide +kernel
theorem d_Mo_draw_28 : decode yMo_draw.2.1 28 = .ok (.irem, 1) := by decide +kernel
theorem d_Mo_draw_29 : decode yMo_draw.2.1 29 = .ok (.ireturn, 1) := by decide +kernel
def F_Mo_draw (x1 : Int32) (I : gb_Mem) : Option (Int32 × gb_Mem) :=
  fstf I 1 1 ((1664525 * (I 1 1)) + 1013904223) fun I1 =>
  fgd (decide (¬ x1 = 0)) <|
  some (((((I1 1 1)).toUInt32 >>> (Int32.toUInt32 8 &&& Int32.toUInt32 31)).toInt32) - ((((I1 1 1)).toUInt32 >>> (Int32.toUInt32 8 &&& Int32.toUInt32 31)).toInt32) / x1 * x1, I1)
set_option maxRecDepth 4000 in
theorem c_Mo_draw (l : Launch) (d0 : Nat) (x1 : Int32) (I : gb_Mem) {rz : Int32} {Iz : gb_Mem} (h : F_Mo_draw x1 I = some (rz, Iz)) : gb_Cs l yMo_draw (d0 + 0) [.inr (some 0), .inl x1] shM I (some (.inl rz)) Iz := by
  refine gb_Ct.of (lv := [(0, .inr (some 0)), (1, .inl x1)]) rfl (Nat.le_of_ble_eq_true rfl) rfl ?_
  unfold F_Mo_draw at h
  show gb_Go l yMo_draw (d0 + 0) 0 0 0 [(0, .inr (some 0)), (1, .inl x1)] [] shM I (gb_po shM (some (.inl rz)) Iz)
  refine go_aload_n (k := 0) d_Mo_draw_0 rfl rfl ?_
  refine go_getr (ci := 10) (k := 1) (r := 1) d_Mo_draw_1 a_M_0 rfl (by decide) f_Mo_7 rfl ?_
  refine go_iconst (v := 1) d_Mo_draw_4 (by decide) ?_
  refine go_ldc (v := 1664525) d_Mo_draw_5 k_Mo_148 ?_
  refine go_aload_n (k := 0) d_Mo_draw_7 rfl rfl ?_
  refine go_getr (ci := 10) (k := 1) (r := 1) d_Mo_draw_8 a_M_0 rfl (by decide) f_Mo_7 rfl ?_
  refine go_iconst (v := 1) d_Mo_draw_11 (by decide) ?_
  refine go_iald2 (v := I 1 1) d_Mo_draw_12 a_M_1 (inb_iff.mp (by decide)) rfl ?_
  refine go_imul d_Mo_draw_13 ?_
  refine go_ldc (v := 1013904223) d_Mo_draw_14 k_Mo_149 ?_
  refine go_iadd d_Mo_draw_16 ?_
  obtain ⟨I1, eI1, h⟩ := fstf_e h
  refine go_iast (I' := I1) d_Mo_draw_17 a_M_1 (inb_iff.mp (by decide)) eI1 ?_
  refine go_aload_n (k := 0) d_Mo_draw_18 rfl rfl ?_
  refine go_getr (ci := 10) (k := 1) (r := 1) d_Mo_draw_19 a_M_0 rfl (by decide) f_Mo_7 rfl ?_
  refine go_iconst (v := 1) d_Mo_draw_22 (by decide) ?_
  refine go_iald2 (v := I1 1 1) d_Mo_draw_23 a_M_1 (inb_iff.mp (by decide)) rfl ?_
  refine go_bipush (v := 8) d_Mo_draw_24 (by decide) ?_
  refine go_iushr d_Mo_draw_26 ?_
  refine go_iload_n (k := 1) d_Mo_draw_27 rfl rfl ?_
  obtain ⟨hz, h⟩ := fgd_e h
  refine go_irem d_Mo_draw_28 (of_decide_eq_true hz) ?_
  cases h
  exact go_ireturn d_Mo_draw_29 rfl gb_po_i
theorem d_Mo_emits_0 : decode yMo_emits.2.1 0 = .ok (.aload_n 0, 1) := by decide +kernel
theorem d_Mo_emits_1 : decode yMo_emits.2.1 1 = .ok (.getfield 55, 3) := by decide +kernel
theorem d_Mo_emits_4 : decode yMo_emits.2.1 4 = .ok (.sipush 800, 3) := by decide +kernel
theorem d_Mo_emits_7 : decode yMo_emits.2.1 7 = .ok (.aload_n 0, 1) := by decide +kernel
theorem d_Mo_emits_8 : decode yMo_emits.2.1 8 = .ok (.getfield 212, 3) := by decide +kernel
theorem d_Mo_emits_11 : decode yMo_emits.2.1 11 = .ok (.iadd, 1) := by decide +kernel
theorem d_Mo_emits_12 : decode yMo_emits.2.1 12 = .ok (.iload_n 1, 1) := by decide +kernel
theorem d_Mo_emits_13 : decode yMo_emits.2.1 13 = .ok (.iastore, 1) := by decide +kernel
theorem d_Mo_emits_14 : decode yMo_emits.2.1 14 = .ok (.aload_n 0, 1) := by decide +kernel
theorem d_Mo_emits_15 : decode yMo_emits.2.1 15 = .ok (.getfield 58, 3) := by decide +kernel
theorem d_Mo_emits_18 : decode yMo_emits.2.1 18 = .ok (.sipush 800, 3) := by decide +kernel
theorem d_Mo_emits_21 : decode yMo_emits.2.1 21 = .ok (.aload_n 0, 1) := by decide +kernel
theorem d_Mo_emits_22 : decode yMo_emits.2.1 22 = .ok (.getfield 212, 3) := by decide +kernel
theorem d_Mo_emits_25 : decode yMo_emits.2.1 25 = .ok (.iadd, 1) := by decide +kernel
theorem d_Mo_emits_26 : decode yMo_emits.2.1 26 = .ok (.iload_n 2, 1) := by decide +kernel
theorem d_Mo_emits_27 : decode yMo_emits.2.1 27 = .ok (.iastore, 1) := by decide +kernel
theorem d_Mo_emits_28 : decode yMo_emits.2.1 28 = .ok (.aload_n 0, 1) := by decide +kernel
theorem d_Mo_emits_29 : decode yMo_emits.2.1 29 = .ok (.aload_n 0, 1) := by decide +kernel
theorem d_Mo_emits_30 : decode yMo_emits.2.1 30 = .ok (.getfield 212, 3) := by decide +kernel
theorem d_Mo_emits_33 : decode yMo_emits.2.1 33 = .ok (.iconst 1, 1) := by decide +kernel
theorem d_Mo_emits_34 : decode yMo_emits.2.1 34 = .ok (.iadd, 1) := by decide +kernel
theorem d_Mo_emits_35 : decode yMo_emits.2.1 35 = .ok (.putfield 212, 3) := by decide +kernel
theorem d_Mo_emits_38 : decode yMo_emits.2.1 38 = .ok (.return_, 1) := by decide +kernel
def F_Mo_emits (x1 x2 : Int32) (I : gb_Mem) : Option (gb_Mem) :=
  fsto I 16 1200 (800 + (I 0 27)) x1 fun I1 =>
  fsto I1 17 1200 (800 + (I1 0 27)) x2 fun I2 =>
  fstf I2 0 27 ((I2 0 27) + 1) fun I3 =>
  some I3
set_option maxRecDepth 4000 in
theorem c_Mo_emits (l : Launch) (d0 : Nat) (x1 x2 : Int32) (I : gb_Mem) {Iz : gb_Mem} (h : F_Mo_emits x1 x2 I = some Iz) : gb_Cs l yMo_emits (d0 + 0) [.inr (some 0), .inl x1, .inl x2] shM I none Iz := by
  refine gb_Ct.of (lv := [(0, .inr (some 0)), (1, .inl x1), (2, .inl x2)]) rfl (Nat.le_of_ble_eq_true rfl) rfl ?_
  unfold F_Mo_emits at h
  show gb_Go l yMo_emits (d0 + 0) 0 0 0 [(0, .inr (some 0)), (1, .inl x1), (2, .inl x2)] [] shM I (gb_po shM none Iz)
  refine go_aload_n (k := 0) d_Mo_emits_0 rfl rfl ?_
  refine go_getr (ci := 10) (k := 24) (r := 16) d_Mo_emits_1 a_M_0 rfl (by decide) f_Mo_55 rfl ?_
  refine go_sipush (v := 800) d_Mo_emits_4 (by decide) ?_
  refine go_aload_n (k := 0) d_Mo_emits_7 rfl rfl ?_
  refine go_geti (ci := 10) (k := 27) d_Mo_emits_8 a_M_0 rfl (by decide) f_Mo_212 rfl ?_
  refine go_iadd d_Mo_emits_11 ?_
  refine go_iload_n (k := 1) d_Mo_emits_12 rfl rfl ?_
  obtain ⟨hi, I1, eI1, h⟩ := fsto_e h
  refine go_iast (I' := I1) d_Mo_emits_13 a_M_16 hi eI1 ?_
  refine go_aload_n (k := 0) d_Mo_emits_14 rfl rfl ?_
  refine go_getr (ci := 10) (k := 25) (r := 17) d_Mo_emits_15 a_M_0 rfl (by decide) f_Mo_58 rfl ?_
  refine go_sipush (v := 800) d_Mo_emits_18 (by decide) ?_
  refine go_aload_n (k := 0) d_Mo_emits_21 rfl rfl ?_
  refine go_geti (ci := 10) (k := 27) d_Mo_emits_22 a_M_0 rfl (by decide) f_Mo_212 rfl ?_
  refine go_iadd d_Mo_emits_25 ?_
  refine go_iload_n (k := 2) d_Mo_emits_26 rfl rfl ?_
  obtain ⟨hi, I2, eI2, h⟩ := fsto_e h
  refine go_iast (I' := I2) d_Mo_emits_27 a_M_17 hi eI2 ?_
  refine go_aload_n (k := 0) d_Mo_emits_28 rfl rfl ?_
  refine go_aload_n (k := 0) d_Mo_emits_29 rfl rfl ?_
  refine go_geti (ci := 10) (k := 27) d_Mo_emits_30 a_M_0 rfl (by decide) f_Mo_212 rfl ?_
  refine go_iconst (v := 1) d_Mo_emits_33 (by decide) ?_
  refine go_iadd d_Mo_emits_34 ?_
  obtain ⟨I3, eI3, h⟩ := fstf_e h
  refine go_putT (ci := 10) (k := 27) (I' := I3) d_Mo_emits_35 a_M_0 rfl (by decide) f_Mo_212 rfl rfl rfl rfl rfl eI3 ?_
  cases h
  exact go_return d_Mo_emits_38 rfl gb_po_i
theorem d_Mo_endsThought_0 : decode yMo_endsThought.2.1 0 = .ok (.iconst 0, 1) := by decide +kernel
theorem d_Mo_endsThought_1 : decode yMo_endsThought.2.1 1 = .ok (.istore_n 1, 1) := by decide +kernel
theorem d_Mo_endsThought_2 : decode yMo_endsThought.2.1 2 = .ok (.iload_n 1, 1) := by decide +kernel
theorem d_Mo_endsThought_3 : decode yMo_endsThought.2.1 3 = .ok (.bipush 80, 2) := by decide +kernel
theorem d_Mo_endsThought_5 : decode yMo_endsThought.2.1 5 = .ok (.if_icmp .ge 21, 3) := by decide +kernel
theorem d_Mo_endsThought_8 : decode yMo_endsThought.2.1 8 = .ok (.aload_n 0, 1) := by decide +kernel
theorem d_Mo_endsThought_9 : decode yMo_endsThought.2.1 9 = .ok (.getfield 7, 3) := by decide +kernel
theorem d_Mo_endsThought_12 : decode yMo_endsThought.2.1 12 = .ok (.iload_n 1, 1) := by decide +kernel
theorem d_Mo_endsThought_13 : decode yMo_endsThought.2.1 13 = .ok (.aload_n 0, 1) := by decide +kernel
theorem d_Mo_endsThought_14 : decode yMo_endsThought.2.1 14 = .ok (.getfield 16, 3) := by decide +kernel
theorem d_Mo_endsThought_17 : decode yMo_endsThought.2.1 17 = .ok (.iload_n 1, 1) := by decide +kernel
theorem d_Mo_endsThought_18 : decode yMo_endsThought.2.1 18 = .ok (.iaload, 1) := by decide +kernel
theorem d_Mo_endsThought_19 : decode yMo_endsThought.2.1 19 = .ok (.iastore, 1) := by decide +kernel
theorem d_Mo_endsThought_20 : decode yMo_endsThought.2.1 20 = .ok (.iinc 1 1, 3) := by decide +kernel
theorem d_Mo_endsThought_23 : decode yMo_endsThought.2.1 23 = .ok (.goto (-21), 3) := by decide +kernel
theorem d_Mo_endsThought_26 : decode yMo_endsThought.2.1 26 = .ok (.aload_n 0, 1) := by decide +kernel
theorem d_Mo_endsThought_27 : decode yMo_endsThought.2.1 27 = .ok (.iconst 0, 1) := by decide +kernel
theorem d_Mo_endsThought_28 : decode yMo_endsThought.2.1 28 = .ok (.putfield 144, 3) := by decide +kernel
theorem d_Mo_endsThought_31 : decode yMo_endsThought.2.1 31 = .ok (.return_, 1) := by decide +kernel
def L_Mo_endsThought_2 : Nat → Int32 → gb_Mem → Option (gb_Mem)
  | 0, _, _ => none
  | n + 1, x1, I =>
    if 80 ≤ x1 then
      some I
    else
      flod I 3 80 x1 fun v1 =>
      fsto I 1 80 x1 v1 fun I2 =>
      L_Mo_endsThought_2 n (x1 + 1) I2
set_option maxRecDepth 4000 in
theorem l_Mo_endsThought_2 (l : Launch) (d0 : Nat) {post : Option gb_AV → List gb_Ce → gb_Mem → Prop} : ∀ (n : Nat) (x1 : Int32) (I : gb_Mem) {ρ : gb_Mem} (h : L_Mo_endsThought_2 n x1 I = some ρ) (hX : ∀ (I2 : gb_Mem), ρ = I2 → gb_Go l yMo_endsThought (d0 + 0) 0 0 26 [(0, .inr (some 0))] [] shM I2 post) , gb_Go l yMo_endsThought (d0 + 0) 0 0 2 [(0, .inr (some 0)), (1, .inl x1)] [] shM I post := by
  intro n
  induction n with
  | zero => intro x1 I ρ h hX; cases h
  | succ n ih =>
    intro x1 I ρ h hX
    rw [L_Mo_endsThought_2] at h
    refine go_iload_n (k := 1) d_Mo_endsThought_2 rfl rfl ?_
    refine go_bipush (v := 80) d_Mo_endsThought_3 (by decide) ?_
    refine go_cmp_ge (tgt := 26) d_Mo_endsThought_5 (by decide) (fun hc => ?_) (fun hc => ?_)
    · rw [if_pos hc] at h
      exact go_lv [0] rfl (hX _ (Option.some.inj h).symm)
    · rw [if_neg hc] at h
      refine go_aload_n (k := 0) d_Mo_endsThought_8 rfl rfl ?_
      refine go_getr (ci := 10) (k := 1) (r := 1) d_Mo_endsThought_9 a_M_0 rfl (by decide) f_Mo_7 rfl ?_
      refine go_iload_n (k := 1) d_Mo_endsThought_12 rfl rfl ?_
      refine go_aload_n (k := 0) d_Mo_endsThought_13 rfl rfl ?_
      refine go_getr (ci := 10) (k := 4) (r := 3) d_Mo_endsThought_14 a_M_0 rfl (by decide) f_Mo_16 rfl ?_
      refine go_iload_n (k := 1) d_Mo_endsThought_17 rfl rfl ?_
      obtain ⟨hi, v1, ev1, h⟩ := flod_e h
      refine go_iald2 d_Mo_endsThought_18 a_M_3 hi ev1 ?_
      obtain ⟨hi, I2, eI2, h⟩ := fsto_e h
      refine go_iast (I' := I2) d_Mo_endsThought_19 a_M_1 hi eI2 ?_
      refine go_iinc (k := 1) (v := x1 + 1) (lv' := [(1, .inl (x1 + 1)), (0, .inr (some 0))]) d_Mo_endsThought_20 rfl rfl (by decide) rfl ?_
      refine go_goto (tgt := 2) d_Mo_endsThought_23 (by decide) ?_
      exact go_lv [1, 0] rfl (ih (x1 + 1) I2 h hX)
def F_Mo_endsThought (I : gb_Mem) : Option (gb_Mem) :=
  fbd (L_Mo_endsThought_2 5000 0 I) fun I3 =>
  fstf I3 0 5 0 fun I4 =>
  some I4
set_option maxRecDepth 4000 in
theorem c_Mo_endsThought (l : Launch) (d0 : Nat) (I : gb_Mem) {Iz : gb_Mem} (h : F_Mo_endsThought I = some Iz) : gb_Cs l yMo_endsThought (d0 + 0) [.inr (some 0)] shM I none Iz := by
  refine gb_Ct.of (lv := [(0, .inr (some 0))]) rfl (Nat.le_of_ble_eq_true rfl) rfl ?_
  unfold F_Mo_endsThought at h
  show gb_Go l yMo_endsThought (d0 + 0) 0 0 0 [(0, .inr (some 0))] [] shM I (gb_po shM none Iz)
  refine go_iconst (v := 0) d_Mo_endsThought_0 (by decide) ?_
  refine go_istore_n (lv' := [(1, .inl 0), (0, .inr (some 0))]) d_Mo_endsThought_1 rfl (by decide) rfl ?_
  refine go_lv [1, 0] (lv' := [(0, .inr (some 0)), (1, .inl 0)]) rfl ?_
  obtain ⟨I3, w1, h⟩ := fbd_e h
  refine l_Mo_endsThought_2 l d0  5000 0 I w1 (fun I3_ e => ?_)
  cases e
  refine go_aload_n (k := 0) d_Mo_endsThought_26 rfl rfl ?_
  refine go_iconst (v := 0) d_Mo_endsThought_27 (by decide) ?_
  obtain ⟨I4, eI4, h⟩ := fstf_e h
  refine go_putT (ci := 10) (k := 5) (I' := I4) d_Mo_endsThought_28 a_M_0 rfl (by decide) f_Mo_144 rfl rfl rfl (gb_narZ (Or.inl rfl)) (gb_fitZ (Or.inl rfl)) eI4 ?_
  cases h
  exact go_return d_Mo_endsThought_31 rfl gb_po_i
theorem d_Mo_errs_0 : decode yMo_errs.2.1 0 = .ok (.aload_n 0, 1) := by decide +kernel
theorem d_Mo_errs_1 : decode yMo_errs.2.1 1 = .ok (.iload_n 1, 1) := by decide +kernel
theorem d_Mo_errs_2 : decode yMo_errs.2.1 2 = .ok (.putfield 206, 3) := by decide +kernel
theorem d_Mo_errs_5 : decode yMo_errs.2.1 5 = .ok (.aload_n 0, 1) := by decide +kernel
theorem d_Mo_errs_6 : decode yMo_errs.2.1 6 = .ok (.aload_n 0, 1) := by decide +kernel
theorem d_Mo_errs_7 : decode yMo_errs.2.1 7 = .ok (.getfield 184, 3) := by decide +kernel
theorem d_Mo_errs_10 : decode yMo_errs.2.1 10 = .ok (.putfield 209, 3) := by decide +kernel
theorem d_Mo_errs_13 : decode yMo_errs.2.1 13 = .ok (.iconst (-1), 1) := by decide +kernel
theorem d_Mo_errs_14 : decode yMo_errs.2.1 14 = .ok (.ireturn, 1) := by decide +kernel
def F_Mo_errs (x1 : Int32) (I : gb_Mem) : Option (Int32 × gb_Mem) :=
  fstf I 0 31 x1 fun I1 =>
  fstf I1 0 32 (I1 0 15) fun I2 =>
  some ((-1), I2)
set_option maxRecDepth 4000 in
theorem c_Mo_errs (l : Launch) (d0 : Nat) (x1 : Int32) (I : gb_Mem) {rz : Int32} {Iz : gb_Mem} (h : F_Mo_errs x1 I = some (rz, Iz)) : gb_Cs l yMo_errs (d0 + 0) [.inr (some 0), .inl x1] shM I (some (.inl rz)) Iz := by
  refine gb_Ct.of (lv := [(0, .inr (some 0)), (1, .inl x1)]) rfl (Nat.le_of_ble_eq_true rfl) rfl ?_
  unfold F_Mo_errs at h
  show gb_Go l yMo_errs (d0 + 0) 0 0 0 [(0, .inr (some 0)), (1, .inl x1)] [] shM I (gb_po shM (some (.inl rz)) Iz)
  refine go_aload_n (k := 0) d_Mo_errs_0 rfl rfl ?_
  refine go_iload_n (k := 1) d_Mo_errs_1 rfl rfl ?_
  obtain ⟨I1, eI1, h⟩ := fstf_e h
  refine go_putT (ci := 10) (k := 31) (I' := I1) d_Mo_errs_2 a_M_0 rfl (by decide) f_Mo_206 rfl rfl rfl rfl rfl eI1 ?_
  refine go_aload_n (k := 0) d_Mo_errs_5 rfl rfl ?_
  refine go_aload_n (k := 0) d_Mo_errs_6 rfl rfl ?_
  refine go_geti (ci := 10) (k := 15) d_Mo_errs_7 a_M_0 rfl (by decide) f_Mo_184 rfl ?_
  obtain ⟨I2, eI2, h⟩ := fstf_e h
  refine go_putT (ci := 10) (k := 32) (I' := I2) d_Mo_errs_10 a_M_0 rfl (by decide) f_Mo_209 rfl rfl rfl rfl rfl eI2 ?_
  refine go_iconst (v := (-1)) d_Mo_errs_13 (by decide) ?_
  cases h
  exact go_ireturn d_Mo_errs_14 rfl gb_po_i
theorem d_Mo_fault_0 : decode yMo_fault.2.1 0 = .ok (.aload_n 0, 1) := by decide +kernel
theorem d_Mo_fault_1 : decode yMo_fault.2.1 1 = .ok (.iconst 0, 1) := by decide +kernel
theorem d_Mo_fault_2 : decode yMo_fault.2.1 2 = .ok (.putfield 137, 3) := by decide +kernel
theorem d_Mo_fault_5 : decode yMo_fault.2.1 5 = .ok (.iload_n 1, 1) := by decide +kernel
theorem d_Mo_fault_6 : decode yMo_fault.2.1 6 = .ok (.ifCond .ne 10, 3) := by decide +kernel
theorem d_Mo_fault_9 : decode yMo_fault.2.1 9 = .ok (.aload_n 0, 1) := by decide +kernel
theorem d_Mo_fault_10 : decode yMo_fault.2.1 10 = .ok (.getfield 312, 3) := by decide +kernel
theorem d_Mo_fault_13 : decode yMo_fault.2.1 13 = .ok (.goto 16, 3) := by decide +kernel
theorem d_Mo_fault_16 : decode yMo_fault.2.1 16 = .ok (.iload_n 1, 1) := by decide +kernel
theorem d_Mo_fault_17 : decode yMo_fault.2.1 17 = .ok (.iconst 1, 1) := by decide +kernel
theorem d_Mo_fault_18 : decode yMo_fault.2.1 18 = .ok (.if_icmp .ne 10, 3) := by decide +kernel
theorem d_Mo_fault_21 : decode yMo_fault.2.1 21 = .ok (.aload_n 0, 1) := by decide +kernel
theorem d_Mo_fault_22 : decode yMo_fault.2.1 22 = .ok (.getfield 64, 3) := by decide +kernel
theorem d_Mo_fault_25 : decode yMo_fault.2.1 25 = .ok (.goto 4, 3) := by decide +kernel
theorem d_Mo_fault_28 : decode yMo_fault.2.1 28 = .ok (.iconst (-1), 1) := by decide +kernel
theorem d_Mo_fault_29 : decode yMo_fault.2.1 29 = .ok (.ireturn, 1) := by decide +kernel
def F_Mo_fault (x1 : Int32) (I : gb_Mem) : Option (Int32 × gb_Mem) :=
  fstf I 0 0 0 fun I1 =>
  if x1 = 0 then
    some (I1 0 33, I1)
  else
    if x1 = 1 then
      some (I1 0 34, I1)
    else
      some ((-1), I1)
set_option maxRecDepth 4000 in
theorem c_Mo_fault (l : Launch) (d0 : Nat) (x1 : Int32) (I : gb_Mem) {rz : Int32} {Iz : gb_Mem} (h : F_Mo_fault x1 I = some (rz, Iz)) : gb_Cs l yMo_fault (d0 + 0) [.inr (some 0), .inl x1] shM I (some (.inl rz)) Iz := by
  refine gb_Ct.of (lv := [(0, .inr (some 0)), (1, .inl x1)]) rfl (Nat.le_of_ble_eq_true rfl) rfl ?_
  unfold F_Mo_fault at h
  show gb_Go l yMo_fault (d0 + 0) 0 0 0 [(0, .inr (some 0)), (1, .inl x1)] [] shM I (gb_po shM (some (.inl rz)) Iz)
  refine go_aload_n (k := 0) d_Mo_fault_0 rfl rfl ?_
  refine go_iconst (v := 0) d_Mo_fault_1 (by decide) ?_
  obtain ⟨I1, eI1, h⟩ := fstf_e h
  refine go_putT (ci := 10) (k := 0) (I' := I1) d_Mo_fault_2 a_M_0 rfl (by decide) f_Mo_137 rfl rfl rfl rfl rfl eI1 ?_
  refine go_iload_n (k := 1) d_Mo_fault_5 rfl rfl ?_
  refine go_if_ne (tgt := 16) d_Mo_fault_6 (by decide) (fun hc => ?_) (fun hc => ?_)
  · rw [if_neg hc] at h
    refine go_iload_n (k := 1) d_Mo_fault_16 rfl rfl ?_
    refine go_iconst (v := 1) d_Mo_fault_17 (by decide) ?_
    refine go_cmp_ne (tgt := 28) d_Mo_fault_18 (by decide) (fun hc => ?_) (fun hc => ?_)
    · rw [if_neg hc] at h
      refine go_iconst (v := (-1)) d_Mo_fault_28 (by decide) ?_
      cases h
      exact go_ireturn d_Mo_fault_29 rfl gb_po_i
    · rw [if_pos hc] at h
      refine go_aload_n (k := 0) d_Mo_fault_21 rfl rfl ?_
      refine go_geti (ci := 10) (k := 34) d_Mo_fault_22 a_M_0 rfl (by decide) f_Mo_64 rfl ?_
      refine go_goto (tgt := 29) d_Mo_fault_25 (by decide) ?_
      cases h
      exact go_ireturn d_Mo_fault_29 rfl gb_po_i
  · rw [if_pos hc] at h
    refine go_aload_n (k := 0) d_Mo_fault_9 rfl rfl ?_
    refine go_geti (ci := 10) (k := 33) d_Mo_fault_10 a_M_0 rfl (by decide) f_Mo_312 rfl ?_
    refine go_goto (tgt := 29) d_Mo_fault_13 (by decide) ?_
    cases h
    exact go_ireturn d_Mo_fault_29 rfl gb_po_i
theorem d_Mo_greater_0 : decode yMo_greater.2.1 0 = .ok (.iload_n 1, 1) := by decide +kernel
theorem d_Mo_greater_1 : decode yMo_greater.2.1 1 = .ok (.iload_n 2, 1) := by decide +kernel
theorem d_Mo_greater_2 : decode yMo_greater.2.1 2 = .ok (.if_icmp .le 7, 3) := by decide +kernel
theorem d_Mo_greater_5 : decode yMo_greater.2.1 5 = .ok (.iload_n 1, 1) := by decide +kernel
theorem d_Mo_greater_6 : decode yMo_greater.2.1 6 = .ok (.goto 4, 3) := by decide +kernel
theorem d_Mo_greater_9 : decode yMo_greater.2.1 9 = .ok (.iload_n 2, 1) := by decide +kernel
theorem d_Mo_greater_10 : decode yMo_greater.2.1 10 = .ok (.ireturn, 1) := by decide +kernel
def F_Mo_greater (x1 x2 : Int32) (I : gb_Mem) : Int32 :=
  if x1 ≤ x2 then
    x2
  else
    x1
set_option maxRecDepth 4000 in
theorem c_Mo_greater (l : Launch) (d0 : Nat) (x1 x2 : Int32) (I : gb_Mem)  : gb_Cs l yMo_greater (d0 + 0) [.inr (some 0), .inl x1, .inl x2] shM I (some (.inl (F_Mo_greater x1 x2 I))) I := by
  refine gb_Ct.of (lv := [(0, .inr (some 0)), (1, .inl x1), (2, .inl x2)]) rfl (Nat.le_of_ble_eq_true rfl) rfl ?_
  generalize h : F_Mo_greater x1 x2 I = rz
  unfold F_Mo_greater at h
  show gb_Go l yMo_greater (d0 + 0) 0 0 0 [(0, .inr (some 0)), (1, .inl x1), (2, .inl x2)] [] shM I (gb_po shM (some (.inl rz)) I)
  refine go_iload_n (k := 1) d_Mo_greater_0 rfl rfl ?_
  refine go_iload_n (k := 2) d_Mo_greater_1 rfl rfl ?_
  refine go_cmp_le (tgt := 9) d_Mo_greater_2 (by decide) (fun hc => ?_) (fun hc => ?_)
  · rw [if_pos hc] at h
    refine go_iload_n (k := 2) d_Mo_greater_9 rfl rfl ?_
    subst h
    exact go_ireturn d_Mo_greater_10 rfl gb_po_i
  · rw [if_neg hc] at h
    refine go_iload_n (k := 1) d_Mo_greater_5 rfl rfl ?_
    refine go_goto (tgt := 10) d_Mo_greater_6 (by decide) ?_
    subst h
    exact go_ireturn d_Mo_greater_10 rfl gb_po_i
theorem d_Mo_has_0 : decode yMo_has.2.1 0 = .ok (.iload_n 1, 1) := by decide +kernel
theorem d_Mo_has_1 : decode yMo_has.2.1 1 = .ok (.iload_n 2, 1) := by decide +kernel
theorem d_Mo_has_2 : decode yMo_has.2.1 2 = .ok (.ishr, 1) := by decide +kernel
theorem d_Mo_has_3 : decode yMo_has.2.1 3 = .ok (.iconst 1, 1) := by decide +kernel
theorem d_Mo_has_4 : decode yMo_has.2.1 4 = .ok (.iand, 1) := by decide +kernel
theorem d_Mo_has_5 : decode yMo_has.2.1 5 = .ok (.iconst 1, 1) := by decide +kernel
theorem d_Mo_has_6 : decode yMo_has.2.1 6 = .ok (.if_icmp .ne 7, 3) := by decide +kernel
theorem d_Mo_has_9 : decode yMo_has.2.1 9 = .ok (.iconst 1, 1) := by decide +kernel
theorem d_Mo_has_10 : decode yMo_has.2.1 10 = .ok (.goto 4, 3) := by decide +kernel
theorem d_Mo_has_13 : decode yMo_has.2.1 13 = .ok (.iconst 0, 1) := by decide +kernel
theorem d_Mo_has_14 : decode yMo_has.2.1 14 = .ok (.ireturn, 1) := by decide +kernel
def F_Mo_has (x1 x2 : Int32) (I : gb_Mem) : Int32 :=
  if ((x1 >>> (x2 &&& 31)) &&& 1) = 1 then
    1
  else
    0
set_option maxRecDepth 4000 in
theorem c_Mo_has (l : Launch) (d0 : Nat) (x1 x2 : Int32) (I : gb_Mem)  : gb_Cs l yMo_has (d0 + 0) [.inr (some 0), .inl x1, .inl x2] shM I (some (.inl (F_Mo_has x1 x2 I))) I := by
  refine gb_Ct.of (lv := [(0, .inr (some 0)), (1, .inl x1), (2, .inl x2)]) rfl (Nat.le_of_ble_eq_true rfl) rfl ?_
  generalize h : F_Mo_has x1 x2 I = rz
  unfold F_Mo_has at h
  show gb_Go l yMo_has (d0 + 0) 0 0 0 [(0, .inr (some 0)), (1, .inl x1), (2, .inl x2)] [] shM I (gb_po shM (some (.inl rz)) I)
  refine go_iload_n (k := 1) d_Mo_has_0 rfl rfl ?_
  refine go_iload_n (k := 2) d_Mo_has_1 rfl rfl ?_
  refine go_ishr d_Mo_has_2 ?_
  refine go_iconst (v := 1) d_Mo_has_3 (by decide) ?_
  refine go_iand d_Mo_has_4 ?_
  refine go_iconst (v := 1) d_Mo_has_5 (by decide) ?_
  refine go_cmp_ne (tgt := 13) d_Mo_has_6 (by decide) (fun hc => ?_) (fun hc => ?_)
  · rw [if_neg hc] at h
    refine go_iconst (v := 0) d_Mo_has_13 (by decide) ?_
    subst h
    exact go_zreturn d_Mo_has_14 rfl (Or.inl rfl) gb_po_i
  · rw [if_pos hc] at h
    refine go_iconst (v := 1) d_Mo_has_9 (by decide) ?_
    refine go_goto (tgt := 14) d_Mo_has_10 (by decide) ?_
    subst h
    exact go_zreturn d_Mo_has_14 rfl (Or.inr rfl) gb_po_i
theorem zb_Mo_has (x1 x2 : Int32) (I : gb_Mem) : F_Mo_has x1 x2 I = 0 ∨ F_Mo_has x1 x2 I = 1 := by
  unfold F_Mo_has
  repeat' split
  all_goals first | exact Or.inl rfl | exact Or.inr rfl
theorem d_Mo_held_0 : decode yMo_held.2.1 0 = .ok (.iload_n 1, 1) := by decide +kernel
theorem d_Mo_held_1 : decode yMo_held.2.1 1 = .ok (.iload_n 2, 1) := by decide +kernel
theorem d_Mo_held_2 : decode yMo_held.2.1 2 = .ok (.if_icmp .ge 7, 3) := by decide +kernel
theorem d_Mo_held_5 : decode yMo_held.2.1 5 = .ok (.iload_n 2, 1) := by decide +kernel
theorem d_Mo_held_6 : decode yMo_held.2.1 6 = .ok (.goto 13, 3) := by decide +kernel
theorem d_Mo_held_9 : decode yMo_held.2.1 9 = .ok (.iload_n 1, 1) := by decide +kernel
theorem d_Mo_held_10 : decode yMo_held.2.1 10 = .ok (.iload_n 3, 1) := by decide +kernel
theorem d_Mo_held_11 : decode yMo_held.2.1 11 = .ok (.if_icmp .le 7, 3) := by decide +kernel
theorem d_Mo_held_14 : decode yMo_held.2.1 14 = .ok (.iload_n 3, 1) := by decide +kernel
theorem d_Mo_held_15 : decode yMo_held.2.1 15 = .ok (.goto 4, 3) := by decide +kernel
theorem d_Mo_held_18 : decode yMo_held.2.1 18 = .ok (.iload_n 1, 1) := by decide +kernel
theorem d_Mo_held_19 : decode yMo_held.2.1 19 = .ok (.ireturn, 1) := by decide +kernel
def F_Mo_held (x1 x2 x3 : Int32) (I : gb_Mem) : Int32 :=
  if x2 ≤ x1 then
    if x1 ≤ x3 then
      x1
    else
      x3
  else
    x2
set_option maxRecDepth 4000 in
theorem c_Mo_held (l : Launch) (d0 : Nat) (x1 x2 x3 : Int32) (I : gb_Mem)  : gb_Cs l yMo_held (d0 + 0) [.inr (some 0), .inl x1, .inl x2, .inl x3] shM I (some (.inl (F_Mo_held x1 x2 x3 I))) I := by
  refine gb_Ct.of (lv := [(0, .inr (some 0)), (1, .inl x1), (2, .inl x2), (3, .inl x3)]) rfl (Nat.le_of_ble_eq_true rfl) rfl ?_
  generalize h : F_Mo_held x1 x2 x3 I = rz
  unfold F_Mo_held at h
  show gb_Go l yMo_held (d0 + 0) 0 0 0 [(0, .inr (some 0)), (1, .inl x1), (2, .inl x2), (3, .inl x3)] [] shM I (gb_po shM (some (.inl rz)) I)
  refine go_iload_n (k := 1) d_Mo_held_0 rfl rfl ?_
  refine go_iload_n (k := 2) d_Mo_held_1 rfl rfl ?_
  refine go_cmp_ge (tgt := 9) d_Mo_held_2 (by decide) (fun hc => ?_) (fun hc => ?_)
  · rw [if_pos hc] at h
    refine go_iload_n (k := 1) d_Mo_held_9 rfl rfl ?_
    refine go_iload_n (k := 3) d_Mo_held_10 rfl rfl ?_
    refine go_cmp_le (tgt := 18) d_Mo_held_11 (by decide) (fun hc => ?_) (fun hc => ?_)
    · rw [if_pos hc] at h
      refine go_iload_n (k := 1) d_Mo_held_18 rfl rfl ?_
      subst h
      exact go_ireturn d_Mo_held_19 rfl gb_po_i
    · rw [if_neg hc] at h
      refine go_iload_n (k := 3) d_Mo_held_14 rfl rfl ?_
      refine go_goto (tgt := 19) d_Mo_held_15 (by decide) ?_
      subst h
      exact go_ireturn d_Mo_held_19 rfl gb_po_i
  · rw [if_neg hc] at h
    refine go_iload_n (k := 2) d_Mo_held_5 rfl rfl ?_
    refine go_goto (tgt := 19) d_Mo_held_6 (by decide) ?_
    subst h
    exact go_ireturn d_Mo_held_19 rfl gb_po_i
theorem d_Mo_isBoat_0 : decode yMo_isBoat.2.1 0 = .ok (.iload_n 1, 1) := by decide +kernel
theorem d_Mo_isBoat_1 : decode yMo_isBoat.2.1 1 = .ok (.ifCond .lt 15, 3) := by decide +kernel
theorem d_Mo_isBoat_4 : decode yMo_isBoat.2.1 4 = .ok (.iload_n 1, 1) := by decide +kernel
theorem d_Mo_isBoat_5 : decode yMo_isBoat.2.1 5 = .ok (.aload_n 0, 1) := by decide +kernel
theorem d_Mo_isBoat_6 : decode yMo_isBoat.2.1 6 = .ok (.getfield 150, 3) := by decide +kernel
theorem d_Mo_isBoat_9 : decode yMo_isBoat.2.1 9 = .ok (.if_icmp .ge 7, 3) := by decide +kernel
theorem d_Mo_isBoat_12 : decode yMo_isBoat.2.1 12 = .ok (.iconst 1, 1) := by decide +kernel
theorem d_Mo_isBoat_13 : decode yMo_isBoat.2.1 13 = .ok (.goto 4, 3) := by decide +kernel
theorem d_Mo_isBoat_16 : decode yMo_isBoat.2.1 16 = .ok (.iconst 0, 1) := by decide +kernel
theorem d_Mo_isBoat_17 : decode yMo_isBoat.2.1 17 = .ok (.ireturn, 1) := by decide +kernel
def F_Mo_isBoat (x1 : Int32) (I : gb_Mem) : Int32 :=
  if x1 < 0 then
    0
  else
    if (I 0 6) ≤ x1 then
      0
    else
      1
set_option maxRecDepth 4000 in
theorem c_Mo_isBoat (l : Launch) (d0 : Nat) (x1 : Int32) (I : gb_Mem)  : gb_Cs l yMo_isBoat (d0 + 0) [.inr (some 0), .inl x1] shM I (some (.inl (F_Mo_isBoat x1 I))) I := by
  refine gb_Ct.of (lv := [(0, .inr (some 0)), (1, .inl x1)]) rfl (Nat.le_of_ble_eq_true rfl) rfl ?_
  generalize h : F_Mo_isBoat x1 I = rz
  unfold F_Mo_isBoat at h
  show gb_Go l yMo_isBoat (d0 + 0) 0 0 0 [(0, .inr (some 0)), (1, .inl x1)] [] shM I (gb_po shM (some (.inl rz)) I)
  refine go_iload_n (k := 1) d_Mo_isBoat_0 rfl rfl ?_
  refine go_if_lt (tgt := 16) d_Mo_isBoat_1 (by decide) (fun hc => ?_) (fun hc => ?_)
  · rw [if_pos hc] at h
    refine go_iconst (v := 0) d_Mo_isBoat_16 (by decide) ?_
    subst h
    exact go_zreturn d_Mo_isBoat_17 rfl (Or.inl rfl) gb_po_i
  · rw [if_neg hc] at h
    refine go_iload_n (k := 1) d_Mo_isBoat_4 rfl rfl ?_
    refine go_aload_n (k := 0) d_Mo_isBoat_5 rfl rfl ?_
    refine go_geti (ci := 10) (k := 6) d_Mo_isBoat_6 a_M_0 rfl (by decide) f_Mo_150 rfl ?_
    refine go_cmp_ge (tgt := 16) d_Mo_isBoat_9 (by decide) (fun hc => ?_) (fun hc => ?_)
    · rw [if_pos hc] at h
      refine go_iconst (v := 0) d_Mo_isBoat_16 (by decide) ?_
      subst h
      exact go_zreturn d_Mo_isBoat_17 rfl (Or.inl rfl) gb_po_i
    · rw [if_neg hc] at h
      refine go_iconst (v := 1) d_Mo_isBoat_12 (by decide) ?_
      refine go_goto (tgt := 17) d_Mo_isBoat_13 (by decide) ?_
      subst h
      exact go_zreturn d_Mo_isBoat_17 rfl (Or.inr rfl) gb_po_i
theorem zb_Mo_isBoat (x1 : Int32) (I : gb_Mem) : F_Mo_isBoat x1 I = 0 ∨ F_Mo_isBoat x1 I = 1 := by
  unfold F_Mo_isBoat
  repeat' split
  all_goals first | exact Or.inl rfl | exact Or.inr rfl
theorem d_Mo_isIn_0 : decode yMo_isIn.2.1 0 = .ok (.iload_n 1, 1) := by decide +kernel
theorem d_Mo_isIn_1 : decode yMo_isIn.2.1 1 = .ok (.iload_n 2, 1) := by decide +kernel
theorem d_Mo_isIn_2 : decode yMo_isIn.2.1 2 = .ok (.if_icmp .lt 12, 3) := by decide +kernel
theorem d_Mo_isIn_5 : decode yMo_isIn.2.1 5 = .ok (.iload_n 1, 1) := by decide +kernel
theorem d_Mo_isIn_6 : decode yMo_isIn.2.1 6 = .ok (.iload_n 3, 1) := by decide +kernel
theorem d_Mo_isIn_7 : decode yMo_isIn.2.1 7 = .ok (.if_icmp .gt 7, 3) := by decide +kernel
theorem d_Mo_isIn_10 : decode yMo_isIn.2.1 10 = .ok (.iconst 1, 1) := by decide +kernel
theorem d_Mo_isIn_11 : decode yMo_isIn.2.1 11 = .ok (.goto 4, 3) := by decide +kernel
theorem d_Mo_isIn_14 : decode yMo_isIn.2.1 14 = .ok (.iconst 0, 1) := by decide +kernel
theorem d_Mo_isIn_15 : decode yMo_isIn.2.1 15 = .ok (.ireturn, 1) := by decide +kernel
def F_Mo_isIn (x1 x2 x3 : Int32) (I : gb_Mem) : Int32 :=
  if x1 < x2 then
    0
  else
    if x3 < x1 then
      0
    else
      1
set_option maxRecDepth 4000 in
theorem c_Mo_isIn (l : Launch) (d0 : Nat) (x1 x2 x3 : Int32) (I : gb_Mem)  : gb_Cs l yMo_isIn (d0 + 0) [.inr (some 0), .inl x1, .inl x2, .inl x3] shM I (some (.inl (F_Mo_isIn x1 x2 x3 I))) I := by
  refine gb_Ct.of (lv := [(0, .inr (some 0)), (1, .inl x1), (2, .inl x2), (3, .inl x3)]) rfl (Nat.le_of_ble_eq_true rfl) rfl ?_
  generalize h : F_Mo_isIn x1 x2 x3 I = rz
  unfold F_Mo_isIn at h
  show gb_Go l yMo_isIn (d0 + 0) 0 0 0 [(0, .inr (some 0)), (1, .inl x1), (2, .inl x2), (3, .inl x3)] [] shM I (gb_po shM (some (.inl rz)) I)
  refine go_iload_n (k := 1) d_Mo_isIn_0 rfl rfl ?_
  refine go_iload_n (k := 2) d_Mo_isIn_1 rfl rfl ?_
  refine go_cmp_lt (tgt := 14) d_Mo_isIn_2 (by decide) (fun hc => ?_) (fun hc => ?_)
  · rw [if_pos hc] at h
    refine go_iconst (v := 0) d_Mo_isIn_14 (by decide) ?_
    subst h
    exact go_zreturn d_Mo_isIn_15 rfl (Or.inl rfl) gb_po_i
  · rw [if_neg hc] at h
    refine go_iload_n (k := 1) d_Mo_isIn_5 rfl rfl ?_
    refine go_iload_n (k := 3) d_Mo_isIn_6 rfl rfl ?_
    refine go_cmp_gt (tgt := 14) d_Mo_isIn_7 (by decide) (fun hc => ?_) (fun hc => ?_)
    · rw [if_pos hc] at h
      refine go_iconst (v := 0) d_Mo_isIn_14 (by decide) ?_
      subst h
      exact go_zreturn d_Mo_isIn_15 rfl (Or.inl rfl) gb_po_i
    · rw [if_neg hc] at h
      refine go_iconst (v := 1) d_Mo_isIn_10 (by decide) ?_
      refine go_goto (tgt := 15) d_Mo_isIn_11 (by decide) ?_
      subst h
      exact go_zreturn d_Mo_isIn_15 rfl (Or.inr rfl) gb_po_i
theorem zb_Mo_isIn (x1 x2 x3 : Int32) (I : gb_Mem) : F_Mo_isIn x1 x2 x3 I = 0 ∨ F_Mo_isIn x1 x2 x3 I = 1 := by
  unfold F_Mo_isIn
  repeat' split
  all_goals first | exact Or.inl rfl | exact Or.inr rfl
theorem d_Mo_isMarkSign_0 : decode yMo_isMarkSign.2.1 0 = .ok (.iload_n 1, 1) := by decide +kernel
theorem d_Mo_isMarkSign_1 : decode yMo_isMarkSign.2.1 1 = .ok (.bipush 59, 2) := by decide +kernel
theorem d_Mo_isMarkSign_3 : decode yMo_isMarkSign.2.1 3 = .ok (.if_icmp .eq 57, 3) := by decide +kernel
theorem d_Mo_isMarkSign_6 : decode yMo_isMarkSign.2.1 6 = .ok (.iload_n 1, 1) := by decide +kernel
theorem d_Mo_isMarkSign_7 : decode yMo_isMarkSign.2.1 7 = .ok (.bipush 43, 2) := by decide +kernel
theorem d_Mo_isMarkSign_9 : decode yMo_isMarkSign.2.1 9 = .ok (.if_icmp .eq 51, 3) := by decide +kernel
theorem d_Mo_isMarkSign_12 : decode yMo_isMarkSign.2.1 12 = .ok (.iload_n 1, 1) := by decide +kernel
theorem d_Mo_isMarkSign_13 : decode yMo_isMarkSign.2.1 13 = .ok (.bipush 45, 2) := by decide +kernel
theorem d_Mo_isMarkSign_15 : decode yMo_isMarkSign.2.1 15 = .ok (.if_icmp .eq 45, 3) := by decide +kernel
theorem d_Mo_isMarkSign_18 : decode yMo_isMarkSign.2.1 18 = .ok (.iload_n 1, 1) := by decide +kernel
theorem d_Mo_isMarkSign_19 : decode yMo_isMarkSign.2.1 19 = .ok (.bipush 42, 2) := by decide +kernel
theorem d_Mo_isMarkSign_21 : decode yMo_isMarkSign.2.1 21 = .ok (.if_icmp .eq 39, 3) := by decide +kernel
theorem d_Mo_isMarkSign_24 : decode yMo_isMarkSign.2.1 24 = .ok (.iload_n 1, 1) := by decide +kernel
theorem d_Mo_isMarkSign_25 : decode yMo_isMarkSign.2.1 25 = .ok (.bipush 47, 2) := by decide +kernel
theorem d_Mo_isMarkSign_27 : decode yMo_isMarkSign.2.1 27 = .ok (.if_icmp .eq 33, 3) := by decide +kernel
theorem d_Mo_isMarkSign_30 : decode yMo_isMarkSign.2.1 30 = .ok (.iload_n 1, 1) := by decide +kernel
theorem d_Mo_isMarkSign_31 : decode yMo_isMarkSign.2.1 31 = .ok (.bipush 40, 2) := by decide +kernel
theorem d_Mo_isMarkSign_33 : decode yMo_isMarkSign.2.1 33 = .ok (.if_icmp .eq 27, 3) := by decide +kernel
theorem d_Mo_isMarkSign_36 : decode yMo_isMarkSign.2.1 36 = .ok (.iload_n 1, 1) := by decide +kernel
theorem d_Mo_isMarkSign_37 : decode yMo_isMarkSign.2.1 37 = .ok (.bipush 41, 2) := by decide +kernel
theorem d_Mo_isMarkSign_39 : decode yMo_isMarkSign.2.1 39 = .ok (.if_icmp .eq 21, 3) := by decide +kernel
theorem d_Mo_isMarkSign_42 : decode yMo_isMarkSign.2.1 42 = .ok (.iload_n 1, 1) := by decide +kernel
theorem d_Mo_isMarkSign_43 : decode yMo_isMarkSign.2.1 43 = .ok (.bipush 60, 2) := by decide +kernel
theorem d_Mo_isMarkSign_45 : decode yMo_isMarkSign.2.1 45 = .ok (.if_icmp .eq 15, 3) := by decide +kernel
theorem d_Mo_isMarkSign_48 : decode yMo_isMarkSign.2.1 48 = .ok (.iload_n 1, 1) := by decide +kernel
theorem d_Mo_isMarkSign_49 : decode yMo_isMarkSign.2.1 49 = .ok (.bipush 61, 2) := by decide +kernel
theorem d_Mo_isMarkSign_51 : decode yMo_isMarkSign.2.1 51 = .ok (.if_icmp .eq 9, 3) := by decide +kernel
theorem d_Mo_isMarkSign_54 : decode yMo_isMarkSign.2.1 54 = .ok (.iload_n 1, 1) := by decide +kernel
theorem d_Mo_isMarkSign_55 : decode yMo_isMarkSign.2.1 55 = .ok (.bipush 62, 2) := by decide +kernel
theorem d_Mo_isMarkSign_57 : decode yMo_isMarkSign.2.1 57 = .ok (.if_icmp .ne 7, 3) := by decide +kernel
theorem d_Mo_isMarkSign_60 : decode yMo_isMarkSign.2.1 60 = .ok (.iconst 1, 1) := by decide +kernel
theorem d_Mo_isMarkSign_61 : decode yMo_isMarkSign.2.1 61 = .ok (.goto 4, 3) := by decide +kernel
theorem d_Mo_isMarkSign_64 : decode yMo_isMarkSign.2.1 64 = .ok (.iconst 0, 1) := by decide +kernel
theorem d_Mo_isMarkSign_65 : decode yMo_isMarkSign.2.1 65 = .ok (.ireturn, 1) := by decide +kernel
def J_Mo_isMarkSign_60 (I : gb_Mem) : Int32 :=
  1
set_option maxRecDepth 4000 in
theorem j_Mo_isMarkSign_60 (l : Launch) (d0 : Nat) (I : gb_Mem) {rz : Int32} (h : J_Mo_isMarkSign_60 I = rz) : gb_Go l yMo_isMarkSign (d0 + 0) 0 0 60 [] [] shM I (gb_po shM (some (.inl rz)) I) := by
  unfold J_Mo_isMarkSign_60 at h
  refine go_iconst (v := 1) d_Mo_isMarkSign_60 (by decide) ?_
  refine go_goto (tgt := 65) d_Mo_isMarkSign_61 (by decide) ?_
  subst h
  exact go_zreturn d_Mo_isMarkSign_65 rfl (Or.inr rfl) gb_po_i
def F_Mo_isMarkSign (x1 : Int32) (I : gb_Mem) : Int32 :=
  if x1 = 59 then
    J_Mo_isMarkSign_60 I
  else
    if x1 = 43 then
      J_Mo_isMarkSign_60 I
    else
      if x1 = 45 then
        J_Mo_isMarkSign_60 I
      else
        if x1 = 42 then
          J_Mo_isMarkSign_60 I
        else
          if x1 = 47 then
            J_Mo_isMarkSign_60 I
          else
            if x1 = 40 then
              J_Mo_isMarkSign_60 I
            else
              if x1 = 41 then
                J_Mo_isMarkSign_60 I
              else
                if x1 = 60 then
                  J_Mo_isMarkSign_60 I
                else
                  if x1 = 61 then
                    J_Mo_isMarkSign_60 I
                  else
                    if x1 = 62 then
                      J_Mo_isMarkSign_60 I
                    else
                      0
set_option maxRecDepth 4000 in
theorem c_Mo_isMarkSign (l : Launch) (d0 : Nat) (x1 : Int32) (I : gb_Mem)  : gb_Cs l yMo_isMarkSign (d0 + 0) [.inr (some 0), .inl x1] shM I (some (.inl (F_Mo_isMarkSign x1 I))) I := by
  refine gb_Ct.of (lv := [(0, .inr (some 0)), (1, .inl x1)]) rfl (Nat.le_of_ble_eq_true rfl) rfl ?_
  generalize h : F_Mo_isMarkSign x1 I = rz
  unfold F_Mo_isMarkSign at h
  show gb_Go l yMo_isMarkSign (d0 + 0) 0 0 0 [(0, .inr (some 0)), (1, .inl x1)] [] shM I (gb_po shM (some (.inl rz)) I)
  refine go_iload_n (k := 1) d_Mo_isMarkSign_0 rfl rfl ?_
  refine go_bipush (v := 59) d_Mo_isMarkSign_1 (by decide) ?_
  refine go_cmp_eq (tgt := 60) d_Mo_isMarkSign_3 (by decide) (fun hc => ?_) (fun hc => ?_)
  · rw [if_pos hc] at h
    exact go_lv [] rfl (j_Mo_isMarkSign_60 l d0 I h)
  · rw [if_neg hc] at h
    refine go_iload_n (k := 1) d_Mo_isMarkSign_6 rfl rfl ?_
    refine go_bipush (v := 43) d_Mo_isMarkSign_7 (by decide) ?_
    refine go_cmp_eq (tgt := 60) d_Mo_isMarkSign_9 (by decide) (fun hc => ?_) (fun hc => ?_)
    · rw [if_pos hc] at h
      exact go_lv [] rfl (j_Mo_isMarkSign_60 l d0 I h)
    · rw [if_neg hc] at h
      refine go_iload_n (k := 1) d_Mo_isMarkSign_12 rfl rfl ?_
      refine go_bipush (v := 45) d_Mo_isMarkSign_13 (by decide) ?_
      refine go_cmp_eq (tgt := 60) d_Mo_isMarkSign_15 (by decide) (fun hc => ?_) (fun hc => ?_)
      · rw [if_pos hc] at h
        exact go_lv [] rfl (j_Mo_isMarkSign_60 l d0 I h)
      · rw [if_neg hc] at h
        refine go_iload_n (k := 1) d_Mo_isMarkSign_18 rfl rfl ?_
        refine go_bipush (v := 42) d_Mo_isMarkSign_19 (by decide) ?_
        refine go_cmp_eq (tgt := 60) d_Mo_isMarkSign_21 (by decide) (fun hc => ?_) (fun hc => ?_)
        · rw [if_pos hc] at h
          exact go_lv [] rfl (j_Mo_isMarkSign_60 l d0 I h)
        · rw [if_neg hc] at h
          refine go_iload_n (k := 1) d_Mo_isMarkSign_24 rfl rfl ?_
          refine go_bipush (v := 47) d_Mo_isMarkSign_25 (by decide) ?_
          refine go_cmp_eq (tgt := 60) d_Mo_isMarkSign_27 (by decide) (fun hc => ?_) (fun hc => ?_)
          · rw [if_pos hc] at h
            exact go_lv [] rfl (j_Mo_isMarkSign_60 l d0 I h)
          · rw [if_neg hc] at h
            refine go_iload_n (k := 1) d_Mo_isMarkSign_30 rfl rfl ?_
            refine go_bipush (v := 40) d_Mo_isMarkSign_31 (by decide) ?_
            refine go_cmp_eq (tgt := 60) d_Mo_isMarkSign_33 (by decide) (fun hc => ?_) (fun hc => ?_)
            · rw [if_pos hc] at h
              exact go_lv [] rfl (j_Mo_isMarkSign_60 l d0 I h)
            · rw [if_neg hc] at h
              refine go_iload_n (k := 1) d_Mo_isMarkSign_36 rfl rfl ?_
              refine go_bipush (v := 41) d_Mo_isMarkSign_37 (by decide) ?_
              refine go_cmp_eq (tgt := 60) d_Mo_isMarkSign_39 (by decide) (fun hc => ?_) (fun hc => ?_)
              · rw [if_pos hc] at h
                exact go_lv [] rfl (j_Mo_isMarkSign_60 l d0 I h)
              · rw [if_neg hc] at h
                refine go_iload_n (k := 1) d_Mo_isMarkSign_42 rfl rfl ?_
                refine go_bipush (v := 60) d_Mo_isMarkSign_43 (by decide) ?_
                refine go_cmp_eq (tgt := 60) d_Mo_isMarkSign_45 (by decide) (fun hc => ?_) (fun hc => ?_)
                · rw [if_pos hc] at h
                  exact go_lv [] rfl (j_Mo_isMarkSign_60 l d0 I h)
                · rw [if_neg hc] at h
                  refine go_iload_n (k := 1) d_Mo_isMarkSign_48 rfl rfl ?_
                  refine go_bipush (v := 61) d_Mo_isMarkSign_49 (by decide) ?_
                  refine go_cmp_eq (tgt := 60) d_Mo_isMarkSign_51 (by decide) (fun hc => ?_) (fun hc => ?_)
                  · rw [if_pos hc] at h
                    exact go_lv [] rfl (j_Mo_isMarkSign_60 l d0 I h)
                  · rw [if_neg hc] at h
                    refine go_iload_n (k := 1) d_Mo_isMarkSign_54 rfl rfl ?_
                    refine go_bipush (v := 62) d_Mo_isMarkSign_55 (by decide) ?_
                    refine go_cmp_ne (tgt := 64) d_Mo_isMarkSign_57 (by decide) (fun hc => ?_) (fun hc => ?_)
                    · rw [if_neg hc] at h
                      refine go_iconst (v := 0) d_Mo_isMarkSign_64 (by decide) ?_
                      subst h
                      exact go_zreturn d_Mo_isMarkSign_65 rfl (Or.inl rfl) gb_po_i
                    · rw [if_pos hc] at h
                      exact go_lv [] rfl (j_Mo_isMarkSign_60 l d0 I h)
theorem zbj_Mo_isMarkSign_60 (I : gb_Mem) : J_Mo_isMarkSign_60 I = 0 ∨ J_Mo_isMarkSign_60 I = 1 := by
  unfold J_Mo_isMarkSign_60
  repeat' split
  all_goals first | exact Or.inl rfl | exact Or.inr rfl
theorem zb_Mo_isMarkSign (x1 : Int32) (I : gb_Mem) : F_Mo_isMarkSign x1 I = 0 ∨ F_Mo_isMarkSign x1 I = 1 := by
  unfold F_Mo_isMarkSign
  repeat' split
  all_goals first | exact Or.inl rfl | exact Or.inr rfl | exact zbj_Mo_isMarkSign_60 _
theorem d_Mo_isSeat_0 : decode yMo_isSeat.2.1 0 = .ok (.iload_n 1, 1) := by decide +kernel
theorem d_Mo_isSeat_1 : decode yMo_isSeat.2.1 1 = .ok (.ifCond .lt 13, 3) := by decide +kernel
theorem d_Mo_isSeat_4 : decode yMo_isSeat.2.1 4 = .ok (.iload_n 1, 1) := by decide +kernel
theorem d_Mo_isSeat_5 : decode yMo_isSeat.2.1 5 = .ok (.bipush 12, 2) := by decide +kernel
theorem d_Mo_isSeat_7 : decode yMo_isSeat.2.1 7 = .ok (.if_icmp .ge 7, 3) := by decide +kernel
theorem d_Mo_isSeat_10 : decode yMo_isSeat.2.1 10 = .ok (.iconst 1, 1) := by decide +kernel
theorem d_Mo_isSeat_11 : decode yMo_isSeat.2.1 11 = .ok (.goto 4, 3) := by decide +kernel
theorem d_Mo_isSeat_14 : decode yMo_isSeat.2.1 14 = .ok (.iconst 0, 1) := by decide +kernel
theorem d_Mo_isSeat_15 : decode yMo_isSeat.2.1 15 = .ok (.ireturn, 1) := by decide +kernel
def F_Mo_isSeat (x1 : Int32) (I : gb_Mem) : Int32 :=
  if x1 < 0 then
    0
  else
    if 12 ≤ x1 then
      0
    else
      1
set_option maxRecDepth 4000 in
theorem c_Mo_isSeat (l : Launch) (d0 : Nat) (x1 : Int32) (I : gb_Mem)  : gb_Cs l yMo_isSeat (d0 + 0) [.inr (some 0), .inl x1] shM I (some (.inl (F_Mo_isSeat x1 I))) I := by
  refine gb_Ct.of (lv := [(0, .inr (some 0)), (1, .inl x1)]) rfl (Nat.le_of_ble_eq_true rfl) rfl ?_
  generalize h : F_Mo_isSeat x1 I = rz
  unfold F_Mo_isSeat at h
  show gb_Go l yMo_isSeat (d0 + 0) 0 0 0 [(0, .inr (some 0)), (1, .inl x1)] [] shM I (gb_po shM (some (.inl rz)) I)
  refine go_iload_n (k := 1) d_Mo_isSeat_0 rfl rfl ?_
  refine go_if_lt (tgt := 14) d_Mo_isSeat_1 (by decide) (fun hc => ?_) (fun hc => ?_)
  · rw [if_pos hc] at h
    refine go_iconst (v := 0) d_Mo_isSeat_14 (by decide) ?_
    subst h
    exact go_zreturn d_Mo_isSeat_15 rfl (Or.inl rfl) gb_po_i
  · rw [if_neg hc] at h
    refine go_iload_n (k := 1) d_Mo_isSeat_4 rfl rfl ?_
    refine go_bipush (v := 12) d_Mo_isSeat_5 (by decide) ?_
    refine go_cmp_ge (tgt := 14) d_Mo_isSeat_7 (by decide) (fun hc => ?_) (fun hc => ?_)
    · rw [if_pos hc] at h
      refine go_iconst (v := 0) d_Mo_isSeat_14 (by decide) ?_
      subst h
      exact go_zreturn d_Mo_isSeat_15 rfl (Or.inl rfl) gb_po_i
    · rw [if_neg hc] at h
      refine go_iconst (v := 1) d_Mo_isSeat_10 (by decide) ?_
      refine go_goto (tgt := 15) d_Mo_isSeat_11 (by decide) ?_
      subst h
      exact go_zreturn d_Mo_isSeat_15 rfl (Or.inr rfl) gb_po_i
theorem zb_Mo_isSeat (x1 : Int32) (I : gb_Mem) : F_Mo_isSeat x1 I = 0 ∨ F_Mo_isSeat x1 I = 1 := by
  unfold F_Mo_isSeat
  repeat' split
  all_goals first | exact Or.inl rfl | exact Or.inr rfl
theorem d_Mo_isSign_0 : decode yMo_isSign.2.1 0 = .ok (.aload_n 0, 1) := by decide +kernel
theorem d_Mo_isSign_1 : decode yMo_isSign.2.1 1 = .ok (.getfield 187, 3) := by decide +kernel
theorem d_Mo_isSign_4 : decode yMo_isSign.2.1 4 = .ok (.iconst 4, 1) := by decide +kernel
theorem d_Mo_isSign_5 : decode yMo_isSign.2.1 5 = .ok (.if_icmp .ne 15, 3) := by decide +kernel
theorem d_Mo_isSign_8 : decode yMo_isSign.2.1 8 = .ok (.aload_n 0, 1) := by decide +kernel
theorem d_Mo_isSign_9 : decode yMo_isSign.2.1 9 = .ok (.getfield 190, 3) := by decide +kernel
theorem d_Mo_isSign_12 : decode yMo_isSign.2.1 12 = .ok (.iload_n 1, 1) := by decide +kernel
theorem d_Mo_isSign_13 : decode yMo_isSign.2.1 13 = .ok (.if_icmp .ne 7, 3) := by decide +kernel
theorem d_Mo_isSign_16 : decode yMo_isSign.2.1 16 = .ok (.iconst 1, 1) := by decide +kernel
theorem d_Mo_isSign_17 : decode yMo_isSign.2.1 17 = .ok (.goto 4, 3) := by decide +kernel
theorem d_Mo_isSign_20 : decode yMo_isSign.2.1 20 = .ok (.iconst 0, 1) := by decide +kernel
theorem d_Mo_isSign_21 : decode yMo_isSign.2.1 21 = .ok (.ireturn, 1) := by decide +kernel
def F_Mo_isSign (x1 : Int32) (I : gb_Mem) : Int32 :=
  if (I 0 16) = 4 then
    if (I 0 17) = x1 then
      1
    else
      0
  else
    0
set_option maxRecDepth 4000 in
theorem c_Mo_isSign (l : Launch) (d0 : Nat) (x1 : Int32) (I : gb_Mem)  : gb_Cs l yMo_isSign (d0 + 0) [.inr (some 0), .inl x1] shM I (some (.inl (F_Mo_isSign x1 I))) I := by
  refine gb_Ct.of (lv := [(0, .inr (some 0)), (1, .inl x1)]) rfl (Nat.le_of_ble_eq_true rfl) rfl ?_
  generalize h : F_Mo_isSign x1 I = rz
  unfold F_Mo_isSign at h
  show gb_Go l yMo_isSign (d0 + 0) 0 0 0 [(0, .inr (some 0)), (1, .inl x1)] [] shM I (gb_po shM (some (.inl rz)) I)
  refine go_aload_n (k := 0) d_Mo_isSign_0 rfl rfl ?_
  refine go_geti (ci := 10) (k := 16) d_Mo_isSign_1 a_M_0 rfl (by decide) f_Mo_187 rfl ?_
  refine go_iconst (v := 4) d_Mo_isSign_4 (by decide) ?_
  refine go_cmp_ne (tgt := 20) d_Mo_isSign_5 (by decide) (fun hc => ?_) (fun hc => ?_)
  · rw [if_neg hc] at h
    refine go_iconst (v := 0) d_Mo_isSign_20 (by decide) ?_
    subst h
    exact go_zreturn d_Mo_isSign_21 rfl (Or.inl rfl) gb_po_i
  · rw [if_pos hc] at h
    refine go_aload_n (k := 0) d_Mo_isSign_8 rfl rfl ?_
    refine go_geti (ci := 10) (k := 17) d_Mo_isSign_9 a_M_0 rfl (by decide) f_Mo_190 rfl ?_
    refine go_iload_n (k := 1) d_Mo_isSign_12 rfl rfl ?_
    refine go_cmp_ne (tgt := 20) d_Mo_isSign_13 (by decide) (fun hc => ?_) (fun hc => ?_)
    · rw [if_neg hc] at h
      refine go_iconst (v := 0) d_Mo_isSign_20 (by decide) ?_
      subst h
      exact go_zreturn d_Mo_isSign_21 rfl (Or.inl rfl) gb_po_i
    · rw [if_pos hc] at h
      refine go_iconst (v := 1) d_Mo_isSign_16 (by decide) ?_
      refine go_goto (tgt := 21) d_Mo_isSign_17 (by decide) ?_
      subst h
      exact go_zreturn d_Mo_isSign_21 rfl (Or.inr rfl) gb_po_i
theorem zb_Mo_isSign (x1 : Int32) (I : gb_Mem) : F_Mo_isSign x1 I = 0 ∨ F_Mo_isSign x1 I = 1 := by
  unfold F_Mo_isSign
  repeat' split
  all_goals first | exact Or.inl rfl | exact Or.inr rfl
theorem d_Mo_isWord_0 : decode yMo_isWord.2.1 0 = .ok (.aload_n 0, 1) := by decide +kernel
theorem d_Mo_isWord_1 : decode yMo_isWord.2.1 1 = .ok (.getfield 187, 3) := by decide +kernel
theorem d_Mo_isWord_4 : decode yMo_isWord.2.1 4 = .ok (.iconst 2, 1) := by decide +kernel
theorem d_Mo_isWord_5 : decode yMo_isWord.2.1 5 = .ok (.if_icmp .ne 15, 3) := by decide +kernel
theorem d_Mo_isWord_8 : decode yMo_isWord.2.1 8 = .ok (.aload_n 0, 1) := by decide +kernel
theorem d_Mo_isWord_9 : decode yMo_isWord.2.1 9 = .ok (.getfield 190, 3) := by decide +kernel
theorem d_Mo_isWord_12 : decode yMo_isWord.2.1 12 = .ok (.iload_n 1, 1) := by decide +kernel
theorem d_Mo_isWord_13 : decode yMo_isWord.2.1 13 = .ok (.if_icmp .ne 7, 3) := by decide +kernel
theorem d_Mo_isWord_16 : decode yMo_isWord.2.1 16 = .ok (.iconst 1, 1) := by decide +kernel
theorem d_Mo_isWord_17 : decode yMo_isWord.2.1 17 = .ok (.goto 4, 3) := by decide +kernel
theorem d_Mo_isWord_20 : decode yMo_isWord.2.1 20 = .ok (.iconst 0, 1) := by decide +kernel
theorem d_Mo_isWord_21 : decode yMo_isWord.2.1 21 = .ok (.ireturn, 1) := by decide +kernel
def F_Mo_isWord (x1 : Int32) (I : gb_Mem) : Int32 :=
  if (I 0 16) = 2 then
    if (I 0 17) = x1 then
      1
    else
      0
  else
    0
set_option maxRecDepth 4000 in
theorem c_Mo_isWord (l : Launch) (d0 : Nat) (x1 : Int32) (I : gb_Mem)  : gb_Cs l yMo_isWord (d0 + 0) [.inr (some 0), .inl x1] shM I (some (.inl (F_Mo_isWord x1 I))) I := by
  refine gb_Ct.of (lv := [(0, .inr (some 0)), (1, .inl x1)]) rfl (Nat.le_of_ble_eq_true rfl) rfl ?_
  generalize h : F_Mo_isWord x1 I = rz
  unfold F_Mo_isWord at h
  show gb_Go l yMo_isWord (d0 + 0) 0 0 0 [(0, .inr (some 0)), (1, .inl x1)] [] shM I (gb_po shM (some (.inl rz)) I)
  refine go_aload_n (k := 0) d_Mo_isWord_0 rfl rfl ?_
  refine go_geti (ci := 10) (k := 16) d_Mo_isWord_1 a_M_0 rfl (by decide) f_Mo_187 rfl ?_
  refine go_iconst (v := 2) d_Mo_isWord_4 (by decide) ?_
  refine go_cmp_ne (tgt := 20) d_Mo_isWord_5 (by decide) (fun hc => ?_) (fun hc => ?_)
  · rw [if_neg hc] at h
    refine go_iconst (v := 0) d_Mo_isWord_20 (by decide) ?_
    subst h
    exact go_zreturn d_Mo_isWord_21 rfl (Or.inl rfl) gb_po_i
  · rw [if_pos hc] at h
    refine go_aload_n (k := 0) d_Mo_isWord_8 rfl rfl ?_
    refine go_geti (ci := 10) (k := 17) d_Mo_isWord_9 a_M_0 rfl (by decide) f_Mo_190 rfl ?_
    refine go_iload_n (k := 1) d_Mo_isWord_12 rfl rfl ?_
    refine go_cmp_ne (tgt := 20) d_Mo_isWord_13 (by decide) (fun hc => ?_) (fun hc => ?_)
    · rw [if_neg hc] at h
      refine go_iconst (v := 0) d_Mo_isWord_20 (by decide) ?_
      subst h
      exact go_zreturn d_Mo_isWord_21 rfl (Or.inl rfl) gb_po_i
    · rw [if_pos hc] at h
      refine go_iconst (v := 1) d_Mo_isWord_16 (by decide) ?_
      refine go_goto (tgt := 21) d_Mo_isWord_17 (by decide) ?_
      subst h
      exact go_zreturn d_Mo_isWord_21 rfl (Or.inr rfl) gb_po_i
theorem zb_Mo_isWord (x1 : Int32) (I : gb_Mem) : F_Mo_isWord x1 I = 0 ∨ F_Mo_isWord x1 I = 1 := by
  unfold F_Mo_isWord
  repeat' split
  all_goals first | exact Or.inl rfl | exact Or.inr rfl
theorem d_Mo_keeps_0 : decode yMo_keeps.2.1 0 = .ok (.aload_n 0, 1) := by decide +kernel
theorem d_Mo_keeps_1 : decode yMo_keeps.2.1 1 = .ok (.aload_n 0, 1) := by decide +kernel
theorem d_Mo_keeps_2 : decode yMo_keeps.2.1 2 = .ok (.getfield 490, 3) := by decide +kernel
theorem d_Mo_keeps_5 : decode yMo_keeps.2.1 5 = .ok (.iconst 1, 1) := by decide +kernel
theorem d_Mo_keeps_6 : decode yMo_keeps.2.1 6 = .ok (.iadd, 1) := by decide +kernel
theorem d_Mo_keeps_7 : decode yMo_keeps.2.1 7 = .ok (.putfield 490, 3) := by decide +kernel
theorem d_Mo_keeps_10 : decode yMo_keeps.2.1 10 = .ok (.aload_n 0, 1) := by decide +kernel
theorem d_Mo_keeps_11 : decode yMo_keeps.2.1 11 = .ok (.getfield 493, 3) := by decide +kernel
theorem d_Mo_keeps_14 : decode yMo_keeps.2.1 14 = .ok (.ifCond .ne 15, 3) := by decide +kernel
theorem d_Mo_keeps_17 : decode yMo_keeps.2.1 17 = .ok (.aload_n 0, 1) := by decide +kernel
theorem d_Mo_keeps_18 : decode yMo_keeps.2.1 18 = .ok (.getfield 134, 3) := by decide +kernel
theorem d_Mo_keeps_21 : decode yMo_keeps.2.1 21 = .ok (.aload_n 0, 1) := by decide +kernel
theorem d_Mo_keeps_22 : decode yMo_keeps.2.1 22 = .ok (.getfield 490, 3) := by decide +kernel
theorem d_Mo_keeps_25 : decode yMo_keeps.2.1 25 = .ok (.iconst 1, 1) := by decide +kernel
theorem d_Mo_keeps_26 : decode yMo_keeps.2.1 26 = .ok (.isub, 1) := by decide +kernel
theorem d_Mo_keeps_27 : decode yMo_keeps.2.1 27 = .ok (.iaload, 1) := by decide +kernel
theorem d_Mo_keeps_28 : decode yMo_keeps.2.1 28 = .ok (.ireturn, 1) := by decide +kernel
theorem d_Mo_keeps_29 : decode yMo_keeps.2.1 29 = .ok (.aload_n 0, 1) := by decide +kernel
theorem d_Mo_keeps_30 : decode yMo_keeps.2.1 30 = .ok (.getfield 134, 3) := by decide +kernel
theorem d_Mo_keeps_33 : decode yMo_keeps.2.1 33 = .ok (.aload_n 0, 1) := by decide +kernel
theorem d_Mo_keeps_34 : decode yMo_keeps.2.1 34 = .ok (.getfield 490, 3) := by decide +kernel
theorem d_Mo_keeps_37 : decode yMo_keeps.2.1 37 = .ok (.iconst 1, 1) := by decide +kernel
theorem d_Mo_keeps_38 : decode yMo_keeps.2.1 38 = .ok (.isub, 1) := by decide +kernel
theorem d_Mo_keeps_39 : decode yMo_keeps.2.1 39 = .ok (.iload_n 1, 1) := by decide +kernel
theorem d_Mo_keeps_40 : decode yMo_keeps.2.1 40 = .ok (.iastore, 1) := by decide +kernel
theorem d_Mo_keeps_41 : decode yMo_keeps.2.1 41 = .ok (.iload_n 1, 1) := by decide +kernel
theorem d_Mo_keeps_42 : decode yMo_keeps.2.1 42 = .ok (.ireturn, 1) := by decide +kernel
def F_Mo_keeps (x1 : Int32) (I : gb_Mem) : Option (Int32 × gb_Mem) :=
  fstf I 0 69 ((I 0 69) + 1) fun I1 =>
  if (I1 0 67) = 0 then
    flod I1 41 2300 ((I1 0 69) - 1) fun v3 =>
    some (v3, I1)
  else
    fsto I1 41 2300 ((I1 0 69) - 1) x1 fun I2 =>
    some (x1, I2)
set_option maxRecDepth 4000 in
theorem c_Mo_keeps (l : Launch) (d0 : Nat) (x1 : Int32) (I : gb_Mem) {rz : Int32} {Iz : gb_Mem} (h : F_Mo_keeps x1 I = some (rz, Iz)) : gb_Cs l yMo_keeps (d0 + 0) [.inr (some 0), .inl x1] shM I (some (.inl rz)) Iz := by
  refine gb_Ct.of (lv := [(0, .inr (some 0)), (1, .inl x1)]) rfl (Nat.le_of_ble_eq_true rfl) rfl ?_
  unfold F_Mo_keeps at h
  show gb_Go l yMo_keeps (d0 + 0) 0 0 0 [(0, .inr (some 0)), (1, .inl x1)] [] shM I (gb_po shM (some (.inl rz)) Iz)
  refine go_aload_n (k := 0) d_Mo_keeps_0 rfl rfl ?_
  refine go_aload_n (k := 0) d_Mo_keeps_1 rfl rfl ?_
  refine go_geti (ci := 10) (k := 69) d_Mo_keeps_2 a_M_0 rfl (by decide) f_Mo_490 rfl ?_
  refine go_iconst (v := 1) d_Mo_keeps_5 (by decide) ?_
  refine go_iadd d_Mo_keeps_6 ?_
  obtain ⟨I1, eI1, h⟩ := fstf_e h
  refine go_putT (ci := 10) (k := 69) (I' := I1) d_Mo_keeps_7 a_M_0 rfl (by decide) f_Mo_490 rfl rfl rfl rfl rfl eI1 ?_
  refine go_aload_n (k := 0) d_Mo_keeps_10 rfl rfl ?_
  refine go_geti (ci := 10) (k := 67) d_Mo_keeps_11 a_M_0 rfl (by decide) f_Mo_493 rfl ?_
  refine go_if_ne (tgt := 29) d_Mo_keeps_14 (by decide) (fun hc => ?_) (fun hc => ?_)
  · rw [if_neg hc] at h
    refine go_aload_n (k := 0) d_Mo_keeps_29 rfl rfl ?_
    refine go_getr (ci := 10) (k := 70) (r := 41) d_Mo_keeps_30 a_M_0 rfl (by decide) f_Mo_134 rfl ?_
    refine go_aload_n (k := 0) d_Mo_keeps_33 rfl rfl ?_
    refine go_geti (ci := 10) (k := 69) d_Mo_keeps_34 a_M_0 rfl (by decide) f_Mo_490 rfl ?_
    refine go_iconst (v := 1) d_Mo_keeps_37 (by decide) ?_
    refine go_isub d_Mo_keeps_38 ?_
    refine go_iload_n (k := 1) d_Mo_keeps_39 rfl rfl ?_
    obtain ⟨hi, I2, eI2, h⟩ := fsto_e h
    refine go_iast (I' := I2) d_Mo_keeps_40 a_M_41 hi eI2 ?_
    refine go_iload_n (k := 1) d_Mo_keeps_41 rfl rfl ?_
    cases h
    exact go_ireturn d_Mo_keeps_42 rfl gb_po_i
  · rw [if_pos hc] at h
    refine go_aload_n (k := 0) d_Mo_keeps_17 rfl rfl ?_
    refine go_getr (ci := 10) (k := 70) (r := 41) d_Mo_keeps_18 a_M_0 rfl (by decide) f_Mo_134 rfl ?_
    refine go_aload_n (k := 0) d_Mo_keeps_21 rfl rfl ?_
    refine go_geti (ci := 10) (k := 69) d_Mo_keeps_22 a_M_0 rfl (by decide) f_Mo_490 rfl ?_
    refine go_iconst (v := 1) d_Mo_keeps_25 (by decide) ?_
    refine go_isub d_Mo_keeps_26 ?_
    obtain ⟨hi, v3, ev3, h⟩ := flod_e h
    refine go_iald2 d_Mo_keeps_27 a_M_41 hi ev3 ?_
    cases h
    exact go_ireturn d_Mo_keeps_28 rfl gb_po_i
theorem d_Mo_keepsAhead_0 : decode yMo_keepsAhead.2.1 0 = .ok (.aload_n 0, 1) := by decide +kernel
theorem d_Mo_keepsAhead_1 : decode yMo_keepsAhead.2.1 1 = .ok (.getfield 141, 3) := by decide +kernel
theorem d_Mo_keepsAhead_4 : decode yMo_keepsAhead.2.1 4 = .ok (.bipush 6, 2) := by decide +kernel
theorem d_Mo_keepsAhead_6 : decode yMo_keepsAhead.2.1 6 = .ok (.if_icmp .ne 47, 3) := by decide +kernel
theorem d_Mo_keepsAhead_9 : decode yMo_keepsAhead.2.1 9 = .ok (.aload_n 0, 1) := by decide +kernel
theorem d_Mo_keepsAhead_10 : decode yMo_keepsAhead.2.1 10 = .ok (.aload_n 0, 1) := by decide +kernel
theorem d_Mo_keepsAhead_11 : decode yMo_keepsAhead.2.1 11 = .ok (.getfield 141, 3) := by decide +kernel
theorem d_Mo_keepsAhead_14 : decode yMo_keepsAhead.2.1 14 = .ok (.iconst 1, 1) := by decide +kernel
theorem d_Mo_keepsAhead_15 : decode yMo_keepsAhead.2.1 15 = .ok (.isub, 1) := by decide +kernel
theorem d_Mo_keepsAhead_16 : decode yMo_keepsAhead.2.1 16 = .ok (.putfield 141, 3) := by decide +kernel
theorem d_Mo_keepsAhead_19 : decode yMo_keepsAhead.2.1 19 = .ok (.iconst 0, 1) := by decide +kernel
theorem d_Mo_keepsAhead_20 : decode yMo_keepsAhead.2.1 20 = .ok (.istore_n 1, 1) := by decide +kernel
theorem d_Mo_keepsAhead_21 : decode yMo_keepsAhead.2.1 21 = .ok (.iload_n 1, 1) := by decide +kernel
theorem d_Mo_keepsAhead_22 : decode yMo_keepsAhead.2.1 22 = .ok (.bipush 80, 2) := by decide +kernel
theorem d_Mo_keepsAhead_24 : decode yMo_keepsAhead.2.1 24 = .ok (.aload_n 0, 1) := by decide +kernel
theorem d_Mo_keepsAhead_25 : decode yMo_keepsAhead.2.1 25 = .ok (.getfield 141, 3) := by decide +kernel
theorem d_Mo_keepsAhead_28 : decode yMo_keepsAhead.2.1 28 = .ok (.imul, 1) := by decide +kernel
theorem d_Mo_keepsAhead_29 : decode yMo_keepsAhead.2.1 29 = .ok (.if_icmp .ge 24, 3) := by decide +kernel
theorem d_Mo_keepsAhead_32 : decode yMo_keepsAhead.2.1 32 = .ok (.aload_n 0, 1) := by decide +kernel
theorem d_Mo_keepsAhead_33 : decode yMo_keepsAhead.2.1 33 = .ok (.getfield 13, 3) := by decide +kernel
theorem d_Mo_keepsAhead_36 : decode yMo_keepsAhead.2.1 36 = .ok (.iload_n 1, 1) := by decide +kernel
theorem d_Mo_keepsAhead_37 : decode yMo_keepsAhead.2.1 37 = .ok (.aload_n 0, 1) := by decide +kernel
theorem d_Mo_keepsAhead_38 : decode yMo_keepsAhead.2.1 38 = .ok (.getfield 13, 3) := by decide +kernel
theorem d_Mo_keepsAhead_41 : decode yMo_keepsAhead.2.1 41 = .ok (.iload_n 1, 1) := by decide +kernel
theorem d_Mo_keepsAhead_42 : decode yMo_keepsAhead.2.1 42 = .ok (.bipush 80, 2) := by decide +kernel
theorem d_Mo_keepsAhead_44 : decode yMo_keepsAhead.2.1 44 = .ok (.iadd, 1) := by decide +kernel
theorem d_Mo_keepsAhead_45 : decode yMo_keepsAhead.2.1 45 = .ok (.iaload, 1) := by decide +kernel
theorem d_Mo_keepsAhead_46 : decode yMo_keepsAhead.2.1 46 = .ok (.iastore, 1) := by decide +kernel
theorem d_Mo_keepsAhead_47 : decode yMo_keepsAhead.2.1 47 = .ok (.iinc 1 1, 3) := by decide +kernel
theorem d_Mo_keepsAhead_50 : decode yMo_keepsAhead.2.1 50 = .ok (.goto (-29), 3) := by decide +kernel
theorem d_Mo_keepsAhead_53 : decode yMo_keepsAhead.2.1 53 = .ok (.iconst 0, 1) := by decide +kernel
theorem d_Mo_keepsAhead_54 : decode yMo_keepsAhead.2.1 54 = .ok (.istore_n 1, 1) := by decide +kernel
theorem d_Mo_keepsAhead_55 : decode yMo_keepsAhead.2.1 55 = .ok (.iload_n 1, 1) := by decide +kernel
theorem d_Mo_keepsAhead_56 : decode yMo_keepsAhead.2.1 56 = .ok (.bipush 80, 2) := by decide +kernel
theorem d_Mo_keepsAhead_58 : decode yMo_keepsAhead.2.1 58 = .ok (.if_icmp .ge 29, 3) := by decide +kernel
theorem d_Mo_keepsAhead_61 : decode yMo_keepsAhead.2.1 61 = .ok (.aload_n 0, 1) := by decide +kernel
theorem d_Mo_keepsAhead_62 : decode yMo_keepsAhead.2.1 62 = .ok (.getfield 13, 3) := by decide +kernel
theorem d_Mo_keepsAhead_65 : decode yMo_keepsAhead.2.1 65 = .ok (.bipush 80, 2) := by decide +kernel
theorem d_Mo_keepsAhead_67 : decode yMo_keepsAhead.2.1 67 = .ok (.aload_n 0, 1) := by decide +kernel
theorem d_Mo_keepsAhead_68 : decode yMo_keepsAhead.2.1 68 = .ok (.getfield 141, 3) := by decide +kernel
theorem d_Mo_keepsAhead_71 : decode yMo_keepsAhead.2.1 71 = .ok (.imul, 1) := by decide +kernel
theorem d_Mo_keepsAhead_72 : decode yMo_keepsAhead.2.1 72 = .ok (.iload_n 1, 1) := by decide +kernel
theorem d_Mo_keepsAhead_73 : decode yMo_keepsAhead.2.1 73 = .ok (.iadd, 1) := by decide +kernel
theorem d_Mo_keepsAhead_74 : decode yMo_keepsAhead.2.1 74 = .ok (.aload_n 0, 1) := by decide +kernel
theorem d_Mo_keepsAhead_75 : decode yMo_keepsAhead.2.1 75 = .ok (.getfield 7, 3) := by decide +kernel
theorem d_Mo_keepsAhead_78 : decode yMo_keepsAhead.2.1 78 = .ok (.iload_n 1, 1) := by decide +kernel
theorem d_Mo_keepsAhead_79 : decode yMo_keepsAhead.2.1 79 = .ok (.iaload, 1) := by decide +kernel
theorem d_Mo_keepsAhead_80 : decode yMo_keepsAhead.2.1 80 = .ok (.iastore, 1) := by decide +kernel
theorem d_Mo_keepsAhead_81 : decode yMo_keepsAhead.2.1 81 = .ok (.iinc 1 1, 3) := by decide +kernel
theorem d_Mo_keepsAhead_84 : decode yMo_keepsAhead.2.1 84 = .ok (.goto (-29), 3) := by decide +kernel
theorem d_Mo_keepsAhead_87 : decode yMo_keepsAhead.2.1 87 = .ok (.aload_n 0, 1) := by decide +kernel
theorem d_Mo_keepsAhead_88 : decode yMo_keepsAhead.2.1 88 = .ok (.aload_n 0, 1) := by decide +kernel
theorem d_Mo_keepsAhead_89 : decode yMo_keepsAhead.2.1 89 = .ok (.getfield 141, 3) := by decide +kernel
theorem d_Mo_keepsAhead_92 : decode yMo_keepsAhead.2.1 92 = .ok (.iconst 1, 1) := by decide +kernel
theorem d_Mo_keepsAhead_93 : decode yMo_keepsAhead.2.1 93 = .ok (.iadd, 1) := by decide +kernel
theorem d_Mo_keepsAhead_94 : decode yMo_keepsAhead.2.1 94 = .ok (.putfield 141, 3) := by decide +kernel
theorem d_Mo_keepsAhead_97 : decode yMo_keepsAhead.2.1 97 = .ok (.return_, 1) := by decide +kernel
def L_Mo_keepsAhead_55 : Nat → Int32 → gb_Mem → Option (gb_Mem)
  | 0, _, _ => none
  | n + 1, x1, I =>
    if 80 ≤ x1 then
      some I
    else
      flod I 1 80 x1 fun v1 =>
      fsto I 2 480 ((80 * (I 0 3)) + x1) v1 fun I2 =>
      L_Mo_keepsAhead_55 n (x1 + 1) I2
set_option maxRecDepth 4000 in
theorem l_Mo_keepsAhead_55 (l : Launch) (d0 : Nat) {post : Option gb_AV → List gb_Ce → gb_Mem → Prop} : ∀ (n : Nat) (x1 : Int32) (I : gb_Mem) {ρ : gb_Mem} (h : L_Mo_keepsAhead_55 n x1 I = some ρ) (hX : ∀ (I2 : gb_Mem), ρ = I2 → gb_Go l yMo_keepsAhead (d0 + 0) 0 0 87 [(0, .inr (some 0))] [] shM I2 post) , gb_Go l yMo_keepsAhead (d0 + 0) 0 0 55 [(0, .inr (some 0)), (1, .inl x1)] [] shM I post := by
  intro n
  induction n with
  | zero => intro x1 I ρ h hX; cases h
  | succ n ih =>
    intro x1 I ρ h hX
    rw [L_Mo_keepsAhead_55] at h
    refine go_iload_n (k := 1) d_Mo_keepsAhead_55 rfl rfl ?_
    refine go_bipush (v := 80) d_Mo_keepsAhead_56 (by decide) ?_
    refine go_cmp_ge (tgt := 87) d_Mo_keepsAhead_58 (by decide) (fun hc => ?_) (fun hc => ?_)
    · rw [if_pos hc] at h
      exact go_lv [0] rfl (hX _ (Option.some.inj h).symm)
    · rw [if_neg hc] at h
      refine go_aload_n (k := 0) d_Mo_keepsAhead_61 rfl rfl ?_
      refine go_getr (ci := 10) (k := 2) (r := 2) d_Mo_keepsAhead_62 a_M_0 rfl (by decide) f_Mo_13 rfl ?_
      refine go_bipush (v := 80) d_Mo_keepsAhead_65 (by decide) ?_
      refine go_aload_n (k := 0) d_Mo_keepsAhead_67 rfl rfl ?_
      refine go_geti (ci := 10) (k := 3) d_Mo_keepsAhead_68 a_M_0 rfl (by decide) f_Mo_141 rfl ?_
      refine go_imul d_Mo_keepsAhead_71 ?_
      refine go_iload_n (k := 1) d_Mo_keepsAhead_72 rfl rfl ?_
      refine go_iadd d_Mo_keepsAhead_73 ?_
      refine go_aload_n (k := 0) d_Mo_keepsAhead_74 rfl rfl ?_
      refine go_getr (ci := 10) (k := 1) (r := 1) d_Mo_keepsAhead_75 a_M_0 rfl (by decide) f_Mo_7 rfl ?_
      refine go_iload_n (k := 1) d_Mo_keepsAhead_78 rfl rfl ?_
      obtain ⟨hi, v1, ev1, h⟩ := flod_e h
      refine go_iald2 d_Mo_keepsAhead_79 a_M_1 hi ev1 ?_
      obtain ⟨hi, I2, eI2, h⟩ := fsto_e h
      refine go_iast (I' := I2) d_Mo_keepsAhead_80 a_M_2 hi eI2 ?_
      refine go_iinc (k := 1) (v := x1 + 1) (lv' := [(1, .inl (x1 + 1)), (0, .inr (some 0))]) d_Mo_keepsAhead_81 rfl rfl (by decide) rfl ?_
      refine go_goto (tgt := 55) d_Mo_keepsAhead_84 (by decide) ?_
      exact go_lv [1, 0] rfl (ih (x1 + 1) I2 h hX)
def J_Mo_keepsAhead_53 (I : gb_Mem) : Option (gb_Mem) :=
  fbd (L_Mo_keepsAhead_55 5000 0 I) fun I3 =>
  fstf I3 0 3 ((I3 0 3) + 1) fun I4 =>
  some I4
set_option maxRecDepth 4000 in
theorem j_Mo_keepsAhead_53 (l : Launch) (d0 : Nat) (I : gb_Mem) {Iz : gb_Mem} (h : J_Mo_keepsAhead_53 I = some Iz) : gb_Go l yMo_keepsAhead (d0 + 0) 0 0 53 [(0, .inr (some 0))] [] shM I (gb_po shM none Iz) := by
  unfold J_Mo_keepsAhead_53 at h
  refine go_iconst (v := 0) d_Mo_keepsAhead_53 (by decide) ?_
  refine go_istore_n (lv' := [(1, .inl 0), (0, .inr (some 0))]) d_Mo_keepsAhead_54 rfl (by decide) rfl ?_
  refine go_lv [1, 0] (lv' := [(0, .inr (some 0)), (1, .inl 0)]) rfl ?_
  obtain ⟨I3, w1, h⟩ := fbd_e h
  refine l_Mo_keepsAhead_55 l d0  5000 0 I w1 (fun I3_ e => ?_)
  cases e
  refine go_aload_n (k := 0) d_Mo_keepsAhead_87 rfl rfl ?_
  refine go_aload_n (k := 0) d_Mo_keepsAhead_88 rfl rfl ?_
  refine go_geti (ci := 10) (k := 3) d_Mo_keepsAhead_89 a_M_0 rfl (by decide) f_Mo_141 rfl ?_
  refine go_iconst (v := 1) d_Mo_keepsAhead_92 (by decide) ?_
  refine go_iadd d_Mo_keepsAhead_93 ?_
  obtain ⟨I4, eI4, h⟩ := fstf_e h
  refine go_putT (ci := 10) (k := 3) (I' := I4) d_Mo_keepsAhead_94 a_M_0 rfl (by decide) f_Mo_141 rfl rfl rfl rfl rfl eI4 ?_
  cases h
  exact go_return d_Mo_keepsAhead_97 rfl gb_po_i
def L_Mo_keepsAhead_21 : Nat → Int32 → gb_Mem → Option (gb_Mem)
  | 0, _, _ => none
  | n + 1, x1, I =>
    if (80 * (I 0 3)) ≤ x1 then
      some I
    else
      flod I 2 480 (x1 + 80) fun v6 =>
      fsto I 2 480 x1 v6 fun I7 =>
      L_Mo_keepsAhead_21 n (x1 + 1) I7
set_option maxRecDepth 4000 in
theorem l_Mo_keepsAhead_21 (l : Launch) (d0 : Nat) {post : Option gb_AV → List gb_Ce → gb_Mem → Prop} : ∀ (n : Nat) (x1 : Int32) (I : gb_Mem) {ρ : gb_Mem} (h : L_Mo_keepsAhead_21 n x1 I = some ρ) (hX : ∀ (I2 : gb_Mem), ρ = I2 → gb_Go l yMo_keepsAhead (d0 + 0) 0 0 53 [(0, .inr (some 0))] [] shM I2 post) , gb_Go l yMo_keepsAhead (d0 + 0) 0 0 21 [(0, .inr (some 0)), (1, .inl x1)] [] shM I post := by
  intro n
  induction n with
  | zero => intro x1 I ρ h hX; cases h
  | succ n ih =>
    intro x1 I ρ h hX
    rw [L_Mo_keepsAhead_21] at h
    refine go_iload_n (k := 1) d_Mo_keepsAhead_21 rfl rfl ?_
    refine go_bipush (v := 80) d_Mo_keepsAhead_22 (by decide) ?_
    refine go_aload_n (k := 0) d_Mo_keepsAhead_24 rfl rfl ?_
    refine go_geti (ci := 10) (k := 3) d_Mo_keepsAhead_25 a_M_0 rfl (by decide) f_Mo_141 rfl ?_
    refine go_imul d_Mo_keepsAhead_28 ?_
    refine go_cmp_ge (tgt := 53) d_Mo_keepsAhead_29 (by decide) (fun hc => ?_) (fun hc => ?_)
    · rw [if_pos hc] at h
      exact go_lv [0] rfl (hX _ (Option.some.inj h).symm)
    · rw [if_neg hc] at h
      refine go_aload_n (k := 0) d_Mo_keepsAhead_32 rfl rfl ?_
      refine go_getr (ci := 10) (k := 2) (r := 2) d_Mo_keepsAhead_33 a_M_0 rfl (by decide) f_Mo_13 rfl ?_
      refine go_iload_n (k := 1) d_Mo_keepsAhead_36 rfl rfl ?_
      refine go_aload_n (k := 0) d_Mo_keepsAhead_37 rfl rfl ?_
      refine go_getr (ci := 10) (k := 2) (r := 2) d_Mo_keepsAhead_38 a_M_0 rfl (by decide) f_Mo_13 rfl ?_
      refine go_iload_n (k := 1) d_Mo_keepsAhead_41 rfl rfl ?_
      refine go_bipush (v := 80) d_Mo_keepsAhead_42 (by decide) ?_
      refine go_iadd d_Mo_keepsAhead_44 ?_
      obtain ⟨hi, v6, ev6, h⟩ := flod_e h
      refine go_iald2 d_Mo_keepsAhead_45 a_M_2 hi ev6 ?_
      obtain ⟨hi, I7, eI7, h⟩ := fsto_e h
      refine go_iast (I' := I7) d_Mo_keepsAhead_46 a_M_2 hi eI7 ?_
      refine go_iinc (k := 1) (v := x1 + 1) (lv' := [(1, .inl (x1 + 1)), (0, .inr (some 0))]) d_Mo_keepsAhead_47 rfl rfl (by decide) rfl ?_
      refine go_goto (tgt := 21) d_Mo_keepsAhead_50 (by decide) ?_
      exact go_lv [1, 0] rfl (ih (x1 + 1) I7 h hX)
def F_Mo_keepsAhead (I : gb_Mem) : Option (gb_Mem) :=
  if (I 0 3) = 6 then
    fstf I 0 3 ((I 0 3) - 1) fun I5 =>
    fbd (L_Mo_keepsAhead_21 5000 0 I5) fun I8 =>
    J_Mo_keepsAhead_53 I8
  else
    J_Mo_keepsAhead_53 I
set_option maxRecDepth 4000 in
theorem c_Mo_keepsAhead (l : Launch) (d0 : Nat) (I : gb_Mem) {Iz : gb_Mem} (h : F_Mo_keepsAhead I = some Iz) : gb_Cs l yMo_keepsAhead (d0 + 0) [.inr (some 0)] shM I none Iz := by
  refine gb_Ct.of (lv := [(0, .inr (some 0))]) rfl (Nat.le_of_ble_eq_true rfl) rfl ?_
  unfold F_Mo_keepsAhead at h
  show gb_Go l yMo_keepsAhead (d0 + 0) 0 0 0 [(0, .inr (some 0))] [] shM I (gb_po shM none Iz)
  refine go_aload_n (k := 0) d_Mo_keepsAhead_0 rfl rfl ?_
  refine go_geti (ci := 10) (k := 3) d_Mo_keepsAhead_1 a_M_0 rfl (by decide) f_Mo_141 rfl ?_
  refine go_bipush (v := 6) d_Mo_keepsAhead_4 (by decide) ?_
  refine go_cmp_ne (tgt := 53) d_Mo_keepsAhead_6 (by decide) (fun hc => ?_) (fun hc => ?_)
  · rw [if_neg hc] at h
    exact go_lv [0] rfl (j_Mo_keepsAhead_53 l d0 I h)
  · rw [if_pos hc] at h
    refine go_aload_n (k := 0) d_Mo_keepsAhead_9 rfl rfl ?_
    refine go_aload_n (k := 0) d_Mo_keepsAhead_10 rfl rfl ?_
    refine go_geti (ci := 10) (k := 3) d_Mo_keepsAhead_11 a_M_0 rfl (by decide) f_Mo_141 rfl ?_
    refine go_iconst (v := 1) d_Mo_keepsAhead_14 (by decide) ?_
    refine go_isub d_Mo_keepsAhead_15 ?_
    obtain ⟨I5, eI5, h⟩ := fstf_e h
    refine go_putT (ci := 10) (k := 3) (I' := I5) d_Mo_keepsAhead_16 a_M_0 rfl (by decide) f_Mo_141 rfl rfl rfl rfl rfl eI5 ?_
    refine go_iconst (v := 0) d_Mo_keepsAhead_19 (by decide) ?_
    refine go_istore_n (lv' := [(1, .inl 0), (0, .inr (some 0))]) d_Mo_keepsAhead_20 rfl (by decide) rfl ?_
    refine go_lv [1, 0] (lv' := [(0, .inr (some 0)), (1, .inl 0)]) rfl ?_
    obtain ⟨I8, w1, h⟩ := fbd_e h
    refine l_Mo_keepsAhead_21 l d0  5000 0 I5 w1 (fun I8_ e => ?_)
    cases e
    exact go_lv [0] rfl (j_Mo_keepsAhead_53 l d0 I8 h)
theorem d_Mo_lesser_0 : decode yMo_lesser.2.1 0 = .ok (.iload_n 1, 1) := by decide +kernel
theorem d_Mo_lesser_1 : decode yMo_lesser.2.1 1 = .ok (.iload_n 2, 1) := by decide +kernel
theorem d_Mo_lesser_2 : decode yMo_lesser.2.1 2 = .ok (.if_icmp .ge 7, 3) := by decide +kernel
theorem d_Mo_lesser_5 : decode yMo_lesser.2.1 5 = .ok (.iload_n 1, 1) := by decide +kernel
theorem d_Mo_lesser_6 : decode yMo_lesser.2.1 6 = .ok (.goto 4, 3) := by decide +kernel
theorem d_Mo_lesser_9 : decode yMo_lesser.2.1 9 = .ok (.iload_n 2, 1) := by decide +kernel
theorem d_Mo_lesser_10 : decode yMo_lesser.2.1 10 = .ok (.ireturn, 1) := by decide +kernel
def F_Mo_lesser (x1 x2 : Int32) (I : gb_Mem) : Int32 :=
  if x2 ≤ x1 then
    x2
  else
    x1
set_option maxRecDepth 4000 in
theorem c_Mo_lesser (l : Launch) (d0 : Nat) (x1 x2 : Int32) (I : gb_Mem)  : gb_Cs l yMo_lesser (d0 + 0) [.inr (some 0), .inl x1, .inl x2] shM I (some (.inl (F_Mo_lesser x1 x2 I))) I := by
  refine gb_Ct.of (lv := [(0, .inr (some 0)), (1, .inl x1), (2, .inl x2)]) rfl (Nat.le_of_ble_eq_true rfl) rfl ?_
  generalize h : F_Mo_lesser x1 x2 I = rz
  unfold F_Mo_lesser at h
  show gb_Go l yMo_lesser (d0 + 0) 0 0 0 [(0, .inr (some 0)), (1, .inl x1), (2, .inl x2)] [] shM I (gb_po shM (some (.inl rz)) I)
  refine go_iload_n (k := 1) d_Mo_lesser_0 rfl rfl ?_
  refine go_iload_n (k := 2) d_Mo_lesser_1 rfl rfl ?_
  refine go_cmp_ge (tgt := 9) d_Mo_lesser_2 (by decide) (fun hc => ?_) (fun hc => ?_)
  · rw [if_pos hc] at h
    refine go_iload_n (k := 2) d_Mo_lesser_9 rfl rfl ?_
    subst h
    exact go_ireturn d_Mo_lesser_10 rfl gb_po_i
  · rw [if_neg hc] at h
    refine go_iload_n (k := 1) d_Mo_lesser_5 rfl rfl ?_
    refine go_goto (tgt := 10) d_Mo_lesser_6 (by decide) ?_
    subst h
    exact go_ireturn d_Mo_lesser_10 rfl gb_po_i
theorem d_Mo_look_0 : decode yMo_look.2.1 0 = .ok (.aload_n 0, 1) := by decide +kernel
theorem d_Mo_look_1 : decode yMo_look.2.1 1 = .ok (.iconst 0, 1) := by decide +kernel
theorem d_Mo_look_2 : decode yMo_look.2.1 2 = .ok (.putfield 137, 3) := by decide +kernel
theorem d_Mo_look_5 : decode yMo_look.2.1 5 = .ok (.iload_n 1, 1) := by decide +kernel
theorem d_Mo_look_6 : decode yMo_look.2.1 6 = .ok (.ifCond .ne 8, 3) := by decide +kernel
theorem d_Mo_look_9 : decode yMo_look.2.1 9 = .ok (.aload_n 0, 1) := by decide +kernel
theorem d_Mo_look_10 : decode yMo_look.2.1 10 = .ok (.getfield 150, 3) := by decide +kernel
theorem d_Mo_look_13 : decode yMo_look.2.1 13 = .ok (.ireturn, 1) := by decide +kernel
theorem d_Mo_look_14 : decode yMo_look.2.1 14 = .ok (.iload_n 1, 1) := by decide +kernel
theorem d_Mo_look_15 : decode yMo_look.2.1 15 = .ok (.iconst 1, 1) := by decide +kernel
theorem d_Mo_look_16 : decode yMo_look.2.1 16 = .ok (.if_icmp .ne 10, 3) := by decide +kernel
theorem d_Mo_look_19 : decode yMo_look.2.1 19 = .ok (.aload_n 0, 1) := by decide +kernel
theorem d_Mo_look_20 : decode yMo_look.2.1 20 = .ok (.getfield 7, 3) := by decide +kernel
theorem d_Mo_look_23 : decode yMo_look.2.1 23 = .ok (.iconst 3, 1) := by decide +kernel
theorem d_Mo_look_24 : decode yMo_look.2.1 24 = .ok (.iaload, 1) := by decide +kernel
theorem d_Mo_look_25 : decode yMo_look.2.1 25 = .ok (.ireturn, 1) := by decide +kernel
theorem d_Mo_look_26 : decode yMo_look.2.1 26 = .ok (.iload_n 1, 1) := by decide +kernel
theorem d_Mo_look_27 : decode yMo_look.2.1 27 = .ok (.iconst 2, 1) := by decide +kernel
theorem d_Mo_look_28 : decode yMo_look.2.1 28 = .ok (.if_icmp .ne 10, 3) := by decide +kernel
theorem d_Mo_look_31 : decode yMo_look.2.1 31 = .ok (.aload_n 0, 1) := by decide +kernel
theorem d_Mo_look_32 : decode yMo_look.2.1 32 = .ok (.getfield 7, 3) := by decide +kernel
theorem d_Mo_look_35 : decode yMo_look.2.1 35 = .ok (.iconst 4, 1) := by decide +kernel
theorem d_Mo_look_36 : decode yMo_look.2.1 36 = .ok (.iaload, 1) := by decide +kernel
theorem d_Mo_look_37 : decode yMo_look.2.1 37 = .ok (.ireturn, 1) := by decide +kernel
theorem d_Mo_look_38 : decode yMo_look.2.1 38 = .ok (.iload_n 1, 1) := by decide +kernel
theorem d_Mo_look_39 : decode yMo_look.2.1 39 = .ok (.iconst 3, 1) := by decide +kernel
theorem d_Mo_look_40 : decode yMo_look.2.1 40 = .ok (.if_icmp .ne 10, 3) := by decide +kernel
theorem d_Mo_look_43 : decode yMo_look.2.1 43 = .ok (.aload_n 0, 1) := by decide +kernel
theorem d_Mo_look_44 : decode yMo_look.2.1 44 = .ok (.getfield 7, 3) := by decide +kernel
theorem d_Mo_look_47 : decode yMo_look.2.1 47 = .ok (.iconst 5, 1) := by decide +kernel
theorem d_Mo_look_48 : decode yMo_look.2.1 48 = .ok (.iaload, 1) := by decide +kernel
theorem d_Mo_look_49 : decode yMo_look.2.1 49 = .ok (.ireturn, 1) := by decide +kernel
theorem d_Mo_look_50 : decode yMo_look.2.1 50 = .ok (.iload_n 1, 1) := by decide +kernel
theorem d_Mo_look_51 : decode yMo_look.2.1 51 = .ok (.iconst 4, 1) := by decide +kernel
theorem d_Mo_look_52 : decode yMo_look.2.1 52 = .ok (.if_icmp .ne 10, 3) := by decide +kernel
theorem d_Mo_look_55 : decode yMo_look.2.1 55 = .ok (.aload_n 0, 1) := by decide +kernel
theorem d_Mo_look_56 : decode yMo_look.2.1 56 = .ok (.getfield 7, 3) := by decide +kernel
theorem d_Mo_look_59 : decode yMo_look.2.1 59 = .ok (.iconst 0, 1) := by decide +kernel
theorem d_Mo_look_60 : decode yMo_look.2.1 60 = .ok (.iaload, 1) := by decide +kernel
theorem d_Mo_look_61 : decode yMo_look.2.1 61 = .ok (.ireturn, 1) := by decide +kernel
theorem d_Mo_look_62 : decode yMo_look.2.1 62 = .ok (.iload_n 1, 1) := by decide +kernel
theorem d_Mo_look_63 : decode yMo_look.2.1 63 = .ok (.iconst 5, 1) := by decide +kernel
theorem d_Mo_look_64 : decode yMo_look.2.1 64 = .ok (.if_icmp .ne 10, 3) := by decide +kernel
theorem d_Mo_look_67 : decode yMo_look.2.1 67 = .ok (.aload_n 0, 1) := by decide +kernel
theorem d_Mo_look_68 : decode yMo_look.2.1 68 = .ok (.getfield 7, 3) := by decide +kernel
theorem d_Mo_look_71 : decode yMo_look.2.1 71 = .ok (.iconst 2, 1) := by decide +kernel
theorem d_Mo_look_72 : decode yMo_look.2.1 72 = .ok (.iaload, 1) := by decide +kernel
theorem d_Mo_look_73 : decode yMo_look.2.1 73 = .ok (.ireturn, 1) := by decide +kernel
theorem d_Mo_look_74 : decode yMo_look.2.1 74 = .ok (.iload_n 1, 1) := by decide +kernel
theorem d_Mo_look_75 : decode yMo_look.2.1 75 = .ok (.bipush 6, 2) := by decide +kernel
theorem d_Mo_look_77 : decode yMo_look.2.1 77 = .ok (.if_icmp .ne 10, 3) := by decide +kernel
theorem d_Mo_look_80 : decode yMo_look.2.1 80 = .ok (.aload_n 0, 1) := by decide +kernel
theorem d_Mo_look_81 : decode yMo_look.2.1 81 = .ok (.getfield 7, 3) := by decide +kernel
theorem d_Mo_look_84 : decode yMo_look.2.1 84 = .ok (.iconst 1, 1) := by decide +kernel
theorem d_Mo_look_85 : decode yMo_look.2.1 85 = .ok (.iaload, 1) := by decide +kernel
theorem d_Mo_look_86 : decode yMo_look.2.1 86 = .ok (.ireturn, 1) := by decide +kernel
theorem d_Mo_look_87 : decode yMo_look.2.1 87 = .ok (.iload_n 1, 1) := by decide +kernel
theorem d_Mo_look_88 : decode yMo_look.2.1 88 = .ok (.bipush 7, 2) := by decide +kernel
theorem d_Mo_look_90 : decode yMo_look.2.1 90 = .ok (.if_icmp .ne 10, 3) := by decide +kernel
theorem d_Mo_look_93 : decode yMo_look.2.1 93 = .ok (.aload_n 0, 1) := by decide +kernel
theorem d_Mo_look_94 : decode yMo_look.2.1 94 = .ok (.getfield 40, 3) := by decide +kernel
theorem d_Mo_look_97 : decode yMo_look.2.1 97 = .ok (.iconst 0, 1) := by decide +kernel
theorem d_Mo_look_98 : decode yMo_look.2.1 98 = .ok (.iaload, 1) := by decide +kernel
theorem d_Mo_look_99 : decode yMo_look.2.1 99 = .ok (.ireturn, 1) := by decide +kernel
theorem d_Mo_look_100 : decode yMo_look.2.1 100 = .ok (.iload_n 1, 1) := by decide +kernel
theorem d_Mo_look_101 : decode yMo_look.2.1 101 = .ok (.bipush 8, 2) := by decide +kernel
theorem d_Mo_look_103 : decode yMo_look.2.1 103 = .ok (.if_icmp .ne 8, 3) := by decide +kernel
theorem d_Mo_look_106 : decode yMo_look.2.1 106 = .ok (.aload_n 0, 1) := by decide +kernel
theorem d_Mo_look_107 : decode yMo_look.2.1 107 = .ok (.getfield 306, 3) := by decide +kernel
theorem d_Mo_look_110 : decode yMo_look.2.1 110 = .ok (.ireturn, 1) := by decide +kernel
theorem d_Mo_look_111 : decode yMo_look.2.1 111 = .ok (.iload_n 1, 1) := by decide +kernel
theorem d_Mo_look_112 : decode yMo_look.2.1 112 = .ok (.bipush 9, 2) := by decide +kernel
theorem d_Mo_look_114 : decode yMo_look.2.1 114 = .ok (.if_icmp .ne 8, 3) := by decide +kernel
theorem d_Mo_look_117 : decode yMo_look.2.1 117 = .ok (.aload_n 0, 1) := by decide +kernel
theorem d_Mo_look_118 : decode yMo_look.2.1 118 = .ok (.getfield 309, 3) := by decide +kernel
theorem d_Mo_look_121 : decode yMo_look.2.1 121 = .ok (.ireturn, 1) := by decide +kernel
theorem d_Mo_look_122 : decode yMo_look.2.1 122 = .ok (.iload_n 1, 1) := by decide +kernel
theorem d_Mo_look_123 : decode yMo_look.2.1 123 = .ok (.bipush 10, 2) := by decide +kernel
theorem d_Mo_look_125 : decode yMo_look.2.1 125 = .ok (.if_icmp .ne 8, 3) := by decide +kernel
theorem d_Mo_look_128 : decode yMo_look.2.1 128 = .ok (.aload_n 0, 1) := by decide +kernel
theorem d_Mo_look_129 : decode yMo_look.2.1 129 = .ok (.getfield 303, 3) := by decide +kernel
theorem d_Mo_look_132 : decode yMo_look.2.1 132 = .ok (.ireturn, 1) := by decide +kernel
theorem d_Mo_look_133 : decode yMo_look.2.1 133 = .ok (.iload_n 1, 1) := by decide +kernel
theorem d_Mo_look_134 : decode yMo_look.2.1 134 = .ok (.bipush 11, 2) := by decide +kernel
theorem d_Mo_look_136 : decode yMo_look.2.1 136 = .ok (.if_icmp .ne 10, 3) := by decide +kernel
theorem d_Mo_look_139 : decode yMo_look.2.1 139 = .ok (.aload_n 0, 1) := by decide +kernel
theorem d_Mo_look_140 : decode yMo_look.2.1 140 = .ok (.getfield 141, 3) := by decide +kernel
theorem d_Mo_look_143 : decode yMo_look.2.1 143 = .ok (.goto 4, 3) := by decide +kernel
theorem d_Mo_look_146 : decode yMo_look.2.1 146 = .ok (.iconst (-1), 1) := by decide +kernel
theorem d_Mo_look_147 : decode yMo_look.2.1 147 = .ok (.ireturn, 1) := by decide +kernel
def F_Mo_look (x1 : Int32) (I : gb_Mem) : Option (Int32 × gb_Mem) :=
  fstf I 0 0 0 fun I1 =>
  if x1 = 0 then
    some (I1 0 6, I1)
  else
    if x1 = 1 then
      some (I1 1 3, I1)
    else
      if x1 = 2 then
        some (I1 1 4, I1)
      else
        if x1 = 3 then
          some (I1 1 5, I1)
        else
          if x1 = 4 then
            some (I1 1 0, I1)
          else
            if x1 = 5 then
              some (I1 1 2, I1)
            else
              if x1 = 6 then
                some (I1 1 1, I1)
              else
                if x1 = 7 then
                  some (I1 11 0, I1)
                else
                  if x1 = 8 then
                    some (I1 0 35, I1)
                  else
                    if x1 = 9 then
                      some (I1 0 37, I1)
                    else
                      if x1 = 10 then
                        some (I1 0 39, I1)
                      else
                        if x1 = 11 then
                          some (I1 0 3, I1)
                        else
                          some ((-1), I1)
set_option maxRecDepth 4000 in
theorem c_Mo_look (l : Launch) (d0 : Nat) (x1 : Int32) (I : gb_Mem) {rz : Int32} {Iz : gb_Mem} (h : F_Mo_look x1 I = some (rz, Iz)) : gb_Cs l yMo_look (d0 + 0) [.inr (some 0), .inl x1] shM I (some (.inl rz)) Iz := by
  refine gb_Ct.of (lv := [(0, .inr (some 0)), (1, .inl x1)]) rfl (Nat.le_of_ble_eq_true rfl) rfl ?_
  unfold F_Mo_look at h
  show gb_Go l yMo_look (d0 + 0) 0 0 0 [(0, .inr (some 0)), (1, .inl x1)] [] shM I (gb_po shM (some (.inl rz)) Iz)
  refine go_aload_n (k := 0) d_Mo_look_0 rfl rfl ?_
  refine go_iconst (v := 0) d_Mo_look_1 (by decide) ?_
  obtain ⟨I1, eI1, h⟩ := fstf_e h
  refine go_putT (ci := 10) (k := 0) (I' := I1) d_Mo_look_2 a_M_0 rfl (by decide) f_Mo_137 rfl rfl rfl rfl rfl eI1 ?_
  refine go_iload_n (k := 1) d_Mo_look_5 rfl rfl ?_
  refine go_if_ne (tgt := 14) d_Mo_look_6 (by decide) (fun hc => ?_) (fun hc => ?_)
  · rw [if_neg hc] at h
    refine go_iload_n (k := 1) d_Mo_look_14 rfl rfl ?_
    refine go_iconst (v := 1) d_Mo_look_15 (by decide) ?_
    refine go_cmp_ne (tgt := 26) d_Mo_look_16 (by decide) (fun hc => ?_) (fun hc => ?_)
    · rw [if_neg hc] at h
      refine go_iload_n (k := 1) d_Mo_look_26 rfl rfl ?_
      refine go_iconst (v := 2) d_Mo_look_27 (by decide) ?_
      refine go_cmp_ne (tgt := 38) d_Mo_look_28 (by decide) (fun hc => ?_) (fun hc => ?_)
      · rw [if_neg hc] at h
        refine go_iload_n (k := 1) d_Mo_look_38 rfl rfl ?_
        refine go_iconst (v := 3) d_Mo_look_39 (by decide) ?_
        refine go_cmp_ne (tgt := 50) d_Mo_look_40 (by decide) (fun hc => ?_) (fun hc => ?_)
        · rw [if_neg hc] at h
          refine go_iload_n (k := 1) d_Mo_look_50 rfl rfl ?_
          refine go_iconst (v := 4) d_Mo_look_51 (by decide) ?_
          refine go_cmp_ne (tgt := 62) d_Mo_look_52 (by decide) (fun hc => ?_) (fun hc => ?_)
          · rw [if_neg hc] at h
            refine go_iload_n (k := 1) d_Mo_look_62 rfl rfl ?_
            refine go_iconst (v := 5) d_Mo_look_63 (by decide) ?_
            refine go_cmp_ne (tgt := 74) d_Mo_look_64 (by decide) (fun hc => ?_) (fun hc => ?_)
            · rw [if_neg hc] at h
              refine go_iload_n (k := 1) d_Mo_look_74 rfl rfl ?_
              refine go_bipush (v := 6) d_Mo_look_75 (by decide) ?_
              refine go_cmp_ne (tgt := 87) d_Mo_look_77 (by decide) (fun hc => ?_) (fun hc => ?_)
              · rw [if_neg hc] at h
                refine go_iload_n (k := 1) d_Mo_look_87 rfl rfl ?_
                refine go_bipush (v := 7) d_Mo_look_88 (by decide) ?_
                refine go_cmp_ne (tgt := 100) d_Mo_look_90 (by decide) (fun hc => ?_) (fun hc => ?_)
                · rw [if_neg hc] at h
                  refine go_iload_n (k := 1) d_Mo_look_100 rfl rfl ?_
                  refine go_bipush (v := 8) d_Mo_look_101 (by decide) ?_
                  refine go_cmp_ne (tgt := 111) d_Mo_look_103 (by decide) (fun hc => ?_) (fun hc => ?_)
                  · rw [if_neg hc] at h
                    refine go_iload_n (k := 1) d_Mo_look_111 rfl rfl ?_
                    refine go_bipush (v := 9) d_Mo_look_112 (by decide) ?_
                    refine go_cmp_ne (tgt := 122) d_Mo_look_114 (by decide) (fun hc => ?_) (fun hc => ?_)
                    · rw [if_neg hc] at h
                      refine go_iload_n (k := 1) d_Mo_look_122 rfl rfl ?_
                      refine go_bipush (v := 10) d_Mo_look_123 (by decide) ?_
                      refine go_cmp_ne (tgt := 133) d_Mo_look_125 (by decide) (fun hc => ?_) (fun hc => ?_)
                      · rw [if_neg hc] at h
                        refine go_iload_n (k := 1) d_Mo_look_133 rfl rfl ?_
                        refine go_bipush (v := 11) d_Mo_look_134 (by decide) ?_
                        refine go_cmp_ne (tgt := 146) d_Mo_look_136 (by decide) (fun hc => ?_) (fun hc => ?_)
                        · rw [if_neg hc] at h
                          refine go_iconst (v := (-1)) d_Mo_look_146 (by decide) ?_
                          cases h
                          exact go_ireturn d_Mo_look_147 rfl gb_po_i
                        · rw [if_pos hc] at h
                          refine go_aload_n (k := 0) d_Mo_look_139 rfl rfl ?_
                          refine go_geti (ci := 10) (k := 3) d_Mo_look_140 a_M_0 rfl (by decide) f_Mo_141 rfl ?_
                          refine go_goto (tgt := 147) d_Mo_look_143 (by decide) ?_
                          cases h
                          exact go_ireturn d_Mo_look_147 rfl gb_po_i
                      · rw [if_pos hc] at h
                        refine go_aload_n (k := 0) d_Mo_look_128 rfl rfl ?_
                        refine go_geti (ci := 10) (k := 39) d_Mo_look_129 a_M_0 rfl (by decide) f_Mo_303 rfl ?_
                        cases h
                        exact go_ireturn d_Mo_look_132 rfl gb_po_i
                    · rw [if_pos hc] at h
                      refine go_aload_n (k := 0) d_Mo_look_117 rfl rfl ?_
                      refine go_geti (ci := 10) (k := 37) d_Mo_look_118 a_M_0 rfl (by decide) f_Mo_309 rfl ?_
                      cases h
                      exact go_ireturn d_Mo_look_121 rfl gb_po_i
                  · rw [if_pos hc] at h
                    refine go_aload_n (k := 0) d_Mo_look_106 rfl rfl ?_
                    refine go_geti (ci := 10) (k := 35) d_Mo_look_107 a_M_0 rfl (by decide) f_Mo_306 rfl ?_
                    cases h
                    exact go_ireturn d_Mo_look_110 rfl gb_po_i
                · rw [if_pos hc] at h
                  refine go_aload_n (k := 0) d_Mo_look_93 rfl rfl ?_
                  refine go_getr (ci := 10) (k := 19) (r := 11) d_Mo_look_94 a_M_0 rfl (by decide) f_Mo_40 rfl ?_
                  refine go_iconst (v := 0) d_Mo_look_97 (by decide) ?_
                  refine go_iald2 (v := I1 11 0) d_Mo_look_98 a_M_11 (inb_iff.mp (by decide)) rfl ?_
                  cases h
                  exact go_ireturn d_Mo_look_99 rfl gb_po_i
              · rw [if_pos hc] at h
                refine go_aload_n (k := 0) d_Mo_look_80 rfl rfl ?_
                refine go_getr (ci := 10) (k := 1) (r := 1) d_Mo_look_81 a_M_0 rfl (by decide) f_Mo_7 rfl ?_
                refine go_iconst (v := 1) d_Mo_look_84 (by decide) ?_
                refine go_iald2 (v := I1 1 1) d_Mo_look_85 a_M_1 (inb_iff.mp (by decide)) rfl ?_
                cases h
                exact go_ireturn d_Mo_look_86 rfl gb_po_i
            · rw [if_pos hc] at h
              refine go_aload_n (k := 0) d_Mo_look_67 rfl rfl ?_
              refine go_getr (ci := 10) (k := 1) (r := 1) d_Mo_look_68 a_M_0 rfl (by decide) f_Mo_7 rfl ?_
              refine go_iconst (v := 2) d_Mo_look_71 (by decide) ?_
              refine go_iald2 (v := I1 1 2) d_Mo_look_72 a_M_1 (inb_iff.mp (by decide)) rfl ?_
              cases h
              exact go_ireturn d_Mo_look_73 rfl gb_po_i
          · rw [if_pos hc] at h
            refine go_aload_n (k := 0) d_Mo_look_55 rfl rfl ?_
            refine go_getr (ci := 10) (k := 1) (r := 1) d_Mo_look_56 a_M_0 rfl (by decide) f_Mo_7 rfl ?_
            refine go_iconst (v := 0) d_Mo_look_59 (by decide) ?_
            refine go_iald2 (v := I1 1 0) d_Mo_look_60 a_M_1 (inb_iff.mp (by decide)) rfl ?_
            cases h
            exact go_ireturn d_Mo_look_61 rfl gb_po_i
        · rw [if_pos hc] at h
          refine go_aload_n (k := 0) d_Mo_look_43 rfl rfl ?_
          refine go_getr (ci := 10) (k := 1) (r := 1) d_Mo_look_44 a_M_0 rfl (by decide) f_Mo_7 rfl ?_
          refine go_iconst (v := 5) d_Mo_look_47 (by decide) ?_
          refine go_iald2 (v := I1 1 5) d_Mo_look_48 a_M_1 (inb_iff.mp (by decide)) rfl ?_
          cases h
          exact go_ireturn d_Mo_look_49 rfl gb_po_i
      · rw [if_pos hc] at h
        refine go_aload_n (k := 0) d_Mo_look_31 rfl rfl ?_
        refine go_getr (ci := 10) (k := 1) (r := 1) d_Mo_look_32 a_M_0 rfl (by decide) f_Mo_7 rfl ?_
        refine go_iconst (v := 4) d_Mo_look_35 (by decide) ?_
        refine go_iald2 (v := I1 1 4) d_Mo_look_36 a_M_1 (inb_iff.mp (by decide)) rfl ?_
        cases h
        exact go_ireturn d_Mo_look_37 rfl gb_po_i
    · rw [if_pos hc] at h
      refine go_aload_n (k := 0) d_Mo_look_19 rfl rfl ?_
      refine go_getr (ci := 10) (k := 1) (r := 1) d_Mo_look_20 a_M_0 rfl (by decide) f_Mo_7 rfl ?_
      refine go_iconst (v := 3) d_Mo_look_23 (by decide) ?_
      refine go_iald2 (v := I1 1 3) d_Mo_look_24 a_M_1 (inb_iff.mp (by decide)) rfl ?_
      cases h
      exact go_ireturn d_Mo_look_25 rfl gb_po_i
  · rw [if_pos hc] at h
    refine go_aload_n (k := 0) d_Mo_look_9 rfl rfl ?_
    refine go_geti (ci := 10) (k := 6) d_Mo_look_10 a_M_0 rfl (by decide) f_Mo_150 rfl ?_
    cases h
    exact go_ireturn d_Mo_look_13 rfl gb_po_i
theorem d_Mo_mostFor_0 : decode yMo_mostFor.2.1 0 = .ok (.iload_n 1, 1) := by decide +kernel
theorem d_Mo_mostFor_1 : decode yMo_mostFor.2.1 1 = .ok (.ifCond .eq 8, 3) := by decide +kernel
theorem d_Mo_mostFor_4 : decode yMo_mostFor.2.1 4 = .ok (.iload_n 1, 1) := by decide +kernel
theorem d_Mo_mostFor_5 : decode yMo_mostFor.2.1 5 = .ok (.iconst 1, 1) := by decide +kernel
theorem d_Mo_mostFor_6 : decode yMo_mostFor.2.1 6 = .ok (.if_icmp .ne 8, 3) := by decide +kernel
theorem d_Mo_mostFor_9 : decode yMo_mostFor.2.1 9 = .ok (.bipush 9, 2) := by decide +kernel
theorem d_Mo_mostFor_11 : decode yMo_mostFor.2.1 11 = .ok (.goto 19, 3) := by decide +kernel
theorem d_Mo_mostFor_14 : decode yMo_mostFor.2.1 14 = .ok (.iload_n 1, 1) := by decide +kernel
theorem d_Mo_mostFor_15 : decode yMo_mostFor.2.1 15 = .ok (.iconst 2, 1) := by decide +kernel
theorem d_Mo_mostFor_16 : decode yMo_mostFor.2.1 16 = .ok (.if_icmp .ne 8, 3) := by decide +kernel
theorem d_Mo_mostFor_19 : decode yMo_mostFor.2.1 19 = .ok (.bipush 11, 2) := by decide +kernel
theorem d_Mo_mostFor_21 : decode yMo_mostFor.2.1 21 = .ok (.goto 9, 3) := by decide +kernel
theorem d_Mo_mostFor_24 : decode yMo_mostFor.2.1 24 = .ok (.aload_n 0, 1) := by decide +kernel
theorem d_Mo_mostFor_25 : decode yMo_mostFor.2.1 25 = .ok (.getfield 150, 3) := by decide +kernel
theorem d_Mo_mostFor_28 : decode yMo_mostFor.2.1 28 = .ok (.iconst 1, 1) := by decide +kernel
theorem d_Mo_mostFor_29 : decode yMo_mostFor.2.1 29 = .ok (.isub, 1) := by decide +kernel
theorem d_Mo_mostFor_30 : decode yMo_mostFor.2.1 30 = .ok (.ireturn, 1) := by decide +kernel
def J_Mo_mostFor_9 (I : gb_Mem) : Int32 :=
  9
set_option maxRecDepth 4000 in
theorem j_Mo_mostFor_9 (l : Launch) (d0 : Nat) (I : gb_Mem) {rz : Int32} (h : J_Mo_mostFor_9 I = rz) : gb_Go l yMo_mostFor (d0 + 0) 0 0 9 [] [] shM I (gb_po shM (some (.inl rz)) I) := by
  unfold J_Mo_mostFor_9 at h
  refine go_bipush (v := 9) d_Mo_mostFor_9 (by decide) ?_
  refine go_goto (tgt := 30) d_Mo_mostFor_11 (by decide) ?_
  subst h
  exact go_ireturn d_Mo_mostFor_30 rfl gb_po_i
def F_Mo_mostFor (x1 : Int32) (I : gb_Mem) : Int32 :=
  if x1 = 0 then
    J_Mo_mostFor_9 I
  else
    if x1 = 1 then
      J_Mo_mostFor_9 I
    else
      if x1 = 2 then
        11
      else
        (I 0 6) - 1
set_option maxRecDepth 4000 in
theorem c_Mo_mostFor (l : Launch) (d0 : Nat) (x1 : Int32) (I : gb_Mem)  : gb_Cs l yMo_mostFor (d0 + 0) [.inr (some 0), .inl x1] shM I (some (.inl (F_Mo_mostFor x1 I))) I := by
  refine gb_Ct.of (lv := [(0, .inr (some 0)), (1, .inl x1)]) rfl (Nat.le_of_ble_eq_true rfl) rfl ?_
  generalize h : F_Mo_mostFor x1 I = rz
  unfold F_Mo_mostFor at h
  show gb_Go l yMo_mostFor (d0 + 0) 0 0 0 [(0, .inr (some 0)), (1, .inl x1)] [] shM I (gb_po shM (some (.inl rz)) I)
  refine go_iload_n (k := 1) d_Mo_mostFor_0 rfl rfl ?_
  refine go_if_eq (tgt := 9) d_Mo_mostFor_1 (by decide) (fun hc => ?_) (fun hc => ?_)
  · rw [if_pos hc] at h
    exact go_lv [] rfl (j_Mo_mostFor_9 l d0 I h)
  · rw [if_neg hc] at h
    refine go_iload_n (k := 1) d_Mo_mostFor_4 rfl rfl ?_
    refine go_iconst (v := 1) d_Mo_mostFor_5 (by decide) ?_
    refine go_cmp_ne (tgt := 14) d_Mo_mostFor_6 (by decide) (fun hc => ?_) (fun hc => ?_)
    · rw [if_neg hc] at h
      refine go_iload_n (k := 1) d_Mo_mostFor_14 rfl rfl ?_
      refine go_iconst (v := 2) d_Mo_mostFor_15 (by decide) ?_
      refine go_cmp_ne (tgt := 24) d_Mo_mostFor_16 (by decide) (fun hc => ?_) (fun hc => ?_)
      · rw [if_neg hc] at h
        refine go_aload_n (k := 0) d_Mo_mostFor_24 rfl rfl ?_
        refine go_geti (ci := 10) (k := 6) d_Mo_mostFor_25 a_M_0 rfl (by decide) f_Mo_150 rfl ?_
        refine go_iconst (v := 1) d_Mo_mostFor_28 (by decide) ?_
        refine go_isub d_Mo_mostFor_29 ?_
        subst h
        exact go_ireturn d_Mo_mostFor_30 rfl gb_po_i
      · rw [if_pos hc] at h
        refine go_bipush (v := 11) d_Mo_mostFor_19 (by decide) ?_
        refine go_goto (tgt := 30) d_Mo_mostFor_21 (by decide) ?_
        subst h
        exact go_ireturn d_Mo_mostFor_30 rfl gb_po_i
    · rw [if_pos hc] at h
      exact go_lv [] rfl (j_Mo_mostFor_9 l d0 I h)
theorem d_Mo_nimber_0 : decode yMo_nimber.2.1 0 = .ok (.iload_n 1, 1) := by decide +kernel
theorem d_Mo_nimber_1 : decode yMo_nimber.2.1 1 = .ok (.ifCond .ne 7, 3) := by decide +kernel
theorem d_Mo_nimber_4 : decode yMo_nimber.2.1 4 = .ok (.iconst 0, 1) := by decide +kernel
theorem d_Mo_nimber_5 : decode yMo_nimber.2.1 5 = .ok (.goto 8, 3) := by decide +kernel
theorem d_Mo_nimber_8 : decode yMo_nimber.2.1 8 = .ok (.iconst 2, 1) := by decide +kernel
theorem d_Mo_nimber_9 : decode yMo_nimber.2.1 9 = .ok (.iload_n 1, 1) := by decide +kernel
theorem d_Mo_nimber_10 : decode yMo_nimber.2.1 10 = .ok (.iconst 2, 1) := by decide +kernel
theorem d_Mo_nimber_11 : decode yMo_nimber.2.1 11 = .ok (.irem, 1) := by decide +kernel
theorem d_Mo_nimber_12 : decode yMo_nimber.2.1 12 = .ok (.isub, 1) := by decide +kernel
theorem d_Mo_nimber_13 : decode yMo_nimber.2.1 13 = .ok (.ireturn, 1) := by decide +kernel
def F_Mo_nimber (x1 : Int32) (I : gb_Mem) : Option (Int32) :=
  if x1 = 0 then
    some 0
  else
    some (2 - (x1 - x1 / 2 * 2))
set_option maxRecDepth 4000 in
theorem c_Mo_nimber (l : Launch) (d0 : Nat) (x1 : Int32) (I : gb_Mem) {rz : Int32} (h : F_Mo_nimber x1 I = some rz) : gb_Cs l yMo_nimber (d0 + 0) [.inr (some 0), .inl x1] shM I (some (.inl rz)) I := by
  refine gb_Ct.of (lv := [(0, .inr (some 0)), (1, .inl x1)]) rfl (Nat.le_of_ble_eq_true rfl) rfl ?_
  unfold F_Mo_nimber at h
  show gb_Go l yMo_nimber (d0 + 0) 0 0 0 [(0, .inr (some 0)), (1, .inl x1)] [] shM I (gb_po shM (some (.inl rz)) I)
  refine go_iload_n (k := 1) d_Mo_nimber_0 rfl rfl ?_
  refine go_if_ne (tgt := 8) d_Mo_nimber_1 (by decide) (fun hc => ?_) (fun hc => ?_)
  · rw [if_neg hc] at h
    refine go_iconst (v := 2) d_Mo_nimber_8 (by decide) ?_
    refine go_iload_n (k := 1) d_Mo_nimber_9 rfl rfl ?_
    refine go_iconst (v := 2) d_Mo_nimber_10 (by decide) ?_
    refine go_irem d_Mo_nimber_11 (by decide) ?_
    refine go_isub d_Mo_nimber_12 ?_
    cases h
    exact go_ireturn d_Mo_nimber_13 rfl gb_po_i
  · rw [if_pos hc] at h
    refine go_iconst (v := 0) d_Mo_nimber_4 (by decide) ?_
    refine go_goto (tgt := 13) d_Mo_nimber_5 (by decide) ?_
    cases h
    exact go_ireturn d_Mo_nimber_13 rfl gb_po_i
theorem d_Mo_notes_0 : decode yMo_notes.2.1 0 = .ok (.aload_n 0, 1) := by decide +kernel
theorem d_Mo_notes_1 : decode yMo_notes.2.1 1 = .ok (.getfield 144, 3) := by decide +kernel
theorem d_Mo_notes_4 : decode yMo_notes.2.1 4 = .ok (.ifCond .ne 15, 3) := by decide +kernel
theorem d_Mo_notes_7 : decode yMo_notes.2.1 7 = .ok (.aload_n 0, 1) := by decide +kernel
theorem d_Mo_notes_8 : decode yMo_notes.2.1 8 = .ok (.getfield 7, 3) := by decide +kernel
theorem d_Mo_notes_11 : decode yMo_notes.2.1 11 = .ok (.iconst 2, 1) := by decide +kernel
theorem d_Mo_notes_12 : decode yMo_notes.2.1 12 = .ok (.iaload, 1) := by decide +kernel
theorem d_Mo_notes_13 : decode yMo_notes.2.1 13 = .ok (.sipush 150, 3) := by decide +kernel
theorem d_Mo_notes_16 : decode yMo_notes.2.1 16 = .ok (.if_icmp .ne 4, 3) := by decide +kernel
theorem d_Mo_notes_19 : decode yMo_notes.2.1 19 = .ok (.return_, 1) := by decide +kernel
theorem d_Mo_notes_20 : decode yMo_notes.2.1 20 = .ok (.iconst 4, 1) := by decide +kernel
theorem d_Mo_notes_21 : decode yMo_notes.2.1 21 = .ok (.aload_n 0, 1) := by decide +kernel
theorem d_Mo_notes_22 : decode yMo_notes.2.1 22 = .ok (.getfield 7, 3) := by decide +kernel
theorem d_Mo_notes_25 : decode yMo_notes.2.1 25 = .ok (.iconst 2, 1) := by decide +kernel
theorem d_Mo_notes_26 : decode yMo_notes.2.1 26 = .ok (.iaload, 1) := by decide +kernel
theorem d_Mo_notes_27 : decode yMo_notes.2.1 27 = .ok (.imul, 1) := by decide +kernel
theorem d_Mo_notes_28 : decode yMo_notes.2.1 28 = .ok (.istore 4, 2) := by decide +kernel
theorem d_Mo_notes_30 : decode yMo_notes.2.1 30 = .ok (.aload_n 0, 1) := by decide +kernel
theorem d_Mo_notes_31 : decode yMo_notes.2.1 31 = .ok (.getfield 31, 3) := by decide +kernel
theorem d_Mo_notes_34 : decode yMo_notes.2.1 34 = .ok (.iload 4, 2) := by decide +kernel
theorem d_Mo_notes_36 : decode yMo_notes.2.1 36 = .ok (.aload_n 0, 1) := by decide +kernel
theorem d_Mo_notes_37 : decode yMo_notes.2.1 37 = .ok (.getfield 7, 3) := by decide +kernel
theorem d_Mo_notes_40 : decode yMo_notes.2.1 40 = .ok (.iconst 0, 1) := by decide +kernel
theorem d_Mo_notes_41 : decode yMo_notes.2.1 41 = .ok (.iaload, 1) := by decide +kernel
theorem d_Mo_notes_42 : decode yMo_notes.2.1 42 = .ok (.iastore, 1) := by decide +kernel
theorem d_Mo_notes_43 : decode yMo_notes.2.1 43 = .ok (.aload_n 0, 1) := by decide +kernel
theorem d_Mo_notes_44 : decode yMo_notes.2.1 44 = .ok (.getfield 31, 3) := by decide +kernel
theorem d_Mo_notes_47 : decode yMo_notes.2.1 47 = .ok (.iload 4, 2) := by decide +kernel
theorem d_Mo_notes_49 : decode yMo_notes.2.1 49 = .ok (.iconst 1, 1) := by decide +kernel
theorem d_Mo_notes_50 : decode yMo_notes.2.1 50 = .ok (.iadd, 1) := by decide +kernel
theorem d_Mo_notes_51 : decode yMo_notes.2.1 51 = .ok (.iload_n 1, 1) := by decide +kernel
theorem d_Mo_notes_52 : decode yMo_notes.2.1 52 = .ok (.iastore, 1) := by decide +kernel
theorem d_Mo_notes_53 : decode yMo_notes.2.1 53 = .ok (.aload_n 0, 1) := by decide +kernel
theorem d_Mo_notes_54 : decode yMo_notes.2.1 54 = .ok (.getfield 31, 3) := by decide +kernel
theorem d_Mo_notes_57 : decode yMo_notes.2.1 57 = .ok (.iload 4, 2) := by decide +kernel
theorem d_Mo_notes_59 : decode yMo_notes.2.1 59 = .ok (.iconst 2, 1) := by decide +kernel
theorem d_Mo_notes_60 : decode yMo_notes.2.1 60 = .ok (.iadd, 1) := by decide +kernel
theorem d_Mo_notes_61 : decode yMo_notes.2.1 61 = .ok (.iload_n 2, 1) := by decide +kernel
theorem d_Mo_notes_62 : decode yMo_notes.2.1 62 = .ok (.iastore, 1) := by decide +kernel
theorem d_Mo_notes_63 : decode yMo_notes.2.1 63 = .ok (.aload_n 0, 1) := by decide +kernel
theorem d_Mo_notes_64 : decode yMo_notes.2.1 64 = .ok (.getfield 31, 3) := by decide +kernel
theorem d_Mo_notes_67 : decode yMo_notes.2.1 67 = .ok (.iload 4, 2) := by decide +kernel
theorem d_Mo_notes_69 : decode yMo_notes.2.1 69 = .ok (.iconst 3, 1) := by decide +kernel
theorem d_Mo_notes_70 : decode yMo_notes.2.1 70 = .ok (.iadd, 1) := by decide +kernel
theorem d_Mo_notes_71 : decode yMo_notes.2.1 71 = .ok (.iload_n 3, 1) := by decide +kernel
theorem d_Mo_notes_72 : decode yMo_notes.2.1 72 = .ok (.iastore, 1) := by decide +kernel
theorem d_Mo_notes_73 : decode yMo_notes.2.1 73 = .ok (.aload_n 0, 1) := by decide +kernel
theorem d_Mo_notes_74 : decode yMo_notes.2.1 74 = .ok (.getfield 7, 3) := by decide +kernel
theorem d_Mo_notes_77 : decode yMo_notes.2.1 77 = .ok (.iconst 2, 1) := by decide +kernel
theorem d_Mo_notes_78 : decode yMo_notes.2.1 78 = .ok (.aload_n 0, 1) := by decide +kernel
theorem d_Mo_notes_79 : decode yMo_notes.2.1 79 = .ok (.getfield 7, 3) := by decide +kernel
theorem d_Mo_notes_82 : decode yMo_notes.2.1 82 = .ok (.iconst 2, 1) := by decide +kernel
theorem d_Mo_notes_83 : decode yMo_notes.2.1 83 = .ok (.iaload, 1) := by decide +kernel
theorem d_Mo_notes_84 : decode yMo_notes.2.1 84 = .ok (.iconst 1, 1) := by decide +kernel
theorem d_Mo_notes_85 : decode yMo_notes.2.1 85 = .ok (.iadd, 1) := by decide +kernel
theorem d_Mo_notes_86 : decode yMo_notes.2.1 86 = .ok (.iastore, 1) := by decide +kernel
theorem d_Mo_notes_87 : decode yMo_notes.2.1 87 = .ok (.return_, 1) := by decide +kernel
def F_Mo_notes (x1 x2 x3 : Int32) (I : gb_Mem) : Option (gb_Mem) :=
  if (I 0 5) = 0 then
    if (I 1 2) = 150 then
      some I
    else
      fsto I 8 600 (4 * (I 1 2)) (I 1 0) fun I1 =>
      fsto I1 8 600 ((4 * (I 1 2)) + 1) x1 fun I2 =>
      fsto I2 8 600 ((4 * (I 1 2)) + 2) x2 fun I3 =>
      fsto I3 8 600 ((4 * (I 1 2)) + 3) x3 fun I4 =>
      fstf I4 1 2 ((I4 1 2) + 1) fun I5 =>
      some I5
  else
    some I
set_option maxRecDepth 4000 in
theorem c_Mo_notes (l : Launch) (d0 : Nat) (x1 x2 x3 : Int32) (I : gb_Mem) {Iz : gb_Mem} (h : F_Mo_notes x1 x2 x3 I = some Iz) : gb_Cs l yMo_notes (d0 + 0) [.inr (some 0), .inl x1, .inl x2, .inl x3] shM I none Iz := by
  refine gb_Ct.of (lv := [(0, .inr (some 0)), (1, .inl x1), (2, .inl x2), (3, .inl x3)]) rfl (Nat.le_of_ble_eq_true rfl) rfl ?_
  unfold F_Mo_notes at h
  show gb_Go l yMo_notes (d0 + 0) 0 0 0 [(0, .inr (some 0)), (1, .inl x1), (2, .inl x2), (3, .inl x3)] [] shM I (gb_po shM none Iz)
  refine go_aload_n (k := 0) d_Mo_notes_0 rfl rfl ?_
  refine go_geti (ci := 10) (k := 5) d_Mo_notes_1 a_M_0 rfl (by decide) f_Mo_144 rfl ?_
  refine go_if_ne (tgt := 19) d_Mo_notes_4 (by decide) (fun hc => ?_) (fun hc => ?_)
  · rw [if_neg hc] at h
    cases h
    exact go_return d_Mo_notes_19 rfl gb_po_i
  · rw [if_pos hc] at h
    refine go_aload_n (k := 0) d_Mo_notes_7 rfl rfl ?_
    refine go_getr (ci := 10) (k := 1) (r := 1) d_Mo_notes_8 a_M_0 rfl (by decide) f_Mo_7 rfl ?_
    refine go_iconst (v := 2) d_Mo_notes_11 (by decide) ?_
    refine go_iald2 (v := I 1 2) d_Mo_notes_12 a_M_1 (inb_iff.mp (by decide)) rfl ?_
    refine go_sipush (v := 150) d_Mo_notes_13 (by decide) ?_
    refine go_cmp_ne (tgt := 20) d_Mo_notes_16 (by decide) (fun hc => ?_) (fun hc => ?_)
    · rw [if_neg hc] at h
      refine go_iconst (v := 4) d_Mo_notes_20 (by decide) ?_
      refine go_aload_n (k := 0) d_Mo_notes_21 rfl rfl ?_
      refine go_getr (ci := 10) (k := 1) (r := 1) d_Mo_notes_22 a_M_0 rfl (by decide) f_Mo_7 rfl ?_
      refine go_iconst (v := 2) d_Mo_notes_25 (by decide) ?_
      refine go_iald2 (v := I 1 2) d_Mo_notes_26 a_M_1 (inb_iff.mp (by decide)) rfl ?_
      refine go_imul d_Mo_notes_27 ?_
      refine go_istore (lv' := [(4, .inl (4 * (I 1 2))), (0, .inr (some 0)), (1, .inl x1), (2, .inl x2), (3, .inl x3)]) d_Mo_notes_28 (by decide) rfl ?_
      refine go_aload_n (k := 1) d_Mo_notes_30 rfl rfl ?_
      refine go_getr (ci := 10) (k := 11) (r := 8) d_Mo_notes_31 a_M_0 rfl (by decide) f_Mo_31 rfl ?_
      refine go_iload (k := 0) d_Mo_notes_34 rfl ?_
      refine go_aload_n (k := 1) d_Mo_notes_36 rfl rfl ?_
      refine go_getr (ci := 10) (k := 1) (r := 1) d_Mo_notes_37 a_M_0 rfl (by decide) f_Mo_7 rfl ?_
      refine go_iconst (v := 0) d_Mo_notes_40 (by decide) ?_
      refine go_iald2 (v := I 1 0) d_Mo_notes_41 a_M_1 (inb_iff.mp (by decide)) rfl ?_
      obtain ⟨hi, I1, eI1, h⟩ := fsto_e h
      refine go_iast (I' := I1) d_Mo_notes_42 a_M_8 hi eI1 ?_
      refine go_aload_n (k := 1) d_Mo_notes_43 rfl rfl ?_
      refine go_getr (ci := 10) (k := 11) (r := 8) d_Mo_notes_44 a_M_0 rfl (by decide) f_Mo_31 rfl ?_
      refine go_iload (k := 0) d_Mo_notes_47 rfl ?_
      refine go_iconst (v := 1) d_Mo_notes_49 (by decide) ?_
      refine go_iadd d_Mo_notes_50 ?_
      refine go_iload_n (k := 2) d_Mo_notes_51 rfl rfl ?_
      obtain ⟨hi, I2, eI2, h⟩ := fsto_e h
      refine go_iast (I' := I2) d_Mo_notes_52 a_M_8 hi eI2 ?_
      refine go_aload_n (k := 1) d_Mo_notes_53 rfl rfl ?_
      refine go_getr (ci := 10) (k := 11) (r := 8) d_Mo_notes_54 a_M_0 rfl (by decide) f_Mo_31 rfl ?_
      refine go_iload (k := 0) d_Mo_notes_57 rfl ?_
      refine go_iconst (v := 2) d_Mo_notes_59 (by decide) ?_
      refine go_iadd d_Mo_notes_60 ?_
      refine go_iload_n (k := 3) d_Mo_notes_61 rfl rfl ?_
      obtain ⟨hi, I3, eI3, h⟩ := fsto_e h
      refine go_iast (I' := I3) d_Mo_notes_62 a_M_8 hi eI3 ?_
      refine go_aload_n (k := 1) d_Mo_notes_63 rfl rfl ?_
      refine go_getr (ci := 10) (k := 11) (r := 8) d_Mo_notes_64 a_M_0 rfl (by decide) f_Mo_31 rfl ?_
      refine go_iload (k := 0) d_Mo_notes_67 rfl ?_
      refine go_iconst (v := 3) d_Mo_notes_69 (by decide) ?_
      refine go_iadd d_Mo_notes_70 ?_
      refine go_iload_n (k := 4) d_Mo_notes_71 rfl rfl ?_
      obtain ⟨hi, I4, eI4, h⟩ := fsto_e h
      refine go_iast (I' := I4) d_Mo_notes_72 a_M_8 hi eI4 ?_
      refine go_aload_n (k := 1) d_Mo_notes_73 rfl rfl ?_
      refine go_getr (ci := 10) (k := 1) (r := 1) d_Mo_notes_74 a_M_0 rfl (by decide) f_Mo_7 rfl ?_
      refine go_iconst (v := 2) d_Mo_notes_77 (by decide) ?_
      refine go_aload_n (k := 1) d_Mo_notes_78 rfl rfl ?_
      refine go_getr (ci := 10) (k := 1) (r := 1) d_Mo_notes_79 a_M_0 rfl (by decide) f_Mo_7 rfl ?_
      refine go_iconst (v := 2) d_Mo_notes_82 (by decide) ?_
      refine go_iald2 (v := I4 1 2) d_Mo_notes_83 a_M_1 (inb_iff.mp (by decide)) rfl ?_
      refine go_iconst (v := 1) d_Mo_notes_84 (by decide) ?_
      refine go_iadd d_Mo_notes_85 ?_
      obtain ⟨I5, eI5, h⟩ := fstf_e h
      refine go_iast (I' := I5) d_Mo_notes_86 a_M_1 (inb_iff.mp (by decide)) eI5 ?_
      cases h
      exact go_return d_Mo_notes_87 rfl gb_po_i
    · rw [if_pos hc] at h
      cases h
      exact go_return d_Mo_notes_19 rfl gb_po_i
theorem d_Mo_onesOf_0 : decode yMo_onesOf.2.1 0 = .ok (.iconst 0, 1) := by decide +kernel
theorem d_Mo_onesOf_1 : decode yMo_onesOf.2.1 1 = .ok (.istore_n 2, 1) := by decide +kernel
theorem d_Mo_onesOf_2 : decode yMo_onesOf.2.1 2 = .ok (.iload_n 1, 1) := by decide +kernel
theorem d_Mo_onesOf_3 : decode yMo_onesOf.2.1 3 = .ok (.istore_n 3, 1) := by decide +kernel
theorem d_Mo_onesOf_4 : decode yMo_onesOf.2.1 4 = .ok (.iload_n 3, 1) := by decide +kernel
theorem d_Mo_onesOf_5 : decode yMo_onesOf.2.1 5 = .ok (.ifCond .eq 16, 3) := by decide +kernel
theorem d_Mo_onesOf_8 : decode yMo_onesOf.2.1 8 = .ok (.iload_n 2, 1) := by decide +kernel
theorem d_Mo_onesOf_9 : decode yMo_onesOf.2.1 9 = .ok (.iconst 1, 1) := by decide +kernel
theorem d_Mo_onesOf_10 : decode yMo_onesOf.2.1 10 = .ok (.iadd, 1) := by decide +kernel
theorem d_Mo_onesOf_11 : decode yMo_onesOf.2.1 11 = .ok (.istore_n 2, 1) := by decide +kernel
theorem d_Mo_onesOf_12 : decode yMo_onesOf.2.1 12 = .ok (.iload_n 3, 1) := by decide +kernel
theorem d_Mo_onesOf_13 : decode yMo_onesOf.2.1 13 = .ok (.iload_n 3, 1) := by decide +kernel
theorem d_Mo_onesOf_14 : decode yMo_onesOf.2.1 14 = .ok (.iconst 1, 1) := by decide +kernel
theorem d_Mo_onesOf_15 : decode yMo_onesOf.2.1 15 = .ok (.isub, 1) := by decide +kernel
theorem d_Mo_onesOf_16 : decode yMo_onesOf.2.1 16 = .ok (.iand, 1) := by decide +kernel
theorem d_Mo_onesOf_17 : decode yMo_onesOf.2.1 17 = .ok (.istore_n 3, 1) := by decide +kernel
theorem d_Mo_onesOf_18 : decode yMo_onesOf.2.1 18 = .ok (.goto (-14), 3) := by decide +kernel
theorem d_Mo_onesOf_21 : decode yMo_onesOf.2.1 21 = .ok (.iload_n 2, 1) := by decide +kernel
theorem d_Mo_onesOf_22 : decode yMo_onesOf.2.1 22 = .ok (.ireturn, 1) := by decide +kernel
def L_Mo_onesOf_4 (I : gb_Mem) : Nat → Int32 → Int32 → Option (Int32)
  | 0, _, _ => none
  | n + 1, x2, x3 =>
    if x3 = 0 then
      some x2
    else
      flt (x3 &&& (x3 - 1)) fun y1 =>
      L_Mo_onesOf_4 I n (x2 + 1) y1
set_option maxRecDepth 4000 in
theorem l_Mo_onesOf_4 (l : Launch) (d0 : Nat) (I : gb_Mem) {post : Option gb_AV → List gb_Ce → gb_Mem → Prop} : ∀ (n : Nat) (x2 x3 : Int32) {ρ : Int32} (h : L_Mo_onesOf_4 I n x2 x3 = some ρ) (hX : ∀ (o2 : Int32), ρ = o2 → gb_Go l yMo_onesOf (d0 + 0) 0 0 21 [(2, .inl o2)] [] shM I post) , gb_Go l yMo_onesOf (d0 + 0) 0 0 4 [(2, .inl x2), (3, .inl x3)] [] shM I post := by
  intro n
  induction n with
  | zero => intro x2 x3 ρ h hX; cases h
  | succ n ih =>
    intro x2 x3 ρ h hX
    rw [L_Mo_onesOf_4] at h
    refine go_iload_n (k := 1) d_Mo_onesOf_4 rfl rfl ?_
    refine go_if_eq (tgt := 21) d_Mo_onesOf_5 (by decide) (fun hc => ?_) (fun hc => ?_)
    · rw [if_pos hc] at h
      exact go_lv [0] rfl (hX _ (Option.some.inj h).symm)
    · rw [if_neg hc] at h
      refine go_iload_n (k := 0) d_Mo_onesOf_8 rfl rfl ?_
      refine go_iconst (v := 1) d_Mo_onesOf_9 (by decide) ?_
      refine go_iadd d_Mo_onesOf_10 ?_
      refine go_istore_n (lv' := [(2, .inl (x2 + 1)), (3, .inl x3)]) d_Mo_onesOf_11 rfl (by decide) rfl ?_
      refine go_iload_n (k := 1) d_Mo_onesOf_12 rfl rfl ?_
      refine go_iload_n (k := 1) d_Mo_onesOf_13 rfl rfl ?_
      refine go_iconst (v := 1) d_Mo_onesOf_14 (by decide) ?_
      refine go_isub d_Mo_onesOf_15 ?_
      refine go_iand d_Mo_onesOf_16 ?_
      obtain ⟨y1, ey1, h⟩ := flt_e h
      refine go_top ey1 ?_
      refine go_istore_n (lv' := [(3, .inl y1), (2, .inl (x2 + 1))]) d_Mo_onesOf_17 rfl (by decide) rfl ?_
      refine go_goto (tgt := 4) d_Mo_onesOf_18 (by decide) ?_
      exact go_lv [1, 0] rfl (ih (x2 + 1) y1 h hX)
def F_Mo_onesOf (x1 : Int32) (I : gb_Mem) : Option (Int32) :=
  fbd (L_Mo_onesOf_4 I 5000 0 x1) fun o2 =>
  some o2
set_option maxRecDepth 4000 in
theorem c_Mo_onesOf (l : Launch) (d0 : Nat) (x1 : Int32) (I : gb_Mem) {rz : Int32} (h : F_Mo_onesOf x1 I = some rz) : gb_Cs l yMo_onesOf (d0 + 0) [.inr (some 0), .inl x1] shM I (some (.inl rz)) I := by
  refine gb_Ct.of (lv := [(0, .inr (some 0)), (1, .inl x1)]) rfl (Nat.le_of_ble_eq_true rfl) rfl ?_
  unfold F_Mo_onesOf at h
  show gb_Go l yMo_onesOf (d0 + 0) 0 0 0 [(0, .inr (some 0)), (1, .inl x1)] [] shM I (gb_po shM (some (.inl rz)) I)
  refine go_iconst (v := 0) d_Mo_onesOf_0 (by decide) ?_
  refine go_istore_n (lv' := [(2, .inl 0), (0, .inr (some 0)), (1, .inl x1)]) d_Mo_onesOf_1 rfl (by decide) rfl ?_
  refine go_iload_n (k := 2) d_Mo_onesOf_2 rfl rfl ?_
  refine go_istore_n (lv' := [(3, .inl x1), (2, .inl 0), (0, .inr (some 0)), (1, .inl x1)]) d_Mo_onesOf_3 rfl (by decide) rfl ?_
  refine go_lv [1, 0] (lv' := [(2, .inl 0), (3, .inl x1)]) rfl ?_
  obtain ⟨o2, w1, h⟩ := fbd_e h
  refine l_Mo_onesOf_4 l d0 I 5000 0 x1 w1 (fun o2_ e => ?_)
  cases e
  refine go_iload_n (k := 0) d_Mo_onesOf_21 rfl rfl ?_
  cases h
  exact go_ireturn d_Mo_onesOf_22 rfl gb_po_i
theorem d_Mo_raw_0 : decode yMo_raw.2.1 0 = .ok (.iload_n 1, 1) := by decide +kernel
theorem d_Mo_raw_1 : decode yMo_raw.2.1 1 = .ok (.aload_n 0, 1) := by decide +kernel
theorem d_Mo_raw_2 : decode yMo_raw.2.1 2 = .ok (.getfield 171, 3) := by decide +kernel
theorem d_Mo_raw_5 : decode yMo_raw.2.1 5 = .ok (.if_icmp .ge 12, 3) := by decide +kernel
theorem d_Mo_raw_8 : decode yMo_raw.2.1 8 = .ok (.aload_n 0, 1) := by decide +kernel
theorem d_Mo_raw_9 : decode yMo_raw.2.1 9 = .ok (.getfield 34, 3) := by decide +kernel
theorem d_Mo_raw_12 : decode yMo_raw.2.1 12 = .ok (.iload_n 1, 1) := by decide +kernel
theorem d_Mo_raw_13 : decode yMo_raw.2.1 13 = .ok (.iaload, 1) := by decide +kernel
theorem d_Mo_raw_14 : decode yMo_raw.2.1 14 = .ok (.goto 4, 3) := by decide +kernel
theorem d_Mo_raw_17 : decode yMo_raw.2.1 17 = .ok (.iconst (-1), 1) := by decide +kernel
theorem d_Mo_raw_18 : decode yMo_raw.2.1 18 = .ok (.ireturn, 1) := by decide +kernel
def F_Mo_raw (x1 : Int32) (I : gb_Mem) : Option (Int32) :=
  if (I 0 13) ≤ x1 then
    some (-1)
  else
    flod I 9 400 x1 fun v1 =>
    some v1
set_option maxRecDepth 4000 in
theorem c_Mo_raw (l : Launch) (d0 : Nat) (x1 : Int32) (I : gb_Mem) {rz : Int32} (h : F_Mo_raw x1 I = some rz) : gb_Cs l yMo_raw (d0 + 0) [.inr (some 0), .inl x1] shM I (some (.inl rz)) I := by
  refine gb_Ct.of (lv := [(0, .inr (some 0)), (1, .inl x1)]) rfl (Nat.le_of_ble_eq_true rfl) rfl ?_
  unfold F_Mo_raw at h
  show gb_Go l yMo_raw (d0 + 0) 0 0 0 [(0, .inr (some 0)), (1, .inl x1)] [] shM I (gb_po shM (some (.inl rz)) I)
  refine go_iload_n (k := 1) d_Mo_raw_0 rfl rfl ?_
  refine go_aload_n (k := 0) d_Mo_raw_1 rfl rfl ?_
  refine go_geti (ci := 10) (k := 13) d_Mo_raw_2 a_M_0 rfl (by decide) f_Mo_171 rfl ?_
  refine go_cmp_ge (tgt := 17) d_Mo_raw_5 (by decide) (fun hc => ?_) (fun hc => ?_)
  · rw [if_pos hc] at h
    refine go_iconst (v := (-1)) d_Mo_raw_17 (by decide) ?_
    cases h
    exact go_ireturn d_Mo_raw_18 rfl gb_po_i
  · rw [if_neg hc] at h
    refine go_aload_n (k := 0) d_Mo_raw_8 rfl rfl ?_
    refine go_getr (ci := 10) (k := 12) (r := 9) d_Mo_raw_9 a_M_0 rfl (by decide) f_Mo_34 rfl ?_
    refine go_iload_n (k := 1) d_Mo_raw_12 rfl rfl ?_
    obtain ⟨hi, v1, ev1, h⟩ := flod_e h
    refine go_iald2 d_Mo_raw_13 a_M_9 hi ev1 ?_
    refine go_goto (tgt := 18) d_Mo_raw_14 (by decide) ?_
    cases h
    exact go_ireturn d_Mo_raw_18 rfl gb_po_i
theorem d_Mo_reachOf_0 : decode yMo_reachOf.2.1 0 = .ok (.aload_n 0, 1) := by decide +kernel
theorem d_Mo_reachOf_1 : decode yMo_reachOf.2.1 1 = .ok (.getfield 74, 3) := by decide +kernel
theorem d_Mo_reachOf_4 : decode yMo_reachOf.2.1 4 = .ok (.iload_n 1, 1) := by decide +kernel
theorem d_Mo_reachOf_5 : decode yMo_reachOf.2.1 5 = .ok (.iaload, 1) := by decide +kernel
theorem d_Mo_reachOf_6 : decode yMo_reachOf.2.1 6 = .ok (.iconst 1, 1) := by decide +kernel
theorem d_Mo_reachOf_7 : decode yMo_reachOf.2.1 7 = .ok (.iload_n 1, 1) := by decide +kernel
theorem d_Mo_reachOf_8 : decode yMo_reachOf.2.1 8 = .ok (.iconst 1, 1) := by decide +kernel
theorem d_Mo_reachOf_9 : decode yMo_reachOf.2.1 9 = .ok (.iadd, 1) := by decide +kernel
theorem d_Mo_reachOf_10 : decode yMo_reachOf.2.1 10 = .ok (.ishl, 1) := by decide +kernel
theorem d_Mo_reachOf_11 : decode yMo_reachOf.2.1 11 = .ok (.ior, 1) := by decide +kernel
theorem d_Mo_reachOf_12 : decode yMo_reachOf.2.1 12 = .ok (.iload_n 1, 1) := by decide +kernel
theorem d_Mo_reachOf_13 : decode yMo_reachOf.2.1 13 = .ok (.ifCond .ne 7, 3) := by decide +kernel
theorem d_Mo_reachOf_16 : decode yMo_reachOf.2.1 16 = .ok (.iconst 0, 1) := by decide +kernel
theorem d_Mo_reachOf_17 : decode yMo_reachOf.2.1 17 = .ok (.goto 8, 3) := by decide +kernel
theorem d_Mo_reachOf_20 : decode yMo_reachOf.2.1 20 = .ok (.iconst 1, 1) := by decide +kernel
theorem d_Mo_reachOf_21 : decode yMo_reachOf.2.1 21 = .ok (.iload_n 1, 1) := by decide +kernel
theorem d_Mo_reachOf_22 : decode yMo_reachOf.2.1 22 = .ok (.iconst 1, 1) := by decide +kernel
theorem d_Mo_reachOf_23 : decode yMo_reachOf.2.1 23 = .ok (.isub, 1) := by decide +kernel
theorem d_Mo_reachOf_24 : decode yMo_reachOf.2.1 24 = .ok (.ishl, 1) := by decide +kernel
theorem d_Mo_reachOf_25 : decode yMo_reachOf.2.1 25 = .ok (.ior, 1) := by decide +kernel
theorem d_Mo_reachOf_26 : decode yMo_reachOf.2.1 26 = .ok (.sipush 4095, 3) := by decide +kernel
theorem d_Mo_reachOf_29 : decode yMo_reachOf.2.1 29 = .ok (.iand, 1) := by decide +kernel
theorem d_Mo_reachOf_30 : decode yMo_reachOf.2.1 30 = .ok (.ireturn, 1) := by decide +kernel
def J_Mo_reachOf_25 (s0 s1 : Int32) (I : gb_Mem) : Option (Int32) :=
  some ((s1 ||| s0) &&& 4095)
set_option maxRecDepth 4000 in
theorem j_Mo_reachOf_25 (l : Launch) (d0 : Nat) (s0 s1 : Int32) (I : gb_Mem) {rz : Int32} (h : J_Mo_reachOf_25 s0 s1 I = some rz) : gb_Go l yMo_reachOf (d0 + 0) 0 0 25 [] [.inl s0, .inl s1] shM I (gb_po shM (some (.inl rz)) I) := by
  unfold J_Mo_reachOf_25 at h
  refine go_ior d_Mo_reachOf_25 ?_
  refine go_sipush (v := 4095) d_Mo_reachOf_26 (by decide) ?_
  refine go_iand d_Mo_reachOf_29 ?_
  cases h
  exact go_ireturn d_Mo_reachOf_30 rfl gb_po_i
def F_Mo_reachOf (x1 : Int32) (I : gb_Mem) : Option (Int32) :=
  flod I 21 24 x1 fun v1 =>
  if x1 = 0 then
    J_Mo_reachOf_25 0 (v1 ||| (1 <<< ((x1 + 1) &&& 31))) I
  else
    J_Mo_reachOf_25 (1 <<< ((x1 - 1) &&& 31)) (v1 ||| (1 <<< ((x1 + 1) &&& 31))) I
set_option maxRecDepth 4000 in
theorem c_Mo_reachOf (l : Launch) (d0 : Nat) (x1 : Int32) (I : gb_Mem) {rz : Int32} (h : F_Mo_reachOf x1 I = some rz) : gb_Cs l yMo_reachOf (d0 + 0) [.inr (some 0), .inl x1] shM I (some (.inl rz)) I := by
  refine gb_Ct.of (lv := [(0, .inr (some 0)), (1, .inl x1)]) rfl (Nat.le_of_ble_eq_true rfl) rfl ?_
  unfold F_Mo_reachOf at h
  show gb_Go l yMo_reachOf (d0 + 0) 0 0 0 [(0, .inr (some 0)), (1, .inl x1)] [] shM I (gb_po shM (some (.inl rz)) I)
  refine go_aload_n (k := 0) d_Mo_reachOf_0 rfl rfl ?_
  refine go_getr (ci := 10) (k := 40) (r := 21) d_Mo_reachOf_1 a_M_0 rfl (by decide) f_Mo_74 rfl ?_
  refine go_iload_n (k := 1) d_Mo_reachOf_4 rfl rfl ?_
  obtain ⟨hi, v1, ev1, h⟩ := flod_e h
  refine go_iald2 d_Mo_reachOf_5 a_M_21 hi ev1 ?_
  refine go_iconst (v := 1) d_Mo_reachOf_6 (by decide) ?_
  refine go_iload_n (k := 1) d_Mo_reachOf_7 rfl rfl ?_
  refine go_iconst (v := 1) d_Mo_reachOf_8 (by decide) ?_
  refine go_iadd d_Mo_reachOf_9 ?_
  refine go_ishl d_Mo_reachOf_10 ?_
  refine go_ior d_Mo_reachOf_11 ?_
  refine go_iload_n (k := 1) d_Mo_reachOf_12 rfl rfl ?_
  refine go_if_ne (tgt := 20) d_Mo_reachOf_13 (by decide) (fun hc => ?_) (fun hc => ?_)
  · rw [if_neg hc] at h
    refine go_iconst (v := 1) d_Mo_reachOf_20 (by decide) ?_
    refine go_iload_n (k := 1) d_Mo_reachOf_21 rfl rfl ?_
    refine go_iconst (v := 1) d_Mo_reachOf_22 (by decide) ?_
    refine go_isub d_Mo_reachOf_23 ?_
    refine go_ishl d_Mo_reachOf_24 ?_
    exact go_lv [] rfl (j_Mo_reachOf_25 l d0 (1 <<< ((x1 - 1) &&& 31)) (v1 ||| (1 <<< ((x1 + 1) &&& 31))) I h)
  · rw [if_pos hc] at h
    refine go_iconst (v := 0) d_Mo_reachOf_16 (by decide) ?_
    refine go_goto (tgt := 25) d_Mo_reachOf_17 (by decide) ?_
    exact go_lv [] rfl (j_Mo_reachOf_25 l d0 0 (v1 ||| (1 <<< ((x1 + 1) &&& 31))) I h)
theorem d_Mo_shoreOf_0 : decode yMo_shoreOf.2.1 0 = .ok (.iload_n 1, 1) := by decide +kernel
theorem d_Mo_shoreOf_1 : decode yMo_shoreOf.2.1 1 = .ok (.iconst 1, 1) := by decide +kernel
theorem d_Mo_shoreOf_2 : decode yMo_shoreOf.2.1 2 = .ok (.if_icmp .ne 8, 3) := by decide +kernel
theorem d_Mo_shoreOf_5 : decode yMo_shoreOf.2.1 5 = .ok (.bipush 11, 2) := by decide +kernel
theorem d_Mo_shoreOf_7 : decode yMo_shoreOf.2.1 7 = .ok (.goto 4, 3) := by decide +kernel
theorem d_Mo_shoreOf_10 : decode yMo_shoreOf.2.1 10 = .ok (.iconst 0, 1) := by decide +kernel
theorem d_Mo_shoreOf_11 : decode yMo_shoreOf.2.1 11 = .ok (.ireturn, 1) := by decide +kernel
def F_Mo_shoreOf (x1 : Int32) (I : gb_Mem) : Int32 :=
  if x1 = 1 then
    11
  else
    0
set_option maxRecDepth 4000 in
theorem c_Mo_shoreOf (l : Launch) (d0 : Nat) (x1 : Int32) (I : gb_Mem)  : gb_Cs l yMo_shoreOf (d0 + 0) [.inr (some 0), .inl x1] shM I (some (.inl (F_Mo_shoreOf x1 I))) I := by
  refine gb_Ct.of (lv := [(0, .inr (some 0)), (1, .inl x1)]) rfl (Nat.le_of_ble_eq_true rfl) rfl ?_
  generalize h : F_Mo_shoreOf x1 I = rz
  unfold F_Mo_shoreOf at h
  show gb_Go l yMo_shoreOf (d0 + 0) 0 0 0 [(0, .inr (some 0)), (1, .inl x1)] [] shM I (gb_po shM (some (.inl rz)) I)
  refine go_iload_n (k := 1) d_Mo_shoreOf_0 rfl rfl ?_
  refine go_iconst (v := 1) d_Mo_shoreOf_1 (by decide) ?_
  refine go_cmp_ne (tgt := 10) d_Mo_shoreOf_2 (by decide) (fun hc => ?_) (fun hc => ?_)
  · rw [if_neg hc] at h
    refine go_iconst (v := 0) d_Mo_shoreOf_10 (by decide) ?_
    subst h
    exact go_ireturn d_Mo_shoreOf_11 rfl gb_po_i
  · rw [if_pos hc] at h
    refine go_bipush (v := 11) d_Mo_shoreOf_5 (by decide) ?_
    refine go_goto (tgt := 11) d_Mo_shoreOf_7 (by decide) ?_
    subst h
    exact go_ireturn d_Mo_shoreOf_11 rfl gb_po_i
theorem d_Mo_spansOver_0 : decode yMo_spansOver.2.1 0 = .ok (.iconst 0, 1) := by decide +kernel
theorem d_Mo_spansOver_1 : decode yMo_spansOver.2.1 1 = .ok (.istore_n 3, 1) := by decide +kernel
theorem d_Mo_spansOver_2 : decode yMo_spansOver.2.1 2 = .ok (.iconst 0, 1) := by decide +kernel
theorem d_Mo_spansOver_3 : decode yMo_spansOver.2.1 3 = .ok (.istore 4, 2) := by decide +kernel
theorem d_Mo_spansOver_5 : decode yMo_spansOver.2.1 5 = .ok (.iload 4, 2) := by decide +kernel
theorem d_Mo_spansOver_7 : decode yMo_spansOver.2.1 7 = .ok (.aload_n 0, 1) := by decide +kernel
theorem d_Mo_spansOver_8 : decode yMo_spansOver.2.1 8 = .ok (.getfield 465, 3) := by decide +kernel
theorem d_Mo_spansOver_11 : decode yMo_spansOver.2.1 11 = .ok (.if_icmp .ge 35, 3) := by decide +kernel
theorem d_Mo_spansOver_14 : decode yMo_spansOver.2.1 14 = .ok (.aload_n 0, 1) := by decide +kernel
theorem d_Mo_spansOver_15 : decode yMo_spansOver.2.1 15 = .ok (.getfield 116, 3) := by decide +kernel
theorem d_Mo_spansOver_18 : decode yMo_spansOver.2.1 18 = .ok (.iload 4, 2) := by decide +kernel
theorem d_Mo_spansOver_20 : decode yMo_spansOver.2.1 20 = .ok (.iaload, 1) := by decide +kernel
theorem d_Mo_spansOver_21 : decode yMo_spansOver.2.1 21 = .ok (.iload_n 2, 1) := by decide +kernel
theorem d_Mo_spansOver_22 : decode yMo_spansOver.2.1 22 = .ok (.if_icmp .ge 18, 3) := by decide +kernel
theorem d_Mo_spansOver_25 : decode yMo_spansOver.2.1 25 = .ok (.aload_n 0, 1) := by decide +kernel
theorem d_Mo_spansOver_26 : decode yMo_spansOver.2.1 26 = .ok (.getfield 119, 3) := by decide +kernel
theorem d_Mo_spansOver_29 : decode yMo_spansOver.2.1 29 = .ok (.iload 4, 2) := by decide +kernel
theorem d_Mo_spansOver_31 : decode yMo_spansOver.2.1 31 = .ok (.iaload, 1) := by decide +kernel
theorem d_Mo_spansOver_32 : decode yMo_spansOver.2.1 32 = .ok (.iload_n 1, 1) := by decide +kernel
theorem d_Mo_spansOver_33 : decode yMo_spansOver.2.1 33 = .ok (.if_icmp .le 7, 3) := by decide +kernel
theorem d_Mo_spansOver_36 : decode yMo_spansOver.2.1 36 = .ok (.iload_n 3, 1) := by decide +kernel
theorem d_Mo_spansOver_37 : decode yMo_spansOver.2.1 37 = .ok (.iconst 1, 1) := by decide +kernel
theorem d_Mo_spansOver_38 : decode yMo_spansOver.2.1 38 = .ok (.iadd, 1) := by decide +kernel
theorem d_Mo_spansOver_39 : decode yMo_spansOver.2.1 39 = .ok (.istore_n 3, 1) := by decide +kernel
theorem d_Mo_spansOver_40 : decode yMo_spansOver.2.1 40 = .ok (.iinc 4 1, 3) := by decide +kernel
theorem d_Mo_spansOver_43 : decode yMo_spansOver.2.1 43 = .ok (.goto (-38), 3) := by decide +kernel
theorem d_Mo_spansOver_46 : decode yMo_spansOver.2.1 46 = .ok (.iload_n 3, 1) := by decide +kernel
theorem d_Mo_spansOver_47 : decode yMo_spansOver.2.1 47 = .ok (.ireturn, 1) := by decide +kernel
def J_Mo_spansOver_40 (k : Int32 → Int32 → Option (Int32)) (x1 x2 x3 x4 : Int32) (I : gb_Mem) : Option (Int32) :=
  k x3 (x4 + 1)
set_option maxRecDepth 4000 in
theorem j_Mo_spansOver_40 (l : Launch) (d0 : Nat) {post : Option gb_AV → List gb_Ce → gb_Mem → Prop} (k : Int32 → Int32 → Option (Int32)) (x1 x2 x3 x4 : Int32) (I : gb_Mem) {ρ : Int32} (h : J_Mo_spansOver_40 k x1 x2 x3 x4 I = some ρ) (hk : ∀ (z3 z4 : Int32), k z3 z4 = some ρ → gb_Go l yMo_spansOver (d0 + 0) 0 0 5 [(0, .inr (some 0)), (1, .inl x1), (2, .inl x2), (3, .inl z3), (4, .inl z4)] [] shM I post) (hX : ∀ (o3 : Int32), ρ = o3 → gb_Go l yMo_spansOver (d0 + 0) 0 0 46 [(3, .inl o3)] [] shM I post) : gb_Go l yMo_spansOver (d0 + 0) 0 0 40 [(0, .inr (some 0)), (1, .inl x1), (2, .inl x2), (3, .inl x3), (4, .inl x4)] [] shM I post := by
  unfold J_Mo_spansOver_40 at h
  refine go_iinc (k := 4) (v := x4 + 1) (lv' := [(4, .inl (x4 + 1)), (0, .inr (some 0)), (1, .inl x1), (2, .inl x2), (3, .inl x3)]) d_Mo_spansOver_40 rfl rfl (by decide) rfl ?_
  refine go_goto (tgt := 5) d_Mo_spansOver_43 (by decide) ?_
  exact go_lv [1, 2, 3, 4, 0] rfl (hk _ _ h)
def L_Mo_spansOver_5 (x1 x2 : Int32) (I : gb_Mem) : Nat → Int32 → Int32 → Option (Int32)
  | 0, _, _ => none
  | n + 1, x3, x4 =>
    if (I 0 58) ≤ x4 then
      some x3
    else
      flod I 35 9 x4 fun v1 =>
      if x2 ≤ v1 then
        J_Mo_spansOver_40 (L_Mo_spansOver_5 x1 x2 I n) x1 x2 x3 x4 I
      else
        flod I 36 9 x4 fun v2 =>
        if v2 ≤ x1 then
          J_Mo_spansOver_40 (L_Mo_spansOver_5 x1 x2 I n) x1 x2 x3 x4 I
        else
          J_Mo_spansOver_40 (L_Mo_spansOver_5 x1 x2 I n) x1 x2 (x3 + 1) x4 I
set_option maxRecDepth 4000 in
theorem l_Mo_spansOver_5 (l : Launch) (d0 : Nat) (x1 x2 : Int32) (I : gb_Mem) {post : Option gb_AV → List gb_Ce → gb_Mem → Prop} : ∀ (n : Nat) (x3 x4 : Int32) {ρ : Int32} (h : L_Mo_spansOver_5 x1 x2 I n x3 x4 = some ρ) (hX : ∀ (o3 : Int32), ρ = o3 → gb_Go l yMo_spansOver (d0 + 0) 0 0 46 [(3, .inl o3)] [] shM I post) , gb_Go l yMo_spansOver (d0 + 0) 0 0 5 [(0, .inr (some 0)), (1, .inl x1), (2, .inl x2), (3, .inl x3), (4, .inl x4)] [] shM I post := by
  intro n
  induction n with
  | zero => intro x3 x4 ρ h hX; cases h
  | succ n ih =>
    intro x3 x4 ρ h hX
    rw [L_Mo_spansOver_5] at h
    refine go_iload (k := 4) d_Mo_spansOver_5 rfl ?_
    refine go_aload_n (k := 0) d_Mo_spansOver_7 rfl rfl ?_
    refine go_geti (ci := 10) (k := 58) d_Mo_spansOver_8 a_M_0 rfl (by decide) f_Mo_465 rfl ?_
    refine go_cmp_ge (tgt := 46) d_Mo_spansOver_11 (by decide) (fun hc => ?_) (fun hc => ?_)
    · rw [if_pos hc] at h
      exact go_lv [3] rfl (hX _ (Option.some.inj h).symm)
    · rw [if_neg hc] at h
      refine go_aload_n (k := 0) d_Mo_spansOver_14 rfl rfl ?_
      refine go_getr (ci := 10) (k := 59) (r := 35) d_Mo_spansOver_15 a_M_0 rfl (by decide) f_Mo_116 rfl ?_
      refine go_iload (k := 4) d_Mo_spansOver_18 rfl ?_
      obtain ⟨hi, v1, ev1, h⟩ := flod_e h
      refine go_iald2 d_Mo_spansOver_20 a_M_35 hi ev1 ?_
      refine go_iload_n (k := 2) d_Mo_spansOver_21 rfl rfl ?_
      refine go_cmp_ge (tgt := 40) d_Mo_spansOver_22 (by decide) (fun hc => ?_) (fun hc => ?_)
      · rw [if_pos hc] at h
        exact go_lv [0, 1, 2, 3, 4] rfl (j_Mo_spansOver_40 l d0 (L_Mo_spansOver_5 x1 x2 I n) x1 x2 x3 x4 I h (fun z3 z4 hh => ih z3 z4 hh hX) hX)
      · rw [if_neg hc] at h
        refine go_aload_n (k := 0) d_Mo_spansOver_25 rfl rfl ?_
        refine go_getr (ci := 10) (k := 60) (r := 36) d_Mo_spansOver_26 a_M_0 rfl (by decide) f_Mo_119 rfl ?_
        refine go_iload (k := 4) d_Mo_spansOver_29 rfl ?_
        obtain ⟨hi, v2, ev2, h⟩ := flod_e h
        refine go_iald2 d_Mo_spansOver_31 a_M_36 hi ev2 ?_
        refine go_iload_n (k := 1) d_Mo_spansOver_32 rfl rfl ?_
        refine go_cmp_le (tgt := 40) d_Mo_spansOver_33 (by decide) (fun hc => ?_) (fun hc => ?_)
        · rw [if_pos hc] at h
          exact go_lv [0, 1, 2, 3, 4] rfl (j_Mo_spansOver_40 l d0 (L_Mo_spansOver_5 x1 x2 I n) x1 x2 x3 x4 I h (fun z3 z4 hh => ih z3 z4 hh hX) hX)
        · rw [if_neg hc] at h
          refine go_iload_n (k := 3) d_Mo_spansOver_36 rfl rfl ?_
          refine go_iconst (v := 1) d_Mo_spansOver_37 (by decide) ?_
          refine go_iadd d_Mo_spansOver_38 ?_
          refine go_istore_n (lv' := [(3, .inl (x3 + 1)), (0, .inr (some 0)), (1, .inl x1), (2, .inl x2), (4, .inl x4)]) d_Mo_spansOver_39 rfl (by decide) rfl ?_
          exact go_lv [1, 2, 3, 0, 4] rfl (j_Mo_spansOver_40 l d0 (L_Mo_spansOver_5 x1 x2 I n) x1 x2 (x3 + 1) x4 I h (fun z3 z4 hh => ih z3 z4 hh hX) hX)
def F_Mo_spansOver (x1 x2 : Int32) (I : gb_Mem) : Option (Int32) :=
  fbd (L_Mo_spansOver_5 x1 x2 I 5000 0 0) fun o3 =>
  some o3
set_option maxRecDepth 4000 in
theorem c_Mo_spansOver (l : Launch) (d0 : Nat) (x1 x2 : Int32) (I : gb_Mem) {rz : Int32} (h : F_Mo_spansOver x1 x2 I = some rz) : gb_Cs l yMo_spansOver (d0 + 0) [.inr (some 0), .inl x1, .inl x2] shM I (some (.inl rz)) I := by
  refine gb_Ct.of (lv := [(0, .inr (some 0)), (1, .inl x1), (2, .inl x2)]) rfl (Nat.le_of_ble_eq_true rfl) rfl ?_
  unfold F_Mo_spansOver at h
  show gb_Go l yMo_spansOver (d0 + 0) 0 0 0 [(0, .inr (some 0)), (1, .inl x1), (2, .inl x2)] [] shM I (gb_po shM (some (.inl rz)) I)
  refine go_iconst (v := 0) d_Mo_spansOver_0 (by decide) ?_
  refine go_istore_n (lv' := [(3, .inl 0), (0, .inr (some 0)), (1, .inl x1), (2, .inl x2)]) d_Mo_spansOver_1 rfl (by decide) rfl ?_
  refine go_iconst (v := 0) d_Mo_spansOver_2 (by decide) ?_
  refine go_istore (lv' := [(4, .inl 0), (3, .inl 0), (0, .inr (some 0)), (1, .inl x1), (2, .inl x2)]) d_Mo_spansOver_3 (by decide) rfl ?_
  refine go_lv [2, 3, 4, 1, 0] (lv' := [(0, .inr (some 0)), (1, .inl x1), (2, .inl x2), (3, .inl 0), (4, .inl 0)]) rfl ?_
  obtain ⟨o3, w1, h⟩ := fbd_e h
  refine l_Mo_spansOver_5 l d0 x1 x2 I 5000 0 0 w1 (fun o3_ e => ?_)
  cases e
  refine go_iload_n (k := 0) d_Mo_spansOver_46 rfl rfl ?_
  cases h
  exact go_ireturn d_Mo_spansOver_47 rfl gb_po_i
theorem d_Mo_state_0 : decode yMo_state.2.1 0 = .ok (.aload_n 0, 1) := by decide +kernel
theorem d_Mo_state_1 : decode yMo_state.2.1 1 = .ok (.iconst 0, 1) := by decide +kernel
theorem d_Mo_state_2 : decode yMo_state.2.1 2 = .ok (.putfield 137, 3) := by decide +kernel
theorem d_Mo_state_5 : decode yMo_state.2.1 5 = .ok (.aload_n 0, 1) := by decide +kernel
theorem d_Mo_state_6 : decode yMo_state.2.1 6 = .ok (.getfield 7, 3) := by decide +kernel
theorem d_Mo_state_9 : decode yMo_state.2.1 9 = .ok (.iconst 1, 1) := by decide +kernel
theorem d_Mo_state_10 : decode yMo_state.2.1 10 = .ok (.iaload, 1) := by decide +kernel
theorem d_Mo_state_11 : decode yMo_state.2.1 11 = .ok (.istore_n 2, 1) := by decide +kernel
theorem d_Mo_state_12 : decode yMo_state.2.1 12 = .ok (.aload_n 0, 1) := by decide +kernel
theorem d_Mo_state_13 : decode yMo_state.2.1 13 = .ok (.getfield 7, 3) := by decide +kernel
theorem d_Mo_state_16 : decode yMo_state.2.1 16 = .ok (.iconst 1, 1) := by decide +kernel
theorem d_Mo_state_17 : decode yMo_state.2.1 17 = .ok (.iload_n 1, 1) := by decide +kernel
theorem d_Mo_state_18 : decode yMo_state.2.1 18 = .ok (.iastore, 1) := by decide +kernel
theorem d_Mo_state_19 : decode yMo_state.2.1 19 = .ok (.aload_n 0, 1) := by decide +kernel
theorem d_Mo_state_20 : decode yMo_state.2.1 20 = .ok (.iconst 0, 1) := by decide +kernel
theorem d_Mo_state_21 : decode yMo_state.2.1 21 = .ok (.putfield 141, 3) := by decide +kernel
theorem d_Mo_state_24 : decode yMo_state.2.1 24 = .ok (.iload_n 2, 1) := by decide +kernel
theorem d_Mo_state_25 : decode yMo_state.2.1 25 = .ok (.ireturn, 1) := by decide +kernel
def F_Mo_state (x1 : Int32) (I : gb_Mem) : Option (Int32 × gb_Mem) :=
  fstf I 0 0 0 fun I1 =>
  fstf I1 1 1 x1 fun I2 =>
  fstf I2 0 3 0 fun I3 =>
  some (I1 1 1, I3)
set_option maxRecDepth 4000 in
theorem c_Mo_state (l : Launch) (d0 : Nat) (x1 : Int32) (I : gb_Mem) {rz : Int32} {Iz : gb_Mem} (h : F_Mo_state x1 I = some (rz, Iz)) : gb_Cs l yMo_state (d0 + 0) [.inr (some 0), .inl x1] shM I (some (.inl rz)) Iz := by
  refine gb_Ct.of (lv := [(0, .inr (some 0)), (1, .inl x1)]) rfl (Nat.le_of_ble_eq_true rfl) rfl ?_
  unfold F_Mo_state at h
  show gb_Go l yMo_state (d0 + 0) 0 0 0 [(0, .inr (some 0)), (1, .inl x1)] [] shM I (gb_po shM (some (.inl rz)) Iz)
  refine go_aload_n (k := 0) d_Mo_state_0 rfl rfl ?_
  refine go_iconst (v := 0) d_Mo_state_1 (by decide) ?_
  obtain ⟨I1, eI1, h⟩ := fstf_e h
  refine go_putT (ci := 10) (k := 0) (I' := I1) d_Mo_state_2 a_M_0 rfl (by decide) f_Mo_137 rfl rfl rfl rfl rfl eI1 ?_
  refine go_aload_n (k := 0) d_Mo_state_5 rfl rfl ?_
  refine go_getr (ci := 10) (k := 1) (r := 1) d_Mo_state_6 a_M_0 rfl (by decide) f_Mo_7 rfl ?_
  refine go_iconst (v := 1) d_Mo_state_9 (by decide) ?_
  refine go_iald2 (v := I1 1 1) d_Mo_state_10 a_M_1 (inb_iff.mp (by decide)) rfl ?_
  refine go_istore_n (lv' := [(2, .inl (I1 1 1)), (0, .inr (some 0)), (1, .inl x1)]) d_Mo_state_11 rfl (by decide) rfl ?_
  refine go_aload_n (k := 1) d_Mo_state_12 rfl rfl ?_
  refine go_getr (ci := 10) (k := 1) (r := 1) d_Mo_state_13 a_M_0 rfl (by decide) f_Mo_7 rfl ?_
  refine go_iconst (v := 1) d_Mo_state_16 (by decide) ?_
  refine go_iload_n (k := 2) d_Mo_state_17 rfl rfl ?_
  obtain ⟨I2, eI2, h⟩ := fstf_e h
  refine go_iast (I' := I2) d_Mo_state_18 a_M_1 (inb_iff.mp (by decide)) eI2 ?_
  refine go_aload_n (k := 1) d_Mo_state_19 rfl rfl ?_
  refine go_iconst (v := 0) d_Mo_state_20 (by decide) ?_
  obtain ⟨I3, eI3, h⟩ := fstf_e h
  refine go_putT (ci := 10) (k := 3) (I' := I3) d_Mo_state_21 a_M_0 rfl (by decide) f_Mo_141 rfl rfl rfl rfl rfl eI3 ?_
  refine go_iload_n (k := 0) d_Mo_state_24 rfl rfl ?_
  cases h
  exact go_ireturn d_Mo_state_25 rfl gb_po_i
theorem d_Mo_steady_0 : decode yMo_steady.2.1 0 = .ok (.aload_n 0, 1) := by decide +kernel
theorem d_Mo_steady_1 : decode yMo_steady.2.1 1 = .ok (.getfield 19, 3) := by decide +kernel
theorem d_Mo_steady_4 : decode yMo_steady.2.1 4 = .ok (.iload_n 1, 1) := by decide +kernel
theorem d_Mo_steady_5 : decode yMo_steady.2.1 5 = .ok (.iaload, 1) := by decide +kernel
theorem d_Mo_steady_6 : decode yMo_steady.2.1 6 = .ok (.iconst 5, 1) := by decide +kernel
theorem d_Mo_steady_7 : decode yMo_steady.2.1 7 = .ok (.iadd, 1) := by decide +kernel
theorem d_Mo_steady_8 : decode yMo_steady.2.1 8 = .ok (.ireturn, 1) := by decide +kernel
def F_Mo_steady (x1 : Int32) (I : gb_Mem) : Option (Int32) :=
  flod I 4 12 x1 fun v1 =>
  some (v1 + 5)
set_option maxRecDepth 4000 in
theorem c_Mo_steady (l : Launch) (d0 : Nat) (x1 : Int32) (I : gb_Mem) {rz : Int32} (h : F_Mo_steady x1 I = some rz) : gb_Cs l yMo_steady (d0 + 0) [.inr (some 0), .inl x1] shM I (some (.inl rz)) I := by
  refine gb_Ct.of (lv := [(0, .inr (some 0)), (1, .inl x1)]) rfl (Nat.le_of_ble_eq_true rfl) rfl ?_
  unfold F_Mo_steady at h
  show gb_Go l yMo_steady (d0 + 0) 0 0 0 [(0, .inr (some 0)), (1, .inl x1)] [] shM I (gb_po shM (some (.inl rz)) I)
  refine go_aload_n (k := 0) d_Mo_steady_0 rfl rfl ?_
  refine go_getr (ci := 10) (k := 7) (r := 4) d_Mo_steady_1 a_M_0 rfl (by decide) f_Mo_19 rfl ?_
  refine go_iload_n (k := 1) d_Mo_steady_4 rfl rfl ?_
  obtain ⟨hi, v1, ev1, h⟩ := flod_e h
  refine go_iald2 d_Mo_steady_5 a_M_4 hi ev1 ?_
  refine go_iconst (v := 5) d_Mo_steady_6 (by decide) ?_
  refine go_iadd d_Mo_steady_7 ?_
  cases h
  exact go_ireturn d_Mo_steady_8 rfl gb_po_i
theorem d_Mo_sumOf_0 : decode yMo_sumOf.2.1 0 = .ok (.iconst 0, 1) := by decide +kernel
theorem d_Mo_sumOf_1 : decode yMo_sumOf.2.1 1 = .ok (.istore_n 3, 1) := by decide +kernel
theorem d_Mo_sumOf_2 : decode yMo_sumOf.2.1 2 = .ok (.iconst 0, 1) := by decide +kernel
theorem d_Mo_sumOf_3 : decode yMo_sumOf.2.1 3 = .ok (.istore 4, 2) := by decide +kernel
theorem d_Mo_sumOf_5 : decode yMo_sumOf.2.1 5 = .ok (.iload 4, 2) := by decide +kernel
theorem d_Mo_sumOf_7 : decode yMo_sumOf.2.1 7 = .ok (.iload_n 2, 1) := by decide +kernel
theorem d_Mo_sumOf_8 : decode yMo_sumOf.2.1 8 = .ok (.if_icmp .ge 21, 3) := by decide +kernel
theorem d_Mo_sumOf_11 : decode yMo_sumOf.2.1 11 = .ok (.iload_n 3, 1) := by decide +kernel
theorem d_Mo_sumOf_12 : decode yMo_sumOf.2.1 12 = .ok (.aload_n 0, 1) := by decide +kernel
theorem d_Mo_sumOf_13 : decode yMo_sumOf.2.1 13 = .ok (.getfield 7, 3) := by decide +kernel
theorem d_Mo_sumOf_16 : decode yMo_sumOf.2.1 16 = .ok (.iload_n 1, 1) := by decide +kernel
theorem d_Mo_sumOf_17 : decode yMo_sumOf.2.1 17 = .ok (.iload 4, 2) := by decide +kernel
theorem d_Mo_sumOf_19 : decode yMo_sumOf.2.1 19 = .ok (.iadd, 1) := by decide +kernel
theorem d_Mo_sumOf_20 : decode yMo_sumOf.2.1 20 = .ok (.iaload, 1) := by decide +kernel
theorem d_Mo_sumOf_21 : decode yMo_sumOf.2.1 21 = .ok (.iadd, 1) := by decide +kernel
theorem d_Mo_sumOf_22 : decode yMo_sumOf.2.1 22 = .ok (.istore_n 3, 1) := by decide +kernel
theorem d_Mo_sumOf_23 : decode yMo_sumOf.2.1 23 = .ok (.iinc 4 1, 3) := by decide +kernel
theorem d_Mo_sumOf_26 : decode yMo_sumOf.2.1 26 = .ok (.goto (-21), 3) := by decide +kernel
theorem d_Mo_sumOf_29 : decode yMo_sumOf.2.1 29 = .ok (.iload_n 3, 1) := by decide +kernel
theorem d_Mo_sumOf_30 : decode yMo_sumOf.2.1 30 = .ok (.ireturn, 1) := by decide +kernel
def L_Mo_sumOf_5 (x1 x2 : Int32) (I : gb_Mem) : Nat → Int32 → Int32 → Option (Int32)
  | 0, _, _ => none
  | n + 1, x3, x4 =>
    if x2 ≤ x4 then
      some x3
    else
      flod I 1 80 (x1 + x4) fun v1 =>
      L_Mo_sumOf_5 x1 x2 I n (x3 + v1) (x4 + 1)
set_option maxRecDepth 4000 in
theorem l_Mo_sumOf_5 (l : Launch) (d0 : Nat) (x1 x2 : Int32) (I : gb_Mem) {post : Option gb_AV → List gb_Ce → gb_Mem → Prop} : ∀ (n : Nat) (x3 x4 : Int32) {ρ : Int32} (h : L_Mo_sumOf_5 x1 x2 I n x3 x4 = some ρ) (hX : ∀ (o3 : Int32), ρ = o3 → gb_Go l yMo_sumOf (d0 + 0) 0 0 29 [(3, .inl o3)] [] shM I post) , gb_Go l yMo_sumOf (d0 + 0) 0 0 5 [(0, .inr (some 0)), (1, .inl x1), (2, .inl x2), (3, .inl x3), (4, .inl x4)] [] shM I post := by
  intro n
  induction n with
  | zero => intro x3 x4 ρ h hX; cases h
  | succ n ih =>
    intro x3 x4 ρ h hX
    rw [L_Mo_sumOf_5] at h
    refine go_iload (k := 4) d_Mo_sumOf_5 rfl ?_
    refine go_iload_n (k := 2) d_Mo_sumOf_7 rfl rfl ?_
    refine go_cmp_ge (tgt := 29) d_Mo_sumOf_8 (by decide) (fun hc => ?_) (fun hc => ?_)
    · rw [if_pos hc] at h
      exact go_lv [3] rfl (hX _ (Option.some.inj h).symm)
    · rw [if_neg hc] at h
      refine go_iload_n (k := 3) d_Mo_sumOf_11 rfl rfl ?_
      refine go_aload_n (k := 0) d_Mo_sumOf_12 rfl rfl ?_
      refine go_getr (ci := 10) (k := 1) (r := 1) d_Mo_sumOf_13 a_M_0 rfl (by decide) f_Mo_7 rfl ?_
      refine go_iload_n (k := 1) d_Mo_sumOf_16 rfl rfl ?_
      refine go_iload (k := 4) d_Mo_sumOf_17 rfl ?_
      refine go_iadd d_Mo_sumOf_19 ?_
      obtain ⟨hi, v1, ev1, h⟩ := flod_e h
      refine go_iald2 d_Mo_sumOf_20 a_M_1 hi ev1 ?_
      refine go_iadd d_Mo_sumOf_21 ?_
      refine go_istore_n (lv' := [(3, .inl (x3 + v1)), (0, .inr (some 0)), (1, .inl x1), (2, .inl x2), (4, .inl x4)]) d_Mo_sumOf_22 rfl (by decide) rfl ?_
      refine go_iinc (k := 4) (v := x4 + 1) (lv' := [(4, .inl (x4 + 1)), (3, .inl (x3 + v1)), (0, .inr (some 0)), (1, .inl x1), (2, .inl x2)]) d_Mo_sumOf_23 rfl rfl (by decide) rfl ?_
      refine go_goto (tgt := 5) d_Mo_sumOf_26 (by decide) ?_
      exact go_lv [2, 3, 4, 1, 0] rfl (ih (x3 + v1) (x4 + 1) h hX)
def F_Mo_sumOf (x1 x2 : Int32) (I : gb_Mem) : Option (Int32) :=
  fbd (L_Mo_sumOf_5 x1 x2 I 5000 0 0) fun o2 =>
  some o2
set_option maxRecDepth 4000 in
theorem c_Mo_sumOf (l : Launch) (d0 : Nat) (x1 x2 : Int32) (I : gb_Mem) {rz : Int32} (h : F_Mo_sumOf x1 x2 I = some rz) : gb_Cs l yMo_sumOf (d0 + 0) [.inr (some 0), .inl x1, .inl x2] shM I (some (.inl rz)) I := by
  refine gb_Ct.of (lv := [(0, .inr (some 0)), (1, .inl x1), (2, .inl x2)]) rfl (Nat.le_of_ble_eq_true rfl) rfl ?_
  unfold F_Mo_sumOf at h
  show gb_Go l yMo_sumOf (d0 + 0) 0 0 0 [(0, .inr (some 0)), (1, .inl x1), (2, .inl x2)] [] shM I (gb_po shM (some (.inl rz)) I)
  refine go_iconst (v := 0) d_Mo_sumOf_0 (by decide) ?_
  refine go_istore_n (lv' := [(3, .inl 0), (0, .inr (some 0)), (1, .inl x1), (2, .inl x2)]) d_Mo_sumOf_1 rfl (by decide) rfl ?_
  refine go_iconst (v := 0) d_Mo_sumOf_2 (by decide) ?_
  refine go_istore (lv' := [(4, .inl 0), (3, .inl 0), (0, .inr (some 0)), (1, .inl x1), (2, .inl x2)]) d_Mo_sumOf_3 (by decide) rfl ?_
  refine go_lv [2, 3, 4, 1, 0] (lv' := [(0, .inr (some 0)), (1, .inl x1), (2, .inl x2), (3, .inl 0), (4, .inl 0)]) rfl ?_
  obtain ⟨o2, w1, h⟩ := fbd_e h
  refine l_Mo_sumOf_5 l d0 x1 x2 I 5000 0 0 w1 (fun o2_ e => ?_)
  cases e
  refine go_iload_n (k := 0) d_Mo_sumOf_29 rfl rfl ?_
  cases h
  exact go_ireturn d_Mo_sumOf_30 rfl gb_po_i
theorem d_Mo_takesLaw_0 : decode yMo_takesLaw.2.1 0 = .ok (.iconst 0, 1) := by decide +kernel
theorem d_Mo_takesLaw_1 : decode yMo_takesLaw.2.1 1 = .ok (.istore_n 2, 1) := by decide +kernel
theorem d_Mo_takesLaw_2 : decode yMo_takesLaw.2.1 2 = .ok (.iload_n 2, 1) := by decide +kernel
theorem d_Mo_takesLaw_3 : decode yMo_takesLaw.2.1 3 = .ok (.iload_n 1, 1) := by decide +kernel
theorem d_Mo_takesLaw_4 : decode yMo_takesLaw.2.1 4 = .ok (.if_icmp .ge 101, 3) := by decide +kernel
theorem d_Mo_takesLaw_7 : decode yMo_takesLaw.2.1 7 = .ok (.aload_n 0, 1) := by decide +kernel
theorem d_Mo_takesLaw_8 : decode yMo_takesLaw.2.1 8 = .ok (.getfield 43, 3) := by decide +kernel
theorem d_Mo_takesLaw_11 : decode yMo_takesLaw.2.1 11 = .ok (.bipush 16, 2) := by decide +kernel
theorem d_Mo_takesLaw_13 : decode yMo_takesLaw.2.1 13 = .ok (.aload_n 0, 1) := by decide +kernel
theorem d_Mo_takesLaw_14 : decode yMo_takesLaw.2.1 14 = .ok (.getfield 266, 3) := by decide +kernel
theorem d_Mo_takesLaw_17 : decode yMo_takesLaw.2.1 17 = .ok (.imul, 1) := by decide +kernel
theorem d_Mo_takesLaw_18 : decode yMo_takesLaw.2.1 18 = .ok (.iload_n 2, 1) := by decide +kernel
theorem d_Mo_takesLaw_19 : decode yMo_takesLaw.2.1 19 = .ok (.iadd, 1) := by decide +kernel
theorem d_Mo_takesLaw_20 : decode yMo_takesLaw.2.1 20 = .ok (.aload_n 0, 1) := by decide +kernel
theorem d_Mo_takesLaw_21 : decode yMo_takesLaw.2.1 21 = .ok (.getfield 43, 3) := by decide +kernel
theorem d_Mo_takesLaw_24 : decode yMo_takesLaw.2.1 24 = .ok (.bipush 32, 2) := by decide +kernel
theorem d_Mo_takesLaw_26 : decode yMo_takesLaw.2.1 26 = .ok (.iload_n 2, 1) := by decide +kernel
theorem d_Mo_takesLaw_27 : decode yMo_takesLaw.2.1 27 = .ok (.iadd, 1) := by decide +kernel
theorem d_Mo_takesLaw_28 : decode yMo_takesLaw.2.1 28 = .ok (.iaload, 1) := by decide +kernel
theorem d_Mo_takesLaw_29 : decode yMo_takesLaw.2.1 29 = .ok (.iastore, 1) := by decide +kernel
theorem d_Mo_takesLaw_30 : decode yMo_takesLaw.2.1 30 = .ok (.aload_n 0, 1) := by decide +kernel
theorem d_Mo_takesLaw_31 : decode yMo_takesLaw.2.1 31 = .ok (.getfield 46, 3) := by decide +kernel
theorem d_Mo_takesLaw_34 : decode yMo_takesLaw.2.1 34 = .ok (.bipush 16, 2) := by decide +kernel
theorem d_Mo_takesLaw_36 : decode yMo_takesLaw.2.1 36 = .ok (.aload_n 0, 1) := by decide +kernel
theorem d_Mo_takesLaw_37 : decode yMo_takesLaw.2.1 37 = .ok (.getfield 266, 3) := by decide +kernel
theorem d_Mo_takesLaw_40 : decode yMo_takesLaw.2.1 40 = .ok (.imul, 1) := by decide +kernel
theorem d_Mo_takesLaw_41 : decode yMo_takesLaw.2.1 41 = .ok (.iload_n 2, 1) := by decide +kernel
theorem d_Mo_takesLaw_42 : decode yMo_takesLaw.2.1 42 = .ok (.iadd, 1) := by decide +kernel
theorem d_Mo_takesLaw_43 : decode yMo_takesLaw.2.1 43 = .ok (.aload_n 0, 1) := by decide +kernel
theorem d_Mo_takesLaw_44 : decode yMo_takesLaw.2.1 44 = .ok (.getfield 46, 3) := by decide +kernel
theorem d_Mo_takesLaw_47 : decode yMo_takesLaw.2.1 47 = .ok (.bipush 32, 2) := by decide +kernel
theorem d_Mo_takesLaw_49 : decode yMo_takesLaw.2.1 49 = .ok (.iload_n 2, 1) := by decide +kernel
theorem d_Mo_takesLaw_50 : decode yMo_takesLaw.2.1 50 = .ok (.iadd, 1) := by decide +kernel
theorem d_Mo_takesLaw_51 : decode yMo_takesLaw.2.1 51 = .ok (.iaload, 1) := by decide +kernel
theorem d_Mo_takesLaw_52 : decode yMo_takesLaw.2.1 52 = .ok (.iastore, 1) := by decide +kernel
theorem d_Mo_takesLaw_53 : decode yMo_takesLaw.2.1 53 = .ok (.aload_n 0, 1) := by decide +kernel
theorem d_Mo_takesLaw_54 : decode yMo_takesLaw.2.1 54 = .ok (.getfield 49, 3) := by decide +kernel
theorem d_Mo_takesLaw_57 : decode yMo_takesLaw.2.1 57 = .ok (.bipush 16, 2) := by decide +kernel
theorem d_Mo_takesLaw_59 : decode yMo_takesLaw.2.1 59 = .ok (.aload_n 0, 1) := by decide +kernel
theorem d_Mo_takesLaw_60 : decode yMo_takesLaw.2.1 60 = .ok (.getfield 266, 3) := by decide +kernel
theorem d_Mo_takesLaw_63 : decode yMo_takesLaw.2.1 63 = .ok (.imul, 1) := by decide +kernel
theorem d_Mo_takesLaw_64 : decode yMo_takesLaw.2.1 64 = .ok (.iload_n 2, 1) := by decide +kernel
theorem d_Mo_takesLaw_65 : decode yMo_takesLaw.2.1 65 = .ok (.iadd, 1) := by decide +kernel
theorem d_Mo_takesLaw_66 : decode yMo_takesLaw.2.1 66 = .ok (.aload_n 0, 1) := by decide +kernel
theorem d_Mo_takesLaw_67 : decode yMo_takesLaw.2.1 67 = .ok (.getfield 49, 3) := by decide +kernel
theorem d_Mo_takesLaw_70 : decode yMo_takesLaw.2.1 70 = .ok (.bipush 32, 2) := by decide +kernel
theorem d_Mo_takesLaw_72 : decode yMo_takesLaw.2.1 72 = .ok (.iload_n 2, 1) := by decide +kernel
theorem d_Mo_takesLaw_73 : decode yMo_takesLaw.2.1 73 = .ok (.iadd, 1) := by decide +kernel
theorem d_Mo_takesLaw_74 : decode yMo_takesLaw.2.1 74 = .ok (.iaload, 1) := by decide +kernel
theorem d_Mo_takesLaw_75 : decode yMo_takesLaw.2.1 75 = .ok (.iastore, 1) := by decide +kernel
theorem d_Mo_takesLaw_76 : decode yMo_takesLaw.2.1 76 = .ok (.aload_n 0, 1) := by decide +kernel
theorem d_Mo_takesLaw_77 : decode yMo_takesLaw.2.1 77 = .ok (.getfield 52, 3) := by decide +kernel
theorem d_Mo_takesLaw_80 : decode yMo_takesLaw.2.1 80 = .ok (.bipush 16, 2) := by decide +kernel
theorem d_Mo_takesLaw_82 : decode yMo_takesLaw.2.1 82 = .ok (.aload_n 0, 1) := by decide +kernel
theorem d_Mo_takesLaw_83 : decode yMo_takesLaw.2.1 83 = .ok (.getfield 266, 3) := by decide +kernel
theorem d_Mo_takesLaw_86 : decode yMo_takesLaw.2.1 86 = .ok (.imul, 1) := by decide +kernel
theorem d_Mo_takesLaw_87 : decode yMo_takesLaw.2.1 87 = .ok (.iload_n 2, 1) := by decide +kernel
theorem d_Mo_takesLaw_88 : decode yMo_takesLaw.2.1 88 = .ok (.iadd, 1) := by decide +kernel
theorem d_Mo_takesLaw_89 : decode yMo_takesLaw.2.1 89 = .ok (.aload_n 0, 1) := by decide +kernel
theorem d_Mo_takesLaw_90 : decode yMo_takesLaw.2.1 90 = .ok (.getfield 52, 3) := by decide +kernel
theorem d_Mo_takesLaw_93 : decode yMo_takesLaw.2.1 93 = .ok (.bipush 32, 2) := by decide +kernel
theorem d_Mo_takesLaw_95 : decode yMo_takesLaw.2.1 95 = .ok (.iload_n 2, 1) := by decide +kernel
theorem d_Mo_takesLaw_96 : decode yMo_takesLaw.2.1 96 = .ok (.iadd, 1) := by decide +kernel
theorem d_Mo_takesLaw_97 : decode yMo_takesLaw.2.1 97 = .ok (.iaload, 1) := by decide +kernel
theorem d_Mo_takesLaw_98 : decode yMo_takesLaw.2.1 98 = .ok (.iastore, 1) := by decide +kernel
theorem d_Mo_takesLaw_99 : decode yMo_takesLaw.2.1 99 = .ok (.iinc 2 1, 3) := by decide +kernel
theorem d_Mo_takesLaw_102 : decode yMo_takesLaw.2.1 102 = .ok (.goto (-100), 3) := by decide +kernel
theorem d_Mo_takesLaw_105 : decode yMo_takesLaw.2.1 105 = .ok (.iconst 0, 1) := by decide +kernel
theorem d_Mo_takesLaw_106 : decode yMo_takesLaw.2.1 106 = .ok (.istore_n 2, 1) := by decide +kernel
theorem d_Mo_takesLaw_107 : decode yMo_takesLaw.2.1 107 = .ok (.iload_n 2, 1) := by decide +kernel
theorem d_Mo_takesLaw_108 : decode yMo_takesLaw.2.1 108 = .ok (.aload_n 0, 1) := by decide +kernel
theorem d_Mo_takesLaw_109 : decode yMo_takesLaw.2.1 109 = .ok (.getfield 212, 3) := by decide +kernel
theorem d_Mo_takesLaw_112 : decode yMo_takesLaw.2.1 112 = .ok (.if_icmp .ge 59, 3) := by decide +kernel
theorem d_Mo_takesLaw_115 : decode yMo_takesLaw.2.1 115 = .ok (.aload_n 0, 1) := by decide +kernel
theorem d_Mo_takesLaw_116 : decode yMo_takesLaw.2.1 116 = .ok (.getfield 55, 3) := by decide +kernel
theorem d_Mo_takesLaw_119 : decode yMo_takesLaw.2.1 119 = .ok (.sipush 400, 3) := by decide +kernel
theorem d_Mo_takesLaw_122 : decode yMo_takesLaw.2.1 122 = .ok (.aload_n 0, 1) := by decide +kernel
theorem d_Mo_takesLaw_123 : decode yMo_takesLaw.2.1 123 = .ok (.getfield 266, 3) := by decide +kernel
theorem d_Mo_takesLaw_126 : decode yMo_takesLaw.2.1 126 = .ok (.imul, 1) := by decide +kernel
theorem d_Mo_takesLaw_127 : decode yMo_takesLaw.2.1 127 = .ok (.iload_n 2, 1) := by decide +kernel
theorem d_Mo_takesLaw_128 : decode yMo_takesLaw.2.1 128 = .ok (.iadd, 1) := by decide +kernel
theorem d_Mo_takesLaw_129 : decode yMo_takesLaw.2.1 129 = .ok (.aload_n 0, 1) := by decide +kernel
theorem d_Mo_takesLaw_130 : decode yMo_takesLaw.2.1 130 = .ok (.getfield 55, 3) := by decide +kernel
theorem d_Mo_takesLaw_133 : decode yMo_takesLaw.2.1 133 = .ok (.sipush 800, 3) := by decide +kernel
theorem d_Mo_takesLaw_136 : decode yMo_takesLaw.2.1 136 = .ok (.iload_n 2, 1) := by decide +kernel
theorem d_Mo_takesLaw_137 : decode yMo_takesLaw.2.1 137 = .ok (.iadd, 1) := by decide +kernel
theorem d_Mo_takesLaw_138 : decode yMo_takesLaw.2.1 138 = .ok (.iaload, 1) := by decide +kernel
theorem d_Mo_takesLaw_139 : decode yMo_takesLaw.2.1 139 = .ok (.iastore, 1) := by decide +kernel
theorem d_Mo_takesLaw_140 : decode yMo_takesLaw.2.1 140 = .ok (.aload_n 0, 1) := by decide +kernel
theorem d_Mo_takesLaw_141 : decode yMo_takesLaw.2.1 141 = .ok (.getfield 58, 3) := by decide +kernel
theorem d_Mo_takesLaw_144 : decode yMo_takesLaw.2.1 144 = .ok (.sipush 400, 3) := by decide +kernel
theorem d_Mo_takesLaw_147 : decode yMo_takesLaw.2.1 147 = .ok (.aload_n 0, 1) := by decide +kernel
theorem d_Mo_takesLaw_148 : decode yMo_takesLaw.2.1 148 = .ok (.getfield 266, 3) := by decide +kernel
theorem d_Mo_takesLaw_151 : decode yMo_takesLaw.2.1 151 = .ok (.imul, 1) := by decide +kernel
theorem d_Mo_takesLaw_152 : decode yMo_takesLaw.2.1 152 = .ok (.iload_n 2, 1) := by decide +kernel
theorem d_Mo_takesLaw_153 : decode yMo_takesLaw.2.1 153 = .ok (.iadd, 1) := by decide +kernel
theorem d_Mo_takesLaw_154 : decode yMo_takesLaw.2.1 154 = .ok (.aload_n 0, 1) := by decide +kernel
theorem d_Mo_takesLaw_155 : decode yMo_takesLaw.2.1 155 = .ok (.getfield 58, 3) := by decide +kernel
theorem d_Mo_takesLaw_158 : decode yMo_takesLaw.2.1 158 = .ok (.sipush 800, 3) := by decide +kernel
theorem d_Mo_takesLaw_161 : decode yMo_takesLaw.2.1 161 = .ok (.iload_n 2, 1) := by decide +kernel
theorem d_Mo_takesLaw_162 : decode yMo_takesLaw.2.1 162 = .ok (.iadd, 1) := by decide +kernel
theorem d_Mo_takesLaw_163 : decode yMo_takesLaw.2.1 163 = .ok (.iaload, 1) := by decide +kernel
theorem d_Mo_takesLaw_164 : decode yMo_takesLaw.2.1 164 = .ok (.iastore, 1) := by decide +kernel
theorem d_Mo_takesLaw_165 : decode yMo_takesLaw.2.1 165 = .ok (.iinc 2 1, 3) := by decide +kernel
theorem d_Mo_takesLaw_168 : decode yMo_takesLaw.2.1 168 = .ok (.goto (-61), 3) := by decide +kernel
theorem d_Mo_takesLaw_171 : decode yMo_takesLaw.2.1 171 = .ok (.aload_n 0, 1) := by decide +kernel
theorem d_Mo_takesLaw_172 : decode yMo_takesLaw.2.1 172 = .ok (.getfield 40, 3) := by decide +kernel
theorem d_Mo_takesLaw_175 : decode yMo_takesLaw.2.1 175 = .ok (.aload_n 0, 1) := by decide +kernel
theorem d_Mo_takesLaw_176 : decode yMo_takesLaw.2.1 176 = .ok (.getfield 266, 3) := by decide +kernel
theorem d_Mo_takesLaw_179 : decode yMo_takesLaw.2.1 179 = .ok (.iload_n 1, 1) := by decide +kernel
theorem d_Mo_takesLaw_180 : decode yMo_takesLaw.2.1 180 = .ok (.iastore, 1) := by decide +kernel
theorem d_Mo_takesLaw_181 : decode yMo_takesLaw.2.1 181 = .ok (.return_, 1) := by decide +kernel
def L_Mo_takesLaw_2 (x1 : Int32) : Nat → Int32 → gb_Mem → Option (gb_Mem)
  | 0, _, _ => none
  | n + 1, x2, I =>
    if x1 ≤ x2 then
      some I
    else
      flod I 12 48 (32 + x2) fun v1 =>
      fsto I 12 48 ((16 * (I 0 26)) + x2) v1 fun I2 =>
      flod I2 13 48 (32 + x2) fun v3 =>
      fsto I2 13 48 ((16 * (I2 0 26)) + x2) v3 fun I4 =>
      flod I4 14 48 (32 + x2) fun v5 =>
      fsto I4 14 48 ((16 * (I4 0 26)) + x2) v5 fun I6 =>
      flod I6 15 48 (32 + x2) fun v7 =>
      fsto I6 15 48 ((16 * (I6 0 26)) + x2) v7 fun I8 =>
      L_Mo_takesLaw_2 x1 n (x2 + 1) I8
set_option maxRecDepth 4000 in
theorem l_Mo_takesLaw_2 (l : Launch) (d0 : Nat) (x1 : Int32) {post : Option gb_AV → List gb_Ce → gb_Mem → Prop} : ∀ (n : Nat) (x2 : Int32) (I : gb_Mem) {ρ : gb_Mem} (h : L_Mo_takesLaw_2 x1 n x2 I = some ρ) (hX : ∀ (I2 : gb_Mem), ρ = I2 → gb_Go l yMo_takesLaw (d0 + 0) 0 0 105 [(0, .inr (some 0)), (1, .inl x1)] [] shM I2 post) , gb_Go l yMo_takesLaw (d0 + 0) 0 0 2 [(0, .inr (some 0)), (1, .inl x1), (2, .inl x2)] [] shM I post := by
  intro n
  induction n with
  | zero => intro x2 I ρ h hX; cases h
  | succ n ih =>
    intro x2 I ρ h hX
    rw [L_Mo_takesLaw_2] at h
    refine go_iload_n (k := 2) d_Mo_takesLaw_2 rfl rfl ?_
    refine go_iload_n (k := 1) d_Mo_takesLaw_3 rfl rfl ?_
    refine go_cmp_ge (tgt := 105) d_Mo_takesLaw_4 (by decide) (fun hc => ?_) (fun hc => ?_)
    · rw [if_pos hc] at h
      exact go_lv [0, 1] rfl (hX _ (Option.some.inj h).symm)
    · rw [if_neg hc] at h
      refine go_aload_n (k := 0) d_Mo_takesLaw_7 rfl rfl ?_
      refine go_getr (ci := 10) (k := 20) (r := 12) d_Mo_takesLaw_8 a_M_0 rfl (by decide) f_Mo_43 rfl ?_
      refine go_bipush (v := 16) d_Mo_takesLaw_11 (by decide) ?_
      refine go_aload_n (k := 0) d_Mo_takesLaw_13 rfl rfl ?_
      refine go_geti (ci := 10) (k := 26) d_Mo_takesLaw_14 a_M_0 rfl (by decide) f_Mo_266 rfl ?_
      refine go_imul d_Mo_takesLaw_17 ?_
      refine go_iload_n (k := 2) d_Mo_takesLaw_18 rfl rfl ?_
      refine go_iadd d_Mo_takesLaw_19 ?_
      refine go_aload_n (k := 0) d_Mo_takesLaw_20 rfl rfl ?_
      refine go_getr (ci := 10) (k := 20) (r := 12) d_Mo_takesLaw_21 a_M_0 rfl (by decide) f_Mo_43 rfl ?_
      refine go_bipush (v := 32) d_Mo_takesLaw_24 (by decide) ?_
      refine go_iload_n (k := 2) d_Mo_takesLaw_26 rfl rfl ?_
      refine go_iadd d_Mo_takesLaw_27 ?_
      obtain ⟨hi, v1, ev1, h⟩ := flod_e h
      refine go_iald2 d_Mo_takesLaw_28 a_M_12 hi ev1 ?_
      obtain ⟨hi, I2, eI2, h⟩ := fsto_e h
      refine go_iast (I' := I2) d_Mo_takesLaw_29 a_M_12 hi eI2 ?_
      refine go_aload_n (k := 0) d_Mo_takesLaw_30 rfl rfl ?_
      refine go_getr (ci := 10) (k := 21) (r := 13) d_Mo_takesLaw_31 a_M_0 rfl (by decide) f_Mo_46 rfl ?_
      refine go_bipush (v := 16) d_Mo_takesLaw_34 (by decide) ?_
      refine go_aload_n (k := 0) d_Mo_takesLaw_36 rfl rfl ?_
      refine go_geti (ci := 10) (k := 26) d_Mo_takesLaw_37 a_M_0 rfl (by decide) f_Mo_266 rfl ?_
      refine go_imul d_Mo_takesLaw_40 ?_
      refine go_iload_n (k := 2) d_Mo_takesLaw_41 rfl rfl ?_
      refine go_iadd d_Mo_takesLaw_42 ?_
      refine go_aload_n (k := 0) d_Mo_takesLaw_43 rfl rfl ?_
      refine go_getr (ci := 10) (k := 21) (r := 13) d_Mo_takesLaw_44 a_M_0 rfl (by decide) f_Mo_46 rfl ?_
      refine go_bipush (v := 32) d_Mo_takesLaw_47 (by decide) ?_
      refine go_iload_n (k := 2) d_Mo_takesLaw_49 rfl rfl ?_
      refine go_iadd d_Mo_takesLaw_50 ?_
      obtain ⟨hi, v3, ev3, h⟩ := flod_e h
      refine go_iald2 d_Mo_takesLaw_51 a_M_13 hi ev3 ?_
      obtain ⟨hi, I4, eI4, h⟩ := fsto_e h
      refine go_iast (I' := I4) d_Mo_takesLaw_52 a_M_13 hi eI4 ?_
      refine go_aload_n (k := 0) d_Mo_takesLaw_53 rfl rfl ?_
      refine go_getr (ci := 10) (k := 22) (r := 14) d_Mo_takesLaw_54 a_M_0 rfl (by decide) f_Mo_49 rfl ?_
      refine go_bipush (v := 16) d_Mo_takesLaw_57 (by decide) ?_
      refine go_aload_n (k := 0) d_Mo_takesLaw_59 rfl rfl ?_
      refine go_geti (ci := 10) (k := 26) d_Mo_takesLaw_60 a_M_0 rfl (by decide) f_Mo_266 rfl ?_
      refine go_imul d_Mo_takesLaw_63 ?_
      refine go_iload_n (k := 2) d_Mo_takesLaw_64 rfl rfl ?_
      refine go_iadd d_Mo_takesLaw_65 ?_
      refine go_aload_n (k := 0) d_Mo_takesLaw_66 rfl rfl ?_
      refine go_getr (ci := 10) (k := 22) (r := 14) d_Mo_takesLaw_67 a_M_0 rfl (by decide) f_Mo_49 rfl ?_
      refine go_bipush (v := 32) d_Mo_takesLaw_70 (by decide) ?_
      refine go_iload_n (k := 2) d_Mo_takesLaw_72 rfl rfl ?_
      refine go_iadd d_Mo_takesLaw_73 ?_
      obtain ⟨hi, v5, ev5, h⟩ := flod_e h
      refine go_iald2 d_Mo_takesLaw_74 a_M_14 hi ev5 ?_
      obtain ⟨hi, I6, eI6, h⟩ := fsto_e h
      refine go_iast (I' := I6) d_Mo_takesLaw_75 a_M_14 hi eI6 ?_
      refine go_aload_n (k := 0) d_Mo_takesLaw_76 rfl rfl ?_
      refine go_getr (ci := 10) (k := 23) (r := 15) d_Mo_takesLaw_77 a_M_0 rfl (by decide) f_Mo_52 rfl ?_
      refine go_bipush (v := 16) d_Mo_takesLaw_80 (by decide) ?_
      refine go_aload_n (k := 0) d_Mo_takesLaw_82 rfl rfl ?_
      refine go_geti (ci := 10) (k := 26) d_Mo_takesLaw_83 a_M_0 rfl (by decide) f_Mo_266 rfl ?_
      refine go_imul d_Mo_takesLaw_86 ?_
      refine go_iload_n (k := 2) d_Mo_takesLaw_87 rfl rfl ?_
      refine go_iadd d_Mo_takesLaw_88 ?_
      refine go_aload_n (k := 0) d_Mo_takesLaw_89 rfl rfl ?_
      refine go_getr (ci := 10) (k := 23) (r := 15) d_Mo_takesLaw_90 a_M_0 rfl (by decide) f_Mo_52 rfl ?_
      refine go_bipush (v := 32) d_Mo_takesLaw_93 (by decide) ?_
      refine go_iload_n (k := 2) d_Mo_takesLaw_95 rfl rfl ?_
      refine go_iadd d_Mo_takesLaw_96 ?_
      obtain ⟨hi, v7, ev7, h⟩ := flod_e h
      refine go_iald2 d_Mo_takesLaw_97 a_M_15 hi ev7 ?_
      obtain ⟨hi, I8, eI8, h⟩ := fsto_e h
      refine go_iast (I' := I8) d_Mo_takesLaw_98 a_M_15 hi eI8 ?_
      refine go_iinc (k := 2) (v := x2 + 1) (lv' := [(2, .inl (x2 + 1)), (0, .inr (some 0)), (1, .inl x1)]) d_Mo_takesLaw_99 rfl rfl (by decide) rfl ?_
      refine go_goto (tgt := 2) d_Mo_takesLaw_102 (by decide) ?_
      exact go_lv [1, 2, 0] rfl (ih (x2 + 1) I8 h hX)
def L_Mo_takesLaw_107 (x1 : Int32) : Nat → Int32 → gb_Mem → Option (gb_Mem)
  | 0, _, _ => none
  | n + 1, x2, I =>
    if (I 0 27) ≤ x2 then
      some I
    else
      flod I 16 1200 (800 + x2) fun v10 =>
      fsto I 16 1200 ((400 * (I 0 26)) + x2) v10 fun I11 =>
      flod I11 17 1200 (800 + x2) fun v12 =>
      fsto I11 17 1200 ((400 * (I11 0 26)) + x2) v12 fun I13 =>
      L_Mo_takesLaw_107 x1 n (x2 + 1) I13
set_option maxRecDepth 4000 in
theorem l_Mo_takesLaw_107 (l : Launch) (d0 : Nat) (x1 : Int32) {post : Option gb_AV → List gb_Ce → gb_Mem → Prop} : ∀ (n : Nat) (x2 : Int32) (I : gb_Mem) {ρ : gb_Mem} (h : L_Mo_takesLaw_107 x1 n x2 I = some ρ) (hX : ∀ (I2 : gb_Mem), ρ = I2 → gb_Go l yMo_takesLaw (d0 + 0) 0 0 171 [(0, .inr (some 0)), (1, .inl x1)] [] shM I2 post) , gb_Go l yMo_takesLaw (d0 + 0) 0 0 107 [(0, .inr (some 0)), (1, .inl x1), (2, .inl x2)] [] shM I post := by
  intro n
  induction n with
  | zero => intro x2 I ρ h hX; cases h
  | succ n ih =>
    intro x2 I ρ h hX
    rw [L_Mo_takesLaw_107] at h
    refine go_iload_n (k := 2) d_Mo_takesLaw_107 rfl rfl ?_
    refine go_aload_n (k := 0) d_Mo_takesLaw_108 rfl rfl ?_
    refine go_geti (ci := 10) (k := 27) d_Mo_takesLaw_109 a_M_0 rfl (by decide) f_Mo_212 rfl ?_
    refine go_cmp_ge (tgt := 171) d_Mo_takesLaw_112 (by decide) (fun hc => ?_) (fun hc => ?_)
    · rw [if_pos hc] at h
      exact go_lv [0, 1] rfl (hX _ (Option.some.inj h).symm)
    · rw [if_neg hc] at h
      refine go_aload_n (k := 0) d_Mo_takesLaw_115 rfl rfl ?_
      refine go_getr (ci := 10) (k := 24) (r := 16) d_Mo_takesLaw_116 a_M_0 rfl (by decide) f_Mo_55 rfl ?_
      refine go_sipush (v := 400) d_Mo_takesLaw_119 (by decide) ?_
      refine go_aload_n (k := 0) d_Mo_takesLaw_122 rfl rfl ?_
      refine go_geti (ci := 10) (k := 26) d_Mo_takesLaw_123 a_M_0 rfl (by decide) f_Mo_266 rfl ?_
      refine go_imul d_Mo_takesLaw_126 ?_
      refine go_iload_n (k := 2) d_Mo_takesLaw_127 rfl rfl ?_
      refine go_iadd d_Mo_takesLaw_128 ?_
      refine go_aload_n (k := 0) d_Mo_takesLaw_129 rfl rfl ?_
      refine go_getr (ci := 10) (k := 24) (r := 16) d_Mo_takesLaw_130 a_M_0 rfl (by decide) f_Mo_55 rfl ?_
      refine go_sipush (v := 800) d_Mo_takesLaw_133 (by decide) ?_
      refine go_iload_n (k := 2) d_Mo_takesLaw_136 rfl rfl ?_
      refine go_iadd d_Mo_takesLaw_137 ?_
      obtain ⟨hi, v10, ev10, h⟩ := flod_e h
      refine go_iald2 d_Mo_takesLaw_138 a_M_16 hi ev10 ?_
      obtain ⟨hi, I11, eI11, h⟩ := fsto_e h
      refine go_iast (I' := I11) d_Mo_takesLaw_139 a_M_16 hi eI11 ?_
      refine go_aload_n (k := 0) d_Mo_takesLaw_140 rfl rfl ?_
      refine go_getr (ci := 10) (k := 25) (r := 17) d_Mo_takesLaw_141 a_M_0 rfl (by decide) f_Mo_58 rfl ?_
      refine go_sipush (v := 400) d_Mo_takesLaw_144 (by decide) ?_
      refine go_aload_n (k := 0) d_Mo_takesLaw_147 rfl rfl ?_
      refine go_geti (ci := 10) (k := 26) d_Mo_takesLaw_148 a_M_0 rfl (by decide) f_Mo_266 rfl ?_
      refine go_imul d_Mo_takesLaw_151 ?_
      refine go_iload_n (k := 2) d_Mo_takesLaw_152 rfl rfl ?_
      refine go_iadd d_Mo_takesLaw_153 ?_
      refine go_aload_n (k := 0) d_Mo_takesLaw_154 rfl rfl ?_
      refine go_getr (ci := 10) (k := 25) (r := 17) d_Mo_takesLaw_155 a_M_0 rfl (by decide) f_Mo_58 rfl ?_
      refine go_sipush (v := 800) d_Mo_takesLaw_158 (by decide) ?_
      refine go_iload_n (k := 2) d_Mo_takesLaw_161 rfl rfl ?_
      refine go_iadd d_Mo_takesLaw_162 ?_
      obtain ⟨hi, v12, ev12, h⟩ := flod_e h
      refine go_iald2 d_Mo_takesLaw_163 a_M_17 hi ev12 ?_
      obtain ⟨hi, I13, eI13, h⟩ := fsto_e h
      refine go_iast (I' := I13) d_Mo_takesLaw_164 a_M_17 hi eI13 ?_
      refine go_iinc (k := 2) (v := x2 + 1) (lv' := [(2, .inl (x2 + 1)), (0, .inr (some 0)), (1, .inl x1)]) d_Mo_takesLaw_165 rfl rfl (by decide) rfl ?_
      refine go_goto (tgt := 107) d_Mo_takesLaw_168 (by decide) ?_
      exact go_lv [1, 2, 0] rfl (ih (x2 + 1) I13 h hX)
def F_Mo_takesLaw (x1 : Int32) (I : gb_Mem) : Option (gb_Mem) :=
  fbd (L_Mo_takesLaw_2 x1 5000 0 I) fun I9 =>
  fbd (L_Mo_takesLaw_107 x1 5000 0 I9) fun I14 =>
  fsto I14 11 2 (I14 0 26) x1 fun I15 =>
  some I15
set_option maxRecDepth 4000 in
theorem c_Mo_takesLaw (l : Launch) (d0 : Nat) (x1 : Int32) (I : gb_Mem) {Iz : gb_Mem} (h : F_Mo_takesLaw x1 I = some Iz) : gb_Cs l yMo_takesLaw (d0 + 0) [.inr (some 0), .inl x1] shM I none Iz := by
  refine gb_Ct.of (lv := [(0, .inr (some 0)), (1, .inl x1)]) rfl (Nat.le_of_ble_eq_true rfl) rfl ?_
  unfold F_Mo_takesLaw at h
  show gb_Go l yMo_takesLaw (d0 + 0) 0 0 0 [(0, .inr (some 0)), (1, .inl x1)] [] shM I (gb_po shM none Iz)
  refine go_iconst (v := 0) d_Mo_takesLaw_0 (by decide) ?_
  refine go_istore_n (lv' := [(2, .inl 0), (0, .inr (some 0)), (1, .inl x1)]) d_Mo_takesLaw_1 rfl (by decide) rfl ?_
  refine go_lv [1, 2, 0] (lv' := [(0, .inr (some 0)), (1, .inl x1), (2, .inl 0)]) rfl ?_
  obtain ⟨I9, w1, h⟩ := fbd_e h
  refine l_Mo_takesLaw_2 l d0 x1 5000 0 I w1 (fun I9_ e => ?_)
  cases e
  refine go_iconst (v := 0) d_Mo_takesLaw_105 (by decide) ?_
  refine go_istore_n (lv' := [(2, .inl 0), (0, .inr (some 0)), (1, .inl x1)]) d_Mo_takesLaw_106 rfl (by decide) rfl ?_
  refine go_lv [1, 2, 0] (lv' := [(0, .inr (some 0)), (1, .inl x1), (2, .inl 0)]) rfl ?_
  obtain ⟨I14, w1, h⟩ := fbd_e h
  refine l_Mo_takesLaw_107 l d0 x1 5000 0 I9 w1 (fun I14_ e => ?_)
  cases e
  refine go_aload_n (k := 0) d_Mo_takesLaw_171 rfl rfl ?_
  refine go_getr (ci := 10) (k := 19) (r := 11) d_Mo_takesLaw_172 a_M_0 rfl (by decide) f_Mo_40 rfl ?_
  refine go_aload_n (k := 0) d_Mo_takesLaw_175 rfl rfl ?_
  refine go_geti (ci := 10) (k := 26) d_Mo_takesLaw_176 a_M_0 rfl (by decide) f_Mo_266 rfl ?_
  refine go_iload_n (k := 1) d_Mo_takesLaw_179 rfl rfl ?_
  obtain ⟨hi, I15, eI15, h⟩ := fsto_e h
  refine go_iast (I' := I15) d_Mo_takesLaw_180 a_M_11 hi eI15 ?_
  cases h
  exact go_return d_Mo_takesLaw_181 rfl gb_po_i
theorem d_Mo_takesOther_0 : decode yMo_takesOther.2.1 0 = .ok (.iload_n 1, 1) := by decide +kernel
theorem d_Mo_takesOther_1 : decode yMo_takesOther.2.1 1 = .ok (.iconst 3, 1) := by decide +kernel
theorem d_Mo_takesOther_2 : decode yMo_takesOther.2.1 2 = .ok (.if_icmp .ne 38, 3) := by decide +kernel
theorem d_Mo_takesOther_5 : decode yMo_takesOther.2.1 5 = .ok (.iconst 0, 1) := by decide +kernel
theorem d_Mo_takesOther_6 : decode yMo_takesOther.2.1 6 = .ok (.istore_n 3, 1) := by decide +kernel
theorem d_Mo_takesOther_7 : decode yMo_takesOther.2.1 7 = .ok (.iload_n 3, 1) := by decide +kernel
theorem d_Mo_takesOther_8 : decode yMo_takesOther.2.1 8 = .ok (.bipush 12, 2) := by decide +kernel
theorem d_Mo_takesOther_10 : decode yMo_takesOther.2.1 10 = .ok (.if_icmp .ge 24, 3) := by decide +kernel
theorem d_Mo_takesOther_13 : decode yMo_takesOther.2.1 13 = .ok (.aload_n 0, 1) := by decide +kernel
theorem d_Mo_takesOther_14 : decode yMo_takesOther.2.1 14 = .ok (.getfield 74, 3) := by decide +kernel
theorem d_Mo_takesOther_17 : decode yMo_takesOther.2.1 17 = .ok (.iload_n 3, 1) := by decide +kernel
theorem d_Mo_takesOther_18 : decode yMo_takesOther.2.1 18 = .ok (.aload_n 0, 1) := by decide +kernel
theorem d_Mo_takesOther_19 : decode yMo_takesOther.2.1 19 = .ok (.getfield 74, 3) := by decide +kernel
theorem d_Mo_takesOther_22 : decode yMo_takesOther.2.1 22 = .ok (.bipush 12, 2) := by decide +kernel
theorem d_Mo_takesOther_24 : decode yMo_takesOther.2.1 24 = .ok (.iload_n 3, 1) := by decide +kernel
theorem d_Mo_takesOther_25 : decode yMo_takesOther.2.1 25 = .ok (.iadd, 1) := by decide +kernel
theorem d_Mo_takesOther_26 : decode yMo_takesOther.2.1 26 = .ok (.iaload, 1) := by decide +kernel
theorem d_Mo_takesOther_27 : decode yMo_takesOther.2.1 27 = .ok (.iastore, 1) := by decide +kernel
theorem d_Mo_takesOther_28 : decode yMo_takesOther.2.1 28 = .ok (.iinc 3 1, 3) := by decide +kernel
theorem d_Mo_takesOther_31 : decode yMo_takesOther.2.1 31 = .ok (.goto (-24), 3) := by decide +kernel
theorem d_Mo_takesOther_34 : decode yMo_takesOther.2.1 34 = .ok (.aload_n 0, 1) := by decide +kernel
theorem d_Mo_takesOther_35 : decode yMo_takesOther.2.1 35 = .ok (.iload_n 2, 1) := by decide +kernel
theorem d_Mo_takesOther_36 : decode yMo_takesOther.2.1 36 = .ok (.putfield 303, 3) := by decide +kernel
theorem d_Mo_takesOther_39 : decode yMo_takesOther.2.1 39 = .ok (.return_, 1) := by decide +kernel
theorem d_Mo_takesOther_40 : decode yMo_takesOther.2.1 40 = .ok (.iload_n 1, 1) := by decide +kernel
theorem d_Mo_takesOther_41 : decode yMo_takesOther.2.1 41 = .ok (.iconst 1, 1) := by decide +kernel
theorem d_Mo_takesOther_42 : decode yMo_takesOther.2.1 42 = .ok (.if_icmp .ne 40, 3) := by decide +kernel
theorem d_Mo_takesOther_45 : decode yMo_takesOther.2.1 45 = .ok (.iconst 0, 1) := by decide +kernel
theorem d_Mo_takesOther_46 : decode yMo_takesOther.2.1 46 = .ok (.istore_n 3, 1) := by decide +kernel
theorem d_Mo_takesOther_47 : decode yMo_takesOther.2.1 47 = .ok (.iload_n 3, 1) := by decide +kernel
theorem d_Mo_takesOther_48 : decode yMo_takesOther.2.1 48 = .ok (.bipush 8, 2) := by decide +kernel
theorem d_Mo_takesOther_50 : decode yMo_takesOther.2.1 50 = .ok (.if_icmp .ge 24, 3) := by decide +kernel
theorem d_Mo_takesOther_53 : decode yMo_takesOther.2.1 53 = .ok (.aload_n 0, 1) := by decide +kernel
theorem d_Mo_takesOther_54 : decode yMo_takesOther.2.1 54 = .ok (.getfield 68, 3) := by decide +kernel
theorem d_Mo_takesOther_57 : decode yMo_takesOther.2.1 57 = .ok (.iload_n 3, 1) := by decide +kernel
theorem d_Mo_takesOther_58 : decode yMo_takesOther.2.1 58 = .ok (.aload_n 0, 1) := by decide +kernel
theorem d_Mo_takesOther_59 : decode yMo_takesOther.2.1 59 = .ok (.getfield 68, 3) := by decide +kernel
theorem d_Mo_takesOther_62 : decode yMo_takesOther.2.1 62 = .ok (.bipush 8, 2) := by decide +kernel
theorem d_Mo_takesOther_64 : decode yMo_takesOther.2.1 64 = .ok (.iload_n 3, 1) := by decide +kernel
theorem d_Mo_takesOther_65 : decode yMo_takesOther.2.1 65 = .ok (.iadd, 1) := by decide +kernel
theorem d_Mo_takesOther_66 : decode yMo_takesOther.2.1 66 = .ok (.iaload, 1) := by decide +kernel
theorem d_Mo_takesOther_67 : decode yMo_takesOther.2.1 67 = .ok (.iastore, 1) := by decide +kernel
theorem d_Mo_takesOther_68 : decode yMo_takesOther.2.1 68 = .ok (.iinc 3 1, 3) := by decide +kernel
theorem d_Mo_takesOther_71 : decode yMo_takesOther.2.1 71 = .ok (.goto (-24), 3) := by decide +kernel
theorem d_Mo_takesOther_74 : decode yMo_takesOther.2.1 74 = .ok (.aload_n 0, 1) := by decide +kernel
theorem d_Mo_takesOther_75 : decode yMo_takesOther.2.1 75 = .ok (.iload_n 2, 1) := by decide +kernel
theorem d_Mo_takesOther_76 : decode yMo_takesOther.2.1 76 = .ok (.putfield 306, 3) := by decide +kernel
theorem d_Mo_takesOther_79 : decode yMo_takesOther.2.1 79 = .ok (.goto 38, 3) := by decide +kernel
theorem d_Mo_takesOther_82 : decode yMo_takesOther.2.1 82 = .ok (.iconst 0, 1) := by decide +kernel
theorem d_Mo_takesOther_83 : decode yMo_takesOther.2.1 83 = .ok (.istore_n 3, 1) := by decide +kernel
theorem d_Mo_takesOther_84 : decode yMo_takesOther.2.1 84 = .ok (.iload_n 3, 1) := by decide +kernel
theorem d_Mo_takesOther_85 : decode yMo_takesOther.2.1 85 = .ok (.iconst 4, 1) := by decide +kernel
theorem d_Mo_takesOther_86 : decode yMo_takesOther.2.1 86 = .ok (.iload_n 2, 1) := by decide +kernel
theorem d_Mo_takesOther_87 : decode yMo_takesOther.2.1 87 = .ok (.imul, 1) := by decide +kernel
theorem d_Mo_takesOther_88 : decode yMo_takesOther.2.1 88 = .ok (.if_icmp .ge 24, 3) := by decide +kernel
theorem d_Mo_takesOther_91 : decode yMo_takesOther.2.1 91 = .ok (.aload_n 0, 1) := by decide +kernel
theorem d_Mo_takesOther_92 : decode yMo_takesOther.2.1 92 = .ok (.getfield 71, 3) := by decide +kernel
theorem d_Mo_takesOther_95 : decode yMo_takesOther.2.1 95 = .ok (.iload_n 3, 1) := by decide +kernel
theorem d_Mo_takesOther_96 : decode yMo_takesOther.2.1 96 = .ok (.aload_n 0, 1) := by decide +kernel
theorem d_Mo_takesOther_97 : decode yMo_takesOther.2.1 97 = .ok (.getfield 71, 3) := by decide +kernel
theorem d_Mo_takesOther_100 : decode yMo_takesOther.2.1 100 = .ok (.bipush 64, 2) := by decide +kernel
theorem d_Mo_takesOther_102 : decode yMo_takesOther.2.1 102 = .ok (.iload_n 3, 1) := by decide +kernel
theorem d_Mo_takesOther_103 : decode yMo_takesOther.2.1 103 = .ok (.iadd, 1) := by decide +kernel
theorem d_Mo_takesOther_104 : decode yMo_takesOther.2.1 104 = .ok (.iaload, 1) := by decide +kernel
theorem d_Mo_takesOther_105 : decode yMo_takesOther.2.1 105 = .ok (.iastore, 1) := by decide +kernel
theorem d_Mo_takesOther_106 : decode yMo_takesOther.2.1 106 = .ok (.iinc 3 1, 3) := by decide +kernel
theorem d_Mo_takesOther_109 : decode yMo_takesOther.2.1 109 = .ok (.goto (-25), 3) := by decide +kernel
theorem d_Mo_takesOther_112 : decode yMo_takesOther.2.1 112 = .ok (.aload_n 0, 1) := by decide +kernel
theorem d_Mo_takesOther_113 : decode yMo_takesOther.2.1 113 = .ok (.iload_n 2, 1) := by decide +kernel
theorem d_Mo_takesOther_114 : decode yMo_takesOther.2.1 114 = .ok (.putfield 309, 3) := by decide +kernel
theorem d_Mo_takesOther_117 : decode yMo_takesOther.2.1 117 = .ok (.aload_n 0, 1) := by decide +kernel
theorem d_Mo_takesOther_118 : decode yMo_takesOther.2.1 118 = .ok (.iconst 0, 1) := by decide +kernel
theorem d_Mo_takesOther_119 : decode yMo_takesOther.2.1 119 = .ok (.putfield 141, 3) := by decide +kernel
theorem d_Mo_takesOther_122 : decode yMo_takesOther.2.1 122 = .ok (.return_, 1) := by decide +kernel
def L_Mo_takesOther_84 (x2 : Int32) : Nat → Int32 → gb_Mem → Option (gb_Mem)
  | 0, _, _ => none
  | n + 1, x3, I =>
    if (4 * x2) ≤ x3 then
      some I
    else
      flod I 20 128 (64 + x3) fun v1 =>
      fsto I 20 128 x3 v1 fun I2 =>
      L_Mo_takesOther_84 x2 n (x3 + 1) I2
set_option maxRecDepth 4000 in
theorem l_Mo_takesOther_84 (l : Launch) (d0 : Nat) (x2 : Int32) {post : Option gb_AV → List gb_Ce → gb_Mem → Prop} : ∀ (n : Nat) (x3 : Int32) (I : gb_Mem) {ρ : gb_Mem} (h : L_Mo_takesOther_84 x2 n x3 I = some ρ) (hX : ∀ (I2 : gb_Mem), ρ = I2 → gb_Go l yMo_takesOther (d0 + 0) 0 0 112 [(0, .inr (some 0)), (2, .inl x2)] [] shM I2 post) , gb_Go l yMo_takesOther (d0 + 0) 0 0 84 [(0, .inr (some 0)), (2, .inl x2), (3, .inl x3)] [] shM I post := by
  intro n
  induction n with
  | zero => intro x3 I ρ h hX; cases h
  | succ n ih =>
    intro x3 I ρ h hX
    rw [L_Mo_takesOther_84] at h
    refine go_iload_n (k := 2) d_Mo_takesOther_84 rfl rfl ?_
    refine go_iconst (v := 4) d_Mo_takesOther_85 (by decide) ?_
    refine go_iload_n (k := 1) d_Mo_takesOther_86 rfl rfl ?_
    refine go_imul d_Mo_takesOther_87 ?_
    refine go_cmp_ge (tgt := 112) d_Mo_takesOther_88 (by decide) (fun hc => ?_) (fun hc => ?_)
    · rw [if_pos hc] at h
      exact go_lv [0, 1] rfl (hX _ (Option.some.inj h).symm)
    · rw [if_neg hc] at h
      refine go_aload_n (k := 0) d_Mo_takesOther_91 rfl rfl ?_
      refine go_getr (ci := 10) (k := 38) (r := 20) d_Mo_takesOther_92 a_M_0 rfl (by decide) f_Mo_71 rfl ?_
      refine go_iload_n (k := 2) d_Mo_takesOther_95 rfl rfl ?_
      refine go_aload_n (k := 0) d_Mo_takesOther_96 rfl rfl ?_
      refine go_getr (ci := 10) (k := 38) (r := 20) d_Mo_takesOther_97 a_M_0 rfl (by decide) f_Mo_71 rfl ?_
      refine go_bipush (v := 64) d_Mo_takesOther_100 (by decide) ?_
      refine go_iload_n (k := 2) d_Mo_takesOther_102 rfl rfl ?_
      refine go_iadd d_Mo_takesOther_103 ?_
      obtain ⟨hi, v1, ev1, h⟩ := flod_e h
      refine go_iald2 d_Mo_takesOther_104 a_M_20 hi ev1 ?_
      obtain ⟨hi, I2, eI2, h⟩ := fsto_e h
      refine go_iast (I' := I2) d_Mo_takesOther_105 a_M_20 hi eI2 ?_
      refine go_iinc (k := 2) (v := x3 + 1) (lv' := [(3, .inl (x3 + 1)), (0, .inr (some 0)), (2, .inl x2)]) d_Mo_takesOther_106 rfl rfl (by decide) rfl ?_
      refine go_goto (tgt := 84) d_Mo_takesOther_109 (by decide) ?_
      exact go_lv [1, 2, 0] rfl (ih (x3 + 1) I2 h hX)
def J_Mo_takesOther_117 (I : gb_Mem) : Option (gb_Mem) :=
  fstf I 0 3 0 fun I5 =>
  some I5
set_option maxRecDepth 4000 in
theorem j_Mo_takesOther_117 (l : Launch) (d0 : Nat) (I : gb_Mem) {Iz : gb_Mem} (h : J_Mo_takesOther_117 I = some Iz) : gb_Go l yMo_takesOther (d0 + 0) 0 0 117 [(0, .inr (some 0))] [] shM I (gb_po shM none Iz) := by
  unfold J_Mo_takesOther_117 at h
  refine go_aload_n (k := 0) d_Mo_takesOther_117 rfl rfl ?_
  refine go_iconst (v := 0) d_Mo_takesOther_118 (by decide) ?_
  obtain ⟨I5, eI5, h⟩ := fstf_e h
  refine go_putT (ci := 10) (k := 3) (I' := I5) d_Mo_takesOther_119 a_M_0 rfl (by decide) f_Mo_141 rfl rfl rfl rfl rfl eI5 ?_
  cases h
  exact go_return d_Mo_takesOther_122 rfl gb_po_i
def L_Mo_takesOther_47 (x2 : Int32) : Nat → Int32 → gb_Mem → Option (gb_Mem)
  | 0, _, _ => none
  | n + 1, x3, I =>
    if 8 ≤ x3 then
      some I
    else
      flod I 19 16 (8 + x3) fun v6 =>
      fsto I 19 16 x3 v6 fun I7 =>
      L_Mo_takesOther_47 x2 n (x3 + 1) I7
set_option maxRecDepth 4000 in
theorem l_Mo_takesOther_47 (l : Launch) (d0 : Nat) (x2 : Int32) {post : Option gb_AV → List gb_Ce → gb_Mem → Prop} : ∀ (n : Nat) (x3 : Int32) (I : gb_Mem) {ρ : gb_Mem} (h : L_Mo_takesOther_47 x2 n x3 I = some ρ) (hX : ∀ (I2 : gb_Mem), ρ = I2 → gb_Go l yMo_takesOther (d0 + 0) 0 0 74 [(0, .inr (some 0)), (2, .inl x2)] [] shM I2 post) , gb_Go l yMo_takesOther (d0 + 0) 0 0 47 [(0, .inr (some 0)), (2, .inl x2), (3, .inl x3)] [] shM I post := by
  intro n
  induction n with
  | zero => intro x3 I ρ h hX; cases h
  | succ n ih =>
    intro x3 I ρ h hX
    rw [L_Mo_takesOther_47] at h
    refine go_iload_n (k := 2) d_Mo_takesOther_47 rfl rfl ?_
    refine go_bipush (v := 8) d_Mo_takesOther_48 (by decide) ?_
    refine go_cmp_ge (tgt := 74) d_Mo_takesOther_50 (by decide) (fun hc => ?_) (fun hc => ?_)
    · rw [if_pos hc] at h
      exact go_lv [0, 1] rfl (hX _ (Option.some.inj h).symm)
    · rw [if_neg hc] at h
      refine go_aload_n (k := 0) d_Mo_takesOther_53 rfl rfl ?_
      refine go_getr (ci := 10) (k := 36) (r := 19) d_Mo_takesOther_54 a_M_0 rfl (by decide) f_Mo_68 rfl ?_
      refine go_iload_n (k := 2) d_Mo_takesOther_57 rfl rfl ?_
      refine go_aload_n (k := 0) d_Mo_takesOther_58 rfl rfl ?_
      refine go_getr (ci := 10) (k := 36) (r := 19) d_Mo_takesOther_59 a_M_0 rfl (by decide) f_Mo_68 rfl ?_
      refine go_bipush (v := 8) d_Mo_takesOther_62 (by decide) ?_
      refine go_iload_n (k := 2) d_Mo_takesOther_64 rfl rfl ?_
      refine go_iadd d_Mo_takesOther_65 ?_
      obtain ⟨hi, v6, ev6, h⟩ := flod_e h
      refine go_iald2 d_Mo_takesOther_66 a_M_19 hi ev6 ?_
      obtain ⟨hi, I7, eI7, h⟩ := fsto_e h
      refine go_iast (I' := I7) d_Mo_takesOther_67 a_M_19 hi eI7 ?_
      refine go_iinc (k := 2) (v := x3 + 1) (lv' := [(3, .inl (x3 + 1)), (0, .inr (some 0)), (2, .inl x2)]) d_Mo_takesOther_68 rfl rfl (by decide) rfl ?_
      refine go_goto (tgt := 47) d_Mo_takesOther_71 (by decide) ?_
      exact go_lv [1, 2, 0] rfl (ih (x3 + 1) I7 h hX)
def L_Mo_takesOther_7 (x2 : Int32) : Nat → Int32 → gb_Mem → Option (gb_Mem)
  | 0, _, _ => none
  | n + 1, x3, I =>
    if 12 ≤ x3 then
      some I
    else
      flod I 21 24 (12 + x3) fun v10 =>
      fsto I 21 24 x3 v10 fun I11 =>
      L_Mo_takesOther_7 x2 n (x3 + 1) I11
set_option maxRecDepth 4000 in
theorem l_Mo_takesOther_7 (l : Launch) (d0 : Nat) (x2 : Int32) {post : Option gb_AV → List gb_Ce → gb_Mem → Prop} : ∀ (n : Nat) (x3 : Int32) (I : gb_Mem) {ρ : gb_Mem} (h : L_Mo_takesOther_7 x2 n x3 I = some ρ) (hX : ∀ (I2 : gb_Mem), ρ = I2 → gb_Go l yMo_takesOther (d0 + 0) 0 0 34 [(0, .inr (some 0)), (2, .inl x2)] [] shM I2 post) , gb_Go l yMo_takesOther (d0 + 0) 0 0 7 [(0, .inr (some 0)), (2, .inl x2), (3, .inl x3)] [] shM I post := by
  intro n
  induction n with
  | zero => intro x3 I ρ h hX; cases h
  | succ n ih =>
    intro x3 I ρ h hX
    rw [L_Mo_takesOther_7] at h
    refine go_iload_n (k := 2) d_Mo_takesOther_7 rfl rfl ?_
    refine go_bipush (v := 12) d_Mo_takesOther_8 (by decide) ?_
    refine go_cmp_ge (tgt := 34) d_Mo_takesOther_10 (by decide) (fun hc => ?_) (fun hc => ?_)
    · rw [if_pos hc] at h
      exact go_lv [0, 1] rfl (hX _ (Option.some.inj h).symm)
    · rw [if_neg hc] at h
      refine go_aload_n (k := 0) d_Mo_takesOther_13 rfl rfl ?_
      refine go_getr (ci := 10) (k := 40) (r := 21) d_Mo_takesOther_14 a_M_0 rfl (by decide) f_Mo_74 rfl ?_
      refine go_iload_n (k := 2) d_Mo_takesOther_17 rfl rfl ?_
      refine go_aload_n (k := 0) d_Mo_takesOther_18 rfl rfl ?_
      refine go_getr (ci := 10) (k := 40) (r := 21) d_Mo_takesOther_19 a_M_0 rfl (by decide) f_Mo_74 rfl ?_
      refine go_bipush (v := 12) d_Mo_takesOther_22 (by decide) ?_
      refine go_iload_n (k := 2) d_Mo_takesOther_24 rfl rfl ?_
      refine go_iadd d_Mo_takesOther_25 ?_
      obtain ⟨hi, v10, ev10, h⟩ := flod_e h
      refine go_iald2 d_Mo_takesOther_26 a_M_21 hi ev10 ?_
      obtain ⟨hi, I11, eI11, h⟩ := fsto_e h
      refine go_iast (I' := I11) d_Mo_takesOther_27 a_M_21 hi eI11 ?_
      refine go_iinc (k := 2) (v := x3 + 1) (lv' := [(3, .inl (x3 + 1)), (0, .inr (some 0)), (2, .inl x2)]) d_Mo_takesOther_28 rfl rfl (by decide) rfl ?_
      refine go_goto (tgt := 7) d_Mo_takesOther_31 (by decide) ?_
      exact go_lv [1, 2, 0] rfl (ih (x3 + 1) I11 h hX)
def F_Mo_takesOther (x1 x2 : Int32) (I : gb_Mem) : Option (gb_Mem) :=
  if x1 = 3 then
    fbd (L_Mo_takesOther_7 x2 5000 0 I) fun I12 =>
    fstf I12 0 39 x2 fun I13 =>
    some I13
  else
    if x1 = 1 then
      fbd (L_Mo_takesOther_47 x2 5000 0 I) fun I8 =>
      fstf I8 0 35 x2 fun I9 =>
      J_Mo_takesOther_117 I9
    else
      fbd (L_Mo_takesOther_84 x2 5000 0 I) fun I3 =>
      fstf I3 0 37 x2 fun I4 =>
      J_Mo_takesOther_117 I4
set_option maxRecDepth 4000 in
theorem c_Mo_takesOther (l : Launch) (d0 : Nat) (x1 x2 : Int32) (I : gb_Mem) {Iz : gb_Mem} (h : F_Mo_takesOther x1 x2 I = some Iz) : gb_Cs l yMo_takesOther (d0 + 0) [.inr (some 0), .inl x1, .inl x2] shM I none Iz := by
  refine gb_Ct.of (lv := [(0, .inr (some 0)), (1, .inl x1), (2, .inl x2)]) rfl (Nat.le_of_ble_eq_true rfl) rfl ?_
  unfold F_Mo_takesOther at h
  show gb_Go l yMo_takesOther (d0 + 0) 0 0 0 [(0, .inr (some 0)), (1, .inl x1), (2, .inl x2)] [] shM I (gb_po shM none Iz)
  refine go_iload_n (k := 1) d_Mo_takesOther_0 rfl rfl ?_
  refine go_iconst (v := 3) d_Mo_takesOther_1 (by decide) ?_
  refine go_cmp_ne (tgt := 40) d_Mo_takesOther_2 (by decide) (fun hc => ?_) (fun hc => ?_)
  · rw [if_neg hc] at h
    refine go_iload_n (k := 1) d_Mo_takesOther_40 rfl rfl ?_
    refine go_iconst (v := 1) d_Mo_takesOther_41 (by decide) ?_
    refine go_cmp_ne (tgt := 82) d_Mo_takesOther_42 (by decide) (fun hc => ?_) (fun hc => ?_)
    · rw [if_neg hc] at h
      refine go_iconst (v := 0) d_Mo_takesOther_82 (by decide) ?_
      refine go_istore_n (lv' := [(3, .inl 0), (0, .inr (some 0)), (1, .inl x1), (2, .inl x2)]) d_Mo_takesOther_83 rfl (by decide) rfl ?_
      refine go_lv [1, 3, 0] (lv' := [(0, .inr (some 0)), (2, .inl x2), (3, .inl 0)]) rfl ?_
      obtain ⟨I3, w1, h⟩ := fbd_e h
      refine l_Mo_takesOther_84 l d0 x2 5000 0 I w1 (fun I3_ e => ?_)
      cases e
      refine go_aload_n (k := 0) d_Mo_takesOther_112 rfl rfl ?_
      refine go_iload_n (k := 1) d_Mo_takesOther_113 rfl rfl ?_
      obtain ⟨I4, eI4, h⟩ := fstf_e h
      refine go_putT (ci := 10) (k := 37) (I' := I4) d_Mo_takesOther_114 a_M_0 rfl (by decide) f_Mo_309 rfl rfl rfl rfl rfl eI4 ?_
      exact go_lv [0] rfl (j_Mo_takesOther_117 l d0 I4 h)
    · rw [if_pos hc] at h
      refine go_iconst (v := 0) d_Mo_takesOther_45 (by decide) ?_
      refine go_istore_n (lv' := [(3, .inl 0), (0, .inr (some 0)), (1, .inl x1), (2, .inl x2)]) d_Mo_takesOther_46 rfl (by decide) rfl ?_
      refine go_lv [1, 3, 0] (lv' := [(0, .inr (some 0)), (2, .inl x2), (3, .inl 0)]) rfl ?_
      obtain ⟨I8, w1, h⟩ := fbd_e h
      refine l_Mo_takesOther_47 l d0 x2 5000 0 I w1 (fun I8_ e => ?_)
      cases e
      refine go_aload_n (k := 0) d_Mo_takesOther_74 rfl rfl ?_
      refine go_iload_n (k := 1) d_Mo_takesOther_75 rfl rfl ?_
      obtain ⟨I9, eI9, h⟩ := fstf_e h
      refine go_putT (ci := 10) (k := 35) (I' := I9) d_Mo_takesOther_76 a_M_0 rfl (by decide) f_Mo_306 rfl rfl rfl rfl rfl eI9 ?_
      refine go_goto (tgt := 117) d_Mo_takesOther_79 (by decide) ?_
      exact go_lv [0] rfl (j_Mo_takesOther_117 l d0 I9 h)
  · rw [if_pos hc] at h
    refine go_iconst (v := 0) d_Mo_takesOther_5 (by decide) ?_
    refine go_istore_n (lv' := [(3, .inl 0), (0, .inr (some 0)), (1, .inl x1), (2, .inl x2)]) d_Mo_takesOther_6 rfl (by decide) rfl ?_
    refine go_lv [1, 3, 0] (lv' := [(0, .inr (some 0)), (2, .inl x2), (3, .inl 0)]) rfl ?_
    obtain ⟨I12, w1, h⟩ := fbd_e h
    refine l_Mo_takesOther_7 l d0 x2 5000 0 I w1 (fun I12_ e => ?_)
    cases e
    refine go_aload_n (k := 0) d_Mo_takesOther_34 rfl rfl ?_
    refine go_iload_n (k := 1) d_Mo_takesOther_35 rfl rfl ?_
    obtain ⟨I13, eI13, h⟩ := fstf_e h
    refine go_putT (ci := 10) (k := 39) (I' := I13) d_Mo_takesOther_36 a_M_0 rfl (by decide) f_Mo_303 rfl rfl rfl rfl rfl eI13 ?_
    cases h
    exact go_return d_Mo_takesOther_39 rfl gb_po_i
theorem d_Mo_thinks_0 : decode yMo_thinks.2.1 0 = .ok (.iconst 0, 1) := by decide +kernel
theorem d_Mo_thinks_1 : decode yMo_thinks.2.1 1 = .ok (.istore_n 1, 1) := by decide +kernel
theorem d_Mo_thinks_2 : decode yMo_thinks.2.1 2 = .ok (.iload_n 1, 1) := by decide +kernel
theorem d_Mo_thinks_3 : decode yMo_thinks.2.1 3 = .ok (.bipush 80, 2) := by decide +kernel
theorem d_Mo_thinks_5 : decode yMo_thinks.2.1 5 = .ok (.if_icmp .ge 21, 3) := by decide +kernel
theorem d_Mo_thinks_8 : decode yMo_thinks.2.1 8 = .ok (.aload_n 0, 1) := by decide +kernel
theorem d_Mo_thinks_9 : decode yMo_thinks.2.1 9 = .ok (.getfield 16, 3) := by decide +kernel
theorem d_Mo_thinks_12 : decode yMo_thinks.2.1 12 = .ok (.iload_n 1, 1) := by decide +kernel
theorem d_Mo_thinks_13 : decode yMo_thinks.2.1 13 = .ok (.aload_n 0, 1) := by decide +kernel
theorem d_Mo_thinks_14 : decode yMo_thinks.2.1 14 = .ok (.getfield 7, 3) := by decide +kernel
theorem d_Mo_thinks_17 : decode yMo_thinks.2.1 17 = .ok (.iload_n 1, 1) := by decide +kernel
theorem d_Mo_thinks_18 : decode yMo_thinks.2.1 18 = .ok (.iaload, 1) := by decide +kernel
theorem d_Mo_thinks_19 : decode yMo_thinks.2.1 19 = .ok (.iastore, 1) := by decide +kernel
theorem d_Mo_thinks_20 : decode yMo_thinks.2.1 20 = .ok (.iinc 1 1, 3) := by decide +kernel
theorem d_Mo_thinks_23 : decode yMo_thinks.2.1 23 = .ok (.goto (-21), 3) := by decide +kernel
theorem d_Mo_thinks_26 : decode yMo_thinks.2.1 26 = .ok (.aload_n 0, 1) := by decide +kernel
theorem d_Mo_thinks_27 : decode yMo_thinks.2.1 27 = .ok (.iconst 1, 1) := by decide +kernel
theorem d_Mo_thinks_28 : decode yMo_thinks.2.1 28 = .ok (.putfield 144, 3) := by decide +kernel
theorem d_Mo_thinks_31 : decode yMo_thinks.2.1 31 = .ok (.return_, 1) := by decide +kernel
def L_Mo_thinks_2 : Nat → Int32 → gb_Mem → Option (gb_Mem)
  | 0, _, _ => none
  | n + 1, x1, I =>
    if 80 ≤ x1 then
      some I
    else
      flod I 1 80 x1 fun v1 =>
      fsto I 3 80 x1 v1 fun I2 =>
      L_Mo_thinks_2 n (x1 + 1) I2
set_option maxRecDepth 4000 in
theorem l_Mo_thinks_2 (l : Launch) (d0 : Nat) {post : Option gb_AV → List gb_Ce → gb_Mem → Prop} : ∀ (n : Nat) (x1 : Int32) (I : gb_Mem) {ρ : gb_Mem} (h : L_Mo_thinks_2 n x1 I = some ρ) (hX : ∀ (I2 : gb_Mem), ρ = I2 → gb_Go l yMo_thinks (d0 + 0) 0 0 26 [(0, .inr (some 0))] [] shM I2 post) , gb_Go l yMo_thinks (d0 + 0) 0 0 2 [(0, .inr (some 0)), (1, .inl x1)] [] shM I post := by
  intro n
  induction n with
  | zero => intro x1 I ρ h hX; cases h
  | succ n ih =>
    intro x1 I ρ h hX
    rw [L_Mo_thinks_2] at h
    refine go_iload_n (k := 1) d_Mo_thinks_2 rfl rfl ?_
    refine go_bipush (v := 80) d_Mo_thinks_3 (by decide) ?_
    refine go_cmp_ge (tgt := 26) d_Mo_thinks_5 (by decide) (fun hc => ?_) (fun hc => ?_)
    · rw [if_pos hc] at h
      exact go_lv [0] rfl (hX _ (Option.some.inj h).symm)
    · rw [if_neg hc] at h
      refine go_aload_n (k := 0) d_Mo_thinks_8 rfl rfl ?_
      refine go_getr (ci := 10) (k := 4) (r := 3) d_Mo_thinks_9 a_M_0 rfl (by decide) f_Mo_16 rfl ?_
      refine go_iload_n (k := 1) d_Mo_thinks_12 rfl rfl ?_
      refine go_aload_n (k := 0) d_Mo_thinks_13 rfl rfl ?_
      refine go_getr (ci := 10) (k := 1) (r := 1) d_Mo_thinks_14 a_M_0 rfl (by decide) f_Mo_7 rfl ?_
      refine go_iload_n (k := 1) d_Mo_thinks_17 rfl rfl ?_
      obtain ⟨hi, v1, ev1, h⟩ := flod_e h
      refine go_iald2 d_Mo_thinks_18 a_M_1 hi ev1 ?_
      obtain ⟨hi, I2, eI2, h⟩ := fsto_e h
      refine go_iast (I' := I2) d_Mo_thinks_19 a_M_3 hi eI2 ?_
      refine go_iinc (k := 1) (v := x1 + 1) (lv' := [(1, .inl (x1 + 1)), (0, .inr (some 0))]) d_Mo_thinks_20 rfl rfl (by decide) rfl ?_
      refine go_goto (tgt := 2) d_Mo_thinks_23 (by decide) ?_
      exact go_lv [1, 0] rfl (ih (x1 + 1) I2 h hX)
def F_Mo_thinks (I : gb_Mem) : Option (gb_Mem) :=
  fbd (L_Mo_thinks_2 5000 0 I) fun I3 =>
  fstf I3 0 5 1 fun I4 =>
  some I4
set_option maxRecDepth 4000 in
theorem c_Mo_thinks (l : Launch) (d0 : Nat) (I : gb_Mem) {Iz : gb_Mem} (h : F_Mo_thinks I = some Iz) : gb_Cs l yMo_thinks (d0 + 0) [.inr (some 0)] shM I none Iz := by
  refine gb_Ct.of (lv := [(0, .inr (some 0))]) rfl (Nat.le_of_ble_eq_true rfl) rfl ?_
  unfold F_Mo_thinks at h
  show gb_Go l yMo_thinks (d0 + 0) 0 0 0 [(0, .inr (some 0))] [] shM I (gb_po shM none Iz)
  refine go_iconst (v := 0) d_Mo_thinks_0 (by decide) ?_
  refine go_istore_n (lv' := [(1, .inl 0), (0, .inr (some 0))]) d_Mo_thinks_1 rfl (by decide) rfl ?_
  refine go_lv [1, 0] (lv' := [(0, .inr (some 0)), (1, .inl 0)]) rfl ?_
  obtain ⟨I3, w1, h⟩ := fbd_e h
  refine l_Mo_thinks_2 l d0  5000 0 I w1 (fun I3_ e => ?_)
  cases e
  refine go_aload_n (k := 0) d_Mo_thinks_26 rfl rfl ?_
  refine go_iconst (v := 1) d_Mo_thinks_27 (by decide) ?_
  obtain ⟨I4, eI4, h⟩ := fstf_e h
  refine go_putT (ci := 10) (k := 5) (I' := I4) d_Mo_thinks_28 a_M_0 rfl (by decide) f_Mo_144 rfl rfl rfl (gb_narZ (Or.inr rfl)) (gb_fitZ (Or.inr rfl)) eI4 ?_
  cases h
  exact go_return d_Mo_thinks_31 rfl gb_po_i
