theorem d_Mo_spoons_0 : decode yMo_spoons.2.1 0 = .ok (.aload_n 0, 1) := by decide +kernel
theorem d_Mo_spoons_1 : decode yMo_spoons.2.1 1 = .ok (.iconst 0, 1) := by decide +kernel
theorem d_Mo_spoons_2 : decode yMo_spoons.2.1 2 = .ok (.putfield 137, 3) := by decide +kernel
theorem d_Mo_spoons_5 : decode yMo_spoons.2.1 5 = .ok (.aload_n 0, 1) := by decide +kernel
theorem d_Mo_spoons_6 : decode yMo_spoons.2.1 6 = .ok (.iload_n 1, 1) := by decide +kernel
theorem d_Mo_spoons_7 : decode yMo_spoons.2.1 7 = .ok (.iconst 0, 1) := by decide +kernel
theorem d_Mo_spoons_8 : decode yMo_spoons.2.1 8 = .ok (.sipush 4095, 3) := by decide +kernel
theorem d_Mo_spoons_11 : decode yMo_spoons.2.1 11 = .ok (.invokevirtual 157, 3) := by decide +kernel
theorem d_Mo_spoons_14 : decode yMo_spoons.2.1 14 = .ok (.ifCond .eq 13, 3) := by decide +kernel
theorem d_Mo_spoons_17 : decode yMo_spoons.2.1 17 = .ok (.aload_n 0, 1) := by decide +kernel
theorem d_Mo_spoons_18 : decode yMo_spoons.2.1 18 = .ok (.iload_n 2, 1) := by decide +kernel
theorem d_Mo_spoons_19 : decode yMo_spoons.2.1 19 = .ok (.iconst 0, 1) := by decide +kernel
theorem d_Mo_spoons_20 : decode yMo_spoons.2.1 20 = .ok (.iconst 2, 1) := by decide +kernel
theorem d_Mo_spoons_21 : decode yMo_spoons.2.1 21 = .ok (.invokevirtual 157, 3) := by decide +kernel
theorem d_Mo_spoons_24 : decode yMo_spoons.2.1 24 = .ok (.ifCond .ne 5, 3) := by decide +kernel
theorem d_Mo_spoons_27 : decode yMo_spoons.2.1 27 = .ok (.iconst (-1), 1) := by decide +kernel
theorem d_Mo_spoons_28 : decode yMo_spoons.2.1 28 = .ok (.ireturn, 1) := by decide +kernel
theorem d_Mo_spoons_29 : decode yMo_spoons.2.1 29 = .ok (.iload_n 2, 1) := by decide +kernel
theorem d_Mo_spoons_30 : decode yMo_spoons.2.1 30 = .ok (.iconst 2, 1) := by decide +kernel
theorem d_Mo_spoons_31 : decode yMo_spoons.2.1 31 = .ok (.if_icmp .ge 21, 3) := by decide +kernel
theorem d_Mo_spoons_34 : decode yMo_spoons.2.1 34 = .ok (.iload_n 2, 1) := by decide +kernel
theorem d_Mo_spoons_35 : decode yMo_spoons.2.1 35 = .ok (.ifCond .ne 11, 3) := by decide +kernel
theorem d_Mo_spoons_38 : decode yMo_spoons.2.1 38 = .ok (.aload_n 0, 1) := by decide +kernel
theorem d_Mo_spoons_39 : decode yMo_spoons.2.1 39 = .ok (.iload_n 1, 1) := by decide +kernel
theorem d_Mo_spoons_40 : decode yMo_spoons.2.1 40 = .ok (.invokevirtual 447, 3) := by decide +kernel
theorem d_Mo_spoons_43 : decode yMo_spoons.2.1 43 = .ok (.goto 8, 3) := by decide +kernel
theorem d_Mo_spoons_46 : decode yMo_spoons.2.1 46 = .ok (.aload_n 0, 1) := by decide +kernel
theorem d_Mo_spoons_47 : decode yMo_spoons.2.1 47 = .ok (.iload_n 1, 1) := by decide +kernel
theorem d_Mo_spoons_48 : decode yMo_spoons.2.1 48 = .ok (.invokevirtual 450, 3) := by decide +kernel
theorem d_Mo_spoons_51 : decode yMo_spoons.2.1 51 = .ok (.ireturn, 1) := by decide +kernel
theorem d_Mo_spoons_52 : decode yMo_spoons.2.1 52 = .ok (.iconst (-1), 1) := by decide +kernel
theorem d_Mo_spoons_53 : decode yMo_spoons.2.1 53 = .ok (.istore_n 3, 1) := by decide +kernel
theorem d_Mo_spoons_54 : decode yMo_spoons.2.1 54 = .ok (.iconst 0, 1) := by decide +kernel
theorem d_Mo_spoons_55 : decode yMo_spoons.2.1 55 = .ok (.istore 4, 2) := by decide +kernel
theorem d_Mo_spoons_57 : decode yMo_spoons.2.1 57 = .ok (.iload 4, 2) := by decide +kernel
theorem d_Mo_spoons_59 : decode yMo_spoons.2.1 59 = .ok (.aload_n 0, 1) := by decide +kernel
theorem d_Mo_spoons_60 : decode yMo_spoons.2.1 60 = .ok (.getfield 444, 3) := by decide +kernel
theorem d_Mo_spoons_63 : decode yMo_spoons.2.1 63 = .ok (.if_icmp .ge 45, 3) := by decide +kernel
theorem d_Mo_spoons_66 : decode yMo_spoons.2.1 66 = .ok (.iload_n 3, 1) := by decide +kernel
theorem d_Mo_spoons_67 : decode yMo_spoons.2.1 67 = .ok (.iconst (-1), 1) := by decide +kernel
theorem d_Mo_spoons_68 : decode yMo_spoons.2.1 68 = .ok (.if_icmp .eq 31, 3) := by decide +kernel
theorem d_Mo_spoons_71 : decode yMo_spoons.2.1 71 = .ok (.aload_n 0, 1) := by decide +kernel
theorem d_Mo_spoons_72 : decode yMo_spoons.2.1 72 = .ok (.aload_n 0, 1) := by decide +kernel
theorem d_Mo_spoons_73 : decode yMo_spoons.2.1 73 = .ok (.getfield 107, 3) := by decide +kernel
theorem d_Mo_spoons_76 : decode yMo_spoons.2.1 76 = .ok (.iload 4, 2) := by decide +kernel
theorem d_Mo_spoons_78 : decode yMo_spoons.2.1 78 = .ok (.iaload, 1) := by decide +kernel
theorem d_Mo_spoons_79 : decode yMo_spoons.2.1 79 = .ok (.iload_n 1, 1) := by decide +kernel
theorem d_Mo_spoons_80 : decode yMo_spoons.2.1 80 = .ok (.ixor, 1) := by decide +kernel
theorem d_Mo_spoons_81 : decode yMo_spoons.2.1 81 = .ok (.invokevirtual 438, 3) := by decide +kernel
theorem d_Mo_spoons_84 : decode yMo_spoons.2.1 84 = .ok (.aload_n 0, 1) := by decide +kernel
theorem d_Mo_spoons_85 : decode yMo_spoons.2.1 85 = .ok (.aload_n 0, 1) := by decide +kernel
theorem d_Mo_spoons_86 : decode yMo_spoons.2.1 86 = .ok (.getfield 107, 3) := by decide +kernel
theorem d_Mo_spoons_89 : decode yMo_spoons.2.1 89 = .ok (.iload_n 3, 1) := by decide +kernel
theorem d_Mo_spoons_90 : decode yMo_spoons.2.1 90 = .ok (.iaload, 1) := by decide +kernel
theorem d_Mo_spoons_91 : decode yMo_spoons.2.1 91 = .ok (.iload_n 1, 1) := by decide +kernel
theorem d_Mo_spoons_92 : decode yMo_spoons.2.1 92 = .ok (.ixor, 1) := by decide +kernel
theorem d_Mo_spoons_93 : decode yMo_spoons.2.1 93 = .ok (.invokevirtual 438, 3) := by decide +kernel
theorem d_Mo_spoons_96 : decode yMo_spoons.2.1 96 = .ok (.if_icmp .ge 6, 3) := by decide +kernel
theorem d_Mo_spoons_99 : decode yMo_spoons.2.1 99 = .ok (.iload 4, 2) := by decide +kernel
theorem d_Mo_spoons_101 : decode yMo_spoons.2.1 101 = .ok (.istore_n 3, 1) := by decide +kernel
theorem d_Mo_spoons_102 : decode yMo_spoons.2.1 102 = .ok (.iinc 4 1, 3) := by decide +kernel
theorem d_Mo_spoons_105 : decode yMo_spoons.2.1 105 = .ok (.goto (-48), 3) := by decide +kernel
theorem d_Mo_spoons_108 : decode yMo_spoons.2.1 108 = .ok (.iload_n 3, 1) := by decide +kernel
theorem d_Mo_spoons_109 : decode yMo_spoons.2.1 109 = .ok (.ireturn, 1) := by decide +kernel
def J_Mo_spoons_102 (k : Int32 → Int32 → Option (Int32)) (x1 x3 x4 : Int32) (I : gb_Mem) : Option (Int32) :=
  k x3 (x4 + 1)
set_option maxRecDepth 4000 in
theorem j_Mo_spoons_102 (l : Launch) (d0 : Nat) {post : Option gb_AV → List gb_Ce → gb_Mem → Prop} (k : Int32 → Int32 → Option (Int32)) (x1 x3 x4 : Int32) (I : gb_Mem) {ρ : Int32} (h : J_Mo_spoons_102 k x1 x3 x4 I = some ρ) (hk : ∀ (z3 z4 : Int32), k z3 z4 = some ρ → gb_Go l yMo_spoons (d0 + 2) 0 0 57 [(0, .inr (some 0)), (1, .inl x1), (3, .inl z3), (4, .inl z4)] [] shM I post) (hX : ∀ (o3 : Int32), ρ = o3 → gb_Go l yMo_spoons (d0 + 2) 0 0 108 [(3, .inl o3)] [] shM I post) : gb_Go l yMo_spoons (d0 + 2) 0 0 102 [(0, .inr (some 0)), (1, .inl x1), (3, .inl x3), (4, .inl x4)] [] shM I post := by
  unfold J_Mo_spoons_102 at h
  refine go_iinc (k := 3) (v := x4 + 1) (lv' := [(4, .inl (x4 + 1)), (0, .inr (some 0)), (1, .inl x1), (3, .inl x3)]) d_Mo_spoons_102 rfl rfl (by decide) rfl ?_
  refine go_goto (tgt := 57) d_Mo_spoons_105 (by decide) ?_
  exact go_lv [1, 2, 3, 0] rfl (hk _ _ h)
def J_Mo_spoons_99 (k : Int32 → Int32 → Option (Int32)) (x1 x4 : Int32) (I : gb_Mem) : Option (Int32) :=
  J_Mo_spoons_102 k x1 x4 x4 I
set_option maxRecDepth 4000 in
theorem j_Mo_spoons_99 (l : Launch) (d0 : Nat) {post : Option gb_AV → List gb_Ce → gb_Mem → Prop} (k : Int32 → Int32 → Option (Int32)) (x1 x4 : Int32) (I : gb_Mem) {ρ : Int32} (h : J_Mo_spoons_99 k x1 x4 I = some ρ) (hk : ∀ (z3 z4 : Int32), k z3 z4 = some ρ → gb_Go l yMo_spoons (d0 + 2) 0 0 57 [(0, .inr (some 0)), (1, .inl x1), (3, .inl z3), (4, .inl z4)] [] shM I post) (hX : ∀ (o3 : Int32), ρ = o3 → gb_Go l yMo_spoons (d0 + 2) 0 0 108 [(3, .inl o3)] [] shM I post) : gb_Go l yMo_spoons (d0 + 2) 0 0 99 [(0, .inr (some 0)), (1, .inl x1), (4, .inl x4)] [] shM I post := by
  unfold J_Mo_spoons_99 at h
  refine go_iload (k := 2) d_Mo_spoons_99 rfl ?_
  refine go_istore_n (lv' := [(3, .inl x4), (0, .inr (some 0)), (1, .inl x1), (4, .inl x4)]) d_Mo_spoons_101 rfl (by decide) rfl ?_
  exact go_lv [1, 2, 0, 3] rfl (j_Mo_spoons_102 l d0 k x1 x4 x4 I h hk hX)
def L_Mo_spoons_57 (x1 : Int32) (I : gb_Mem) : Nat → Int32 → Int32 → Option (Int32)
  | 0, _, _ => none
  | n + 1, x3, x4 =>
    if (I 0 53) ≤ x4 then
      some x3
    else
      if x3 = (-1) then
        J_Mo_spoons_99 (L_Mo_spoons_57 x1 I n) x1 x4 I
      else
        flod I 32 10 x4 fun v2 =>
        fbd (F_Mo_onesOf (v2 ^^^ x1) I) fun r3 =>
        flod I 32 10 x3 fun v4 =>
        fbd (F_Mo_onesOf (v4 ^^^ x1) I) fun r5 =>
        if r5 ≤ r3 then
          J_Mo_spoons_102 (L_Mo_spoons_57 x1 I n) x1 x3 x4 I
        else
          J_Mo_spoons_99 (L_Mo_spoons_57 x1 I n) x1 x4 I
set_option maxRecDepth 4000 in
theorem l_Mo_spoons_57 (l : Launch) (d0 : Nat) (x1 : Int32) (I : gb_Mem) {post : Option gb_AV → List gb_Ce → gb_Mem → Prop} : ∀ (n : Nat) (x3 x4 : Int32) {ρ : Int32} (h : L_Mo_spoons_57 x1 I n x3 x4 = some ρ) (hX : ∀ (o3 : Int32), ρ = o3 → gb_Go l yMo_spoons (d0 + 2) 0 0 108 [(3, .inl o3)] [] shM I post) , gb_Go l yMo_spoons (d0 + 2) 0 0 57 [(0, .inr (some 0)), (1, .inl x1), (3, .inl x3), (4, .inl x4)] [] shM I post := by
  intro n
  induction n with
  | zero => intro x3 x4 ρ h hX; cases h
  | succ n ih =>
    intro x3 x4 ρ h hX
    rw [L_Mo_spoons_57] at h
    refine go_iload (k := 3) d_Mo_spoons_57 rfl ?_
    refine go_aload_n (k := 0) d_Mo_spoons_59 rfl rfl ?_
    refine go_geti (ci := 10) (k := 53) d_Mo_spoons_60 a_M_0 rfl (by decide) f_Mo_444 rfl ?_
    refine go_cmp_ge (tgt := 108) d_Mo_spoons_63 (by decide) (fun hc => ?_) (fun hc => ?_)
    · rw [if_pos hc] at h
      exact go_lv [2] rfl (hX _ (Option.some.inj h).symm)
    · rw [if_neg hc] at h
      refine go_iload_n (k := 2) d_Mo_spoons_66 rfl rfl ?_
      refine go_iconst (v := (-1)) d_Mo_spoons_67 (by decide) ?_
      refine go_cmp_eq (tgt := 99) d_Mo_spoons_68 (by decide) (fun hc => ?_) (fun hc => ?_)
      · rw [if_pos hc] at h
        exact go_lv [0, 1, 3] rfl (j_Mo_spoons_99 l d0 (L_Mo_spoons_57 x1 I n) x1 x4 I h (fun z3 z4 hh => ih z3 z4 hh hX) hX)
      · rw [if_neg hc] at h
        refine go_aload_n (k := 0) d_Mo_spoons_71 rfl rfl ?_
        refine go_aload_n (k := 0) d_Mo_spoons_72 rfl rfl ?_
        refine go_getr (ci := 10) (k := 54) (r := 32) d_Mo_spoons_73 a_M_0 rfl (by decide) f_Mo_107 rfl ?_
        refine go_iload (k := 3) d_Mo_spoons_76 rfl ?_
        obtain ⟨hi, v2, ev2, h⟩ := flod_e h
        refine go_iald2 d_Mo_spoons_78 a_M_32 hi ev2 ?_
        refine go_iload_n (k := 1) d_Mo_spoons_79 rfl rfl ?_
        refine go_ixor d_Mo_spoons_80 ?_
        obtain ⟨r3, w1, h⟩ := fbd_e h
        refine go_callV (y := yMo_onesOf) (asr := [.inl (v2 ^^^ x1)]) (v := some (.inl r3)) (I' := I) (st1 := [.inl r3]) d_Mo_spoons_81 s_yMo_onesOf m_Mo_438 a_M_0 rfl rfl rfl (Nat.le_of_ble_eq_true rfl) rfl rfl (c_Mo_onesOf l (d0 + 1) (v2 ^^^ x1) I w1) ?_
        refine go_aload_n (k := 0) d_Mo_spoons_84 rfl rfl ?_
        refine go_aload_n (k := 0) d_Mo_spoons_85 rfl rfl ?_
        refine go_getr (ci := 10) (k := 54) (r := 32) d_Mo_spoons_86 a_M_0 rfl (by decide) f_Mo_107 rfl ?_
        refine go_iload_n (k := 2) d_Mo_spoons_89 rfl rfl ?_
        obtain ⟨hi, v4, ev4, h⟩ := flod_e h
        refine go_iald2 d_Mo_spoons_90 a_M_32 hi ev4 ?_
        refine go_iload_n (k := 1) d_Mo_spoons_91 rfl rfl ?_
        refine go_ixor d_Mo_spoons_92 ?_
        obtain ⟨r5, w1, h⟩ := fbd_e h
        refine go_callV (y := yMo_onesOf) (asr := [.inl (v4 ^^^ x1)]) (v := some (.inl r5)) (I' := I) (st1 := [.inl r5, .inl r3]) d_Mo_spoons_93 s_yMo_onesOf m_Mo_438 a_M_0 rfl rfl rfl (Nat.le_of_ble_eq_true rfl) rfl rfl (c_Mo_onesOf l (d0 + 1) (v4 ^^^ x1) I w1) ?_
        refine go_cmp_ge (tgt := 102) d_Mo_spoons_96 (by decide) (fun hc => ?_) (fun hc => ?_)
        · rw [if_pos hc] at h
          exact go_lv [0, 1, 2, 3] rfl (j_Mo_spoons_102 l d0 (L_Mo_spoons_57 x1 I n) x1 x3 x4 I h (fun z3 z4 hh => ih z3 z4 hh hX) hX)
        · rw [if_neg hc] at h
          exact go_lv [0, 1, 3] rfl (j_Mo_spoons_99 l d0 (L_Mo_spoons_57 x1 I n) x1 x4 I h (fun z3 z4 hh => ih z3 z4 hh hX) hX)
def F_Mo_spoons (x1 x2 : Int32) (I : gb_Mem) : Option (Int32 × gb_Mem) :=
  fstf I 0 0 0 fun I1 =>
  if (F_Mo_isIn x1 0 4095 I1) = 0 then
    some ((-1), I1)
  else
    if (F_Mo_isIn x2 0 2 I1) = 0 then
      some ((-1), I1)
    else
      if 2 ≤ x2 then
        fbd (L_Mo_spoons_57 x1 I1 5000 (-1) 0) fun o6 =>
        some (o6, I1)
      else
        if x2 = 0 then
          fbd (F_Mo_saidBy x1 I1) fun r8 =>
          some (r8, I1)
        else
          fbd (F_Mo_wrongIn x1 I1) fun r7 =>
          some (r7, I1)
set_option maxRecDepth 4000 in
theorem c_Mo_spoons (l : Launch) (d0 : Nat) (x1 x2 : Int32) (I : gb_Mem) {rz : Int32} {Iz : gb_Mem} (h : F_Mo_spoons x1 x2 I = some (rz, Iz)) : gb_Cs l yMo_spoons (d0 + 2) [.inr (some 0), .inl x1, .inl x2] shM I (some (.inl rz)) Iz := by
  refine gb_Ct.of (lv := [(0, .inr (some 0)), (1, .inl x1), (2, .inl x2)]) rfl (Nat.le_of_ble_eq_true rfl) rfl ?_
  unfold F_Mo_spoons at h
  show gb_Go l yMo_spoons (d0 + 2) 0 0 0 [(0, .inr (some 0)), (1, .inl x1), (2, .inl x2)] [] shM I (gb_po shM (some (.inl rz)) Iz)
  refine go_aload_n (k := 0) d_Mo_spoons_0 rfl rfl ?_
  refine go_iconst (v := 0) d_Mo_spoons_1 (by decide) ?_
  obtain ⟨I1, eI1, h⟩ := fstf_e h
  refine go_putT (ci := 10) (k := 0) (I' := I1) d_Mo_spoons_2 a_M_0 rfl (by decide) f_Mo_137 rfl rfl rfl rfl rfl eI1 ?_
  refine go_aload_n (k := 0) d_Mo_spoons_5 rfl rfl ?_
  refine go_iload_n (k := 1) d_Mo_spoons_6 rfl rfl ?_
  refine go_iconst (v := 0) d_Mo_spoons_7 (by decide) ?_
  refine go_sipush (v := 4095) d_Mo_spoons_8 (by decide) ?_
  refine go_callV (y := yMo_isIn) (asr := [.inl x1, .inl 0, .inl 4095]) (v := some (.inl (F_Mo_isIn x1 0 4095 I1))) (I' := I1) (st1 := [.inl (F_Mo_isIn x1 0 4095 I1)]) d_Mo_spoons_11 s_yMo_isIn m_Mo_157 a_M_0 rfl rfl rfl (Nat.le_of_ble_eq_true rfl) rfl rfl (c_Mo_isIn l (d0 + 1) x1 0 4095 I1) ?_
  refine go_if_eq (tgt := 27) d_Mo_spoons_14 (by decide) (fun hc => ?_) (fun hc => ?_)
  · rw [if_pos hc] at h
    refine go_iconst (v := (-1)) d_Mo_spoons_27 (by decide) ?_
    cases h
    exact go_ireturn d_Mo_spoons_28 rfl gb_po_i
  · rw [if_neg hc] at h
    refine go_aload_n (k := 0) d_Mo_spoons_17 rfl rfl ?_
    refine go_iload_n (k := 2) d_Mo_spoons_18 rfl rfl ?_
    refine go_iconst (v := 0) d_Mo_spoons_19 (by decide) ?_
    refine go_iconst (v := 2) d_Mo_spoons_20 (by decide) ?_
    refine go_callV (y := yMo_isIn) (asr := [.inl x2, .inl 0, .inl 2]) (v := some (.inl (F_Mo_isIn x2 0 2 I1))) (I' := I1) (st1 := [.inl (F_Mo_isIn x2 0 2 I1)]) d_Mo_spoons_21 s_yMo_isIn m_Mo_157 a_M_0 rfl rfl rfl (Nat.le_of_ble_eq_true rfl) rfl rfl (c_Mo_isIn l (d0 + 1) x2 0 2 I1) ?_
    refine go_if_ne (tgt := 29) d_Mo_spoons_24 (by decide) (fun hc => ?_) (fun hc => ?_)
    · rw [if_neg hc] at h
      refine go_iload_n (k := 2) d_Mo_spoons_29 rfl rfl ?_
      refine go_iconst (v := 2) d_Mo_spoons_30 (by decide) ?_
      refine go_cmp_ge (tgt := 52) d_Mo_spoons_31 (by decide) (fun hc => ?_) (fun hc => ?_)
      · rw [if_pos hc] at h
        refine go_iconst (v := (-1)) d_Mo_spoons_52 (by decide) ?_
        refine go_istore_n (lv' := [(3, .inl (-1)), (0, .inr (some 0)), (1, .inl x1), (2, .inl x2)]) d_Mo_spoons_53 rfl (by decide) rfl ?_
        refine go_iconst (v := 0) d_Mo_spoons_54 (by decide) ?_
        refine go_istore (lv' := [(4, .inl 0), (3, .inl (-1)), (0, .inr (some 0)), (1, .inl x1), (2, .inl x2)]) d_Mo_spoons_55 (by decide) rfl ?_
        refine go_lv [2, 3, 1, 0] (lv' := [(0, .inr (some 0)), (1, .inl x1), (3, .inl (-1)), (4, .inl 0)]) rfl ?_
        obtain ⟨o6, w1, h⟩ := fbd_e h
        refine l_Mo_spoons_57 l d0 x1 I1 5000 (-1) 0 w1 (fun o6_ e => ?_)
        cases e
        refine go_iload_n (k := 0) d_Mo_spoons_108 rfl rfl ?_
        cases h
        exact go_ireturn d_Mo_spoons_109 rfl gb_po_i
      · rw [if_neg hc] at h
        refine go_iload_n (k := 2) d_Mo_spoons_34 rfl rfl ?_
        refine go_if_ne (tgt := 46) d_Mo_spoons_35 (by decide) (fun hc => ?_) (fun hc => ?_)
        · rw [if_neg hc] at h
          refine go_aload_n (k := 0) d_Mo_spoons_46 rfl rfl ?_
          refine go_iload_n (k := 1) d_Mo_spoons_47 rfl rfl ?_
          obtain ⟨r7, w1, h⟩ := fbd_e h
          refine go_callV (y := yMo_wrongIn) (asr := [.inl x1]) (v := some (.inl r7)) (I' := I1) (st1 := [.inl r7]) d_Mo_spoons_48 s_yMo_wrongIn m_Mo_450 a_M_0 rfl rfl rfl (Nat.le_of_ble_eq_true rfl) rfl rfl (c_Mo_wrongIn l (d0 + 0) x1 I1 w1) ?_
          cases h
          exact go_ireturn d_Mo_spoons_51 rfl gb_po_i
        · rw [if_pos hc] at h
          refine go_aload_n (k := 0) d_Mo_spoons_38 rfl rfl ?_
          refine go_iload_n (k := 1) d_Mo_spoons_39 rfl rfl ?_
          obtain ⟨r8, w1, h⟩ := fbd_e h
          refine go_callV (y := yMo_saidBy) (asr := [.inl x1]) (v := some (.inl r8)) (I' := I1) (st1 := [.inl r8]) d_Mo_spoons_40 s_yMo_saidBy m_Mo_447 a_M_0 rfl rfl rfl (Nat.le_of_ble_eq_true rfl) rfl rfl (c_Mo_saidBy l (d0 + 0) x1 I1 w1) ?_
          refine go_goto (tgt := 51) d_Mo_spoons_43 (by decide) ?_
          cases h
          exact go_ireturn d_Mo_spoons_51 rfl gb_po_i
    · rw [if_pos hc] at h
      refine go_iconst (v := (-1)) d_Mo_spoons_27 (by decide) ?_
      cases h
      exact go_ireturn d_Mo_spoons_28 rfl gb_po_i
theorem d_Mo_sprouts_0 : decode yMo_sprouts.2.1 0 = .ok (.aload_n 0, 1) := by decide +kernel
theorem d_Mo_sprouts_1 : decode yMo_sprouts.2.1 1 = .ok (.iconst 0, 1) := by decide +kernel
theorem d_Mo_sprouts_2 : decode yMo_sprouts.2.1 2 = .ok (.putfield 137, 3) := by decide +kernel
theorem d_Mo_sprouts_5 : decode yMo_sprouts.2.1 5 = .ok (.aload_n 0, 1) := by decide +kernel
theorem d_Mo_sprouts_6 : decode yMo_sprouts.2.1 6 = .ok (.iload_n 1, 1) := by decide +kernel
theorem d_Mo_sprouts_7 : decode yMo_sprouts.2.1 7 = .ok (.iconst 0, 1) := by decide +kernel
theorem d_Mo_sprouts_8 : decode yMo_sprouts.2.1 8 = .ok (.iconst 1, 1) := by decide +kernel
theorem d_Mo_sprouts_9 : decode yMo_sprouts.2.1 9 = .ok (.invokevirtual 157, 3) := by decide +kernel
theorem d_Mo_sprouts_12 : decode yMo_sprouts.2.1 12 = .ok (.ifCond .ne 5, 3) := by decide +kernel
theorem d_Mo_sprouts_15 : decode yMo_sprouts.2.1 15 = .ok (.iconst (-1), 1) := by decide +kernel
theorem d_Mo_sprouts_16 : decode yMo_sprouts.2.1 16 = .ok (.ireturn, 1) := by decide +kernel
theorem d_Mo_sprouts_17 : decode yMo_sprouts.2.1 17 = .ok (.iconst 0, 1) := by decide +kernel
theorem d_Mo_sprouts_18 : decode yMo_sprouts.2.1 18 = .ok (.istore_n 2, 1) := by decide +kernel
theorem d_Mo_sprouts_19 : decode yMo_sprouts.2.1 19 = .ok (.iconst 1, 1) := by decide +kernel
theorem d_Mo_sprouts_20 : decode yMo_sprouts.2.1 20 = .ok (.istore_n 3, 1) := by decide +kernel
theorem d_Mo_sprouts_21 : decode yMo_sprouts.2.1 21 = .ok (.iload_n 3, 1) := by decide +kernel
theorem d_Mo_sprouts_22 : decode yMo_sprouts.2.1 22 = .ok (.bipush 99, 2) := by decide +kernel
theorem d_Mo_sprouts_24 : decode yMo_sprouts.2.1 24 = .ok (.if_icmp .gt 24, 3) := by decide +kernel
theorem d_Mo_sprouts_27 : decode yMo_sprouts.2.1 27 = .ok (.aload_n 0, 1) := by decide +kernel
theorem d_Mo_sprouts_28 : decode yMo_sprouts.2.1 28 = .ok (.iload_n 3, 1) := by decide +kernel
theorem d_Mo_sprouts_29 : decode yMo_sprouts.2.1 29 = .ok (.invokevirtual 474, 3) := by decide +kernel
theorem d_Mo_sprouts_32 : decode yMo_sprouts.2.1 32 = .ok (.aload_n 0, 1) := by decide +kernel
theorem d_Mo_sprouts_33 : decode yMo_sprouts.2.1 33 = .ok (.iload_n 2, 1) := by decide +kernel
theorem d_Mo_sprouts_34 : decode yMo_sprouts.2.1 34 = .ok (.invokevirtual 474, 3) := by decide +kernel
theorem d_Mo_sprouts_37 : decode yMo_sprouts.2.1 37 = .ok (.if_icmp .le 5, 3) := by decide +kernel
theorem d_Mo_sprouts_40 : decode yMo_sprouts.2.1 40 = .ok (.iload_n 3, 1) := by decide +kernel
theorem d_Mo_sprouts_41 : decode yMo_sprouts.2.1 41 = .ok (.istore_n 2, 1) := by decide +kernel
theorem d_Mo_sprouts_42 : decode yMo_sprouts.2.1 42 = .ok (.iinc 3 1, 3) := by decide +kernel
theorem d_Mo_sprouts_45 : decode yMo_sprouts.2.1 45 = .ok (.goto (-24), 3) := by decide +kernel
theorem d_Mo_sprouts_48 : decode yMo_sprouts.2.1 48 = .ok (.iload_n 1, 1) := by decide +kernel
theorem d_Mo_sprouts_49 : decode yMo_sprouts.2.1 49 = .ok (.ifCond .ne 7, 3) := by decide +kernel
theorem d_Mo_sprouts_52 : decode yMo_sprouts.2.1 52 = .ok (.iload_n 2, 1) := by decide +kernel
theorem d_Mo_sprouts_53 : decode yMo_sprouts.2.1 53 = .ok (.goto 8, 3) := by decide +kernel
theorem d_Mo_sprouts_56 : decode yMo_sprouts.2.1 56 = .ok (.aload_n 0, 1) := by decide +kernel
theorem d_Mo_sprouts_57 : decode yMo_sprouts.2.1 57 = .ok (.iload_n 2, 1) := by decide +kernel
theorem d_Mo_sprouts_58 : decode yMo_sprouts.2.1 58 = .ok (.invokevirtual 474, 3) := by decide +kernel
theorem d_Mo_sprouts_61 : decode yMo_sprouts.2.1 61 = .ok (.ireturn, 1) := by decide +kernel
def J_Mo_sprouts_42 (k : Int32 → Int32 → Option (Int32)) (x1 x2 x3 : Int32) (I : gb_Mem) : Option (Int32) :=
  k x2 (x3 + 1)
set_option maxRecDepth 4000 in
theorem j_Mo_sprouts_42 (l : Launch) (d0 : Nat) {post : Option gb_AV → List gb_Ce → gb_Mem → Prop} (k : Int32 → Int32 → Option (Int32)) (x1 x2 x3 : Int32) (I : gb_Mem) {ρ : Int32} (h : J_Mo_sprouts_42 k x1 x2 x3 I = some ρ) (hk : ∀ (z2 z3 : Int32), k z2 z3 = some ρ → gb_Go l yMo_sprouts (d0 + 2) 0 0 21 [(0, .inr (some 0)), (1, .inl x1), (2, .inl z2), (3, .inl z3)] [] shM I post) (hX : ∀ (o2 : Int32), ρ = o2 → gb_Go l yMo_sprouts (d0 + 2) 0 0 48 [(0, .inr (some 0)), (1, .inl x1), (2, .inl o2)] [] shM I post) : gb_Go l yMo_sprouts (d0 + 2) 0 0 42 [(0, .inr (some 0)), (1, .inl x1), (2, .inl x2), (3, .inl x3)] [] shM I post := by
  unfold J_Mo_sprouts_42 at h
  refine go_iinc (k := 3) (v := x3 + 1) (lv' := [(3, .inl (x3 + 1)), (0, .inr (some 0)), (1, .inl x1), (2, .inl x2)]) d_Mo_sprouts_42 rfl rfl (by decide) rfl ?_
  refine go_goto (tgt := 21) d_Mo_sprouts_45 (by decide) ?_
  exact go_lv [1, 2, 3, 0] rfl (hk _ _ h)
def L_Mo_sprouts_21 (x1 : Int32) (I : gb_Mem) : Nat → Int32 → Int32 → Option (Int32)
  | 0, _, _ => none
  | n + 1, x2, x3 =>
    if 99 < x3 then
      some x2
    else
      fbd (F_Mo_sayingOf x3 I) fun r2 =>
      fbd (F_Mo_sayingOf x2 I) fun r3 =>
      if r2 ≤ r3 then
        J_Mo_sprouts_42 (L_Mo_sprouts_21 x1 I n) x1 x2 x3 I
      else
        J_Mo_sprouts_42 (L_Mo_sprouts_21 x1 I n) x1 x3 x3 I
set_option maxRecDepth 4000 in
theorem l_Mo_sprouts_21 (l : Launch) (d0 : Nat) (x1 : Int32) (I : gb_Mem) {post : Option gb_AV → List gb_Ce → gb_Mem → Prop} : ∀ (n : Nat) (x2 x3 : Int32) {ρ : Int32} (h : L_Mo_sprouts_21 x1 I n x2 x3 = some ρ) (hX : ∀ (o2 : Int32), ρ = o2 → gb_Go l yMo_sprouts (d0 + 2) 0 0 48 [(0, .inr (some 0)), (1, .inl x1), (2, .inl o2)] [] shM I post) , gb_Go l yMo_sprouts (d0 + 2) 0 0 21 [(0, .inr (some 0)), (1, .inl x1), (2, .inl x2), (3, .inl x3)] [] shM I post := by
  intro n
  induction n with
  | zero => intro x2 x3 ρ h hX; cases h
  | succ n ih =>
    intro x2 x3 ρ h hX
    rw [L_Mo_sprouts_21] at h
    refine go_iload_n (k := 3) d_Mo_sprouts_21 rfl rfl ?_
    refine go_bipush (v := 99) d_Mo_sprouts_22 (by decide) ?_
    refine go_cmp_gt (tgt := 48) d_Mo_sprouts_24 (by decide) (fun hc => ?_) (fun hc => ?_)
    · rw [if_pos hc] at h
      exact go_lv [0, 1, 2] rfl (hX _ (Option.some.inj h).symm)
    · rw [if_neg hc] at h
      refine go_aload_n (k := 0) d_Mo_sprouts_27 rfl rfl ?_
      refine go_iload_n (k := 3) d_Mo_sprouts_28 rfl rfl ?_
      obtain ⟨r2, w1, h⟩ := fbd_e h
      refine go_callV (y := yMo_sayingOf) (asr := [.inl x3]) (v := some (.inl r2)) (I' := I) (st1 := [.inl r2]) d_Mo_sprouts_29 s_yMo_sayingOf m_Mo_474 a_M_0 rfl rfl rfl (Nat.le_of_ble_eq_true rfl) rfl rfl (c_Mo_sayingOf l (d0 + 0) x3 I w1) ?_
      refine go_aload_n (k := 0) d_Mo_sprouts_32 rfl rfl ?_
      refine go_iload_n (k := 2) d_Mo_sprouts_33 rfl rfl ?_
      obtain ⟨r3, w1, h⟩ := fbd_e h
      refine go_callV (y := yMo_sayingOf) (asr := [.inl x2]) (v := some (.inl r3)) (I' := I) (st1 := [.inl r3, .inl r2]) d_Mo_sprouts_34 s_yMo_sayingOf m_Mo_474 a_M_0 rfl rfl rfl (Nat.le_of_ble_eq_true rfl) rfl rfl (c_Mo_sayingOf l (d0 + 0) x2 I w1) ?_
      refine go_cmp_le (tgt := 42) d_Mo_sprouts_37 (by decide) (fun hc => ?_) (fun hc => ?_)
      · rw [if_pos hc] at h
        exact go_lv [0, 1, 2, 3] rfl (j_Mo_sprouts_42 l d0 (L_Mo_sprouts_21 x1 I n) x1 x2 x3 I h (fun z2 z3 hh => ih z2 z3 hh hX) hX)
      · rw [if_neg hc] at h
        refine go_iload_n (k := 3) d_Mo_sprouts_40 rfl rfl ?_
        refine go_istore_n (lv' := [(2, .inl x3), (0, .inr (some 0)), (1, .inl x1), (3, .inl x3)]) d_Mo_sprouts_41 rfl (by decide) rfl ?_
        exact go_lv [1, 2, 0, 3] rfl (j_Mo_sprouts_42 l d0 (L_Mo_sprouts_21 x1 I n) x1 x3 x3 I h (fun z2 z3 hh => ih z2 z3 hh hX) hX)
def F_Mo_sprouts (x1 : Int32) (I : gb_Mem) : Option (Int32 × gb_Mem) :=
  fstf I 0 0 0 fun I1 =>
  if (F_Mo_isIn x1 0 1 I1) = 0 then
    some ((-1), I1)
  else
    fbd (L_Mo_sprouts_21 x1 I1 5000 0 1) fun o4 =>
    if x1 = 0 then
      some (o4, I1)
    else
      fbd (F_Mo_sayingOf o4 I1) fun r5 =>
      some (r5, I1)
set_option maxRecDepth 4000 in
theorem c_Mo_sprouts (l : Launch) (d0 : Nat) (x1 : Int32) (I : gb_Mem) {rz : Int32} {Iz : gb_Mem} (h : F_Mo_sprouts x1 I = some (rz, Iz)) : gb_Cs l yMo_sprouts (d0 + 2) [.inr (some 0), .inl x1] shM I (some (.inl rz)) Iz := by
  refine gb_Ct.of (lv := [(0, .inr (some 0)), (1, .inl x1)]) rfl (Nat.le_of_ble_eq_true rfl) rfl ?_
  unfold F_Mo_sprouts at h
  show gb_Go l yMo_sprouts (d0 + 2) 0 0 0 [(0, .inr (some 0)), (1, .inl x1)] [] shM I (gb_po shM (some (.inl rz)) Iz)
  refine go_aload_n (k := 0) d_Mo_sprouts_0 rfl rfl ?_
  refine go_iconst (v := 0) d_Mo_sprouts_1 (by decide) ?_
  obtain ⟨I1, eI1, h⟩ := fstf_e h
  refine go_putT (ci := 10) (k := 0) (I' := I1) d_Mo_sprouts_2 a_M_0 rfl (by decide) f_Mo_137 rfl rfl rfl rfl rfl eI1 ?_
  refine go_aload_n (k := 0) d_Mo_sprouts_5 rfl rfl ?_
  refine go_iload_n (k := 1) d_Mo_sprouts_6 rfl rfl ?_
  refine go_iconst (v := 0) d_Mo_sprouts_7 (by decide) ?_
  refine go_iconst (v := 1) d_Mo_sprouts_8 (by decide) ?_
  refine go_callV (y := yMo_isIn) (asr := [.inl x1, .inl 0, .inl 1]) (v := some (.inl (F_Mo_isIn x1 0 1 I1))) (I' := I1) (st1 := [.inl (F_Mo_isIn x1 0 1 I1)]) d_Mo_sprouts_9 s_yMo_isIn m_Mo_157 a_M_0 rfl rfl rfl (Nat.le_of_ble_eq_true rfl) rfl rfl (c_Mo_isIn l (d0 + 1) x1 0 1 I1) ?_
  refine go_if_ne (tgt := 17) d_Mo_sprouts_12 (by decide) (fun hc => ?_) (fun hc => ?_)
  · rw [if_neg hc] at h
    refine go_iconst (v := 0) d_Mo_sprouts_17 (by decide) ?_
    refine go_istore_n (lv' := [(2, .inl 0), (0, .inr (some 0)), (1, .inl x1)]) d_Mo_sprouts_18 rfl (by decide) rfl ?_
    refine go_iconst (v := 1) d_Mo_sprouts_19 (by decide) ?_
    refine go_istore_n (lv' := [(3, .inl 1), (2, .inl 0), (0, .inr (some 0)), (1, .inl x1)]) d_Mo_sprouts_20 rfl (by decide) rfl ?_
    refine go_lv [2, 3, 1, 0] (lv' := [(0, .inr (some 0)), (1, .inl x1), (2, .inl 0), (3, .inl 1)]) rfl ?_
    obtain ⟨o4, w1, h⟩ := fbd_e h
    refine l_Mo_sprouts_21 l d0 x1 I1 5000 0 1 w1 (fun o4_ e => ?_)
    cases e
    refine go_iload_n (k := 1) d_Mo_sprouts_48 rfl rfl ?_
    refine go_if_ne (tgt := 56) d_Mo_sprouts_49 (by decide) (fun hc => ?_) (fun hc => ?_)
    · rw [if_neg hc] at h
      refine go_aload_n (k := 0) d_Mo_sprouts_56 rfl rfl ?_
      refine go_iload_n (k := 2) d_Mo_sprouts_57 rfl rfl ?_
      obtain ⟨r5, w1, h⟩ := fbd_e h
      refine go_callV (y := yMo_sayingOf) (asr := [.inl o4]) (v := some (.inl r5)) (I' := I1) (st1 := [.inl r5]) d_Mo_sprouts_58 s_yMo_sayingOf m_Mo_474 a_M_0 rfl rfl rfl (Nat.le_of_ble_eq_true rfl) rfl rfl (c_Mo_sayingOf l (d0 + 0) o4 I1 w1) ?_
      cases h
      exact go_ireturn d_Mo_sprouts_61 rfl gb_po_i
    · rw [if_pos hc] at h
      refine go_iload_n (k := 2) d_Mo_sprouts_52 rfl rfl ?_
      refine go_goto (tgt := 61) d_Mo_sprouts_53 (by decide) ?_
      cases h
      exact go_ireturn d_Mo_sprouts_61 rfl gb_po_i
  · rw [if_pos hc] at h
    refine go_iconst (v := (-1)) d_Mo_sprouts_15 (by decide) ?_
    cases h
    exact go_ireturn d_Mo_sprouts_16 rfl gb_po_i
theorem d_Mo_act_0 : decode yMo_act.2.1 0 = .ok (.aload_n 0, 1) := by decide +kernel
theorem d_Mo_act_1 : decode yMo_act.2.1 1 = .ok (.iconst 0, 1) := by decide +kernel
theorem d_Mo_act_2 : decode yMo_act.2.1 2 = .ok (.putfield 137, 3) := by decide +kernel
theorem d_Mo_act_5 : decode yMo_act.2.1 5 = .ok (.aload_n 0, 1) := by decide +kernel
theorem d_Mo_act_6 : decode yMo_act.2.1 6 = .ok (.iload_n 1, 1) := by decide +kernel
theorem d_Mo_act_7 : decode yMo_act.2.1 7 = .ok (.iload_n 2, 1) := by decide +kernel
theorem d_Mo_act_8 : decode yMo_act.2.1 8 = .ok (.iload_n 3, 1) := by decide +kernel
theorem d_Mo_act_9 : decode yMo_act.2.1 9 = .ok (.invokevirtual 395, 3) := by decide +kernel
theorem d_Mo_act_12 : decode yMo_act.2.1 12 = .ok (.ifCond .ne 5, 3) := by decide +kernel
theorem d_Mo_act_15 : decode yMo_act.2.1 15 = .ok (.iconst 0, 1) := by decide +kernel
theorem d_Mo_act_16 : decode yMo_act.2.1 16 = .ok (.ireturn, 1) := by decide +kernel
theorem d_Mo_act_17 : decode yMo_act.2.1 17 = .ok (.aload_n 0, 1) := by decide +kernel
theorem d_Mo_act_18 : decode yMo_act.2.1 18 = .ok (.invokevirtual 398, 3) := by decide +kernel
theorem d_Mo_act_21 : decode yMo_act.2.1 21 = .ok (.iload_n 1, 1) := by decide +kernel
theorem d_Mo_act_22 : decode yMo_act.2.1 22 = .ok (.ifCond .ne 26, 3) := by decide +kernel
theorem d_Mo_act_25 : decode yMo_act.2.1 25 = .ok (.aload_n 0, 1) := by decide +kernel
theorem d_Mo_act_26 : decode yMo_act.2.1 26 = .ok (.getfield 7, 3) := by decide +kernel
theorem d_Mo_act_29 : decode yMo_act.2.1 29 = .ok (.bipush 48, 2) := by decide +kernel
theorem d_Mo_act_31 : decode yMo_act.2.1 31 = .ok (.iload_n 2, 1) := by decide +kernel
theorem d_Mo_act_32 : decode yMo_act.2.1 32 = .ok (.iadd, 1) := by decide +kernel
theorem d_Mo_act_33 : decode yMo_act.2.1 33 = .ok (.iload_n 3, 1) := by decide +kernel
theorem d_Mo_act_34 : decode yMo_act.2.1 34 = .ok (.iastore, 1) := by decide +kernel
theorem d_Mo_act_35 : decode yMo_act.2.1 35 = .ok (.aload_n 0, 1) := by decide +kernel
theorem d_Mo_act_36 : decode yMo_act.2.1 36 = .ok (.iconst 3, 1) := by decide +kernel
theorem d_Mo_act_37 : decode yMo_act.2.1 37 = .ok (.iload_n 2, 1) := by decide +kernel
theorem d_Mo_act_38 : decode yMo_act.2.1 38 = .ok (.iload_n 3, 1) := by decide +kernel
theorem d_Mo_act_39 : decode yMo_act.2.1 39 = .ok (.invokevirtual 354, 3) := by decide +kernel
theorem d_Mo_act_42 : decode yMo_act.2.1 42 = .ok (.aload_n 0, 1) := by decide +kernel
theorem d_Mo_act_43 : decode yMo_act.2.1 43 = .ok (.iload_n 2, 1) := by decide +kernel
theorem d_Mo_act_44 : decode yMo_act.2.1 44 = .ok (.invokevirtual 385, 3) := by decide +kernel
theorem d_Mo_act_47 : decode yMo_act.2.1 47 = .ok (.pop, 1) := by decide +kernel
theorem d_Mo_act_48 : decode yMo_act.2.1 48 = .ok (.iload_n 1, 1) := by decide +kernel
theorem d_Mo_act_49 : decode yMo_act.2.1 49 = .ok (.iconst 1, 1) := by decide +kernel
theorem d_Mo_act_50 : decode yMo_act.2.1 50 = .ok (.if_icmp .ne 44, 3) := by decide +kernel
theorem d_Mo_act_53 : decode yMo_act.2.1 53 = .ok (.aload_n 0, 1) := by decide +kernel
theorem d_Mo_act_54 : decode yMo_act.2.1 54 = .ok (.getfield 7, 3) := by decide +kernel
theorem d_Mo_act_57 : decode yMo_act.2.1 57 = .ok (.bipush 40, 2) := by decide +kernel
theorem d_Mo_act_59 : decode yMo_act.2.1 59 = .ok (.iload_n 2, 1) := by decide +kernel
theorem d_Mo_act_60 : decode yMo_act.2.1 60 = .ok (.iadd, 1) := by decide +kernel
theorem d_Mo_act_61 : decode yMo_act.2.1 61 = .ok (.aload_n 0, 1) := by decide +kernel
theorem d_Mo_act_62 : decode yMo_act.2.1 62 = .ok (.getfield 7, 3) := by decide +kernel
theorem d_Mo_act_65 : decode yMo_act.2.1 65 = .ok (.bipush 40, 2) := by decide +kernel
theorem d_Mo_act_67 : decode yMo_act.2.1 67 = .ok (.iload_n 2, 1) := by decide +kernel
theorem d_Mo_act_68 : decode yMo_act.2.1 68 = .ok (.iadd, 1) := by decide +kernel
theorem d_Mo_act_69 : decode yMo_act.2.1 69 = .ok (.iaload, 1) := by decide +kernel
theorem d_Mo_act_70 : decode yMo_act.2.1 70 = .ok (.iload_n 3, 1) := by decide +kernel
theorem d_Mo_act_71 : decode yMo_act.2.1 71 = .ok (.isub, 1) := by decide +kernel
theorem d_Mo_act_72 : decode yMo_act.2.1 72 = .ok (.iastore, 1) := by decide +kernel
theorem d_Mo_act_73 : decode yMo_act.2.1 73 = .ok (.aload_n 0, 1) := by decide +kernel
theorem d_Mo_act_74 : decode yMo_act.2.1 74 = .ok (.getfield 7, 3) := by decide +kernel
theorem d_Mo_act_77 : decode yMo_act.2.1 77 = .ok (.iconst 3, 1) := by decide +kernel
theorem d_Mo_act_78 : decode yMo_act.2.1 78 = .ok (.aload_n 0, 1) := by decide +kernel
theorem d_Mo_act_79 : decode yMo_act.2.1 79 = .ok (.getfield 7, 3) := by decide +kernel
theorem d_Mo_act_82 : decode yMo_act.2.1 82 = .ok (.iconst 3, 1) := by decide +kernel
theorem d_Mo_act_83 : decode yMo_act.2.1 83 = .ok (.iaload, 1) := by decide +kernel
theorem d_Mo_act_84 : decode yMo_act.2.1 84 = .ok (.iload_n 3, 1) := by decide +kernel
theorem d_Mo_act_85 : decode yMo_act.2.1 85 = .ok (.iadd, 1) := by decide +kernel
theorem d_Mo_act_86 : decode yMo_act.2.1 86 = .ok (.iastore, 1) := by decide +kernel
theorem d_Mo_act_87 : decode yMo_act.2.1 87 = .ok (.aload_n 0, 1) := by decide +kernel
theorem d_Mo_act_88 : decode yMo_act.2.1 88 = .ok (.iconst 0, 1) := by decide +kernel
theorem d_Mo_act_89 : decode yMo_act.2.1 89 = .ok (.iload_n 2, 1) := by decide +kernel
theorem d_Mo_act_90 : decode yMo_act.2.1 90 = .ok (.iload_n 3, 1) := by decide +kernel
theorem d_Mo_act_91 : decode yMo_act.2.1 91 = .ok (.invokevirtual 354, 3) := by decide +kernel
theorem d_Mo_act_94 : decode yMo_act.2.1 94 = .ok (.iload_n 1, 1) := by decide +kernel
theorem d_Mo_act_95 : decode yMo_act.2.1 95 = .ok (.iconst 2, 1) := by decide +kernel
theorem d_Mo_act_96 : decode yMo_act.2.1 96 = .ok (.if_icmp .ne 8, 3) := by decide +kernel
theorem d_Mo_act_99 : decode yMo_act.2.1 99 = .ok (.aload_n 0, 1) := by decide +kernel
theorem d_Mo_act_100 : decode yMo_act.2.1 100 = .ok (.iload_n 2, 1) := by decide +kernel
theorem d_Mo_act_101 : decode yMo_act.2.1 101 = .ok (.invokevirtual 401, 3) := by decide +kernel
theorem d_Mo_act_104 : decode yMo_act.2.1 104 = .ok (.iload_n 1, 1) := by decide +kernel
theorem d_Mo_act_105 : decode yMo_act.2.1 105 = .ok (.iconst 3, 1) := by decide +kernel
theorem d_Mo_act_106 : decode yMo_act.2.1 106 = .ok (.if_icmp .ne 10, 3) := by decide +kernel
theorem d_Mo_act_109 : decode yMo_act.2.1 109 = .ok (.aload_n 0, 1) := by decide +kernel
theorem d_Mo_act_110 : decode yMo_act.2.1 110 = .ok (.getfield 7, 3) := by decide +kernel
theorem d_Mo_act_113 : decode yMo_act.2.1 113 = .ok (.iconst 4, 1) := by decide +kernel
theorem d_Mo_act_114 : decode yMo_act.2.1 114 = .ok (.iload_n 3, 1) := by decide +kernel
theorem d_Mo_act_115 : decode yMo_act.2.1 115 = .ok (.iastore, 1) := by decide +kernel
theorem d_Mo_act_116 : decode yMo_act.2.1 116 = .ok (.iconst 1, 1) := by decide +kernel
theorem d_Mo_act_117 : decode yMo_act.2.1 117 = .ok (.ireturn, 1) := by decide +kernel
def J_Mo_act_104 (x1 x3 : Int32) (I : gb_Mem) : Option (Int32 × gb_Mem) :=
  if x1 = 3 then
    fstf I 1 4 x3 fun I4 =>
    some (1, I4)
  else
    some (1, I)
set_option maxRecDepth 4000 in
theorem j_Mo_act_104 (l : Launch) (d0 : Nat) (x1 x3 : Int32) (I : gb_Mem) {rz : Int32} {Iz : gb_Mem} (h : J_Mo_act_104 x1 x3 I = some (rz, Iz)) : gb_Go l yMo_act (d0 + 3) 0 0 104 [(0, .inr (some 0)), (1, .inl x1), (3, .inl x3)] [] shM I (gb_po shM (some (.inl rz)) Iz) := by
  unfold J_Mo_act_104 at h
  refine go_iload_n (k := 1) d_Mo_act_104 rfl rfl ?_
  refine go_iconst (v := 3) d_Mo_act_105 (by decide) ?_
  refine go_cmp_ne (tgt := 116) d_Mo_act_106 (by decide) (fun hc => ?_) (fun hc => ?_)
  · rw [if_neg hc] at h
    refine go_iconst (v := 1) d_Mo_act_116 (by decide) ?_
    cases h
    exact go_zreturn d_Mo_act_117 rfl (Or.inr rfl) gb_po_i
  · rw [if_pos hc] at h
    refine go_aload_n (k := 0) d_Mo_act_109 rfl rfl ?_
    refine go_getr (ci := 10) (k := 1) (r := 1) d_Mo_act_110 a_M_0 rfl (by decide) f_Mo_7 rfl ?_
    refine go_iconst (v := 4) d_Mo_act_113 (by decide) ?_
    refine go_iload_n (k := 2) d_Mo_act_114 rfl rfl ?_
    obtain ⟨I4, eI4, h⟩ := fstf_e h
    refine go_iast (I' := I4) d_Mo_act_115 a_M_1 (inb_iff.mp (by decide)) eI4 ?_
    refine go_iconst (v := 1) d_Mo_act_116 (by decide) ?_
    cases h
    exact go_zreturn d_Mo_act_117 rfl (Or.inr rfl) gb_po_i
def J_Mo_act_94 (x1 x2 x3 : Int32) (I : gb_Mem) : Option (Int32 × gb_Mem) :=
  if x1 = 2 then
    fbd (F_Mo_salts x2 I) fun I5 =>
    J_Mo_act_104 x1 x3 I5
  else
    J_Mo_act_104 x1 x3 I
set_option maxRecDepth 4000 in
theorem j_Mo_act_94 (l : Launch) (d0 : Nat) (x1 x2 x3 : Int32) (I : gb_Mem) {rz : Int32} {Iz : gb_Mem} (h : J_Mo_act_94 x1 x2 x3 I = some (rz, Iz)) : gb_Go l yMo_act (d0 + 3) 0 0 94 [(0, .inr (some 0)), (1, .inl x1), (2, .inl x2), (3, .inl x3)] [] shM I (gb_po shM (some (.inl rz)) Iz) := by
  unfold J_Mo_act_94 at h
  refine go_iload_n (k := 1) d_Mo_act_94 rfl rfl ?_
  refine go_iconst (v := 2) d_Mo_act_95 (by decide) ?_
  refine go_cmp_ne (tgt := 104) d_Mo_act_96 (by decide) (fun hc => ?_) (fun hc => ?_)
  · rw [if_neg hc] at h
    exact go_lv [0, 1, 3] rfl (j_Mo_act_104 l d0 x1 x3 I h)
  · rw [if_pos hc] at h
    refine go_aload_n (k := 0) d_Mo_act_99 rfl rfl ?_
    refine go_iload_n (k := 2) d_Mo_act_100 rfl rfl ?_
    obtain ⟨I5, w1, h⟩ := fbd_e h
    refine go_callV (y := yMo_salts) (asr := [.inl x2]) (v := none) (I' := I5) (st1 := []) d_Mo_act_101 s_yMo_salts m_Mo_401 a_M_0 rfl rfl rfl (Nat.le_of_ble_eq_true rfl) rfl rfl (c_Mo_salts l (d0 + 1) x2 I w1) ?_
    exact go_lv [0, 1, 3] rfl (j_Mo_act_104 l d0 x1 x3 I5 h)
def J_Mo_act_48 (x1 x2 x3 : Int32) (I : gb_Mem) : Option (Int32 × gb_Mem) :=
  if x1 = 1 then
    flod I 1 80 (40 + x2) fun v6 =>
    fsto I 1 80 (40 + x2) (v6 - x3) fun I7 =>
    fstf I7 1 3 ((I7 1 3) + x3) fun I8 =>
    fbd (F_Mo_notes 0 x2 x3 I8) fun I9 =>
    J_Mo_act_94 x1 x2 x3 I9
  else
    J_Mo_act_94 x1 x2 x3 I
set_option maxRecDepth 4000 in
theorem j_Mo_act_48 (l : Launch) (d0 : Nat) (x1 x2 x3 : Int32) (I : gb_Mem) {rz : Int32} {Iz : gb_Mem} (h : J_Mo_act_48 x1 x2 x3 I = some (rz, Iz)) : gb_Go l yMo_act (d0 + 3) 0 0 48 [(0, .inr (some 0)), (1, .inl x1), (2, .inl x2), (3, .inl x3)] [] shM I (gb_po shM (some (.inl rz)) Iz) := by
  unfold J_Mo_act_48 at h
  refine go_iload_n (k := 1) d_Mo_act_48 rfl rfl ?_
  refine go_iconst (v := 1) d_Mo_act_49 (by decide) ?_
  refine go_cmp_ne (tgt := 94) d_Mo_act_50 (by decide) (fun hc => ?_) (fun hc => ?_)
  · rw [if_neg hc] at h
    exact go_lv [0, 1, 2, 3] rfl (j_Mo_act_94 l d0 x1 x2 x3 I h)
  · rw [if_pos hc] at h
    refine go_aload_n (k := 0) d_Mo_act_53 rfl rfl ?_
    refine go_getr (ci := 10) (k := 1) (r := 1) d_Mo_act_54 a_M_0 rfl (by decide) f_Mo_7 rfl ?_
    refine go_bipush (v := 40) d_Mo_act_57 (by decide) ?_
    refine go_iload_n (k := 2) d_Mo_act_59 rfl rfl ?_
    refine go_iadd d_Mo_act_60 ?_
    refine go_aload_n (k := 0) d_Mo_act_61 rfl rfl ?_
    refine go_getr (ci := 10) (k := 1) (r := 1) d_Mo_act_62 a_M_0 rfl (by decide) f_Mo_7 rfl ?_
    refine go_bipush (v := 40) d_Mo_act_65 (by decide) ?_
    refine go_iload_n (k := 2) d_Mo_act_67 rfl rfl ?_
    refine go_iadd d_Mo_act_68 ?_
    obtain ⟨hi, v6, ev6, h⟩ := flod_e h
    refine go_iald2 d_Mo_act_69 a_M_1 hi ev6 ?_
    refine go_iload_n (k := 3) d_Mo_act_70 rfl rfl ?_
    refine go_isub d_Mo_act_71 ?_
    obtain ⟨hi, I7, eI7, h⟩ := fsto_e h
    refine go_iast (I' := I7) d_Mo_act_72 a_M_1 hi eI7 ?_
    refine go_aload_n (k := 0) d_Mo_act_73 rfl rfl ?_
    refine go_getr (ci := 10) (k := 1) (r := 1) d_Mo_act_74 a_M_0 rfl (by decide) f_Mo_7 rfl ?_
    refine go_iconst (v := 3) d_Mo_act_77 (by decide) ?_
    refine go_aload_n (k := 0) d_Mo_act_78 rfl rfl ?_
    refine go_getr (ci := 10) (k := 1) (r := 1) d_Mo_act_79 a_M_0 rfl (by decide) f_Mo_7 rfl ?_
    refine go_iconst (v := 3) d_Mo_act_82 (by decide) ?_
    refine go_iald2 (v := I7 1 3) d_Mo_act_83 a_M_1 (inb_iff.mp (by decide)) rfl ?_
    refine go_iload_n (k := 3) d_Mo_act_84 rfl rfl ?_
    refine go_iadd d_Mo_act_85 ?_
    obtain ⟨I8, eI8, h⟩ := fstf_e h
    refine go_iast (I' := I8) d_Mo_act_86 a_M_1 (inb_iff.mp (by decide)) eI8 ?_
    refine go_aload_n (k := 0) d_Mo_act_87 rfl rfl ?_
    refine go_iconst (v := 0) d_Mo_act_88 (by decide) ?_
    refine go_iload_n (k := 2) d_Mo_act_89 rfl rfl ?_
    refine go_iload_n (k := 3) d_Mo_act_90 rfl rfl ?_
    obtain ⟨I9, w1, h⟩ := fbd_e h
    refine go_callV (y := yMo_notes) (asr := [.inl 0, .inl x2, .inl x3]) (v := none) (I' := I9) (st1 := []) d_Mo_act_91 s_yMo_notes m_Mo_354 a_M_0 rfl rfl rfl (Nat.le_of_ble_eq_true rfl) rfl rfl (c_Mo_notes l (d0 + 2) 0 x2 x3 I8 w1) ?_
    exact go_lv [0, 1, 2, 3] rfl (j_Mo_act_94 l d0 x1 x2 x3 I9 h)
def F_Mo_act (x1 x2 x3 : Int32) (I : gb_Mem) : Option (Int32 × gb_Mem) :=
  fstf I 0 0 0 fun I1 =>
  fbd (F_Mo_canAct x1 x2 x3 I1) fun r2 =>
  if r2 = 0 then
    some (0, I1)
  else
    fbd (F_Mo_keepsAhead  I1) fun I3 =>
    if x1 = 0 then
      fsto I3 1 80 (48 + x2) x3 fun I10 =>
      fbd (F_Mo_notes 3 x2 x3 I10) fun I11 =>
      fbd (F_Mo_lands x2 I11) fun (r13, I12) =>
      J_Mo_act_48 x1 x2 x3 I12
    else
      J_Mo_act_48 x1 x2 x3 I3
set_option maxRecDepth 4000 in
theorem c_Mo_act (l : Launch) (d0 : Nat) (x1 x2 x3 : Int32) (I : gb_Mem) {rz : Int32} {Iz : gb_Mem} (h : F_Mo_act x1 x2 x3 I = some (rz, Iz)) : gb_Cs l yMo_act (d0 + 3) [.inr (some 0), .inl x1, .inl x2, .inl x3] shM I (some (.inl rz)) Iz := by
  refine gb_Ct.of (lv := [(0, .inr (some 0)), (1, .inl x1), (2, .inl x2), (3, .inl x3)]) rfl (Nat.le_of_ble_eq_true rfl) rfl ?_
  unfold F_Mo_act at h
  show gb_Go l yMo_act (d0 + 3) 0 0 0 [(0, .inr (some 0)), (1, .inl x1), (2, .inl x2), (3, .inl x3)] [] shM I (gb_po shM (some (.inl rz)) Iz)
  refine go_aload_n (k := 0) d_Mo_act_0 rfl rfl ?_
  refine go_iconst (v := 0) d_Mo_act_1 (by decide) ?_
  obtain ⟨I1, eI1, h⟩ := fstf_e h
  refine go_putT (ci := 10) (k := 0) (I' := I1) d_Mo_act_2 a_M_0 rfl (by decide) f_Mo_137 rfl rfl rfl rfl rfl eI1 ?_
  refine go_aload_n (k := 0) d_Mo_act_5 rfl rfl ?_
  refine go_iload_n (k := 1) d_Mo_act_6 rfl rfl ?_
  refine go_iload_n (k := 2) d_Mo_act_7 rfl rfl ?_
  refine go_iload_n (k := 3) d_Mo_act_8 rfl rfl ?_
  obtain ⟨r2, w1, h⟩ := fbd_e h
  refine go_callV (y := yMo_canAct) (asr := [.inl x1, .inl x2, .inl x3]) (v := some (.inl r2)) (I' := I1) (st1 := [.inl r2]) d_Mo_act_9 s_yMo_canAct m_Mo_395 a_M_0 rfl rfl rfl (Nat.le_of_ble_eq_true rfl) rfl rfl (c_Mo_canAct l (d0 + 1) x1 x2 x3 I1 w1) ?_
  refine go_if_ne (tgt := 17) d_Mo_act_12 (by decide) (fun hc => ?_) (fun hc => ?_)
  · rw [if_neg hc] at h
    refine go_aload_n (k := 0) d_Mo_act_17 rfl rfl ?_
    obtain ⟨I3, w1, h⟩ := fbd_e h
    refine go_callV (y := yMo_keepsAhead) (asr := []) (v := none) (I' := I3) (st1 := []) d_Mo_act_18 s_yMo_keepsAhead m_Mo_398 a_M_0 rfl rfl rfl (Nat.le_of_ble_eq_true rfl) rfl rfl (c_Mo_keepsAhead l (d0 + 2)  I1 w1) ?_
    refine go_iload_n (k := 1) d_Mo_act_21 rfl rfl ?_
    refine go_if_ne (tgt := 48) d_Mo_act_22 (by decide) (fun hc => ?_) (fun hc => ?_)
    · rw [if_neg hc] at h
      exact go_lv [0, 1, 2, 3] rfl (j_Mo_act_48 l d0 x1 x2 x3 I3 h)
    · rw [if_pos hc] at h
      refine go_aload_n (k := 0) d_Mo_act_25 rfl rfl ?_
      refine go_getr (ci := 10) (k := 1) (r := 1) d_Mo_act_26 a_M_0 rfl (by decide) f_Mo_7 rfl ?_
      refine go_bipush (v := 48) d_Mo_act_29 (by decide) ?_
      refine go_iload_n (k := 2) d_Mo_act_31 rfl rfl ?_
      refine go_iadd d_Mo_act_32 ?_
      refine go_iload_n (k := 3) d_Mo_act_33 rfl rfl ?_
      obtain ⟨hi, I10, eI10, h⟩ := fsto_e h
      refine go_iast (I' := I10) d_Mo_act_34 a_M_1 hi eI10 ?_
      refine go_aload_n (k := 0) d_Mo_act_35 rfl rfl ?_
      refine go_iconst (v := 3) d_Mo_act_36 (by decide) ?_
      refine go_iload_n (k := 2) d_Mo_act_37 rfl rfl ?_
      refine go_iload_n (k := 3) d_Mo_act_38 rfl rfl ?_
      obtain ⟨I11, w1, h⟩ := fbd_e h
      refine go_callV (y := yMo_notes) (asr := [.inl 3, .inl x2, .inl x3]) (v := none) (I' := I11) (st1 := []) d_Mo_act_39 s_yMo_notes m_Mo_354 a_M_0 rfl rfl rfl (Nat.le_of_ble_eq_true rfl) rfl rfl (c_Mo_notes l (d0 + 2) 3 x2 x3 I10 w1) ?_
      refine go_aload_n (k := 0) d_Mo_act_42 rfl rfl ?_
      refine go_iload_n (k := 2) d_Mo_act_43 rfl rfl ?_
      obtain ⟨⟨r13, I12⟩, w1, h⟩ := fbd_e h
      try dsimp only at h
      refine go_callV (y := yMo_lands) (asr := [.inl x2]) (v := some (.inl r13)) (I' := I12) (st1 := [.inl r13]) d_Mo_act_44 s_yMo_lands m_Mo_385 a_M_0 rfl rfl rfl (Nat.le_of_ble_eq_true rfl) rfl rfl (c_Mo_lands l (d0 + 0) x2 I11 w1) ?_
      refine go_pop d_Mo_act_47 ?_
      exact go_lv [0, 1, 2, 3] rfl (j_Mo_act_48 l d0 x1 x2 x3 I12 h)
  · rw [if_pos hc] at h
    refine go_iconst (v := 0) d_Mo_act_15 (by decide) ?_
    cases h
    exact go_zreturn d_Mo_act_16 rfl (Or.inl rfl) gb_po_i
theorem d_Mo_lawTells_0 : decode yMo_lawTells.2.1 0 = .ok (.aload_n 0, 1) := by decide +kernel
theorem d_Mo_lawTells_1 : decode yMo_lawTells.2.1 1 = .ok (.iload_n 1, 1) := by decide +kernel
theorem d_Mo_lawTells_2 : decode yMo_lawTells.2.1 2 = .ok (.invokevirtual 333, 3) := by decide +kernel
theorem d_Mo_lawTells_5 : decode yMo_lawTells.2.1 5 = .ok (.istore 4, 2) := by decide +kernel
theorem d_Mo_lawTells_7 : decode yMo_lawTells.2.1 7 = .ok (.aload_n 0, 1) := by decide +kernel
theorem d_Mo_lawTells_8 : decode yMo_lawTells.2.1 8 = .ok (.iload 4, 2) := by decide +kernel
theorem d_Mo_lawTells_10 : decode yMo_lawTells.2.1 10 = .ok (.iconst (-1), 1) := by decide +kernel
theorem d_Mo_lawTells_11 : decode yMo_lawTells.2.1 11 = .ok (.if_icmp .ne 7, 3) := by decide +kernel
theorem d_Mo_lawTells_14 : decode yMo_lawTells.2.1 14 = .ok (.iload_n 2, 1) := by decide +kernel
theorem d_Mo_lawTells_15 : decode yMo_lawTells.2.1 15 = .ok (.goto 22, 3) := by decide +kernel
theorem d_Mo_lawTells_18 : decode yMo_lawTells.2.1 18 = .ok (.aload_n 0, 1) := by decide +kernel
theorem d_Mo_lawTells_19 : decode yMo_lawTells.2.1 19 = .ok (.iconst 0, 1) := by decide +kernel
theorem d_Mo_lawTells_20 : decode yMo_lawTells.2.1 20 = .ok (.aload_n 0, 1) := by decide +kernel
theorem d_Mo_lawTells_21 : decode yMo_lawTells.2.1 21 = .ok (.getfield 46, 3) := by decide +kernel
theorem d_Mo_lawTells_24 : decode yMo_lawTells.2.1 24 = .ok (.iload 4, 2) := by decide +kernel
theorem d_Mo_lawTells_26 : decode yMo_lawTells.2.1 26 = .ok (.iaload, 1) := by decide +kernel
theorem d_Mo_lawTells_27 : decode yMo_lawTells.2.1 27 = .ok (.aload_n 0, 1) := by decide +kernel
theorem d_Mo_lawTells_28 : decode yMo_lawTells.2.1 28 = .ok (.getfield 49, 3) := by decide +kernel
theorem d_Mo_lawTells_31 : decode yMo_lawTells.2.1 31 = .ok (.iload 4, 2) := by decide +kernel
theorem d_Mo_lawTells_33 : decode yMo_lawTells.2.1 33 = .ok (.iaload, 1) := by decide +kernel
theorem d_Mo_lawTells_34 : decode yMo_lawTells.2.1 34 = .ok (.invokevirtual 327, 3) := by decide +kernel
theorem d_Mo_lawTells_37 : decode yMo_lawTells.2.1 37 = .ok (.iconst 0, 1) := by decide +kernel
theorem d_Mo_lawTells_38 : decode yMo_lawTells.2.1 38 = .ok (.iload_n 3, 1) := by decide +kernel
theorem d_Mo_lawTells_39 : decode yMo_lawTells.2.1 39 = .ok (.invokevirtual 336, 3) := by decide +kernel
theorem d_Mo_lawTells_42 : decode yMo_lawTells.2.1 42 = .ok (.ireturn, 1) := by decide +kernel
def J_Mo_lawTells_37 (x3 s0 : Int32) (I : gb_Mem) : Option (Int32 × gb_Mem) :=
  some (F_Mo_held s0 0 x3 I, I)
set_option maxRecDepth 4000 in
theorem j_Mo_lawTells_37 (l : Launch) (d0 : Nat) (x3 s0 : Int32) (I : gb_Mem) {rz : Int32} {Iz : gb_Mem} (h : J_Mo_lawTells_37 x3 s0 I = some (rz, Iz)) : gb_Go l yMo_lawTells (d0 + 3) 0 0 37 [(3, .inl x3)] [.inl s0, .inr (some 0)] shM I (gb_po shM (some (.inl rz)) Iz) := by
  unfold J_Mo_lawTells_37 at h
  refine go_iconst (v := 0) d_Mo_lawTells_37 (by decide) ?_
  refine go_iload_n (k := 0) d_Mo_lawTells_38 rfl rfl ?_
  refine go_callV (y := yMo_held) (asr := [.inl s0, .inl 0, .inl x3]) (v := some (.inl (F_Mo_held s0 0 x3 I))) (I' := I) (st1 := [.inl (F_Mo_held s0 0 x3 I)]) d_Mo_lawTells_39 s_yMo_held m_Mo_336 a_M_0 rfl rfl rfl (Nat.le_of_ble_eq_true rfl) rfl rfl (c_Mo_held l (d0 + 2) s0 0 x3 I) ?_
  cases h
  exact go_ireturn d_Mo_lawTells_42 rfl gb_po_i
def F_Mo_lawTells (x1 x2 x3 : Int32) (I : gb_Mem) : Option (Int32 × gb_Mem) :=
  fbd (F_Mo_lineOf x1 I) fun (r2, I1) =>
  if r2 = (-1) then
    J_Mo_lawTells_37 x3 x2 I1
  else
    flod I1 13 48 r2 fun v3 =>
    flod I1 14 48 r2 fun v4 =>
    fbd (F_Mo_runs 0 v3 v4 I1) fun (r6, I5) =>
    J_Mo_lawTells_37 x3 r6 I5
set_option maxRecDepth 4000 in
theorem c_Mo_lawTells (l : Launch) (d0 : Nat) (x1 x2 x3 : Int32) (I : gb_Mem) {rz : Int32} {Iz : gb_Mem} (h : F_Mo_lawTells x1 x2 x3 I = some (rz, Iz)) : gb_Cs l yMo_lawTells (d0 + 3) [.inr (some 0), .inl x1, .inl x2, .inl x3] shM I (some (.inl rz)) Iz := by
  refine gb_Ct.of (lv := [(0, .inr (some 0)), (1, .inl x1), (2, .inl x2), (3, .inl x3)]) rfl (Nat.le_of_ble_eq_true rfl) rfl ?_
  unfold F_Mo_lawTells at h
  show gb_Go l yMo_lawTells (d0 + 3) 0 0 0 [(0, .inr (some 0)), (1, .inl x1), (2, .inl x2), (3, .inl x3)] [] shM I (gb_po shM (some (.inl rz)) Iz)
  refine go_aload_n (k := 0) d_Mo_lawTells_0 rfl rfl ?_
  refine go_iload_n (k := 1) d_Mo_lawTells_1 rfl rfl ?_
  obtain ⟨⟨r2, I1⟩, w1, h⟩ := fbd_e h
  try dsimp only at h
  refine go_callV (y := yMo_lineOf) (asr := [.inl x1]) (v := some (.inl r2)) (I' := I1) (st1 := [.inl r2]) d_Mo_lawTells_2 s_yMo_lineOf m_Mo_333 a_M_0 rfl rfl rfl (Nat.le_of_ble_eq_true rfl) rfl rfl (c_Mo_lineOf l (d0 + 0) x1 I w1) ?_
  refine go_istore (lv' := [(4, .inl r2), (0, .inr (some 0)), (1, .inl x1), (2, .inl x2), (3, .inl x3)]) d_Mo_lawTells_5 (by decide) rfl ?_
  refine go_aload_n (k := 1) d_Mo_lawTells_7 rfl rfl ?_
  refine go_iload (k := 0) d_Mo_lawTells_8 rfl ?_
  refine go_iconst (v := (-1)) d_Mo_lawTells_10 (by decide) ?_
  refine go_cmp_ne (tgt := 18) d_Mo_lawTells_11 (by decide) (fun hc => ?_) (fun hc => ?_)
  · rw [if_neg hc] at h
    refine go_aload_n (k := 1) d_Mo_lawTells_18 rfl rfl ?_
    refine go_iconst (v := 0) d_Mo_lawTells_19 (by decide) ?_
    refine go_aload_n (k := 1) d_Mo_lawTells_20 rfl rfl ?_
    refine go_getr (ci := 10) (k := 21) (r := 13) d_Mo_lawTells_21 a_M_0 rfl (by decide) f_Mo_46 rfl ?_
    refine go_iload (k := 0) d_Mo_lawTells_24 rfl ?_
    obtain ⟨hi, v3, ev3, h⟩ := flod_e h
    refine go_iald2 d_Mo_lawTells_26 a_M_13 hi ev3 ?_
    refine go_aload_n (k := 1) d_Mo_lawTells_27 rfl rfl ?_
    refine go_getr (ci := 10) (k := 22) (r := 14) d_Mo_lawTells_28 a_M_0 rfl (by decide) f_Mo_49 rfl ?_
    refine go_iload (k := 0) d_Mo_lawTells_31 rfl ?_
    obtain ⟨hi, v4, ev4, h⟩ := flod_e h
    refine go_iald2 d_Mo_lawTells_33 a_M_14 hi ev4 ?_
    obtain ⟨⟨r6, I5⟩, w1, h⟩ := fbd_e h
    try dsimp only at h
    refine go_callV (y := yMo_runs) (asr := [.inl 0, .inl v3, .inl v4]) (v := some (.inl r6)) (I' := I5) (st1 := [.inl r6, .inr (some 0)]) d_Mo_lawTells_34 s_yMo_runs m_Mo_327 a_M_0 rfl rfl rfl (Nat.le_of_ble_eq_true rfl) rfl rfl (c_Mo_runs l (d0 + 1) 0 v3 v4 I1 w1) ?_
    exact go_lv [4] rfl (j_Mo_lawTells_37 l d0 x3 r6 I5 h)
  · rw [if_pos hc] at h
    refine go_iload_n (k := 3) d_Mo_lawTells_14 rfl rfl ?_
    refine go_goto (tgt := 37) d_Mo_lawTells_15 (by decide) ?_
    exact go_lv [4] rfl (j_Mo_lawTells_37 l d0 x3 x2 I1 h)
theorem d_Mo_readMark_0 : decode yMo_readMark.2.1 0 = .ok (.aload_n 0, 1) := by decide +kernel
theorem d_Mo_readMark_1 : decode yMo_readMark.2.1 1 = .ok (.iload_n 1, 1) := by decide +kernel
theorem d_Mo_readMark_2 : decode yMo_readMark.2.1 2 = .ok (.invokevirtual 232, 3) := by decide +kernel
theorem d_Mo_readMark_5 : decode yMo_readMark.2.1 5 = .ok (.ifCond .ne 9, 3) := by decide +kernel
theorem d_Mo_readMark_8 : decode yMo_readMark.2.1 8 = .ok (.aload_n 0, 1) := by decide +kernel
theorem d_Mo_readMark_9 : decode yMo_readMark.2.1 9 = .ok (.iconst 1, 1) := by decide +kernel
theorem d_Mo_readMark_10 : decode yMo_readMark.2.1 10 = .ok (.invokevirtual 218, 3) := by decide +kernel
theorem d_Mo_readMark_13 : decode yMo_readMark.2.1 13 = .ok (.ireturn, 1) := by decide +kernel
theorem d_Mo_readMark_14 : decode yMo_readMark.2.1 14 = .ok (.aload_n 0, 1) := by decide +kernel
theorem d_Mo_readMark_15 : decode yMo_readMark.2.1 15 = .ok (.invokevirtual 225, 3) := by decide +kernel
theorem d_Mo_readMark_18 : decode yMo_readMark.2.1 18 = .ok (.iconst 0, 1) := by decide +kernel
theorem d_Mo_readMark_19 : decode yMo_readMark.2.1 19 = .ok (.ireturn, 1) := by decide +kernel
def F_Mo_readMark (x1 : Int32) (I : gb_Mem) : Option (Int32 × gb_Mem) :=
  if (F_Mo_isSign x1 I) = 0 then
    fbd (F_Mo_errs 1 I) fun (r3, I2) =>
    some (r3, I2)
  else
    fbd (F_Mo_reads  I) fun I1 =>
    some (0, I1)
set_option maxRecDepth 4000 in
theorem c_Mo_readMark (l : Launch) (d0 : Nat) (x1 : Int32) (I : gb_Mem) {rz : Int32} {Iz : gb_Mem} (h : F_Mo_readMark x1 I = some (rz, Iz)) : gb_Cs l yMo_readMark (d0 + 3) [.inr (some 0), .inl x1] shM I (some (.inl rz)) Iz := by
  refine gb_Ct.of (lv := [(0, .inr (some 0)), (1, .inl x1)]) rfl (Nat.le_of_ble_eq_true rfl) rfl ?_
  unfold F_Mo_readMark at h
  show gb_Go l yMo_readMark (d0 + 3) 0 0 0 [(0, .inr (some 0)), (1, .inl x1)] [] shM I (gb_po shM (some (.inl rz)) Iz)
  refine go_aload_n (k := 0) d_Mo_readMark_0 rfl rfl ?_
  refine go_iload_n (k := 1) d_Mo_readMark_1 rfl rfl ?_
  refine go_callV (y := yMo_isSign) (asr := [.inl x1]) (v := some (.inl (F_Mo_isSign x1 I))) (I' := I) (st1 := [.inl (F_Mo_isSign x1 I)]) d_Mo_readMark_2 s_yMo_isSign m_Mo_232 a_M_0 rfl rfl rfl (Nat.le_of_ble_eq_true rfl) rfl rfl (c_Mo_isSign l (d0 + 2) x1 I) ?_
  refine go_if_ne (tgt := 14) d_Mo_readMark_5 (by decide) (fun hc => ?_) (fun hc => ?_)
  · rw [if_neg hc] at h
    refine go_aload_n (k := 0) d_Mo_readMark_14 rfl rfl ?_
    obtain ⟨I1, w1, h⟩ := fbd_e h
    refine go_callV (y := yMo_reads) (asr := []) (v := none) (I' := I1) (st1 := []) d_Mo_readMark_15 s_yMo_reads m_Mo_225 a_M_0 rfl rfl rfl (Nat.le_of_ble_eq_true rfl) rfl rfl (c_Mo_reads l (d0 + 0)  I w1) ?_
    refine go_iconst (v := 0) d_Mo_readMark_18 (by decide) ?_
    cases h
    exact go_ireturn d_Mo_readMark_19 rfl gb_po_i
  · rw [if_pos hc] at h
    refine go_aload_n (k := 0) d_Mo_readMark_8 rfl rfl ?_
    refine go_iconst (v := 1) d_Mo_readMark_9 (by decide) ?_
    obtain ⟨⟨r3, I2⟩, w1, h⟩ := fbd_e h
    try dsimp only at h
    refine go_callV (y := yMo_errs) (asr := [.inl 1]) (v := some (.inl r3)) (I' := I2) (st1 := [.inl r3]) d_Mo_readMark_10 s_yMo_errs m_Mo_218 a_M_0 rfl rfl rfl (Nat.le_of_ble_eq_true rfl) rfl rfl (c_Mo_errs l (d0 + 2) 1 I w1) ?_
    cases h
    exact go_ireturn d_Mo_readMark_13 rfl gb_po_i
theorem d_Mo_readNumber_0 : decode yMo_readNumber.2.1 0 = .ok (.aload_n 0, 1) := by decide +kernel
theorem d_Mo_readNumber_1 : decode yMo_readNumber.2.1 1 = .ok (.getfield 187, 3) := by decide +kernel
theorem d_Mo_readNumber_4 : decode yMo_readNumber.2.1 4 = .ok (.iconst 3, 1) := by decide +kernel
theorem d_Mo_readNumber_5 : decode yMo_readNumber.2.1 5 = .ok (.if_icmp .eq 9, 3) := by decide +kernel
theorem d_Mo_readNumber_8 : decode yMo_readNumber.2.1 8 = .ok (.aload_n 0, 1) := by decide +kernel
theorem d_Mo_readNumber_9 : decode yMo_readNumber.2.1 9 = .ok (.iconst 1, 1) := by decide +kernel
theorem d_Mo_readNumber_10 : decode yMo_readNumber.2.1 10 = .ok (.invokevirtual 218, 3) := by decide +kernel
theorem d_Mo_readNumber_13 : decode yMo_readNumber.2.1 13 = .ok (.ireturn, 1) := by decide +kernel
theorem d_Mo_readNumber_14 : decode yMo_readNumber.2.1 14 = .ok (.aload_n 0, 1) := by decide +kernel
theorem d_Mo_readNumber_15 : decode yMo_readNumber.2.1 15 = .ok (.aload_n 0, 1) := by decide +kernel
theorem d_Mo_readNumber_16 : decode yMo_readNumber.2.1 16 = .ok (.getfield 190, 3) := by decide +kernel
theorem d_Mo_readNumber_19 : decode yMo_readNumber.2.1 19 = .ok (.iload_n 1, 1) := by decide +kernel
theorem d_Mo_readNumber_20 : decode yMo_readNumber.2.1 20 = .ok (.iload_n 2, 1) := by decide +kernel
theorem d_Mo_readNumber_21 : decode yMo_readNumber.2.1 21 = .ok (.invokevirtual 157, 3) := by decide +kernel
theorem d_Mo_readNumber_24 : decode yMo_readNumber.2.1 24 = .ok (.ifCond .ne 9, 3) := by decide +kernel
theorem d_Mo_readNumber_27 : decode yMo_readNumber.2.1 27 = .ok (.aload_n 0, 1) := by decide +kernel
theorem d_Mo_readNumber_28 : decode yMo_readNumber.2.1 28 = .ok (.iconst 2, 1) := by decide +kernel
theorem d_Mo_readNumber_29 : decode yMo_readNumber.2.1 29 = .ok (.invokevirtual 218, 3) := by decide +kernel
theorem d_Mo_readNumber_32 : decode yMo_readNumber.2.1 32 = .ok (.ireturn, 1) := by decide +kernel
theorem d_Mo_readNumber_33 : decode yMo_readNumber.2.1 33 = .ok (.aload_n 0, 1) := by decide +kernel
theorem d_Mo_readNumber_34 : decode yMo_readNumber.2.1 34 = .ok (.getfield 190, 3) := by decide +kernel
theorem d_Mo_readNumber_37 : decode yMo_readNumber.2.1 37 = .ok (.istore_n 3, 1) := by decide +kernel
theorem d_Mo_readNumber_38 : decode yMo_readNumber.2.1 38 = .ok (.aload_n 0, 1) := by decide +kernel
theorem d_Mo_readNumber_39 : decode yMo_readNumber.2.1 39 = .ok (.invokevirtual 225, 3) := by decide +kernel
theorem d_Mo_readNumber_42 : decode yMo_readNumber.2.1 42 = .ok (.iload_n 3, 1) := by decide +kernel
theorem d_Mo_readNumber_43 : decode yMo_readNumber.2.1 43 = .ok (.ireturn, 1) := by decide +kernel
def F_Mo_readNumber (x1 x2 : Int32) (I : gb_Mem) : Option (Int32 × gb_Mem) :=
  if (I 0 16) = 3 then
    if (F_Mo_isIn (I 0 17) x1 x2 I) = 0 then
      fbd (F_Mo_errs 2 I) fun (r3, I2) =>
      some (r3, I2)
    else
      fbd (F_Mo_reads  I) fun I1 =>
      some (I 0 17, I1)
  else
    fbd (F_Mo_errs 1 I) fun (r5, I4) =>
    some (r5, I4)
set_option maxRecDepth 4000 in
theorem c_Mo_readNumber (l : Launch) (d0 : Nat) (x1 x2 : Int32) (I : gb_Mem) {rz : Int32} {Iz : gb_Mem} (h : F_Mo_readNumber x1 x2 I = some (rz, Iz)) : gb_Cs l yMo_readNumber (d0 + 3) [.inr (some 0), .inl x1, .inl x2] shM I (some (.inl rz)) Iz := by
  refine gb_Ct.of (lv := [(0, .inr (some 0)), (1, .inl x1), (2, .inl x2)]) rfl (Nat.le_of_ble_eq_true rfl) rfl ?_
  unfold F_Mo_readNumber at h
  show gb_Go l yMo_readNumber (d0 + 3) 0 0 0 [(0, .inr (some 0)), (1, .inl x1), (2, .inl x2)] [] shM I (gb_po shM (some (.inl rz)) Iz)
  refine go_aload_n (k := 0) d_Mo_readNumber_0 rfl rfl ?_
  refine go_geti (ci := 10) (k := 16) d_Mo_readNumber_1 a_M_0 rfl (by decide) f_Mo_187 rfl ?_
  refine go_iconst (v := 3) d_Mo_readNumber_4 (by decide) ?_
  refine go_cmp_eq (tgt := 14) d_Mo_readNumber_5 (by decide) (fun hc => ?_) (fun hc => ?_)
  · rw [if_pos hc] at h
    refine go_aload_n (k := 0) d_Mo_readNumber_14 rfl rfl ?_
    refine go_aload_n (k := 0) d_Mo_readNumber_15 rfl rfl ?_
    refine go_geti (ci := 10) (k := 17) d_Mo_readNumber_16 a_M_0 rfl (by decide) f_Mo_190 rfl ?_
    refine go_iload_n (k := 1) d_Mo_readNumber_19 rfl rfl ?_
    refine go_iload_n (k := 2) d_Mo_readNumber_20 rfl rfl ?_
    refine go_callV (y := yMo_isIn) (asr := [.inl (I 0 17), .inl x1, .inl x2]) (v := some (.inl (F_Mo_isIn (I 0 17) x1 x2 I))) (I' := I) (st1 := [.inl (F_Mo_isIn (I 0 17) x1 x2 I)]) d_Mo_readNumber_21 s_yMo_isIn m_Mo_157 a_M_0 rfl rfl rfl (Nat.le_of_ble_eq_true rfl) rfl rfl (c_Mo_isIn l (d0 + 2) (I 0 17) x1 x2 I) ?_
    refine go_if_ne (tgt := 33) d_Mo_readNumber_24 (by decide) (fun hc => ?_) (fun hc => ?_)
    · rw [if_neg hc] at h
      refine go_aload_n (k := 0) d_Mo_readNumber_33 rfl rfl ?_
      refine go_geti (ci := 10) (k := 17) d_Mo_readNumber_34 a_M_0 rfl (by decide) f_Mo_190 rfl ?_
      refine go_istore_n (lv' := [(3, .inl (I 0 17)), (0, .inr (some 0)), (1, .inl x1), (2, .inl x2)]) d_Mo_readNumber_37 rfl (by decide) rfl ?_
      refine go_aload_n (k := 1) d_Mo_readNumber_38 rfl rfl ?_
      obtain ⟨I1, w1, h⟩ := fbd_e h
      refine go_callV (y := yMo_reads) (asr := []) (v := none) (I' := I1) (st1 := []) d_Mo_readNumber_39 s_yMo_reads m_Mo_225 a_M_0 rfl rfl rfl (Nat.le_of_ble_eq_true rfl) rfl rfl (c_Mo_reads l (d0 + 0)  I w1) ?_
      refine go_iload_n (k := 0) d_Mo_readNumber_42 rfl rfl ?_
      cases h
      exact go_ireturn d_Mo_readNumber_43 rfl gb_po_i
    · rw [if_pos hc] at h
      refine go_aload_n (k := 0) d_Mo_readNumber_27 rfl rfl ?_
      refine go_iconst (v := 2) d_Mo_readNumber_28 (by decide) ?_
      obtain ⟨⟨r3, I2⟩, w1, h⟩ := fbd_e h
      try dsimp only at h
      refine go_callV (y := yMo_errs) (asr := [.inl 2]) (v := some (.inl r3)) (I' := I2) (st1 := [.inl r3]) d_Mo_readNumber_29 s_yMo_errs m_Mo_218 a_M_0 rfl rfl rfl (Nat.le_of_ble_eq_true rfl) rfl rfl (c_Mo_errs l (d0 + 2) 2 I w1) ?_
      cases h
      exact go_ireturn d_Mo_readNumber_32 rfl gb_po_i
  · rw [if_neg hc] at h
    refine go_aload_n (k := 0) d_Mo_readNumber_8 rfl rfl ?_
    refine go_iconst (v := 1) d_Mo_readNumber_9 (by decide) ?_
    obtain ⟨⟨r5, I4⟩, w1, h⟩ := fbd_e h
    try dsimp only at h
    refine go_callV (y := yMo_errs) (asr := [.inl 1]) (v := some (.inl r5)) (I' := I4) (st1 := [.inl r5]) d_Mo_readNumber_10 s_yMo_errs m_Mo_218 a_M_0 rfl rfl rfl (Nat.le_of_ble_eq_true rfl) rfl rfl (c_Mo_errs l (d0 + 2) 1 I w1) ?_
    cases h
    exact go_ireturn d_Mo_readNumber_13 rfl gb_po_i
theorem d_Mo_readUnit_0 : decode yMo_readUnit.2.1 0 = .ok (.aload_n 0, 1) := by decide +kernel
theorem d_Mo_readUnit_1 : decode yMo_readUnit.2.1 1 = .ok (.getfield 187, 3) := by decide +kernel
theorem d_Mo_readUnit_4 : decode yMo_readUnit.2.1 4 = .ok (.iconst 2, 1) := by decide +kernel
theorem d_Mo_readUnit_5 : decode yMo_readUnit.2.1 5 = .ok (.if_icmp .ne 18, 3) := by decide +kernel
theorem d_Mo_readUnit_8 : decode yMo_readUnit.2.1 8 = .ok (.aload_n 0, 1) := by decide +kernel
theorem d_Mo_readUnit_9 : decode yMo_readUnit.2.1 9 = .ok (.aload_n 0, 1) := by decide +kernel
theorem d_Mo_readUnit_10 : decode yMo_readUnit.2.1 10 = .ok (.getfield 190, 3) := by decide +kernel
theorem d_Mo_readUnit_13 : decode yMo_readUnit.2.1 13 = .ok (.invokevirtual 215, 3) := by decide +kernel
theorem d_Mo_readUnit_16 : decode yMo_readUnit.2.1 16 = .ok (.ifCond .eq 7, 3) := by decide +kernel
theorem d_Mo_readUnit_19 : decode yMo_readUnit.2.1 19 = .ok (.iconst 1, 1) := by decide +kernel
theorem d_Mo_readUnit_20 : decode yMo_readUnit.2.1 20 = .ok (.goto 4, 3) := by decide +kernel
theorem d_Mo_readUnit_23 : decode yMo_readUnit.2.1 23 = .ok (.iconst 0, 1) := by decide +kernel
theorem d_Mo_readUnit_24 : decode yMo_readUnit.2.1 24 = .ok (.istore_n 1, 1) := by decide +kernel
theorem d_Mo_readUnit_25 : decode yMo_readUnit.2.1 25 = .ok (.iload_n 1, 1) := by decide +kernel
theorem d_Mo_readUnit_26 : decode yMo_readUnit.2.1 26 = .ok (.ifCond .ne 17, 3) := by decide +kernel
theorem d_Mo_readUnit_29 : decode yMo_readUnit.2.1 29 = .ok (.aload_n 0, 1) := by decide +kernel
theorem d_Mo_readUnit_30 : decode yMo_readUnit.2.1 30 = .ok (.getfield 187, 3) := by decide +kernel
theorem d_Mo_readUnit_33 : decode yMo_readUnit.2.1 33 = .ok (.iconst 3, 1) := by decide +kernel
theorem d_Mo_readUnit_34 : decode yMo_readUnit.2.1 34 = .ok (.if_icmp .eq 9, 3) := by decide +kernel
theorem d_Mo_readUnit_37 : decode yMo_readUnit.2.1 37 = .ok (.aload_n 0, 1) := by decide +kernel
theorem d_Mo_readUnit_38 : decode yMo_readUnit.2.1 38 = .ok (.iconst 1, 1) := by decide +kernel
theorem d_Mo_readUnit_39 : decode yMo_readUnit.2.1 39 = .ok (.invokevirtual 218, 3) := by decide +kernel
theorem d_Mo_readUnit_42 : decode yMo_readUnit.2.1 42 = .ok (.ireturn, 1) := by decide +kernel
theorem d_Mo_readUnit_43 : decode yMo_readUnit.2.1 43 = .ok (.aload_n 0, 1) := by decide +kernel
theorem d_Mo_readUnit_44 : decode yMo_readUnit.2.1 44 = .ok (.iload_n 1, 1) := by decide +kernel
theorem d_Mo_readUnit_45 : decode yMo_readUnit.2.1 45 = .ok (.ifCond .eq 7, 3) := by decide +kernel
theorem d_Mo_readUnit_48 : decode yMo_readUnit.2.1 48 = .ok (.iconst 1, 1) := by decide +kernel
theorem d_Mo_readUnit_49 : decode yMo_readUnit.2.1 49 = .ok (.goto 4, 3) := by decide +kernel
theorem d_Mo_readUnit_52 : decode yMo_readUnit.2.1 52 = .ok (.iconst 0, 1) := by decide +kernel
theorem d_Mo_readUnit_53 : decode yMo_readUnit.2.1 53 = .ok (.iload_n 1, 1) := by decide +kernel
theorem d_Mo_readUnit_54 : decode yMo_readUnit.2.1 54 = .ok (.ifCond .eq 13, 3) := by decide +kernel
theorem d_Mo_readUnit_57 : decode yMo_readUnit.2.1 57 = .ok (.aload_n 0, 1) := by decide +kernel
theorem d_Mo_readUnit_58 : decode yMo_readUnit.2.1 58 = .ok (.getfield 190, 3) := by decide +kernel
theorem d_Mo_readUnit_61 : decode yMo_readUnit.2.1 61 = .ok (.bipush 7, 2) := by decide +kernel
theorem d_Mo_readUnit_63 : decode yMo_readUnit.2.1 63 = .ok (.isub, 1) := by decide +kernel
theorem d_Mo_readUnit_64 : decode yMo_readUnit.2.1 64 = .ok (.goto 7, 3) := by decide +kernel
theorem d_Mo_readUnit_67 : decode yMo_readUnit.2.1 67 = .ok (.aload_n 0, 1) := by decide +kernel
theorem d_Mo_readUnit_68 : decode yMo_readUnit.2.1 68 = .ok (.getfield 190, 3) := by decide +kernel
theorem d_Mo_readUnit_71 : decode yMo_readUnit.2.1 71 = .ok (.invokevirtual 221, 3) := by decide +kernel
theorem d_Mo_readUnit_74 : decode yMo_readUnit.2.1 74 = .ok (.aload_n 0, 1) := by decide +kernel
theorem d_Mo_readUnit_75 : decode yMo_readUnit.2.1 75 = .ok (.invokevirtual 225, 3) := by decide +kernel
theorem d_Mo_readUnit_78 : decode yMo_readUnit.2.1 78 = .ok (.iconst 0, 1) := by decide +kernel
theorem d_Mo_readUnit_79 : decode yMo_readUnit.2.1 79 = .ok (.ireturn, 1) := by decide +kernel
def J_Mo_readUnit_71 (s0 s1 : Int32) (I : gb_Mem) : Option (Int32 × gb_Mem) :=
  fbd (F_Mo_emits s1 s0 I) fun I1 =>
  fbd (F_Mo_reads  I1) fun I2 =>
  some (0, I2)
set_option maxRecDepth 4000 in
theorem j_Mo_readUnit_71 (l : Launch) (d0 : Nat) (s0 s1 : Int32) (I : gb_Mem) {rz : Int32} {Iz : gb_Mem} (h : J_Mo_readUnit_71 s0 s1 I = some (rz, Iz)) : gb_Go l yMo_readUnit (d0 + 3) 0 0 71 [(0, .inr (some 0))] [.inl s0, .inl s1, .inr (some 0)] shM I (gb_po shM (some (.inl rz)) Iz) := by
  unfold J_Mo_readUnit_71 at h
  obtain ⟨I1, w1, h⟩ := fbd_e h
  refine go_callV (y := yMo_emits) (asr := [.inl s1, .inl s0]) (v := none) (I' := I1) (st1 := []) d_Mo_readUnit_71 s_yMo_emits m_Mo_221 a_M_0 rfl rfl rfl (Nat.le_of_ble_eq_true rfl) rfl rfl (c_Mo_emits l (d0 + 2) s1 s0 I w1) ?_
  refine go_aload_n (k := 0) d_Mo_readUnit_74 rfl rfl ?_
  obtain ⟨I2, w1, h⟩ := fbd_e h
  refine go_callV (y := yMo_reads) (asr := []) (v := none) (I' := I2) (st1 := []) d_Mo_readUnit_75 s_yMo_reads m_Mo_225 a_M_0 rfl rfl rfl (Nat.le_of_ble_eq_true rfl) rfl rfl (c_Mo_reads l (d0 + 0)  I1 w1) ?_
  refine go_iconst (v := 0) d_Mo_readUnit_78 (by decide) ?_
  cases h
  exact go_ireturn d_Mo_readUnit_79 rfl gb_po_i
def J_Mo_readUnit_53 (x1 s0 : Int32) (I : gb_Mem) : Option (Int32 × gb_Mem) :=
  if x1 = 0 then
    J_Mo_readUnit_71 (I 0 17) s0 I
  else
    J_Mo_readUnit_71 ((I 0 17) - 7) s0 I
set_option maxRecDepth 4000 in
theorem j_Mo_readUnit_53 (l : Launch) (d0 : Nat) (x1 s0 : Int32) (I : gb_Mem) {rz : Int32} {Iz : gb_Mem} (h : J_Mo_readUnit_53 x1 s0 I = some (rz, Iz)) : gb_Go l yMo_readUnit (d0 + 3) 0 0 53 [(0, .inr (some 0)), (1, .inl x1)] [.inl s0, .inr (some 0)] shM I (gb_po shM (some (.inl rz)) Iz) := by
  unfold J_Mo_readUnit_53 at h
  refine go_iload_n (k := 1) d_Mo_readUnit_53 rfl rfl ?_
  refine go_if_eq (tgt := 67) d_Mo_readUnit_54 (by decide) (fun hc => ?_) (fun hc => ?_)
  · rw [if_pos hc] at h
    refine go_aload_n (k := 0) d_Mo_readUnit_67 rfl rfl ?_
    refine go_geti (ci := 10) (k := 17) d_Mo_readUnit_68 a_M_0 rfl (by decide) f_Mo_190 rfl ?_
    exact go_lv [0] rfl (j_Mo_readUnit_71 l d0 (I 0 17) s0 I h)
  · rw [if_neg hc] at h
    refine go_aload_n (k := 0) d_Mo_readUnit_57 rfl rfl ?_
    refine go_geti (ci := 10) (k := 17) d_Mo_readUnit_58 a_M_0 rfl (by decide) f_Mo_190 rfl ?_
    refine go_bipush (v := 7) d_Mo_readUnit_61 (by decide) ?_
    refine go_isub d_Mo_readUnit_63 ?_
    refine go_goto (tgt := 71) d_Mo_readUnit_64 (by decide) ?_
    exact go_lv [0] rfl (j_Mo_readUnit_71 l d0 ((I 0 17) - 7) s0 I h)
def J_Mo_readUnit_43 (x1 : Int32) (I : gb_Mem) : Option (Int32 × gb_Mem) :=
  if x1 = 0 then
    J_Mo_readUnit_53 x1 0 I
  else
    J_Mo_readUnit_53 x1 1 I
set_option maxRecDepth 4000 in
theorem j_Mo_readUnit_43 (l : Launch) (d0 : Nat) (x1 : Int32) (I : gb_Mem) {rz : Int32} {Iz : gb_Mem} (h : J_Mo_readUnit_43 x1 I = some (rz, Iz)) : gb_Go l yMo_readUnit (d0 + 3) 0 0 43 [(0, .inr (some 0)), (1, .inl x1)] [] shM I (gb_po shM (some (.inl rz)) Iz) := by
  unfold J_Mo_readUnit_43 at h
  refine go_aload_n (k := 0) d_Mo_readUnit_43 rfl rfl ?_
  refine go_iload_n (k := 1) d_Mo_readUnit_44 rfl rfl ?_
  refine go_if_eq (tgt := 52) d_Mo_readUnit_45 (by decide) (fun hc => ?_) (fun hc => ?_)
  · rw [if_pos hc] at h
    refine go_iconst (v := 0) d_Mo_readUnit_52 (by decide) ?_
    exact go_lv [0, 1] rfl (j_Mo_readUnit_53 l d0 x1 0 I h)
  · rw [if_neg hc] at h
    refine go_iconst (v := 1) d_Mo_readUnit_48 (by decide) ?_
    refine go_goto (tgt := 53) d_Mo_readUnit_49 (by decide) ?_
    exact go_lv [0, 1] rfl (j_Mo_readUnit_53 l d0 x1 1 I h)
def J_Mo_readUnit_24 (s0 : Int32) (I : gb_Mem) : Option (Int32 × gb_Mem) :=
  if s0 = 0 then
    if (I 0 16) = 3 then
      J_Mo_readUnit_43 s0 I
    else
      fbd (F_Mo_errs 1 I) fun (r4, I3) =>
      some (r4, I3)
  else
    J_Mo_readUnit_43 s0 I
set_option maxRecDepth 4000 in
theorem j_Mo_readUnit_24 (l : Launch) (d0 : Nat) (s0 : Int32) (I : gb_Mem) {rz : Int32} {Iz : gb_Mem} (h : J_Mo_readUnit_24 s0 I = some (rz, Iz)) : gb_Go l yMo_readUnit (d0 + 3) 0 0 24 [(0, .inr (some 0))] [.inl s0] shM I (gb_po shM (some (.inl rz)) Iz) := by
  unfold J_Mo_readUnit_24 at h
  refine go_istore_n (lv' := [(1, .inl s0), (0, .inr (some 0))]) d_Mo_readUnit_24 rfl (by decide) rfl ?_
  refine go_iload_n (k := 0) d_Mo_readUnit_25 rfl rfl ?_
  refine go_if_ne (tgt := 43) d_Mo_readUnit_26 (by decide) (fun hc => ?_) (fun hc => ?_)
  · rw [if_neg hc] at h
    exact go_lv [1, 0] rfl (j_Mo_readUnit_43 l d0 s0 I h)
  · rw [if_pos hc] at h
    refine go_aload_n (k := 1) d_Mo_readUnit_29 rfl rfl ?_
    refine go_geti (ci := 10) (k := 16) d_Mo_readUnit_30 a_M_0 rfl (by decide) f_Mo_187 rfl ?_
    refine go_iconst (v := 3) d_Mo_readUnit_33 (by decide) ?_
    refine go_cmp_eq (tgt := 43) d_Mo_readUnit_34 (by decide) (fun hc => ?_) (fun hc => ?_)
    · rw [if_pos hc] at h
      exact go_lv [1, 0] rfl (j_Mo_readUnit_43 l d0 s0 I h)
    · rw [if_neg hc] at h
      refine go_aload_n (k := 1) d_Mo_readUnit_37 rfl rfl ?_
      refine go_iconst (v := 1) d_Mo_readUnit_38 (by decide) ?_
      obtain ⟨⟨r4, I3⟩, w1, h⟩ := fbd_e h
      try dsimp only at h
      refine go_callV (y := yMo_errs) (asr := [.inl 1]) (v := some (.inl r4)) (I' := I3) (st1 := [.inl r4]) d_Mo_readUnit_39 s_yMo_errs m_Mo_218 a_M_0 rfl rfl rfl (Nat.le_of_ble_eq_true rfl) rfl rfl (c_Mo_errs l (d0 + 2) 1 I w1) ?_
      cases h
      exact go_ireturn d_Mo_readUnit_42 rfl gb_po_i
def J_Mo_readUnit_23 (I : gb_Mem) : Option (Int32 × gb_Mem) :=
  J_Mo_readUnit_24 0 I
set_option maxRecDepth 4000 in
theorem j_Mo_readUnit_23 (l : Launch) (d0 : Nat) (I : gb_Mem) {rz : Int32} {Iz : gb_Mem} (h : J_Mo_readUnit_23 I = some (rz, Iz)) : gb_Go l yMo_readUnit (d0 + 3) 0 0 23 [(0, .inr (some 0))] [] shM I (gb_po shM (some (.inl rz)) Iz) := by
  unfold J_Mo_readUnit_23 at h
  refine go_iconst (v := 0) d_Mo_readUnit_23 (by decide) ?_
  exact go_lv [0] rfl (j_Mo_readUnit_24 l d0 0 I h)
def F_Mo_readUnit (I : gb_Mem) : Option (Int32 × gb_Mem) :=
  if (I 0 16) = 2 then
    if (F_Mo_canAsk (I 0 17) I) = 0 then
      J_Mo_readUnit_23 I
    else
      J_Mo_readUnit_24 1 I
  else
    J_Mo_readUnit_23 I
set_option maxRecDepth 4000 in
theorem c_Mo_readUnit (l : Launch) (d0 : Nat) (I : gb_Mem) {rz : Int32} {Iz : gb_Mem} (h : F_Mo_readUnit I = some (rz, Iz)) : gb_Cs l yMo_readUnit (d0 + 3) [.inr (some 0)] shM I (some (.inl rz)) Iz := by
  refine gb_Ct.of (lv := [(0, .inr (some 0))]) rfl (Nat.le_of_ble_eq_true rfl) rfl ?_
  unfold F_Mo_readUnit at h
  show gb_Go l yMo_readUnit (d0 + 3) 0 0 0 [(0, .inr (some 0))] [] shM I (gb_po shM (some (.inl rz)) Iz)
  refine go_aload_n (k := 0) d_Mo_readUnit_0 rfl rfl ?_
  refine go_geti (ci := 10) (k := 16) d_Mo_readUnit_1 a_M_0 rfl (by decide) f_Mo_187 rfl ?_
  refine go_iconst (v := 2) d_Mo_readUnit_4 (by decide) ?_
  refine go_cmp_ne (tgt := 23) d_Mo_readUnit_5 (by decide) (fun hc => ?_) (fun hc => ?_)
  · rw [if_neg hc] at h
    exact go_lv [0] rfl (j_Mo_readUnit_23 l d0 I h)
  · rw [if_pos hc] at h
    refine go_aload_n (k := 0) d_Mo_readUnit_8 rfl rfl ?_
    refine go_aload_n (k := 0) d_Mo_readUnit_9 rfl rfl ?_
    refine go_geti (ci := 10) (k := 17) d_Mo_readUnit_10 a_M_0 rfl (by decide) f_Mo_190 rfl ?_
    refine go_callV (y := yMo_canAsk) (asr := [.inl (I 0 17)]) (v := some (.inl (F_Mo_canAsk (I 0 17) I))) (I' := I) (st1 := [.inl (F_Mo_canAsk (I 0 17) I)]) d_Mo_readUnit_13 s_yMo_canAsk m_Mo_215 a_M_0 rfl rfl rfl (Nat.le_of_ble_eq_true rfl) rfl rfl (c_Mo_canAsk l (d0 + 1) (I 0 17) I) ?_
    refine go_if_eq (tgt := 23) d_Mo_readUnit_16 (by decide) (fun hc => ?_) (fun hc => ?_)
    · rw [if_pos hc] at h
      exact go_lv [0] rfl (j_Mo_readUnit_23 l d0 I h)
    · rw [if_neg hc] at h
      refine go_iconst (v := 1) d_Mo_readUnit_19 (by decide) ?_
      refine go_goto (tgt := 24) d_Mo_readUnit_20 (by decide) ?_
      exact go_lv [0] rfl (j_Mo_readUnit_24 l d0 1 I h)
theorem d_Mo_stowed_0 : decode yMo_stowed.2.1 0 = .ok (.aload_n 0, 1) := by decide +kernel
theorem d_Mo_stowed_1 : decode yMo_stowed.2.1 1 = .ok (.iconst 0, 1) := by decide +kernel
theorem d_Mo_stowed_2 : decode yMo_stowed.2.1 2 = .ok (.putfield 137, 3) := by decide +kernel
theorem d_Mo_stowed_5 : decode yMo_stowed.2.1 5 = .ok (.aload_n 0, 1) := by decide +kernel
theorem d_Mo_stowed_6 : decode yMo_stowed.2.1 6 = .ok (.iload_n 1, 1) := by decide +kernel
theorem d_Mo_stowed_7 : decode yMo_stowed.2.1 7 = .ok (.iconst 0, 1) := by decide +kernel
theorem d_Mo_stowed_8 : decode yMo_stowed.2.1 8 = .ok (.bipush 99, 2) := by decide +kernel
theorem d_Mo_stowed_10 : decode yMo_stowed.2.1 10 = .ok (.invokevirtual 157, 3) := by decide +kernel
theorem d_Mo_stowed_13 : decode yMo_stowed.2.1 13 = .ok (.ifCond .eq 24, 3) := by decide +kernel
theorem d_Mo_stowed_16 : decode yMo_stowed.2.1 16 = .ok (.aload_n 0, 1) := by decide +kernel
theorem d_Mo_stowed_17 : decode yMo_stowed.2.1 17 = .ok (.iload_n 2, 1) := by decide +kernel
theorem d_Mo_stowed_18 : decode yMo_stowed.2.1 18 = .ok (.iconst 0, 1) := by decide +kernel
theorem d_Mo_stowed_19 : decode yMo_stowed.2.1 19 = .ok (.bipush 99, 2) := by decide +kernel
theorem d_Mo_stowed_21 : decode yMo_stowed.2.1 21 = .ok (.invokevirtual 157, 3) := by decide +kernel
theorem d_Mo_stowed_24 : decode yMo_stowed.2.1 24 = .ok (.ifCond .eq 13, 3) := by decide +kernel
theorem d_Mo_stowed_27 : decode yMo_stowed.2.1 27 = .ok (.aload_n 0, 1) := by decide +kernel
theorem d_Mo_stowed_28 : decode yMo_stowed.2.1 28 = .ok (.iload_n 3, 1) := by decide +kernel
theorem d_Mo_stowed_29 : decode yMo_stowed.2.1 29 = .ok (.iconst 0, 1) := by decide +kernel
theorem d_Mo_stowed_30 : decode yMo_stowed.2.1 30 = .ok (.iconst 1, 1) := by decide +kernel
theorem d_Mo_stowed_31 : decode yMo_stowed.2.1 31 = .ok (.invokevirtual 157, 3) := by decide +kernel
theorem d_Mo_stowed_34 : decode yMo_stowed.2.1 34 = .ok (.ifCond .ne 5, 3) := by decide +kernel
theorem d_Mo_stowed_37 : decode yMo_stowed.2.1 37 = .ok (.iconst (-1), 1) := by decide +kernel
theorem d_Mo_stowed_38 : decode yMo_stowed.2.1 38 = .ok (.ireturn, 1) := by decide +kernel
theorem d_Mo_stowed_39 : decode yMo_stowed.2.1 39 = .ok (.iconst 0, 1) := by decide +kernel
theorem d_Mo_stowed_40 : decode yMo_stowed.2.1 40 = .ok (.istore 4, 2) := by decide +kernel
theorem d_Mo_stowed_42 : decode yMo_stowed.2.1 42 = .ok (.iconst 1, 1) := by decide +kernel
theorem d_Mo_stowed_43 : decode yMo_stowed.2.1 43 = .ok (.istore 5, 2) := by decide +kernel
theorem d_Mo_stowed_45 : decode yMo_stowed.2.1 45 = .ok (.iload 5, 2) := by decide +kernel
theorem d_Mo_stowed_47 : decode yMo_stowed.2.1 47 = .ok (.iconst 1, 1) := by decide +kernel
theorem d_Mo_stowed_48 : decode yMo_stowed.2.1 48 = .ok (.aload_n 0, 1) := by decide +kernel
theorem d_Mo_stowed_49 : decode yMo_stowed.2.1 49 = .ok (.getfield 477, 3) := by decide +kernel
theorem d_Mo_stowed_52 : decode yMo_stowed.2.1 52 = .ok (.ishl, 1) := by decide +kernel
theorem d_Mo_stowed_53 : decode yMo_stowed.2.1 53 = .ok (.if_icmp .ge 42, 3) := by decide +kernel
theorem d_Mo_stowed_56 : decode yMo_stowed.2.1 56 = .ok (.aload_n 0, 1) := by decide +kernel
theorem d_Mo_stowed_57 : decode yMo_stowed.2.1 57 = .ok (.iload 5, 2) := by decide +kernel
theorem d_Mo_stowed_59 : decode yMo_stowed.2.1 59 = .ok (.iconst 0, 1) := by decide +kernel
theorem d_Mo_stowed_60 : decode yMo_stowed.2.1 60 = .ok (.invokevirtual 480, 3) := by decide +kernel
theorem d_Mo_stowed_63 : decode yMo_stowed.2.1 63 = .ok (.aload_n 0, 1) := by decide +kernel
theorem d_Mo_stowed_64 : decode yMo_stowed.2.1 64 = .ok (.iload 4, 2) := by decide +kernel
theorem d_Mo_stowed_66 : decode yMo_stowed.2.1 66 = .ok (.iconst 0, 1) := by decide +kernel
theorem d_Mo_stowed_67 : decode yMo_stowed.2.1 67 = .ok (.invokevirtual 480, 3) := by decide +kernel
theorem d_Mo_stowed_70 : decode yMo_stowed.2.1 70 = .ok (.if_icmp .le 19, 3) := by decide +kernel
theorem d_Mo_stowed_73 : decode yMo_stowed.2.1 73 = .ok (.aload_n 0, 1) := by decide +kernel
theorem d_Mo_stowed_74 : decode yMo_stowed.2.1 74 = .ok (.iload 5, 2) := by decide +kernel
theorem d_Mo_stowed_76 : decode yMo_stowed.2.1 76 = .ok (.iload_n 1, 1) := by decide +kernel
theorem d_Mo_stowed_77 : decode yMo_stowed.2.1 77 = .ok (.iload_n 2, 1) := by decide +kernel
theorem d_Mo_stowed_78 : decode yMo_stowed.2.1 78 = .ok (.invokevirtual 484, 3) := by decide +kernel
theorem d_Mo_stowed_81 : decode yMo_stowed.2.1 81 = .ok (.iconst (-1), 1) := by decide +kernel
theorem d_Mo_stowed_82 : decode yMo_stowed.2.1 82 = .ok (.if_icmp .eq 7, 3) := by decide +kernel
theorem d_Mo_stowed_85 : decode yMo_stowed.2.1 85 = .ok (.iload 5, 2) := by decide +kernel
theorem d_Mo_stowed_87 : decode yMo_stowed.2.1 87 = .ok (.istore 4, 2) := by decide +kernel
theorem d_Mo_stowed_89 : decode yMo_stowed.2.1 89 = .ok (.iinc 5 1, 3) := by decide +kernel
theorem d_Mo_stowed_92 : decode yMo_stowed.2.1 92 = .ok (.goto (-47), 3) := by decide +kernel
theorem d_Mo_stowed_95 : decode yMo_stowed.2.1 95 = .ok (.iload_n 3, 1) := by decide +kernel
theorem d_Mo_stowed_96 : decode yMo_stowed.2.1 96 = .ok (.ifCond .ne 13, 3) := by decide +kernel
theorem d_Mo_stowed_99 : decode yMo_stowed.2.1 99 = .ok (.aload_n 0, 1) := by decide +kernel
theorem d_Mo_stowed_100 : decode yMo_stowed.2.1 100 = .ok (.iload 4, 2) := by decide +kernel
theorem d_Mo_stowed_102 : decode yMo_stowed.2.1 102 = .ok (.iconst 0, 1) := by decide +kernel
theorem d_Mo_stowed_103 : decode yMo_stowed.2.1 103 = .ok (.invokevirtual 480, 3) := by decide +kernel
theorem d_Mo_stowed_106 : decode yMo_stowed.2.1 106 = .ok (.goto 11, 3) := by decide +kernel
theorem d_Mo_stowed_109 : decode yMo_stowed.2.1 109 = .ok (.aload_n 0, 1) := by decide +kernel
theorem d_Mo_stowed_110 : decode yMo_stowed.2.1 110 = .ok (.iload 4, 2) := by decide +kernel
theorem d_Mo_stowed_112 : decode yMo_stowed.2.1 112 = .ok (.iload_n 1, 1) := by decide +kernel
theorem d_Mo_stowed_113 : decode yMo_stowed.2.1 113 = .ok (.iload_n 2, 1) := by decide +kernel
theorem d_Mo_stowed_114 : decode yMo_stowed.2.1 114 = .ok (.invokevirtual 484, 3) := by decide +kernel
theorem d_Mo_stowed_117 : decode yMo_stowed.2.1 117 = .ok (.ireturn, 1) := by decide +kernel
def J_Mo_stowed_89 (k : Int32 → Int32 → Option (Int32)) (x1 x2 x3 x4 x5 : Int32) (I : gb_Mem) : Option (Int32) :=
  k x4 (x5 + 1)
set_option maxRecDepth 4000 in
theorem j_Mo_stowed_89 (l : Launch) (d0 : Nat) {post : Option gb_AV → List gb_Ce → gb_Mem → Prop} (k : Int32 → Int32 → Option (Int32)) (x1 x2 x3 x4 x5 : Int32) (I : gb_Mem) {ρ : Int32} (h : J_Mo_stowed_89 k x1 x2 x3 x4 x5 I = some ρ) (hk : ∀ (z4 z5 : Int32), k z4 z5 = some ρ → gb_Go l yMo_stowed (d0 + 3) 0 0 45 [(0, .inr (some 0)), (1, .inl x1), (2, .inl x2), (3, .inl x3), (4, .inl z4), (5, .inl z5)] [] shM I post) (hX : ∀ (o4 : Int32), ρ = o4 → gb_Go l yMo_stowed (d0 + 3) 0 0 95 [(0, .inr (some 0)), (1, .inl x1), (2, .inl x2), (3, .inl x3), (4, .inl o4)] [] shM I post) : gb_Go l yMo_stowed (d0 + 3) 0 0 89 [(0, .inr (some 0)), (1, .inl x1), (2, .inl x2), (3, .inl x3), (4, .inl x4), (5, .inl x5)] [] shM I post := by
  unfold J_Mo_stowed_89 at h
  refine go_iinc (k := 5) (v := x5 + 1) (lv' := [(5, .inl (x5 + 1)), (0, .inr (some 0)), (1, .inl x1), (2, .inl x2), (3, .inl x3), (4, .inl x4)]) d_Mo_stowed_89 rfl rfl (by decide) rfl ?_
  refine go_goto (tgt := 45) d_Mo_stowed_92 (by decide) ?_
  exact go_lv [1, 2, 3, 4, 5, 0] rfl (hk _ _ h)
def L_Mo_stowed_45 (x1 x2 x3 : Int32) (I : gb_Mem) : Nat → Int32 → Int32 → Option (Int32)
  | 0, _, _ => none
  | n + 1, x4, x5 =>
    if (1 <<< ((I 0 64) &&& 31)) ≤ x5 then
      some x4
    else
      fbd (F_Mo_jarsOf x5 0 I) fun r2 =>
      fbd (F_Mo_jarsOf x4 0 I) fun r3 =>
      if r2 ≤ r3 then
        J_Mo_stowed_89 (L_Mo_stowed_45 x1 x2 x3 I n) x1 x2 x3 x4 x5 I
      else
        fbd (F_Mo_firstHold x5 x1 x2 I) fun r4 =>
        if r4 = (-1) then
          J_Mo_stowed_89 (L_Mo_stowed_45 x1 x2 x3 I n) x1 x2 x3 x4 x5 I
        else
          J_Mo_stowed_89 (L_Mo_stowed_45 x1 x2 x3 I n) x1 x2 x3 x5 x5 I
set_option maxRecDepth 4000 in
theorem l_Mo_stowed_45 (l : Launch) (d0 : Nat) (x1 x2 x3 : Int32) (I : gb_Mem) {post : Option gb_AV → List gb_Ce → gb_Mem → Prop} : ∀ (n : Nat) (x4 x5 : Int32) {ρ : Int32} (h : L_Mo_stowed_45 x1 x2 x3 I n x4 x5 = some ρ) (hX : ∀ (o4 : Int32), ρ = o4 → gb_Go l yMo_stowed (d0 + 3) 0 0 95 [(0, .inr (some 0)), (1, .inl x1), (2, .inl x2), (3, .inl x3), (4, .inl o4)] [] shM I post) , gb_Go l yMo_stowed (d0 + 3) 0 0 45 [(0, .inr (some 0)), (1, .inl x1), (2, .inl x2), (3, .inl x3), (4, .inl x4), (5, .inl x5)] [] shM I post := by
  intro n
  induction n with
  | zero => intro x4 x5 ρ h hX; cases h
  | succ n ih =>
    intro x4 x5 ρ h hX
    rw [L_Mo_stowed_45] at h
    refine go_iload (k := 5) d_Mo_stowed_45 rfl ?_
    refine go_iconst (v := 1) d_Mo_stowed_47 (by decide) ?_
    refine go_aload_n (k := 0) d_Mo_stowed_48 rfl rfl ?_
    refine go_geti (ci := 10) (k := 64) d_Mo_stowed_49 a_M_0 rfl (by decide) f_Mo_477 rfl ?_
    refine go_ishl d_Mo_stowed_52 ?_
    refine go_cmp_ge (tgt := 95) d_Mo_stowed_53 (by decide) (fun hc => ?_) (fun hc => ?_)
    · rw [if_pos hc] at h
      exact go_lv [0, 1, 2, 3, 4] rfl (hX _ (Option.some.inj h).symm)
    · rw [if_neg hc] at h
      refine go_aload_n (k := 0) d_Mo_stowed_56 rfl rfl ?_
      refine go_iload (k := 5) d_Mo_stowed_57 rfl ?_
      refine go_iconst (v := 0) d_Mo_stowed_59 (by decide) ?_
      obtain ⟨r2, w1, h⟩ := fbd_e h
      refine go_callV (y := yMo_jarsOf) (asr := [.inl x5, .inl 0]) (v := some (.inl r2)) (I' := I) (st1 := [.inl r2]) d_Mo_stowed_60 s_yMo_jarsOf m_Mo_480 a_M_0 rfl rfl rfl (Nat.le_of_ble_eq_true rfl) rfl rfl (c_Mo_jarsOf l (d0 + 1) x5 0 I w1) ?_
      refine go_aload_n (k := 0) d_Mo_stowed_63 rfl rfl ?_
      refine go_iload (k := 4) d_Mo_stowed_64 rfl ?_
      refine go_iconst (v := 0) d_Mo_stowed_66 (by decide) ?_
      obtain ⟨r3, w1, h⟩ := fbd_e h
      refine go_callV (y := yMo_jarsOf) (asr := [.inl x4, .inl 0]) (v := some (.inl r3)) (I' := I) (st1 := [.inl r3, .inl r2]) d_Mo_stowed_67 s_yMo_jarsOf m_Mo_480 a_M_0 rfl rfl rfl (Nat.le_of_ble_eq_true rfl) rfl rfl (c_Mo_jarsOf l (d0 + 1) x4 0 I w1) ?_
      refine go_cmp_le (tgt := 89) d_Mo_stowed_70 (by decide) (fun hc => ?_) (fun hc => ?_)
      · rw [if_pos hc] at h
        exact go_lv [0, 1, 2, 3, 4, 5] rfl (j_Mo_stowed_89 l d0 (L_Mo_stowed_45 x1 x2 x3 I n) x1 x2 x3 x4 x5 I h (fun z4 z5 hh => ih z4 z5 hh hX) hX)
      · rw [if_neg hc] at h
        refine go_aload_n (k := 0) d_Mo_stowed_73 rfl rfl ?_
        refine go_iload (k := 5) d_Mo_stowed_74 rfl ?_
        refine go_iload_n (k := 1) d_Mo_stowed_76 rfl rfl ?_
        refine go_iload_n (k := 2) d_Mo_stowed_77 rfl rfl ?_
        obtain ⟨r4, w1, h⟩ := fbd_e h
        refine go_callV (y := yMo_firstHold) (asr := [.inl x5, .inl x1, .inl x2]) (v := some (.inl r4)) (I' := I) (st1 := [.inl r4]) d_Mo_stowed_78 s_yMo_firstHold m_Mo_484 a_M_0 rfl rfl rfl (Nat.le_of_ble_eq_true rfl) rfl rfl (c_Mo_firstHold l (d0 + 0) x5 x1 x2 I w1) ?_
        refine go_iconst (v := (-1)) d_Mo_stowed_81 (by decide) ?_
        refine go_cmp_eq (tgt := 89) d_Mo_stowed_82 (by decide) (fun hc => ?_) (fun hc => ?_)
        · rw [if_pos hc] at h
          exact go_lv [0, 1, 2, 3, 4, 5] rfl (j_Mo_stowed_89 l d0 (L_Mo_stowed_45 x1 x2 x3 I n) x1 x2 x3 x4 x5 I h (fun z4 z5 hh => ih z4 z5 hh hX) hX)
        · rw [if_neg hc] at h
          refine go_iload (k := 5) d_Mo_stowed_85 rfl ?_
          refine go_istore (lv' := [(4, .inl x5), (0, .inr (some 0)), (1, .inl x1), (2, .inl x2), (3, .inl x3), (5, .inl x5)]) d_Mo_stowed_87 (by decide) rfl ?_
          exact go_lv [1, 2, 3, 4, 0, 5] rfl (j_Mo_stowed_89 l d0 (L_Mo_stowed_45 x1 x2 x3 I n) x1 x2 x3 x5 x5 I h (fun z4 z5 hh => ih z4 z5 hh hX) hX)
def F_Mo_stowed (x1 x2 x3 : Int32) (I : gb_Mem) : Option (Int32 × gb_Mem) :=
  fstf I 0 0 0 fun I1 =>
  if (F_Mo_isIn x1 0 99 I1) = 0 then
    some ((-1), I1)
  else
    if (F_Mo_isIn x2 0 99 I1) = 0 then
      some ((-1), I1)
    else
      if (F_Mo_isIn x3 0 1 I1) = 0 then
        some ((-1), I1)
      else
        fbd (L_Mo_stowed_45 x1 x2 x3 I1 5000 0 1) fun o5 =>
        if x3 = 0 then
          fbd (F_Mo_jarsOf o5 0 I1) fun r7 =>
          some (r7, I1)
        else
          fbd (F_Mo_firstHold o5 x1 x2 I1) fun r6 =>
          some (r6, I1)
set_option maxRecDepth 4000 in
theorem c_Mo_stowed (l : Launch) (d0 : Nat) (x1 x2 x3 : Int32) (I : gb_Mem) {rz : Int32} {Iz : gb_Mem} (h : F_Mo_stowed x1 x2 x3 I = some (rz, Iz)) : gb_Cs l yMo_stowed (d0 + 3) [.inr (some 0), .inl x1, .inl x2, .inl x3] shM I (some (.inl rz)) Iz := by
  refine gb_Ct.of (lv := [(0, .inr (some 0)), (1, .inl x1), (2, .inl x2), (3, .inl x3)]) rfl (Nat.le_of_ble_eq_true rfl) rfl ?_
  unfold F_Mo_stowed at h
  show gb_Go l yMo_stowed (d0 + 3) 0 0 0 [(0, .inr (some 0)), (1, .inl x1), (2, .inl x2), (3, .inl x3)] [] shM I (gb_po shM (some (.inl rz)) Iz)
  refine go_aload_n (k := 0) d_Mo_stowed_0 rfl rfl ?_
  refine go_iconst (v := 0) d_Mo_stowed_1 (by decide) ?_
  obtain ⟨I1, eI1, h⟩ := fstf_e h
  refine go_putT (ci := 10) (k := 0) (I' := I1) d_Mo_stowed_2 a_M_0 rfl (by decide) f_Mo_137 rfl rfl rfl rfl rfl eI1 ?_
  refine go_aload_n (k := 0) d_Mo_stowed_5 rfl rfl ?_
  refine go_iload_n (k := 1) d_Mo_stowed_6 rfl rfl ?_
  refine go_iconst (v := 0) d_Mo_stowed_7 (by decide) ?_
  refine go_bipush (v := 99) d_Mo_stowed_8 (by decide) ?_
  refine go_callV (y := yMo_isIn) (asr := [.inl x1, .inl 0, .inl 99]) (v := some (.inl (F_Mo_isIn x1 0 99 I1))) (I' := I1) (st1 := [.inl (F_Mo_isIn x1 0 99 I1)]) d_Mo_stowed_10 s_yMo_isIn m_Mo_157 a_M_0 rfl rfl rfl (Nat.le_of_ble_eq_true rfl) rfl rfl (c_Mo_isIn l (d0 + 2) x1 0 99 I1) ?_
  refine go_if_eq (tgt := 37) d_Mo_stowed_13 (by decide) (fun hc => ?_) (fun hc => ?_)
  · rw [if_pos hc] at h
    refine go_iconst (v := (-1)) d_Mo_stowed_37 (by decide) ?_
    cases h
    exact go_ireturn d_Mo_stowed_38 rfl gb_po_i
  · rw [if_neg hc] at h
    refine go_aload_n (k := 0) d_Mo_stowed_16 rfl rfl ?_
    refine go_iload_n (k := 2) d_Mo_stowed_17 rfl rfl ?_
    refine go_iconst (v := 0) d_Mo_stowed_18 (by decide) ?_
    refine go_bipush (v := 99) d_Mo_stowed_19 (by decide) ?_
    refine go_callV (y := yMo_isIn) (asr := [.inl x2, .inl 0, .inl 99]) (v := some (.inl (F_Mo_isIn x2 0 99 I1))) (I' := I1) (st1 := [.inl (F_Mo_isIn x2 0 99 I1)]) d_Mo_stowed_21 s_yMo_isIn m_Mo_157 a_M_0 rfl rfl rfl (Nat.le_of_ble_eq_true rfl) rfl rfl (c_Mo_isIn l (d0 + 2) x2 0 99 I1) ?_
    refine go_if_eq (tgt := 37) d_Mo_stowed_24 (by decide) (fun hc => ?_) (fun hc => ?_)
    · rw [if_pos hc] at h
      refine go_iconst (v := (-1)) d_Mo_stowed_37 (by decide) ?_
      cases h
      exact go_ireturn d_Mo_stowed_38 rfl gb_po_i
    · rw [if_neg hc] at h
      refine go_aload_n (k := 0) d_Mo_stowed_27 rfl rfl ?_
      refine go_iload_n (k := 3) d_Mo_stowed_28 rfl rfl ?_
      refine go_iconst (v := 0) d_Mo_stowed_29 (by decide) ?_
      refine go_iconst (v := 1) d_Mo_stowed_30 (by decide) ?_
      refine go_callV (y := yMo_isIn) (asr := [.inl x3, .inl 0, .inl 1]) (v := some (.inl (F_Mo_isIn x3 0 1 I1))) (I' := I1) (st1 := [.inl (F_Mo_isIn x3 0 1 I1)]) d_Mo_stowed_31 s_yMo_isIn m_Mo_157 a_M_0 rfl rfl rfl (Nat.le_of_ble_eq_true rfl) rfl rfl (c_Mo_isIn l (d0 + 2) x3 0 1 I1) ?_
      refine go_if_ne (tgt := 39) d_Mo_stowed_34 (by decide) (fun hc => ?_) (fun hc => ?_)
      · rw [if_neg hc] at h
        refine go_iconst (v := 0) d_Mo_stowed_39 (by decide) ?_
        refine go_istore (lv' := [(4, .inl 0), (0, .inr (some 0)), (1, .inl x1), (2, .inl x2), (3, .inl x3)]) d_Mo_stowed_40 (by decide) rfl ?_
        refine go_iconst (v := 1) d_Mo_stowed_42 (by decide) ?_
        refine go_istore (lv' := [(5, .inl 1), (4, .inl 0), (0, .inr (some 0)), (1, .inl x1), (2, .inl x2), (3, .inl x3)]) d_Mo_stowed_43 (by decide) rfl ?_
        refine go_lv [2, 3, 4, 5, 1, 0] (lv' := [(0, .inr (some 0)), (1, .inl x1), (2, .inl x2), (3, .inl x3), (4, .inl 0), (5, .inl 1)]) rfl ?_
        obtain ⟨o5, w1, h⟩ := fbd_e h
        refine l_Mo_stowed_45 l d0 x1 x2 x3 I1 5000 0 1 w1 (fun o5_ e => ?_)
        cases e
        refine go_iload_n (k := 3) d_Mo_stowed_95 rfl rfl ?_
        refine go_if_ne (tgt := 109) d_Mo_stowed_96 (by decide) (fun hc => ?_) (fun hc => ?_)
        · rw [if_neg hc] at h
          refine go_aload_n (k := 0) d_Mo_stowed_109 rfl rfl ?_
          refine go_iload (k := 4) d_Mo_stowed_110 rfl ?_
          refine go_iload_n (k := 1) d_Mo_stowed_112 rfl rfl ?_
          refine go_iload_n (k := 2) d_Mo_stowed_113 rfl rfl ?_
          obtain ⟨r6, w1, h⟩ := fbd_e h
          refine go_callV (y := yMo_firstHold) (asr := [.inl o5, .inl x1, .inl x2]) (v := some (.inl r6)) (I' := I1) (st1 := [.inl r6]) d_Mo_stowed_114 s_yMo_firstHold m_Mo_484 a_M_0 rfl rfl rfl (Nat.le_of_ble_eq_true rfl) rfl rfl (c_Mo_firstHold l (d0 + 0) o5 x1 x2 I1 w1) ?_
          cases h
          exact go_ireturn d_Mo_stowed_117 rfl gb_po_i
        · rw [if_pos hc] at h
          refine go_aload_n (k := 0) d_Mo_stowed_99 rfl rfl ?_
          refine go_iload (k := 4) d_Mo_stowed_100 rfl ?_
          refine go_iconst (v := 0) d_Mo_stowed_102 (by decide) ?_
          obtain ⟨r7, w1, h⟩ := fbd_e h
          refine go_callV (y := yMo_jarsOf) (asr := [.inl o5, .inl 0]) (v := some (.inl r7)) (I' := I1) (st1 := [.inl r7]) d_Mo_stowed_103 s_yMo_jarsOf m_Mo_480 a_M_0 rfl rfl rfl (Nat.le_of_ble_eq_true rfl) rfl rfl (c_Mo_jarsOf l (d0 + 1) o5 0 I1 w1) ?_
          refine go_goto (tgt := 117) d_Mo_stowed_106 (by decide) ?_
          cases h
          exact go_ireturn d_Mo_stowed_117 rfl gb_po_i
      · rw [if_pos hc] at h
        refine go_iconst (v := (-1)) d_Mo_stowed_37 (by decide) ?_
        cases h
        exact go_ireturn d_Mo_stowed_38 rfl gb_po_i
theorem d_Mo_way_0 : decode yMo_way.2.1 0 = .ok (.aload_n 0, 1) := by decide +kernel
theorem d_Mo_way_1 : decode yMo_way.2.1 1 = .ok (.iconst 0, 1) := by decide +kernel
theorem d_Mo_way_2 : decode yMo_way.2.1 2 = .ok (.putfield 137, 3) := by decide +kernel
theorem d_Mo_way_5 : decode yMo_way.2.1 5 = .ok (.aload_n 0, 1) := by decide +kernel
theorem d_Mo_way_6 : decode yMo_way.2.1 6 = .ok (.iload_n 1, 1) := by decide +kernel
theorem d_Mo_way_7 : decode yMo_way.2.1 7 = .ok (.iconst 0, 1) := by decide +kernel
theorem d_Mo_way_8 : decode yMo_way.2.1 8 = .ok (.iconst 1, 1) := by decide +kernel
theorem d_Mo_way_9 : decode yMo_way.2.1 9 = .ok (.invokevirtual 157, 3) := by decide +kernel
theorem d_Mo_way_12 : decode yMo_way.2.1 12 = .ok (.ifCond .ne 5, 3) := by decide +kernel
theorem d_Mo_way_15 : decode yMo_way.2.1 15 = .ok (.iconst (-1), 1) := by decide +kernel
theorem d_Mo_way_16 : decode yMo_way.2.1 16 = .ok (.ireturn, 1) := by decide +kernel
theorem d_Mo_way_17 : decode yMo_way.2.1 17 = .ok (.aload_n 0, 1) := by decide +kernel
theorem d_Mo_way_18 : decode yMo_way.2.1 18 = .ok (.sipush 255, 3) := by decide +kernel
theorem d_Mo_way_21 : decode yMo_way.2.1 21 = .ok (.invokevirtual 459, 3) := by decide +kernel
theorem d_Mo_way_24 : decode yMo_way.2.1 24 = .ok (.istore_n 2, 1) := by decide +kernel
theorem d_Mo_way_25 : decode yMo_way.2.1 25 = .ok (.iconst 0, 1) := by decide +kernel
theorem d_Mo_way_26 : decode yMo_way.2.1 26 = .ok (.istore_n 3, 1) := by decide +kernel
theorem d_Mo_way_27 : decode yMo_way.2.1 27 = .ok (.iconst 0, 1) := by decide +kernel
theorem d_Mo_way_28 : decode yMo_way.2.1 28 = .ok (.istore 4, 2) := by decide +kernel
theorem d_Mo_way_30 : decode yMo_way.2.1 30 = .ok (.iload 4, 2) := by decide +kernel
theorem d_Mo_way_32 : decode yMo_way.2.1 32 = .ok (.bipush 8, 2) := by decide +kernel
theorem d_Mo_way_34 : decode yMo_way.2.1 34 = .ok (.if_icmp .ge 52, 3) := by decide +kernel
theorem d_Mo_way_37 : decode yMo_way.2.1 37 = .ok (.iload_n 1, 1) := by decide +kernel
theorem d_Mo_way_38 : decode yMo_way.2.1 38 = .ok (.ifCond .ne 26, 3) := by decide +kernel
theorem d_Mo_way_41 : decode yMo_way.2.1 41 = .ok (.aload_n 0, 1) := by decide +kernel
theorem d_Mo_way_42 : decode yMo_way.2.1 42 = .ok (.getfield 113, 3) := by decide +kernel
theorem d_Mo_way_45 : decode yMo_way.2.1 45 = .ok (.iload 4, 2) := by decide +kernel
theorem d_Mo_way_47 : decode yMo_way.2.1 47 = .ok (.iaload, 1) := by decide +kernel
theorem d_Mo_way_48 : decode yMo_way.2.1 48 = .ok (.ifCond .ne 32, 3) := by decide +kernel
theorem d_Mo_way_51 : decode yMo_way.2.1 51 = .ok (.aload_n 0, 1) := by decide +kernel
theorem d_Mo_way_52 : decode yMo_way.2.1 52 = .ok (.iload_n 2, 1) := by decide +kernel
theorem d_Mo_way_53 : decode yMo_way.2.1 53 = .ok (.iload 4, 2) := by decide +kernel
theorem d_Mo_way_55 : decode yMo_way.2.1 55 = .ok (.invokevirtual 391, 3) := by decide +kernel
theorem d_Mo_way_58 : decode yMo_way.2.1 58 = .ok (.ifCond .eq 22, 3) := by decide +kernel
theorem d_Mo_way_61 : decode yMo_way.2.1 61 = .ok (.goto 12, 3) := by decide +kernel
theorem d_Mo_way_64 : decode yMo_way.2.1 64 = .ok (.aload_n 0, 1) := by decide +kernel
theorem d_Mo_way_65 : decode yMo_way.2.1 65 = .ok (.iload 4, 2) := by decide +kernel
theorem d_Mo_way_67 : decode yMo_way.2.1 67 = .ok (.invokevirtual 462, 3) := by decide +kernel
theorem d_Mo_way_70 : decode yMo_way.2.1 70 = .ok (.ifCond .eq 10, 3) := by decide +kernel
theorem d_Mo_way_73 : decode yMo_way.2.1 73 = .ok (.iload_n 3, 1) := by decide +kernel
theorem d_Mo_way_74 : decode yMo_way.2.1 74 = .ok (.iconst 1, 1) := by decide +kernel
theorem d_Mo_way_75 : decode yMo_way.2.1 75 = .ok (.iload 4, 2) := by decide +kernel
theorem d_Mo_way_77 : decode yMo_way.2.1 77 = .ok (.ishl, 1) := by decide +kernel
theorem d_Mo_way_78 : decode yMo_way.2.1 78 = .ok (.ior, 1) := by decide +kernel
theorem d_Mo_way_79 : decode yMo_way.2.1 79 = .ok (.istore_n 3, 1) := by decide +kernel
theorem d_Mo_way_80 : decode yMo_way.2.1 80 = .ok (.iinc 4 1, 3) := by decide +kernel
theorem d_Mo_way_83 : decode yMo_way.2.1 83 = .ok (.goto (-53), 3) := by decide +kernel
theorem d_Mo_way_86 : decode yMo_way.2.1 86 = .ok (.iload_n 3, 1) := by decide +kernel
theorem d_Mo_way_87 : decode yMo_way.2.1 87 = .ok (.ireturn, 1) := by decide +kernel
def J_Mo_way_80 (k : Int32 → Int32 → Option (Int32)) (x1 x2 x3 x4 : Int32) (I : gb_Mem) : Option (Int32) :=
  k x3 (x4 + 1)
set_option maxRecDepth 4000 in
theorem j_Mo_way_80 (l : Launch) (d0 : Nat) {post : Option gb_AV → List gb_Ce → gb_Mem → Prop} (k : Int32 → Int32 → Option (Int32)) (x1 x2 x3 x4 : Int32) (I : gb_Mem) {ρ : Int32} (h : J_Mo_way_80 k x1 x2 x3 x4 I = some ρ) (hk : ∀ (z3 z4 : Int32), k z3 z4 = some ρ → gb_Go l yMo_way (d0 + 3) 0 0 30 [(0, .inr (some 0)), (1, .inl x1), (2, .inl x2), (3, .inl z3), (4, .inl z4)] [] shM I post) (hX : ∀ (o3 : Int32), ρ = o3 → gb_Go l yMo_way (d0 + 3) 0 0 86 [(3, .inl o3)] [] shM I post) : gb_Go l yMo_way (d0 + 3) 0 0 80 [(0, .inr (some 0)), (1, .inl x1), (2, .inl x2), (3, .inl x3), (4, .inl x4)] [] shM I post := by
  unfold J_Mo_way_80 at h
  refine go_iinc (k := 4) (v := x4 + 1) (lv' := [(4, .inl (x4 + 1)), (0, .inr (some 0)), (1, .inl x1), (2, .inl x2), (3, .inl x3)]) d_Mo_way_80 rfl rfl (by decide) rfl ?_
  refine go_goto (tgt := 30) d_Mo_way_83 (by decide) ?_
  exact go_lv [1, 2, 3, 4, 0] rfl (hk _ _ h)
def J_Mo_way_73 (k : Int32 → Int32 → Option (Int32)) (x1 x2 x3 x4 : Int32) (I : gb_Mem) : Option (Int32) :=
  flt (x3 ||| (1 <<< (x4 &&& 31))) fun y4 =>
  J_Mo_way_80 k x1 x2 y4 x4 I
set_option maxRecDepth 4000 in
theorem j_Mo_way_73 (l : Launch) (d0 : Nat) {post : Option gb_AV → List gb_Ce → gb_Mem → Prop} (k : Int32 → Int32 → Option (Int32)) (x1 x2 x3 x4 : Int32) (I : gb_Mem) {ρ : Int32} (h : J_Mo_way_73 k x1 x2 x3 x4 I = some ρ) (hk : ∀ (z3 z4 : Int32), k z3 z4 = some ρ → gb_Go l yMo_way (d0 + 3) 0 0 30 [(0, .inr (some 0)), (1, .inl x1), (2, .inl x2), (3, .inl z3), (4, .inl z4)] [] shM I post) (hX : ∀ (o3 : Int32), ρ = o3 → gb_Go l yMo_way (d0 + 3) 0 0 86 [(3, .inl o3)] [] shM I post) : gb_Go l yMo_way (d0 + 3) 0 0 73 [(0, .inr (some 0)), (1, .inl x1), (2, .inl x2), (3, .inl x3), (4, .inl x4)] [] shM I post := by
  unfold J_Mo_way_73 at h
  refine go_iload_n (k := 3) d_Mo_way_73 rfl rfl ?_
  refine go_iconst (v := 1) d_Mo_way_74 (by decide) ?_
  refine go_iload (k := 4) d_Mo_way_75 rfl ?_
  refine go_ishl d_Mo_way_77 ?_
  refine go_ior d_Mo_way_78 ?_
  obtain ⟨y4, ey4, h⟩ := flt_e h
  refine go_top ey4 ?_
  refine go_istore_n (lv' := [(3, .inl y4), (0, .inr (some 0)), (1, .inl x1), (2, .inl x2), (4, .inl x4)]) d_Mo_way_79 rfl (by decide) rfl ?_
  exact go_lv [1, 2, 3, 0, 4] rfl (j_Mo_way_80 l d0 k x1 x2 y4 x4 I h hk hX)
def L_Mo_way_30 (x1 x2 : Int32) (I : gb_Mem) : Nat → Int32 → Int32 → Option (Int32)
  | 0, _, _ => none
  | n + 1, x3, x4 =>
    if 8 ≤ x4 then
      some x3
    else
      if x1 = 0 then
        flod I 34 8 x4 fun v5 =>
        if v5 = 0 then
          if (F_Mo_has x2 x4 I) = 0 then
            J_Mo_way_80 (L_Mo_way_30 x1 x2 I n) x1 x2 x3 x4 I
          else
            J_Mo_way_73 (L_Mo_way_30 x1 x2 I n) x1 x2 x3 x4 I
        else
          J_Mo_way_80 (L_Mo_way_30 x1 x2 I n) x1 x2 x3 x4 I
      else
        fbd (F_Mo_comesRound x4 I) fun r3 =>
        if r3 = 0 then
          J_Mo_way_80 (L_Mo_way_30 x1 x2 I n) x1 x2 x3 x4 I
        else
          J_Mo_way_73 (L_Mo_way_30 x1 x2 I n) x1 x2 x3 x4 I
set_option maxRecDepth 4000 in
theorem l_Mo_way_30 (l : Launch) (d0 : Nat) (x1 x2 : Int32) (I : gb_Mem) {post : Option gb_AV → List gb_Ce → gb_Mem → Prop} : ∀ (n : Nat) (x3 x4 : Int32) {ρ : Int32} (h : L_Mo_way_30 x1 x2 I n x3 x4 = some ρ) (hX : ∀ (o3 : Int32), ρ = o3 → gb_Go l yMo_way (d0 + 3) 0 0 86 [(3, .inl o3)] [] shM I post) , gb_Go l yMo_way (d0 + 3) 0 0 30 [(0, .inr (some 0)), (1, .inl x1), (2, .inl x2), (3, .inl x3), (4, .inl x4)] [] shM I post := by
  intro n
  induction n with
  | zero => intro x3 x4 ρ h hX; cases h
  | succ n ih =>
    intro x3 x4 ρ h hX
    rw [L_Mo_way_30] at h
    refine go_iload (k := 4) d_Mo_way_30 rfl ?_
    refine go_bipush (v := 8) d_Mo_way_32 (by decide) ?_
    refine go_cmp_ge (tgt := 86) d_Mo_way_34 (by decide) (fun hc => ?_) (fun hc => ?_)
    · rw [if_pos hc] at h
      exact go_lv [3] rfl (hX _ (Option.some.inj h).symm)
    · rw [if_neg hc] at h
      refine go_iload_n (k := 1) d_Mo_way_37 rfl rfl ?_
      refine go_if_ne (tgt := 64) d_Mo_way_38 (by decide) (fun hc => ?_) (fun hc => ?_)
      · rw [if_neg hc] at h
        refine go_aload_n (k := 0) d_Mo_way_64 rfl rfl ?_
        refine go_iload (k := 4) d_Mo_way_65 rfl ?_
        obtain ⟨r3, w1, h⟩ := fbd_e h
        refine go_callV (y := yMo_comesRound) (asr := [.inl x4]) (v := some (.inl r3)) (I' := I) (st1 := [.inl r3]) d_Mo_way_67 s_yMo_comesRound m_Mo_462 a_M_0 rfl rfl rfl (Nat.le_of_ble_eq_true rfl) rfl rfl (c_Mo_comesRound l (d0 + 0) x4 I w1) ?_
        refine go_if_eq (tgt := 80) d_Mo_way_70 (by decide) (fun hc => ?_) (fun hc => ?_)
        · rw [if_pos hc] at h
          exact go_lv [0, 1, 2, 3, 4] rfl (j_Mo_way_80 l d0 (L_Mo_way_30 x1 x2 I n) x1 x2 x3 x4 I h (fun z3 z4 hh => ih z3 z4 hh hX) hX)
        · rw [if_neg hc] at h
          exact go_lv [0, 1, 2, 3, 4] rfl (j_Mo_way_73 l d0 (L_Mo_way_30 x1 x2 I n) x1 x2 x3 x4 I h (fun z3 z4 hh => ih z3 z4 hh hX) hX)
      · rw [if_pos hc] at h
        refine go_aload_n (k := 0) d_Mo_way_41 rfl rfl ?_
        refine go_getr (ci := 10) (k := 57) (r := 34) d_Mo_way_42 a_M_0 rfl (by decide) f_Mo_113 rfl ?_
        refine go_iload (k := 4) d_Mo_way_45 rfl ?_
        obtain ⟨hi, v5, ev5, h⟩ := flod_e h
        refine go_iald2 d_Mo_way_47 a_M_34 hi ev5 ?_
        refine go_if_ne (tgt := 80) d_Mo_way_48 (by decide) (fun hc => ?_) (fun hc => ?_)
        · rw [if_neg hc] at h
          exact go_lv [0, 1, 2, 3, 4] rfl (j_Mo_way_80 l d0 (L_Mo_way_30 x1 x2 I n) x1 x2 x3 x4 I h (fun z3 z4 hh => ih z3 z4 hh hX) hX)
        · rw [if_pos hc] at h
          refine go_aload_n (k := 0) d_Mo_way_51 rfl rfl ?_
          refine go_iload_n (k := 2) d_Mo_way_52 rfl rfl ?_
          refine go_iload (k := 4) d_Mo_way_53 rfl ?_
          refine go_callV (y := yMo_has) (asr := [.inl x2, .inl x4]) (v := some (.inl (F_Mo_has x2 x4 I))) (I' := I) (st1 := [.inl (F_Mo_has x2 x4 I)]) d_Mo_way_55 s_yMo_has m_Mo_391 a_M_0 rfl rfl rfl (Nat.le_of_ble_eq_true rfl) rfl rfl (c_Mo_has l (d0 + 2) x2 x4 I) ?_
          refine go_if_eq (tgt := 80) d_Mo_way_58 (by decide) (fun hc => ?_) (fun hc => ?_)
          · rw [if_pos hc] at h
            exact go_lv [0, 1, 2, 3, 4] rfl (j_Mo_way_80 l d0 (L_Mo_way_30 x1 x2 I n) x1 x2 x3 x4 I h (fun z3 z4 hh => ih z3 z4 hh hX) hX)
          · rw [if_neg hc] at h
            refine go_goto (tgt := 73) d_Mo_way_61 (by decide) ?_
            exact go_lv [0, 1, 2, 3, 4] rfl (j_Mo_way_73 l d0 (L_Mo_way_30 x1 x2 I n) x1 x2 x3 x4 I h (fun z3 z4 hh => ih z3 z4 hh hX) hX)
def F_Mo_way (x1 : Int32) (I : gb_Mem) : Option (Int32 × gb_Mem) :=
  fstf I 0 0 0 fun I1 =>
  if (F_Mo_isIn x1 0 1 I1) = 0 then
    some ((-1), I1)
  else
    fbd (F_Mo_givenBy 255 I1) fun r2 =>
    fbd (L_Mo_way_30 x1 r2 I1 5000 0 0) fun o6 =>
    some (o6, I1)
set_option maxRecDepth 4000 in
theorem c_Mo_way (l : Launch) (d0 : Nat) (x1 : Int32) (I : gb_Mem) {rz : Int32} {Iz : gb_Mem} (h : F_Mo_way x1 I = some (rz, Iz)) : gb_Cs l yMo_way (d0 + 3) [.inr (some 0), .inl x1] shM I (some (.inl rz)) Iz := by
  refine gb_Ct.of (lv := [(0, .inr (some 0)), (1, .inl x1)]) rfl (Nat.le_of_ble_eq_true rfl) rfl ?_
  unfold F_Mo_way at h
  show gb_Go l yMo_way (d0 + 3) 0 0 0 [(0, .inr (some 0)), (1, .inl x1)] [] shM I (gb_po shM (some (.inl rz)) Iz)
  refine go_aload_n (k := 0) d_Mo_way_0 rfl rfl ?_
  refine go_iconst (v := 0) d_Mo_way_1 (by decide) ?_
  obtain ⟨I1, eI1, h⟩ := fstf_e h
  refine go_putT (ci := 10) (k := 0) (I' := I1) d_Mo_way_2 a_M_0 rfl (by decide) f_Mo_137 rfl rfl rfl rfl rfl eI1 ?_
  refine go_aload_n (k := 0) d_Mo_way_5 rfl rfl ?_
  refine go_iload_n (k := 1) d_Mo_way_6 rfl rfl ?_
  refine go_iconst (v := 0) d_Mo_way_7 (by decide) ?_
  refine go_iconst (v := 1) d_Mo_way_8 (by decide) ?_
  refine go_callV (y := yMo_isIn) (asr := [.inl x1, .inl 0, .inl 1]) (v := some (.inl (F_Mo_isIn x1 0 1 I1))) (I' := I1) (st1 := [.inl (F_Mo_isIn x1 0 1 I1)]) d_Mo_way_9 s_yMo_isIn m_Mo_157 a_M_0 rfl rfl rfl (Nat.le_of_ble_eq_true rfl) rfl rfl (c_Mo_isIn l (d0 + 2) x1 0 1 I1) ?_
  refine go_if_ne (tgt := 17) d_Mo_way_12 (by decide) (fun hc => ?_) (fun hc => ?_)
  · rw [if_neg hc] at h
    refine go_aload_n (k := 0) d_Mo_way_17 rfl rfl ?_
    refine go_sipush (v := 255) d_Mo_way_18 (by decide) ?_
    obtain ⟨r2, w1, h⟩ := fbd_e h
    refine go_callV (y := yMo_givenBy) (asr := [.inl 255]) (v := some (.inl r2)) (I' := I1) (st1 := [.inl r2]) d_Mo_way_21 s_yMo_givenBy m_Mo_459 a_M_0 rfl rfl rfl (Nat.le_of_ble_eq_true rfl) rfl rfl (c_Mo_givenBy l (d0 + 1) 255 I1 w1) ?_
    refine go_istore_n (lv' := [(2, .inl r2), (0, .inr (some 0)), (1, .inl x1)]) d_Mo_way_24 rfl (by decide) rfl ?_
    refine go_iconst (v := 0) d_Mo_way_25 (by decide) ?_
    refine go_istore_n (lv' := [(3, .inl 0), (2, .inl r2), (0, .inr (some 0)), (1, .inl x1)]) d_Mo_way_26 rfl (by decide) rfl ?_
    refine go_iconst (v := 0) d_Mo_way_27 (by decide) ?_
    refine go_istore (lv' := [(4, .inl 0), (3, .inl 0), (2, .inl r2), (0, .inr (some 0)), (1, .inl x1)]) d_Mo_way_28 (by decide) rfl ?_
    refine go_lv [3, 4, 2, 1, 0] (lv' := [(0, .inr (some 0)), (1, .inl x1), (2, .inl r2), (3, .inl 0), (4, .inl 0)]) rfl ?_
    obtain ⟨o6, w1, h⟩ := fbd_e h
    refine l_Mo_way_30 l d0 x1 r2 I1 5000 0 0 w1 (fun o6_ e => ?_)
    cases e
    refine go_iload_n (k := 0) d_Mo_way_86 rfl rfl ?_
    cases h
    exact go_ireturn d_Mo_way_87 rfl gb_po_i
  · rw [if_pos hc] at h
    refine go_iconst (v := (-1)) d_Mo_way_15 (by decide) ?_
    cases h
    exact go_ireturn d_Mo_way_16 rfl gb_po_i
theorem d_Mo_passesOf_0 : decode yMo_passesOf.2.1 0 = .ok (.aload_n 0, 1) := by decide +kernel
theorem d_Mo_passesOf_1 : decode yMo_passesOf.2.1 1 = .ok (.iload_n 1, 1) := by decide +kernel
theorem d_Mo_passesOf_2 : decode yMo_passesOf.2.1 2 = .ok (.invokevirtual 339, 3) := by decide +kernel
theorem d_Mo_passesOf_5 : decode yMo_passesOf.2.1 5 = .ok (.aload_n 0, 1) := by decide +kernel
theorem d_Mo_passesOf_6 : decode yMo_passesOf.2.1 6 = .ok (.iconst 0, 1) := by decide +kernel
theorem d_Mo_passesOf_7 : decode yMo_passesOf.2.1 7 = .ok (.sipush 500, 3) := by decide +kernel
theorem d_Mo_passesOf_10 : decode yMo_passesOf.2.1 10 = .ok (.bipush 40, 2) := by decide +kernel
theorem d_Mo_passesOf_12 : decode yMo_passesOf.2.1 12 = .ok (.aload_n 0, 1) := by decide +kernel
theorem d_Mo_passesOf_13 : decode yMo_passesOf.2.1 13 = .ok (.getfield 77, 3) := by decide +kernel
theorem d_Mo_passesOf_16 : decode yMo_passesOf.2.1 16 = .ok (.iconst 3, 1) := by decide +kernel
theorem d_Mo_passesOf_17 : decode yMo_passesOf.2.1 17 = .ok (.iaload, 1) := by decide +kernel
theorem d_Mo_passesOf_18 : decode yMo_passesOf.2.1 18 = .ok (.imul, 1) := by decide +kernel
theorem d_Mo_passesOf_19 : decode yMo_passesOf.2.1 19 = .ok (.iadd, 1) := by decide +kernel
theorem d_Mo_passesOf_20 : decode yMo_passesOf.2.1 20 = .ok (.bipush 50, 2) := by decide +kernel
theorem d_Mo_passesOf_22 : decode yMo_passesOf.2.1 22 = .ok (.aload_n 0, 1) := by decide +kernel
theorem d_Mo_passesOf_23 : decode yMo_passesOf.2.1 23 = .ok (.getfield 7, 3) := by decide +kernel
theorem d_Mo_passesOf_26 : decode yMo_passesOf.2.1 26 = .ok (.iconst 5, 1) := by decide +kernel
theorem d_Mo_passesOf_27 : decode yMo_passesOf.2.1 27 = .ok (.iaload, 1) := by decide +kernel
theorem d_Mo_passesOf_28 : decode yMo_passesOf.2.1 28 = .ok (.imul, 1) := by decide +kernel
theorem d_Mo_passesOf_29 : decode yMo_passesOf.2.1 29 = .ok (.isub, 1) := by decide +kernel
theorem d_Mo_passesOf_30 : decode yMo_passesOf.2.1 30 = .ok (.bipush 20, 2) := by decide +kernel
theorem d_Mo_passesOf_32 : decode yMo_passesOf.2.1 32 = .ok (.aload_n 0, 1) := by decide +kernel
theorem d_Mo_passesOf_33 : decode yMo_passesOf.2.1 33 = .ok (.getfield 7, 3) := by decide +kernel
theorem d_Mo_passesOf_36 : decode yMo_passesOf.2.1 36 = .ok (.bipush 56, 2) := by decide +kernel
theorem d_Mo_passesOf_38 : decode yMo_passesOf.2.1 38 = .ok (.iload_n 1, 1) := by decide +kernel
theorem d_Mo_passesOf_39 : decode yMo_passesOf.2.1 39 = .ok (.iadd, 1) := by decide +kernel
theorem d_Mo_passesOf_40 : decode yMo_passesOf.2.1 40 = .ok (.iaload, 1) := by decide +kernel
theorem d_Mo_passesOf_41 : decode yMo_passesOf.2.1 41 = .ok (.iconst 1, 1) := by decide +kernel
theorem d_Mo_passesOf_42 : decode yMo_passesOf.2.1 42 = .ok (.if_icmp .ne 12, 3) := by decide +kernel
theorem d_Mo_passesOf_45 : decode yMo_passesOf.2.1 45 = .ok (.aload_n 0, 1) := by decide +kernel
theorem d_Mo_passesOf_46 : decode yMo_passesOf.2.1 46 = .ok (.getfield 77, 3) := by decide +kernel
theorem d_Mo_passesOf_49 : decode yMo_passesOf.2.1 49 = .ok (.iconst 5, 1) := by decide +kernel
theorem d_Mo_passesOf_50 : decode yMo_passesOf.2.1 50 = .ok (.iaload, 1) := by decide +kernel
theorem d_Mo_passesOf_51 : decode yMo_passesOf.2.1 51 = .ok (.goto 10, 3) := by decide +kernel
theorem d_Mo_passesOf_54 : decode yMo_passesOf.2.1 54 = .ok (.aload_n 0, 1) := by decide +kernel
theorem d_Mo_passesOf_55 : decode yMo_passesOf.2.1 55 = .ok (.getfield 77, 3) := by decide +kernel
theorem d_Mo_passesOf_58 : decode yMo_passesOf.2.1 58 = .ok (.iconst 5, 1) := by decide +kernel
theorem d_Mo_passesOf_59 : decode yMo_passesOf.2.1 59 = .ok (.iaload, 1) := by decide +kernel
theorem d_Mo_passesOf_60 : decode yMo_passesOf.2.1 60 = .ok (.ineg, 1) := by decide +kernel
theorem d_Mo_passesOf_61 : decode yMo_passesOf.2.1 61 = .ok (.imul, 1) := by decide +kernel
theorem d_Mo_passesOf_62 : decode yMo_passesOf.2.1 62 = .ok (.iadd, 1) := by decide +kernel
theorem d_Mo_passesOf_63 : decode yMo_passesOf.2.1 63 = .ok (.sipush 1000, 3) := by decide +kernel
theorem d_Mo_passesOf_66 : decode yMo_passesOf.2.1 66 = .ok (.invokevirtual 342, 3) := by decide +kernel
theorem d_Mo_passesOf_69 : decode yMo_passesOf.2.1 69 = .ok (.ireturn, 1) := by decide +kernel
def J_Mo_passesOf_61 (s0 s1 s2 s3 : Int32) (I : gb_Mem) : Option (Int32 × gb_Mem) :=
  fbd (F_Mo_lawTells s3 (s2 + (s1 * s0)) 1000 I) fun (r4, I3) =>
  some (r4, I3)
set_option maxRecDepth 4000 in
theorem j_Mo_passesOf_61 (l : Launch) (d0 : Nat) (s0 s1 s2 s3 : Int32) (I : gb_Mem) {rz : Int32} {Iz : gb_Mem} (h : J_Mo_passesOf_61 s0 s1 s2 s3 I = some (rz, Iz)) : gb_Go l yMo_passesOf (d0 + 4) 0 0 61 [] [.inl s0, .inl s1, .inl s2, .inl s3, .inr (some 0)] shM I (gb_po shM (some (.inl rz)) Iz) := by
  unfold J_Mo_passesOf_61 at h
  refine go_imul d_Mo_passesOf_61 ?_
  refine go_iadd d_Mo_passesOf_62 ?_
  refine go_sipush (v := 1000) d_Mo_passesOf_63 (by decide) ?_
  obtain ⟨⟨r4, I3⟩, w1, h⟩ := fbd_e h
  try dsimp only at h
  refine go_callV (y := yMo_lawTells) (asr := [.inl s3, .inl (s2 + (s1 * s0)), .inl 1000]) (v := some (.inl r4)) (I' := I3) (st1 := [.inl r4]) d_Mo_passesOf_66 s_yMo_lawTells m_Mo_342 a_M_0 rfl rfl rfl (Nat.le_of_ble_eq_true rfl) rfl rfl (c_Mo_lawTells l (d0 + 0) s3 (s2 + (s1 * s0)) 1000 I w1) ?_
  cases h
  exact go_ireturn d_Mo_passesOf_69 rfl gb_po_i
def F_Mo_passesOf (x1 : Int32) (I : gb_Mem) : Option (Int32 × gb_Mem) :=
  fbd (F_Mo_asks x1 I) fun I1 =>
  flod I1 1 80 (56 + x1) fun v2 =>
  if v2 = 1 then
    J_Mo_passesOf_61 (I1 22 5) 20 ((500 + (40 * (I1 22 3))) - (50 * (I1 1 5))) 0 I1
  else
    J_Mo_passesOf_61 (-(I1 22 5)) 20 ((500 + (40 * (I1 22 3))) - (50 * (I1 1 5))) 0 I1
set_option maxRecDepth 4000 in
theorem c_Mo_passesOf (l : Launch) (d0 : Nat) (x1 : Int32) (I : gb_Mem) {rz : Int32} {Iz : gb_Mem} (h : F_Mo_passesOf x1 I = some (rz, Iz)) : gb_Cs l yMo_passesOf (d0 + 4) [.inr (some 0), .inl x1] shM I (some (.inl rz)) Iz := by
  refine gb_Ct.of (lv := [(0, .inr (some 0)), (1, .inl x1)]) rfl (Nat.le_of_ble_eq_true rfl) rfl ?_
  unfold F_Mo_passesOf at h
  show gb_Go l yMo_passesOf (d0 + 4) 0 0 0 [(0, .inr (some 0)), (1, .inl x1)] [] shM I (gb_po shM (some (.inl rz)) Iz)
  refine go_aload_n (k := 0) d_Mo_passesOf_0 rfl rfl ?_
  refine go_iload_n (k := 1) d_Mo_passesOf_1 rfl rfl ?_
  obtain ⟨I1, w1, h⟩ := fbd_e h
  refine go_callV (y := yMo_asks) (asr := [.inl x1]) (v := none) (I' := I1) (st1 := []) d_Mo_passesOf_2 s_yMo_asks m_Mo_339 a_M_0 rfl rfl rfl (Nat.le_of_ble_eq_true rfl) rfl rfl (c_Mo_asks l (d0 + 2) x1 I w1) ?_
  refine go_aload_n (k := 0) d_Mo_passesOf_5 rfl rfl ?_
  refine go_iconst (v := 0) d_Mo_passesOf_6 (by decide) ?_
  refine go_sipush (v := 500) d_Mo_passesOf_7 (by decide) ?_
  refine go_bipush (v := 40) d_Mo_passesOf_10 (by decide) ?_
  refine go_aload_n (k := 0) d_Mo_passesOf_12 rfl rfl ?_
  refine go_getr (ci := 10) (k := 41) (r := 22) d_Mo_passesOf_13 a_M_0 rfl (by decide) f_Mo_77 rfl ?_
  refine go_iconst (v := 3) d_Mo_passesOf_16 (by decide) ?_
  refine go_iald2 (v := I1 22 3) d_Mo_passesOf_17 a_M_22 (inb_iff.mp (by decide)) rfl ?_
  refine go_imul d_Mo_passesOf_18 ?_
  refine go_iadd d_Mo_passesOf_19 ?_
  refine go_bipush (v := 50) d_Mo_passesOf_20 (by decide) ?_
  refine go_aload_n (k := 0) d_Mo_passesOf_22 rfl rfl ?_
  refine go_getr (ci := 10) (k := 1) (r := 1) d_Mo_passesOf_23 a_M_0 rfl (by decide) f_Mo_7 rfl ?_
  refine go_iconst (v := 5) d_Mo_passesOf_26 (by decide) ?_
  refine go_iald2 (v := I1 1 5) d_Mo_passesOf_27 a_M_1 (inb_iff.mp (by decide)) rfl ?_
  refine go_imul d_Mo_passesOf_28 ?_
  refine go_isub d_Mo_passesOf_29 ?_
  refine go_bipush (v := 20) d_Mo_passesOf_30 (by decide) ?_
  refine go_aload_n (k := 0) d_Mo_passesOf_32 rfl rfl ?_
  refine go_getr (ci := 10) (k := 1) (r := 1) d_Mo_passesOf_33 a_M_0 rfl (by decide) f_Mo_7 rfl ?_
  refine go_bipush (v := 56) d_Mo_passesOf_36 (by decide) ?_
  refine go_iload_n (k := 1) d_Mo_passesOf_38 rfl rfl ?_
  refine go_iadd d_Mo_passesOf_39 ?_
  obtain ⟨hi, v2, ev2, h⟩ := flod_e h
  refine go_iald2 d_Mo_passesOf_40 a_M_1 hi ev2 ?_
  refine go_iconst (v := 1) d_Mo_passesOf_41 (by decide) ?_
  refine go_cmp_ne (tgt := 54) d_Mo_passesOf_42 (by decide) (fun hc => ?_) (fun hc => ?_)
  · rw [if_neg hc] at h
    refine go_aload_n (k := 0) d_Mo_passesOf_54 rfl rfl ?_
    refine go_getr (ci := 10) (k := 41) (r := 22) d_Mo_passesOf_55 a_M_0 rfl (by decide) f_Mo_77 rfl ?_
    refine go_iconst (v := 5) d_Mo_passesOf_58 (by decide) ?_
    refine go_iald2 (v := I1 22 5) d_Mo_passesOf_59 a_M_22 (inb_iff.mp (by decide)) rfl ?_
    refine go_ineg d_Mo_passesOf_60 ?_
    exact go_lv [] rfl (j_Mo_passesOf_61 l d0 (-(I1 22 5)) 20 ((500 + (40 * (I1 22 3))) - (50 * (I1 1 5))) 0 I1 h)
  · rw [if_pos hc] at h
    refine go_aload_n (k := 0) d_Mo_passesOf_45 rfl rfl ?_
    refine go_getr (ci := 10) (k := 41) (r := 22) d_Mo_passesOf_46 a_M_0 rfl (by decide) f_Mo_77 rfl ?_
    refine go_iconst (v := 5) d_Mo_passesOf_49 (by decide) ?_
    refine go_iald2 (v := I1 22 5) d_Mo_passesOf_50 a_M_22 (inb_iff.mp (by decide)) rfl ?_
    refine go_goto (tgt := 61) d_Mo_passesOf_51 (by decide) ?_
    exact go_lv [] rfl (j_Mo_passesOf_61 l d0 (I1 22 5) 20 ((500 + (40 * (I1 22 3))) - (50 * (I1 1 5))) 0 I1 h)
theorem d_Mo_poursOf_0 : decode yMo_poursOf.2.1 0 = .ok (.aload_n 0, 1) := by decide +kernel
theorem d_Mo_poursOf_1 : decode yMo_poursOf.2.1 1 = .ok (.iload_n 1, 1) := by decide +kernel
theorem d_Mo_poursOf_2 : decode yMo_poursOf.2.1 2 = .ok (.invokevirtual 339, 3) := by decide +kernel
theorem d_Mo_poursOf_5 : decode yMo_poursOf.2.1 5 = .ok (.aload_n 0, 1) := by decide +kernel
theorem d_Mo_poursOf_6 : decode yMo_poursOf.2.1 6 = .ok (.iconst 1, 1) := by decide +kernel
theorem d_Mo_poursOf_7 : decode yMo_poursOf.2.1 7 = .ok (.aload_n 0, 1) := by decide +kernel
theorem d_Mo_poursOf_8 : decode yMo_poursOf.2.1 8 = .ok (.getfield 77, 3) := by decide +kernel
theorem d_Mo_poursOf_11 : decode yMo_poursOf.2.1 11 = .ok (.iconst 4, 1) := by decide +kernel
theorem d_Mo_poursOf_12 : decode yMo_poursOf.2.1 12 = .ok (.iaload, 1) := by decide +kernel
theorem d_Mo_poursOf_13 : decode yMo_poursOf.2.1 13 = .ok (.iconst 5, 1) := by decide +kernel
theorem d_Mo_poursOf_14 : decode yMo_poursOf.2.1 14 = .ok (.aload_n 0, 1) := by decide +kernel
theorem d_Mo_poursOf_15 : decode yMo_poursOf.2.1 15 = .ok (.getfield 77, 3) := by decide +kernel
theorem d_Mo_poursOf_18 : decode yMo_poursOf.2.1 18 = .ok (.bipush 6, 2) := by decide +kernel
theorem d_Mo_poursOf_20 : decode yMo_poursOf.2.1 20 = .ok (.iaload, 1) := by decide +kernel
theorem d_Mo_poursOf_21 : decode yMo_poursOf.2.1 21 = .ok (.imul, 1) := by decide +kernel
theorem d_Mo_poursOf_22 : decode yMo_poursOf.2.1 22 = .ok (.iadd, 1) := by decide +kernel
theorem d_Mo_poursOf_23 : decode yMo_poursOf.2.1 23 = .ok (.bipush 99, 2) := by decide +kernel
theorem d_Mo_poursOf_25 : decode yMo_poursOf.2.1 25 = .ok (.invokevirtual 342, 3) := by decide +kernel
theorem d_Mo_poursOf_28 : decode yMo_poursOf.2.1 28 = .ok (.ireturn, 1) := by decide +kernel
def F_Mo_poursOf (x1 : Int32) (I : gb_Mem) : Option (Int32 × gb_Mem) :=
  fbd (F_Mo_asks x1 I) fun I1 =>
  fbd (F_Mo_lawTells 1 ((I1 22 4) + (5 * (I1 22 6))) 99 I1) fun (r3, I2) =>
  some (r3, I2)
set_option maxRecDepth 4000 in
theorem c_Mo_poursOf (l : Launch) (d0 : Nat) (x1 : Int32) (I : gb_Mem) {rz : Int32} {Iz : gb_Mem} (h : F_Mo_poursOf x1 I = some (rz, Iz)) : gb_Cs l yMo_poursOf (d0 + 4) [.inr (some 0), .inl x1] shM I (some (.inl rz)) Iz := by
  refine gb_Ct.of (lv := [(0, .inr (some 0)), (1, .inl x1)]) rfl (Nat.le_of_ble_eq_true rfl) rfl ?_
  unfold F_Mo_poursOf at h
  show gb_Go l yMo_poursOf (d0 + 4) 0 0 0 [(0, .inr (some 0)), (1, .inl x1)] [] shM I (gb_po shM (some (.inl rz)) Iz)
  refine go_aload_n (k := 0) d_Mo_poursOf_0 rfl rfl ?_
  refine go_iload_n (k := 1) d_Mo_poursOf_1 rfl rfl ?_
  obtain ⟨I1, w1, h⟩ := fbd_e h
  refine go_callV (y := yMo_asks) (asr := [.inl x1]) (v := none) (I' := I1) (st1 := []) d_Mo_poursOf_2 s_yMo_asks m_Mo_339 a_M_0 rfl rfl rfl (Nat.le_of_ble_eq_true rfl) rfl rfl (c_Mo_asks l (d0 + 2) x1 I w1) ?_
  refine go_aload_n (k := 0) d_Mo_poursOf_5 rfl rfl ?_
  refine go_iconst (v := 1) d_Mo_poursOf_6 (by decide) ?_
  refine go_aload_n (k := 0) d_Mo_poursOf_7 rfl rfl ?_
  refine go_getr (ci := 10) (k := 41) (r := 22) d_Mo_poursOf_8 a_M_0 rfl (by decide) f_Mo_77 rfl ?_
  refine go_iconst (v := 4) d_Mo_poursOf_11 (by decide) ?_
  refine go_iald2 (v := I1 22 4) d_Mo_poursOf_12 a_M_22 (inb_iff.mp (by decide)) rfl ?_
  refine go_iconst (v := 5) d_Mo_poursOf_13 (by decide) ?_
  refine go_aload_n (k := 0) d_Mo_poursOf_14 rfl rfl ?_
  refine go_getr (ci := 10) (k := 41) (r := 22) d_Mo_poursOf_15 a_M_0 rfl (by decide) f_Mo_77 rfl ?_
  refine go_bipush (v := 6) d_Mo_poursOf_18 (by decide) ?_
  refine go_iald2 (v := I1 22 6) d_Mo_poursOf_20 a_M_22 (inb_iff.mp (by decide)) rfl ?_
  refine go_imul d_Mo_poursOf_21 ?_
  refine go_iadd d_Mo_poursOf_22 ?_
  refine go_bipush (v := 99) d_Mo_poursOf_23 (by decide) ?_
  obtain ⟨⟨r3, I2⟩, w1, h⟩ := fbd_e h
  try dsimp only at h
  refine go_callV (y := yMo_lawTells) (asr := [.inl 1, .inl ((I1 22 4) + (5 * (I1 22 6))), .inl 99]) (v := some (.inl r3)) (I' := I2) (st1 := [.inl r3]) d_Mo_poursOf_25 s_yMo_lawTells m_Mo_342 a_M_0 rfl rfl rfl (Nat.le_of_ble_eq_true rfl) rfl rfl (c_Mo_lawTells l (d0 + 0) 1 ((I1 22 4) + (5 * (I1 22 6))) 99 I1 w1) ?_
  cases h
  exact go_ireturn d_Mo_poursOf_28 rfl gb_po_i
theorem d_Mo_readProduct_0 : decode yMo_readProduct.2.1 0 = .ok (.aload_n 0, 1) := by decide +kernel
theorem d_Mo_readProduct_1 : decode yMo_readProduct.2.1 1 = .ok (.invokevirtual 228, 3) := by decide +kernel
theorem d_Mo_readProduct_4 : decode yMo_readProduct.2.1 4 = .ok (.iconst (-1), 1) := by decide +kernel
theorem d_Mo_readProduct_5 : decode yMo_readProduct.2.1 5 = .ok (.if_icmp .ne 5, 3) := by decide +kernel
theorem d_Mo_readProduct_8 : decode yMo_readProduct.2.1 8 = .ok (.iconst (-1), 1) := by decide +kernel
theorem d_Mo_readProduct_9 : decode yMo_readProduct.2.1 9 = .ok (.ireturn, 1) := by decide +kernel
theorem d_Mo_readProduct_10 : decode yMo_readProduct.2.1 10 = .ok (.aload_n 0, 1) := by decide +kernel
theorem d_Mo_readProduct_11 : decode yMo_readProduct.2.1 11 = .ok (.bipush 42, 2) := by decide +kernel
theorem d_Mo_readProduct_13 : decode yMo_readProduct.2.1 13 = .ok (.invokevirtual 232, 3) := by decide +kernel
theorem d_Mo_readProduct_16 : decode yMo_readProduct.2.1 16 = .ok (.ifCond .ne 12, 3) := by decide +kernel
theorem d_Mo_readProduct_19 : decode yMo_readProduct.2.1 19 = .ok (.aload_n 0, 1) := by decide +kernel
theorem d_Mo_readProduct_20 : decode yMo_readProduct.2.1 20 = .ok (.bipush 47, 2) := by decide +kernel
theorem d_Mo_readProduct_22 : decode yMo_readProduct.2.1 22 = .ok (.invokevirtual 232, 3) := by decide +kernel
theorem d_Mo_readProduct_25 : decode yMo_readProduct.2.1 25 = .ok (.ifCond .eq 76, 3) := by decide +kernel
theorem d_Mo_readProduct_28 : decode yMo_readProduct.2.1 28 = .ok (.aload_n 0, 1) := by decide +kernel
theorem d_Mo_readProduct_29 : decode yMo_readProduct.2.1 29 = .ok (.bipush 42, 2) := by decide +kernel
theorem d_Mo_readProduct_31 : decode yMo_readProduct.2.1 31 = .ok (.invokevirtual 232, 3) := by decide +kernel
theorem d_Mo_readProduct_34 : decode yMo_readProduct.2.1 34 = .ok (.istore_n 1, 1) := by decide +kernel
theorem d_Mo_readProduct_35 : decode yMo_readProduct.2.1 35 = .ok (.aload_n 0, 1) := by decide +kernel
theorem d_Mo_readProduct_36 : decode yMo_readProduct.2.1 36 = .ok (.invokevirtual 225, 3) := by decide +kernel
theorem d_Mo_readProduct_39 : decode yMo_readProduct.2.1 39 = .ok (.iload_n 1, 1) := by decide +kernel
theorem d_Mo_readProduct_40 : decode yMo_readProduct.2.1 40 = .ok (.ifCond .ne 17, 3) := by decide +kernel
theorem d_Mo_readProduct_43 : decode yMo_readProduct.2.1 43 = .ok (.aload_n 0, 1) := by decide +kernel
theorem d_Mo_readProduct_44 : decode yMo_readProduct.2.1 44 = .ok (.getfield 187, 3) := by decide +kernel
theorem d_Mo_readProduct_47 : decode yMo_readProduct.2.1 47 = .ok (.iconst 3, 1) := by decide +kernel
theorem d_Mo_readProduct_48 : decode yMo_readProduct.2.1 48 = .ok (.if_icmp .eq 9, 3) := by decide +kernel
theorem d_Mo_readProduct_51 : decode yMo_readProduct.2.1 51 = .ok (.aload_n 0, 1) := by decide +kernel
theorem d_Mo_readProduct_52 : decode yMo_readProduct.2.1 52 = .ok (.iconst 1, 1) := by decide +kernel
theorem d_Mo_readProduct_53 : decode yMo_readProduct.2.1 53 = .ok (.invokevirtual 218, 3) := by decide +kernel
theorem d_Mo_readProduct_56 : decode yMo_readProduct.2.1 56 = .ok (.ireturn, 1) := by decide +kernel
theorem d_Mo_readProduct_57 : decode yMo_readProduct.2.1 57 = .ok (.iload_n 1, 1) := by decide +kernel
theorem d_Mo_readProduct_58 : decode yMo_readProduct.2.1 58 = .ok (.ifCond .ne 16, 3) := by decide +kernel
theorem d_Mo_readProduct_61 : decode yMo_readProduct.2.1 61 = .ok (.aload_n 0, 1) := by decide +kernel
theorem d_Mo_readProduct_62 : decode yMo_readProduct.2.1 62 = .ok (.getfield 190, 3) := by decide +kernel
theorem d_Mo_readProduct_65 : decode yMo_readProduct.2.1 65 = .ok (.ifCond .ne 9, 3) := by decide +kernel
theorem d_Mo_readProduct_68 : decode yMo_readProduct.2.1 68 = .ok (.aload_n 0, 1) := by decide +kernel
theorem d_Mo_readProduct_69 : decode yMo_readProduct.2.1 69 = .ok (.iconst 2, 1) := by decide +kernel
theorem d_Mo_readProduct_70 : decode yMo_readProduct.2.1 70 = .ok (.invokevirtual 218, 3) := by decide +kernel
theorem d_Mo_readProduct_73 : decode yMo_readProduct.2.1 73 = .ok (.ireturn, 1) := by decide +kernel
theorem d_Mo_readProduct_74 : decode yMo_readProduct.2.1 74 = .ok (.aload_n 0, 1) := by decide +kernel
theorem d_Mo_readProduct_75 : decode yMo_readProduct.2.1 75 = .ok (.invokevirtual 228, 3) := by decide +kernel
theorem d_Mo_readProduct_78 : decode yMo_readProduct.2.1 78 = .ok (.iconst (-1), 1) := by decide +kernel
theorem d_Mo_readProduct_79 : decode yMo_readProduct.2.1 79 = .ok (.if_icmp .ne 5, 3) := by decide +kernel
theorem d_Mo_readProduct_82 : decode yMo_readProduct.2.1 82 = .ok (.iconst (-1), 1) := by decide +kernel
theorem d_Mo_readProduct_83 : decode yMo_readProduct.2.1 83 = .ok (.ireturn, 1) := by decide +kernel
theorem d_Mo_readProduct_84 : decode yMo_readProduct.2.1 84 = .ok (.aload_n 0, 1) := by decide +kernel
theorem d_Mo_readProduct_85 : decode yMo_readProduct.2.1 85 = .ok (.iload_n 1, 1) := by decide +kernel
theorem d_Mo_readProduct_86 : decode yMo_readProduct.2.1 86 = .ok (.ifCond .eq 7, 3) := by decide +kernel
theorem d_Mo_readProduct_89 : decode yMo_readProduct.2.1 89 = .ok (.iconst 4, 1) := by decide +kernel
theorem d_Mo_readProduct_90 : decode yMo_readProduct.2.1 90 = .ok (.goto 4, 3) := by decide +kernel
theorem d_Mo_readProduct_93 : decode yMo_readProduct.2.1 93 = .ok (.iconst 5, 1) := by decide +kernel
theorem d_Mo_readProduct_94 : decode yMo_readProduct.2.1 94 = .ok (.iconst 0, 1) := by decide +kernel
theorem d_Mo_readProduct_95 : decode yMo_readProduct.2.1 95 = .ok (.invokevirtual 221, 3) := by decide +kernel
theorem d_Mo_readProduct_98 : decode yMo_readProduct.2.1 98 = .ok (.goto (-88), 3) := by decide +kernel
theorem d_Mo_readProduct_101 : decode yMo_readProduct.2.1 101 = .ok (.iconst 0, 1) := by decide +kernel
theorem d_Mo_readProduct_102 : decode yMo_readProduct.2.1 102 = .ok (.ireturn, 1) := by decide +kernel
def J_Mo_readProduct_94 (k : gb_Mem → Option ((gb_Mem) ⊕ (Int32 × gb_Mem))) (s0 : Int32) (I : gb_Mem) : Option ((gb_Mem) ⊕ (Int32 × gb_Mem)) :=
  fbd (F_Mo_emits s0 0 I) fun I7 =>
  k I7
set_option maxRecDepth 4000 in
theorem j_Mo_readProduct_94 (l : Launch) (d0 : Nat) {post : Option gb_AV → List gb_Ce → gb_Mem → Prop} (k : gb_Mem → Option ((gb_Mem) ⊕ (Int32 × gb_Mem))) (s0 : Int32) (I : gb_Mem) {ρ : (gb_Mem) ⊕ (Int32 × gb_Mem)} (h : J_Mo_readProduct_94 k s0 I = some ρ) (hk : ∀ (Iw : gb_Mem), k  Iw = some ρ → gb_Go l yMo_readProduct (d0 + 4) 0 0 10 [(0, .inr (some 0))] [] shM Iw post) (hX : ∀ (I2 : gb_Mem), ρ = .inl I2 → gb_Go l yMo_readProduct (d0 + 4) 0 0 101 [] [] shM I2 post) (hR : ∀ (v : Int32) (I3 : gb_Mem), ρ = .inr (v, I3) → post (some (.inl v)) shM I3) : gb_Go l yMo_readProduct (d0 + 4) 0 0 94 [(0, .inr (some 0))] [.inl s0, .inr (some 0)] shM I post := by
  unfold J_Mo_readProduct_94 at h
  refine go_iconst (v := 0) d_Mo_readProduct_94 (by decide) ?_
  obtain ⟨I7, w1, h⟩ := fbd_e h
  refine go_callV (y := yMo_emits) (asr := [.inl s0, .inl 0]) (v := none) (I' := I7) (st1 := []) d_Mo_readProduct_95 s_yMo_emits m_Mo_221 a_M_0 rfl rfl rfl (Nat.le_of_ble_eq_true rfl) rfl rfl (c_Mo_emits l (d0 + 3) s0 0 I w1) ?_
  refine go_goto (tgt := 10) d_Mo_readProduct_98 (by decide) ?_
  exact go_lv [0] rfl (hk  _ h)
def J_Mo_readProduct_74 (k : gb_Mem → Option ((gb_Mem) ⊕ (Int32 × gb_Mem))) (x1 : Int32) (I : gb_Mem) : Option ((gb_Mem) ⊕ (Int32 × gb_Mem)) :=
  fbd (F_Mo_readUnit  I) fun (r6, I5) =>
  if r6 = (-1) then
    some (.inr ((-1), I5))
  else
    if x1 = 0 then
      J_Mo_readProduct_94 k 5 I5
    else
      J_Mo_readProduct_94 k 4 I5
set_option maxRecDepth 4000 in
theorem j_Mo_readProduct_74 (l : Launch) (d0 : Nat) {post : Option gb_AV → List gb_Ce → gb_Mem → Prop} (k : gb_Mem → Option ((gb_Mem) ⊕ (Int32 × gb_Mem))) (x1 : Int32) (I : gb_Mem) {ρ : (gb_Mem) ⊕ (Int32 × gb_Mem)} (h : J_Mo_readProduct_74 k x1 I = some ρ) (hk : ∀ (Iw : gb_Mem), k  Iw = some ρ → gb_Go l yMo_readProduct (d0 + 4) 0 0 10 [(0, .inr (some 0))] [] shM Iw post) (hX : ∀ (I2 : gb_Mem), ρ = .inl I2 → gb_Go l yMo_readProduct (d0 + 4) 0 0 101 [] [] shM I2 post) (hR : ∀ (v : Int32) (I3 : gb_Mem), ρ = .inr (v, I3) → post (some (.inl v)) shM I3) : gb_Go l yMo_readProduct (d0 + 4) 0 0 74 [(0, .inr (some 0)), (1, .inl x1)] [] shM I post := by
  unfold J_Mo_readProduct_74 at h
  refine go_aload_n (k := 0) d_Mo_readProduct_74 rfl rfl ?_
  obtain ⟨⟨r6, I5⟩, w1, h⟩ := fbd_e h
  try dsimp only at h
  refine go_callV (y := yMo_readUnit) (asr := []) (v := some (.inl r6)) (I' := I5) (st1 := [.inl r6]) d_Mo_readProduct_75 s_yMo_readUnit m_Mo_228 a_M_0 rfl rfl rfl (Nat.le_of_ble_eq_true rfl) rfl rfl (c_Mo_readUnit l (d0 + 0)  I w1) ?_
  refine go_iconst (v := (-1)) d_Mo_readProduct_78 (by decide) ?_
  refine go_cmp_ne (tgt := 84) d_Mo_readProduct_79 (by decide) (fun hc => ?_) (fun hc => ?_)
  · rw [if_neg hc] at h
    refine go_aload_n (k := 0) d_Mo_readProduct_84 rfl rfl ?_
    refine go_iload_n (k := 1) d_Mo_readProduct_85 rfl rfl ?_
    refine go_if_eq (tgt := 93) d_Mo_readProduct_86 (by decide) (fun hc => ?_) (fun hc => ?_)
    · rw [if_pos hc] at h
      refine go_iconst (v := 5) d_Mo_readProduct_93 (by decide) ?_
      exact go_lv [0] rfl (j_Mo_readProduct_94 l d0 k 5 I5 h hk hX hR)
    · rw [if_neg hc] at h
      refine go_iconst (v := 4) d_Mo_readProduct_89 (by decide) ?_
      refine go_goto (tgt := 94) d_Mo_readProduct_90 (by decide) ?_
      exact go_lv [0] rfl (j_Mo_readProduct_94 l d0 k 4 I5 h hk hX hR)
  · rw [if_pos hc] at h
    refine go_iconst (v := (-1)) d_Mo_readProduct_82 (by decide) ?_
    exact go_ireturn d_Mo_readProduct_83 rfl (hR _ _ (Option.some.inj h).symm)
def J_Mo_readProduct_57 (k : gb_Mem → Option ((gb_Mem) ⊕ (Int32 × gb_Mem))) (x1 : Int32) (I : gb_Mem) : Option ((gb_Mem) ⊕ (Int32 × gb_Mem)) :=
  if x1 = 0 then
    if (I 0 17) = 0 then
      fbd (F_Mo_errs 2 I) fun (r9, I8) =>
      some (.inr (r9, I8))
    else
      J_Mo_readProduct_74 k x1 I
  else
    J_Mo_readProduct_74 k x1 I
set_option maxRecDepth 4000 in
theorem j_Mo_readProduct_57 (l : Launch) (d0 : Nat) {post : Option gb_AV → List gb_Ce → gb_Mem → Prop} (k : gb_Mem → Option ((gb_Mem) ⊕ (Int32 × gb_Mem))) (x1 : Int32) (I : gb_Mem) {ρ : (gb_Mem) ⊕ (Int32 × gb_Mem)} (h : J_Mo_readProduct_57 k x1 I = some ρ) (hk : ∀ (Iw : gb_Mem), k  Iw = some ρ → gb_Go l yMo_readProduct (d0 + 4) 0 0 10 [(0, .inr (some 0))] [] shM Iw post) (hX : ∀ (I2 : gb_Mem), ρ = .inl I2 → gb_Go l yMo_readProduct (d0 + 4) 0 0 101 [] [] shM I2 post) (hR : ∀ (v : Int32) (I3 : gb_Mem), ρ = .inr (v, I3) → post (some (.inl v)) shM I3) : gb_Go l yMo_readProduct (d0 + 4) 0 0 57 [(0, .inr (some 0)), (1, .inl x1)] [] shM I post := by
  unfold J_Mo_readProduct_57 at h
  refine go_iload_n (k := 1) d_Mo_readProduct_57 rfl rfl ?_
  refine go_if_ne (tgt := 74) d_Mo_readProduct_58 (by decide) (fun hc => ?_) (fun hc => ?_)
  · rw [if_neg hc] at h
    exact go_lv [0, 1] rfl (j_Mo_readProduct_74 l d0 k x1 I h hk hX hR)
  · rw [if_pos hc] at h
    refine go_aload_n (k := 0) d_Mo_readProduct_61 rfl rfl ?_
    refine go_geti (ci := 10) (k := 17) d_Mo_readProduct_62 a_M_0 rfl (by decide) f_Mo_190 rfl ?_
    refine go_if_ne (tgt := 74) d_Mo_readProduct_65 (by decide) (fun hc => ?_) (fun hc => ?_)
    · rw [if_neg hc] at h
      exact go_lv [0, 1] rfl (j_Mo_readProduct_74 l d0 k x1 I h hk hX hR)
    · rw [if_pos hc] at h
      refine go_aload_n (k := 0) d_Mo_readProduct_68 rfl rfl ?_
      refine go_iconst (v := 2) d_Mo_readProduct_69 (by decide) ?_
      obtain ⟨⟨r9, I8⟩, w1, h⟩ := fbd_e h
      try dsimp only at h
      refine go_callV (y := yMo_errs) (asr := [.inl 2]) (v := some (.inl r9)) (I' := I8) (st1 := [.inl r9]) d_Mo_readProduct_70 s_yMo_errs m_Mo_218 a_M_0 rfl rfl rfl (Nat.le_of_ble_eq_true rfl) rfl rfl (c_Mo_errs l (d0 + 3) 2 I w1) ?_
      exact go_ireturn d_Mo_readProduct_73 rfl (hR _ _ (Option.some.inj h).symm)
def J_Mo_readProduct_28 (k : gb_Mem → Option ((gb_Mem) ⊕ (Int32 × gb_Mem))) (I : gb_Mem) : Option ((gb_Mem) ⊕ (Int32 × gb_Mem)) :=
  flt (F_Mo_isSign 42 I) fun y3 =>
  fbd (F_Mo_reads  I) fun I4 =>
  if y3 = 0 then
    if (I4 0 16) = 3 then
      J_Mo_readProduct_57 k y3 I4
    else
      fbd (F_Mo_errs 1 I4) fun (r11, I10) =>
      some (.inr (r11, I10))
  else
    J_Mo_readProduct_57 k y3 I4
set_option maxRecDepth 4000 in
theorem j_Mo_readProduct_28 (l : Launch) (d0 : Nat) {post : Option gb_AV → List gb_Ce → gb_Mem → Prop} (k : gb_Mem → Option ((gb_Mem) ⊕ (Int32 × gb_Mem))) (I : gb_Mem) {ρ : (gb_Mem) ⊕ (Int32 × gb_Mem)} (h : J_Mo_readProduct_28 k I = some ρ) (hk : ∀ (Iw : gb_Mem), k  Iw = some ρ → gb_Go l yMo_readProduct (d0 + 4) 0 0 10 [(0, .inr (some 0))] [] shM Iw post) (hX : ∀ (I2 : gb_Mem), ρ = .inl I2 → gb_Go l yMo_readProduct (d0 + 4) 0 0 101 [] [] shM I2 post) (hR : ∀ (v : Int32) (I3 : gb_Mem), ρ = .inr (v, I3) → post (some (.inl v)) shM I3) : gb_Go l yMo_readProduct (d0 + 4) 0 0 28 [(0, .inr (some 0))] [] shM I post := by
  unfold J_Mo_readProduct_28 at h
  refine go_aload_n (k := 0) d_Mo_readProduct_28 rfl rfl ?_
  refine go_bipush (v := 42) d_Mo_readProduct_29 (by decide) ?_
  refine go_callV (y := yMo_isSign) (asr := [.inl 42]) (v := some (.inl (F_Mo_isSign 42 I))) (I' := I) (st1 := [.inl (F_Mo_isSign 42 I)]) d_Mo_readProduct_31 s_yMo_isSign m_Mo_232 a_M_0 rfl rfl rfl (Nat.le_of_ble_eq_true rfl) rfl rfl (c_Mo_isSign l (d0 + 3) 42 I) ?_
  obtain ⟨y3, ey3, h⟩ := flt_e h
  refine go_top ey3 ?_
  refine go_istore_n (lv' := [(1, .inl y3), (0, .inr (some 0))]) d_Mo_readProduct_34 rfl (by decide) rfl ?_
  refine go_aload_n (k := 1) d_Mo_readProduct_35 rfl rfl ?_
  obtain ⟨I4, w1, h⟩ := fbd_e h
  refine go_callV (y := yMo_reads) (asr := []) (v := none) (I' := I4) (st1 := []) d_Mo_readProduct_36 s_yMo_reads m_Mo_225 a_M_0 rfl rfl rfl (Nat.le_of_ble_eq_true rfl) rfl rfl (c_Mo_reads l (d0 + 1)  I w1) ?_
  refine go_iload_n (k := 0) d_Mo_readProduct_39 rfl rfl ?_
  refine go_if_ne (tgt := 57) d_Mo_readProduct_40 (by decide) (fun hc => ?_) (fun hc => ?_)
  · rw [if_neg hc] at h
    exact go_lv [1, 0] rfl (j_Mo_readProduct_57 l d0 k y3 I4 h hk hX hR)
  · rw [if_pos hc] at h
    refine go_aload_n (k := 1) d_Mo_readProduct_43 rfl rfl ?_
    refine go_geti (ci := 10) (k := 16) d_Mo_readProduct_44 a_M_0 rfl (by decide) f_Mo_187 rfl ?_
    refine go_iconst (v := 3) d_Mo_readProduct_47 (by decide) ?_
    refine go_cmp_eq (tgt := 57) d_Mo_readProduct_48 (by decide) (fun hc => ?_) (fun hc => ?_)
    · rw [if_pos hc] at h
      exact go_lv [1, 0] rfl (j_Mo_readProduct_57 l d0 k y3 I4 h hk hX hR)
    · rw [if_neg hc] at h
      refine go_aload_n (k := 1) d_Mo_readProduct_51 rfl rfl ?_
      refine go_iconst (v := 1) d_Mo_readProduct_52 (by decide) ?_
      obtain ⟨⟨r11, I10⟩, w1, h⟩ := fbd_e h
      try dsimp only at h
      refine go_callV (y := yMo_errs) (asr := [.inl 1]) (v := some (.inl r11)) (I' := I10) (st1 := [.inl r11]) d_Mo_readProduct_53 s_yMo_errs m_Mo_218 a_M_0 rfl rfl rfl (Nat.le_of_ble_eq_true rfl) rfl rfl (c_Mo_errs l (d0 + 3) 1 I4 w1) ?_
      exact go_ireturn d_Mo_readProduct_56 rfl (hR _ _ (Option.some.inj h).symm)
def L_Mo_readProduct_10 : Nat → gb_Mem → Option ((gb_Mem) ⊕ (Int32 × gb_Mem))
  | 0, _ => none
  | n + 1, I =>
    if (F_Mo_isSign 42 I) = 0 then
      if (F_Mo_isSign 47 I) = 0 then
        some (.inl I)
      else
        J_Mo_readProduct_28 (L_Mo_readProduct_10 n) I
    else
      J_Mo_readProduct_28 (L_Mo_readProduct_10 n) I
set_option maxRecDepth 4000 in
theorem l_Mo_readProduct_10 (l : Launch) (d0 : Nat) {post : Option gb_AV → List gb_Ce → gb_Mem → Prop} : ∀ (n : Nat) (I : gb_Mem) {ρ : (gb_Mem) ⊕ (Int32 × gb_Mem)} (h : L_Mo_readProduct_10 n I = some ρ) (hX : ∀ (I2 : gb_Mem), ρ = .inl I2 → gb_Go l yMo_readProduct (d0 + 4) 0 0 101 [] [] shM I2 post) (hR : ∀ (v : Int32) (I3 : gb_Mem), ρ = .inr (v, I3) → post (some (.inl v)) shM I3) , gb_Go l yMo_readProduct (d0 + 4) 0 0 10 [(0, .inr (some 0))] [] shM I post := by
  intro n
  induction n with
  | zero => intro I ρ h hX hR; cases h
  | succ n ih =>
    intro I ρ h hX hR
    rw [L_Mo_readProduct_10] at h
    refine go_aload_n (k := 0) d_Mo_readProduct_10 rfl rfl ?_
    refine go_bipush (v := 42) d_Mo_readProduct_11 (by decide) ?_
    refine go_callV (y := yMo_isSign) (asr := [.inl 42]) (v := some (.inl (F_Mo_isSign 42 I))) (I' := I) (st1 := [.inl (F_Mo_isSign 42 I)]) d_Mo_readProduct_13 s_yMo_isSign m_Mo_232 a_M_0 rfl rfl rfl (Nat.le_of_ble_eq_true rfl) rfl rfl (c_Mo_isSign l (d0 + 3) 42 I) ?_
    refine go_if_ne (tgt := 28) d_Mo_readProduct_16 (by decide) (fun hc => ?_) (fun hc => ?_)
    · rw [if_neg hc] at h
      exact go_lv [0] rfl (j_Mo_readProduct_28 l d0 (L_Mo_readProduct_10 n) I h (fun Iw hh => ih Iw hh hX hR) hX hR)
    · rw [if_pos hc] at h
      refine go_aload_n (k := 0) d_Mo_readProduct_19 rfl rfl ?_
      refine go_bipush (v := 47) d_Mo_readProduct_20 (by decide) ?_
      refine go_callV (y := yMo_isSign) (asr := [.inl 47]) (v := some (.inl (F_Mo_isSign 47 I))) (I' := I) (st1 := [.inl (F_Mo_isSign 47 I)]) d_Mo_readProduct_22 s_yMo_isSign m_Mo_232 a_M_0 rfl rfl rfl (Nat.le_of_ble_eq_true rfl) rfl rfl (c_Mo_isSign l (d0 + 3) 47 I) ?_
      refine go_if_eq (tgt := 101) d_Mo_readProduct_25 (by decide) (fun hc => ?_) (fun hc => ?_)
      · rw [if_pos hc] at h
        exact go_lv [] rfl (hX _ (Option.some.inj h).symm)
      · rw [if_neg hc] at h
        exact go_lv [0] rfl (j_Mo_readProduct_28 l d0 (L_Mo_readProduct_10 n) I h (fun Iw hh => ih Iw hh hX hR) hX hR)
def F_Mo_readProduct (I : gb_Mem) : Option (Int32 × gb_Mem) :=
  fbd (F_Mo_readUnit  I) fun (r2, I1) =>
  if r2 = (-1) then
    some ((-1), I1)
  else
    fbr (L_Mo_readProduct_10 5000 I1) (fun I12 =>
      some (0, I12))
      (fun (q13, I14) => some (q13, I14))
set_option maxRecDepth 4000 in
theorem c_Mo_readProduct (l : Launch) (d0 : Nat) (I : gb_Mem) {rz : Int32} {Iz : gb_Mem} (h : F_Mo_readProduct I = some (rz, Iz)) : gb_Cs l yMo_readProduct (d0 + 4) [.inr (some 0)] shM I (some (.inl rz)) Iz := by
  refine gb_Ct.of (lv := [(0, .inr (some 0))]) rfl (Nat.le_of_ble_eq_true rfl) rfl ?_
  unfold F_Mo_readProduct at h
  show gb_Go l yMo_readProduct (d0 + 4) 0 0 0 [(0, .inr (some 0))] [] shM I (gb_po shM (some (.inl rz)) Iz)
  refine go_aload_n (k := 0) d_Mo_readProduct_0 rfl rfl ?_
  obtain ⟨⟨r2, I1⟩, w1, h⟩ := fbd_e h
  try dsimp only at h
  refine go_callV (y := yMo_readUnit) (asr := []) (v := some (.inl r2)) (I' := I1) (st1 := [.inl r2]) d_Mo_readProduct_1 s_yMo_readUnit m_Mo_228 a_M_0 rfl rfl rfl (Nat.le_of_ble_eq_true rfl) rfl rfl (c_Mo_readUnit l (d0 + 0)  I w1) ?_
  refine go_iconst (v := (-1)) d_Mo_readProduct_4 (by decide) ?_
  refine go_cmp_ne (tgt := 10) d_Mo_readProduct_5 (by decide) (fun hc => ?_) (fun hc => ?_)
  · rw [if_neg hc] at h
    refine go_lv [0] (lv' := [(0, .inr (some 0))]) rfl ?_
    obtain ⟨ρ, w1, w2, w3⟩ := fbr_e2 h
    refine l_Mo_readProduct_10 l d0  5000  I1 w1 (fun I12 e => ?_) (fun q13 I14 e => ?_)
    · have h := w2 _ e
      try dsimp only at h
      refine go_iconst (v := 0) d_Mo_readProduct_101 (by decide) ?_
      cases h
      exact go_ireturn d_Mo_readProduct_102 rfl gb_po_i
    · have h := w3 _ e
      try dsimp only at h
      cases h
      exact gb_po_i
  · rw [if_pos hc] at h
    refine go_iconst (v := (-1)) d_Mo_readProduct_8 (by decide) ?_
    cases h
    exact go_ireturn d_Mo_readProduct_9 rfl gb_po_i
theorem d_Mo_readTold_0 : decode yMo_readTold.2.1 0 = .ok (.aload_n 0, 1) := by decide +kernel
theorem d_Mo_readTold_1 : decode yMo_readTold.2.1 1 = .ok (.iload_n 1, 1) := by decide +kernel
theorem d_Mo_readTold_2 : decode yMo_readTold.2.1 2 = .ok (.invokevirtual 247, 3) := by decide +kernel
theorem d_Mo_readTold_5 : decode yMo_readTold.2.1 5 = .ok (.ifCond .ne 9, 3) := by decide +kernel
theorem d_Mo_readTold_8 : decode yMo_readTold.2.1 8 = .ok (.aload_n 0, 1) := by decide +kernel
theorem d_Mo_readTold_9 : decode yMo_readTold.2.1 9 = .ok (.iconst 1, 1) := by decide +kernel
theorem d_Mo_readTold_10 : decode yMo_readTold.2.1 10 = .ok (.invokevirtual 218, 3) := by decide +kernel
theorem d_Mo_readTold_13 : decode yMo_readTold.2.1 13 = .ok (.ireturn, 1) := by decide +kernel
theorem d_Mo_readTold_14 : decode yMo_readTold.2.1 14 = .ok (.aload_n 0, 1) := by decide +kernel
theorem d_Mo_readTold_15 : decode yMo_readTold.2.1 15 = .ok (.invokevirtual 225, 3) := by decide +kernel
theorem d_Mo_readTold_18 : decode yMo_readTold.2.1 18 = .ok (.aload_n 0, 1) := by decide +kernel
theorem d_Mo_readTold_19 : decode yMo_readTold.2.1 19 = .ok (.iload_n 2, 1) := by decide +kernel
theorem d_Mo_readTold_20 : decode yMo_readTold.2.1 20 = .ok (.iload_n 3, 1) := by decide +kernel
theorem d_Mo_readTold_21 : decode yMo_readTold.2.1 21 = .ok (.invokevirtual 269, 3) := by decide +kernel
theorem d_Mo_readTold_24 : decode yMo_readTold.2.1 24 = .ok (.ireturn, 1) := by decide +kernel
def F_Mo_readTold (x1 x2 x3 : Int32) (I : gb_Mem) : Option (Int32 × gb_Mem) :=
  if (F_Mo_isWord x1 I) = 0 then
    fbd (F_Mo_errs 1 I) fun (r5, I4) =>
    some (r5, I4)
  else
    fbd (F_Mo_reads  I) fun I1 =>
    fbd (F_Mo_readNumber x2 x3 I1) fun (r3, I2) =>
    some (r3, I2)
set_option maxRecDepth 4000 in
theorem c_Mo_readTold (l : Launch) (d0 : Nat) (x1 x2 x3 : Int32) (I : gb_Mem) {rz : Int32} {Iz : gb_Mem} (h : F_Mo_readTold x1 x2 x3 I = some (rz, Iz)) : gb_Cs l yMo_readTold (d0 + 4) [.inr (some 0), .inl x1, .inl x2, .inl x3] shM I (some (.inl rz)) Iz := by
  refine gb_Ct.of (lv := [(0, .inr (some 0)), (1, .inl x1), (2, .inl x2), (3, .inl x3)]) rfl (Nat.le_of_ble_eq_true rfl) rfl ?_
  unfold F_Mo_readTold at h
  show gb_Go l yMo_readTold (d0 + 4) 0 0 0 [(0, .inr (some 0)), (1, .inl x1), (2, .inl x2), (3, .inl x3)] [] shM I (gb_po shM (some (.inl rz)) Iz)
  refine go_aload_n (k := 0) d_Mo_readTold_0 rfl rfl ?_
  refine go_iload_n (k := 1) d_Mo_readTold_1 rfl rfl ?_
  refine go_callV (y := yMo_isWord) (asr := [.inl x1]) (v := some (.inl (F_Mo_isWord x1 I))) (I' := I) (st1 := [.inl (F_Mo_isWord x1 I)]) d_Mo_readTold_2 s_yMo_isWord m_Mo_247 a_M_0 rfl rfl rfl (Nat.le_of_ble_eq_true rfl) rfl rfl (c_Mo_isWord l (d0 + 3) x1 I) ?_
  refine go_if_ne (tgt := 14) d_Mo_readTold_5 (by decide) (fun hc => ?_) (fun hc => ?_)
  · rw [if_neg hc] at h
    refine go_aload_n (k := 0) d_Mo_readTold_14 rfl rfl ?_
    obtain ⟨I1, w1, h⟩ := fbd_e h
    refine go_callV (y := yMo_reads) (asr := []) (v := none) (I' := I1) (st1 := []) d_Mo_readTold_15 s_yMo_reads m_Mo_225 a_M_0 rfl rfl rfl (Nat.le_of_ble_eq_true rfl) rfl rfl (c_Mo_reads l (d0 + 1)  I w1) ?_
    refine go_aload_n (k := 0) d_Mo_readTold_18 rfl rfl ?_
    refine go_iload_n (k := 2) d_Mo_readTold_19 rfl rfl ?_
    refine go_iload_n (k := 3) d_Mo_readTold_20 rfl rfl ?_
    obtain ⟨⟨r3, I2⟩, w1, h⟩ := fbd_e h
    try dsimp only at h
    refine go_callV (y := yMo_readNumber) (asr := [.inl x2, .inl x3]) (v := some (.inl r3)) (I' := I2) (st1 := [.inl r3]) d_Mo_readTold_21 s_yMo_readNumber m_Mo_269 a_M_0 rfl rfl rfl (Nat.le_of_ble_eq_true rfl) rfl rfl (c_Mo_readNumber l (d0 + 0) x2 x3 I1 w1) ?_
    cases h
    exact go_ireturn d_Mo_readTold_24 rfl gb_po_i
  · rw [if_pos hc] at h
    refine go_aload_n (k := 0) d_Mo_readTold_8 rfl rfl ?_
    refine go_iconst (v := 1) d_Mo_readTold_9 (by decide) ?_
    obtain ⟨⟨r5, I4⟩, w1, h⟩ := fbd_e h
    try dsimp only at h
    refine go_callV (y := yMo_errs) (asr := [.inl 1]) (v := some (.inl r5)) (I' := I4) (st1 := [.inl r5]) d_Mo_readTold_10 s_yMo_errs m_Mo_218 a_M_0 rfl rfl rfl (Nat.le_of_ble_eq_true rfl) rfl rfl (c_Mo_errs l (d0 + 3) 1 I w1) ?_
    cases h
    exact go_ireturn d_Mo_readTold_13 rfl gb_po_i
theorem d_Mo_spillsOf_0 : decode yMo_spillsOf.2.1 0 = .ok (.aload_n 0, 1) := by decide +kernel
theorem d_Mo_spillsOf_1 : decode yMo_spillsOf.2.1 1 = .ok (.iload_n 1, 1) := by decide +kernel
theorem d_Mo_spillsOf_2 : decode yMo_spillsOf.2.1 2 = .ok (.invokevirtual 339, 3) := by decide +kernel
theorem d_Mo_spillsOf_5 : decode yMo_spillsOf.2.1 5 = .ok (.aload_n 0, 1) := by decide +kernel
theorem d_Mo_spillsOf_6 : decode yMo_spillsOf.2.1 6 = .ok (.iconst 2, 1) := by decide +kernel
theorem d_Mo_spillsOf_7 : decode yMo_spillsOf.2.1 7 = .ok (.bipush 100, 2) := by decide +kernel
theorem d_Mo_spillsOf_9 : decode yMo_spillsOf.2.1 9 = .ok (.bipush 10, 2) := by decide +kernel
theorem d_Mo_spillsOf_11 : decode yMo_spillsOf.2.1 11 = .ok (.aload_n 0, 1) := by decide +kernel
theorem d_Mo_spillsOf_12 : decode yMo_spillsOf.2.1 12 = .ok (.getfield 77, 3) := by decide +kernel
theorem d_Mo_spillsOf_15 : decode yMo_spillsOf.2.1 15 = .ok (.iconst 3, 1) := by decide +kernel
theorem d_Mo_spillsOf_16 : decode yMo_spillsOf.2.1 16 = .ok (.iaload, 1) := by decide +kernel
theorem d_Mo_spillsOf_17 : decode yMo_spillsOf.2.1 17 = .ok (.imul, 1) := by decide +kernel
theorem d_Mo_spillsOf_18 : decode yMo_spillsOf.2.1 18 = .ok (.isub, 1) := by decide +kernel
theorem d_Mo_spillsOf_19 : decode yMo_spillsOf.2.1 19 = .ok (.aload_n 0, 1) := by decide +kernel
theorem d_Mo_spillsOf_20 : decode yMo_spillsOf.2.1 20 = .ok (.getfield 7, 3) := by decide +kernel
theorem d_Mo_spillsOf_23 : decode yMo_spillsOf.2.1 23 = .ok (.bipush 40, 2) := by decide +kernel
theorem d_Mo_spillsOf_25 : decode yMo_spillsOf.2.1 25 = .ok (.iload_n 1, 1) := by decide +kernel
theorem d_Mo_spillsOf_26 : decode yMo_spillsOf.2.1 26 = .ok (.iadd, 1) := by decide +kernel
theorem d_Mo_spillsOf_27 : decode yMo_spillsOf.2.1 27 = .ok (.iaload, 1) := by decide +kernel
theorem d_Mo_spillsOf_28 : decode yMo_spillsOf.2.1 28 = .ok (.iadd, 1) := by decide +kernel
theorem d_Mo_spillsOf_29 : decode yMo_spillsOf.2.1 29 = .ok (.sipush 1000, 3) := by decide +kernel
theorem d_Mo_spillsOf_32 : decode yMo_spillsOf.2.1 32 = .ok (.invokevirtual 342, 3) := by decide +kernel
theorem d_Mo_spillsOf_35 : decode yMo_spillsOf.2.1 35 = .ok (.ireturn, 1) := by decide +kernel
def F_Mo_spillsOf (x1 : Int32) (I : gb_Mem) : Option (Int32 × gb_Mem) :=
  fbd (F_Mo_asks x1 I) fun I1 =>
  flod I1 1 80 (40 + x1) fun v2 =>
  fbd (F_Mo_lawTells 2 ((100 - (10 * (I1 22 3))) + v2) 1000 I1) fun (r4, I3) =>
  some (r4, I3)
set_option maxRecDepth 4000 in
theorem c_Mo_spillsOf (l : Launch) (d0 : Nat) (x1 : Int32) (I : gb_Mem) {rz : Int32} {Iz : gb_Mem} (h : F_Mo_spillsOf x1 I = some (rz, Iz)) : gb_Cs l yMo_spillsOf (d0 + 4) [.inr (some 0), .inl x1] shM I (some (.inl rz)) Iz := by
  refine gb_Ct.of (lv := [(0, .inr (some 0)), (1, .inl x1)]) rfl (Nat.le_of_ble_eq_true rfl) rfl ?_
  unfold F_Mo_spillsOf at h
  show gb_Go l yMo_spillsOf (d0 + 4) 0 0 0 [(0, .inr (some 0)), (1, .inl x1)] [] shM I (gb_po shM (some (.inl rz)) Iz)
  refine go_aload_n (k := 0) d_Mo_spillsOf_0 rfl rfl ?_
  refine go_iload_n (k := 1) d_Mo_spillsOf_1 rfl rfl ?_
  obtain ⟨I1, w1, h⟩ := fbd_e h
  refine go_callV (y := yMo_asks) (asr := [.inl x1]) (v := none) (I' := I1) (st1 := []) d_Mo_spillsOf_2 s_yMo_asks m_Mo_339 a_M_0 rfl rfl rfl (Nat.le_of_ble_eq_true rfl) rfl rfl (c_Mo_asks l (d0 + 2) x1 I w1) ?_
  refine go_aload_n (k := 0) d_Mo_spillsOf_5 rfl rfl ?_
  refine go_iconst (v := 2) d_Mo_spillsOf_6 (by decide) ?_
  refine go_bipush (v := 100) d_Mo_spillsOf_7 (by decide) ?_
  refine go_bipush (v := 10) d_Mo_spillsOf_9 (by decide) ?_
  refine go_aload_n (k := 0) d_Mo_spillsOf_11 rfl rfl ?_
  refine go_getr (ci := 10) (k := 41) (r := 22) d_Mo_spillsOf_12 a_M_0 rfl (by decide) f_Mo_77 rfl ?_
  refine go_iconst (v := 3) d_Mo_spillsOf_15 (by decide) ?_
  refine go_iald2 (v := I1 22 3) d_Mo_spillsOf_16 a_M_22 (inb_iff.mp (by decide)) rfl ?_
  refine go_imul d_Mo_spillsOf_17 ?_
  refine go_isub d_Mo_spillsOf_18 ?_
  refine go_aload_n (k := 0) d_Mo_spillsOf_19 rfl rfl ?_
  refine go_getr (ci := 10) (k := 1) (r := 1) d_Mo_spillsOf_20 a_M_0 rfl (by decide) f_Mo_7 rfl ?_
  refine go_bipush (v := 40) d_Mo_spillsOf_23 (by decide) ?_
  refine go_iload_n (k := 1) d_Mo_spillsOf_25 rfl rfl ?_
  refine go_iadd d_Mo_spillsOf_26 ?_
  obtain ⟨hi, v2, ev2, h⟩ := flod_e h
  refine go_iald2 d_Mo_spillsOf_27 a_M_1 hi ev2 ?_
  refine go_iadd d_Mo_spillsOf_28 ?_
  refine go_sipush (v := 1000) d_Mo_spillsOf_29 (by decide) ?_
  obtain ⟨⟨r4, I3⟩, w1, h⟩ := fbd_e h
  try dsimp only at h
  refine go_callV (y := yMo_lawTells) (asr := [.inl 2, .inl ((100 - (10 * (I1 22 3))) + v2), .inl 1000]) (v := some (.inl r4)) (I' := I3) (st1 := [.inl r4]) d_Mo_spillsOf_32 s_yMo_lawTells m_Mo_342 a_M_0 rfl rfl rfl (Nat.le_of_ble_eq_true rfl) rfl rfl (c_Mo_lawTells l (d0 + 0) 2 ((100 - (10 * (I1 22 3))) + v2) 1000 I1 w1) ?_
  cases h
  exact go_ireturn d_Mo_spillsOf_35 rfl gb_po_i
theorem d_Mo_mightSpill_0 : decode yMo_mightSpill.2.1 0 = .ok (.aload_n 0, 1) := by decide +kernel
theorem d_Mo_mightSpill_1 : decode yMo_mightSpill.2.1 1 = .ok (.iload_n 1, 1) := by decide +kernel
theorem d_Mo_mightSpill_2 : decode yMo_mightSpill.2.1 2 = .ok (.invokevirtual 367, 3) := by decide +kernel
theorem d_Mo_mightSpill_5 : decode yMo_mightSpill.2.1 5 = .ok (.istore_n 2, 1) := by decide +kernel
theorem d_Mo_mightSpill_6 : decode yMo_mightSpill.2.1 6 = .ok (.iload_n 2, 1) := by decide +kernel
theorem d_Mo_mightSpill_7 : decode yMo_mightSpill.2.1 7 = .ok (.ifCond .eq 11, 3) := by decide +kernel
theorem d_Mo_mightSpill_10 : decode yMo_mightSpill.2.1 10 = .ok (.aload_n 0, 1) := by decide +kernel
theorem d_Mo_mightSpill_11 : decode yMo_mightSpill.2.1 11 = .ok (.iload_n 2, 1) := by decide +kernel
theorem d_Mo_mightSpill_12 : decode yMo_mightSpill.2.1 12 = .ok (.invokevirtual 370, 3) := by decide +kernel
theorem d_Mo_mightSpill_15 : decode yMo_mightSpill.2.1 15 = .ok (.ifCond .ne 4, 3) := by decide +kernel
theorem d_Mo_mightSpill_18 : decode yMo_mightSpill.2.1 18 = .ok (.return_, 1) := by decide +kernel
theorem d_Mo_mightSpill_19 : decode yMo_mightSpill.2.1 19 = .ok (.aload_n 0, 1) := by decide +kernel
theorem d_Mo_mightSpill_20 : decode yMo_mightSpill.2.1 20 = .ok (.getfield 7, 3) := by decide +kernel
theorem d_Mo_mightSpill_23 : decode yMo_mightSpill.2.1 23 = .ok (.bipush 40, 2) := by decide +kernel
theorem d_Mo_mightSpill_25 : decode yMo_mightSpill.2.1 25 = .ok (.iload_n 1, 1) := by decide +kernel
theorem d_Mo_mightSpill_26 : decode yMo_mightSpill.2.1 26 = .ok (.iadd, 1) := by decide +kernel
theorem d_Mo_mightSpill_27 : decode yMo_mightSpill.2.1 27 = .ok (.iaload, 1) := by decide +kernel
theorem d_Mo_mightSpill_28 : decode yMo_mightSpill.2.1 28 = .ok (.iconst 2, 1) := by decide +kernel
theorem d_Mo_mightSpill_29 : decode yMo_mightSpill.2.1 29 = .ok (.iadd, 1) := by decide +kernel
theorem d_Mo_mightSpill_30 : decode yMo_mightSpill.2.1 30 = .ok (.iconst 3, 1) := by decide +kernel
theorem d_Mo_mightSpill_31 : decode yMo_mightSpill.2.1 31 = .ok (.idiv, 1) := by decide +kernel
theorem d_Mo_mightSpill_32 : decode yMo_mightSpill.2.1 32 = .ok (.istore_n 3, 1) := by decide +kernel
theorem d_Mo_mightSpill_33 : decode yMo_mightSpill.2.1 33 = .ok (.aload_n 0, 1) := by decide +kernel
theorem d_Mo_mightSpill_34 : decode yMo_mightSpill.2.1 34 = .ok (.getfield 7, 3) := by decide +kernel
theorem d_Mo_mightSpill_37 : decode yMo_mightSpill.2.1 37 = .ok (.bipush 48, 2) := by decide +kernel
theorem d_Mo_mightSpill_39 : decode yMo_mightSpill.2.1 39 = .ok (.iload_n 1, 1) := by decide +kernel
theorem d_Mo_mightSpill_40 : decode yMo_mightSpill.2.1 40 = .ok (.iadd, 1) := by decide +kernel
theorem d_Mo_mightSpill_41 : decode yMo_mightSpill.2.1 41 = .ok (.iaload, 1) := by decide +kernel
theorem d_Mo_mightSpill_42 : decode yMo_mightSpill.2.1 42 = .ok (.istore 4, 2) := by decide +kernel
theorem d_Mo_mightSpill_44 : decode yMo_mightSpill.2.1 44 = .ok (.aload_n 0, 1) := by decide +kernel
theorem d_Mo_mightSpill_45 : decode yMo_mightSpill.2.1 45 = .ok (.getfield 7, 3) := by decide +kernel
theorem d_Mo_mightSpill_48 : decode yMo_mightSpill.2.1 48 = .ok (.bipush 40, 2) := by decide +kernel
theorem d_Mo_mightSpill_50 : decode yMo_mightSpill.2.1 50 = .ok (.iload_n 1, 1) := by decide +kernel
theorem d_Mo_mightSpill_51 : decode yMo_mightSpill.2.1 51 = .ok (.iadd, 1) := by decide +kernel
theorem d_Mo_mightSpill_52 : decode yMo_mightSpill.2.1 52 = .ok (.aload_n 0, 1) := by decide +kernel
theorem d_Mo_mightSpill_53 : decode yMo_mightSpill.2.1 53 = .ok (.getfield 7, 3) := by decide +kernel
theorem d_Mo_mightSpill_56 : decode yMo_mightSpill.2.1 56 = .ok (.bipush 40, 2) := by decide +kernel
theorem d_Mo_mightSpill_58 : decode yMo_mightSpill.2.1 58 = .ok (.iload_n 1, 1) := by decide +kernel
theorem d_Mo_mightSpill_59 : decode yMo_mightSpill.2.1 59 = .ok (.iadd, 1) := by decide +kernel
theorem d_Mo_mightSpill_60 : decode yMo_mightSpill.2.1 60 = .ok (.iaload, 1) := by decide +kernel
theorem d_Mo_mightSpill_61 : decode yMo_mightSpill.2.1 61 = .ok (.iload_n 3, 1) := by decide +kernel
theorem d_Mo_mightSpill_62 : decode yMo_mightSpill.2.1 62 = .ok (.isub, 1) := by decide +kernel
theorem d_Mo_mightSpill_63 : decode yMo_mightSpill.2.1 63 = .ok (.iastore, 1) := by decide +kernel
theorem d_Mo_mightSpill_64 : decode yMo_mightSpill.2.1 64 = .ok (.aload_n 0, 1) := by decide +kernel
theorem d_Mo_mightSpill_65 : decode yMo_mightSpill.2.1 65 = .ok (.getfield 7, 3) := by decide +kernel
theorem d_Mo_mightSpill_68 : decode yMo_mightSpill.2.1 68 = .ok (.bipush 18, 2) := by decide +kernel
theorem d_Mo_mightSpill_70 : decode yMo_mightSpill.2.1 70 = .ok (.iload 4, 2) := by decide +kernel
theorem d_Mo_mightSpill_72 : decode yMo_mightSpill.2.1 72 = .ok (.iadd, 1) := by decide +kernel
theorem d_Mo_mightSpill_73 : decode yMo_mightSpill.2.1 73 = .ok (.aload_n 0, 1) := by decide +kernel
theorem d_Mo_mightSpill_74 : decode yMo_mightSpill.2.1 74 = .ok (.sipush 999, 3) := by decide +kernel
theorem d_Mo_mightSpill_77 : decode yMo_mightSpill.2.1 77 = .ok (.aload_n 0, 1) := by decide +kernel
theorem d_Mo_mightSpill_78 : decode yMo_mightSpill.2.1 78 = .ok (.getfield 7, 3) := by decide +kernel
theorem d_Mo_mightSpill_81 : decode yMo_mightSpill.2.1 81 = .ok (.bipush 18, 2) := by decide +kernel
theorem d_Mo_mightSpill_83 : decode yMo_mightSpill.2.1 83 = .ok (.iload 4, 2) := by decide +kernel
theorem d_Mo_mightSpill_85 : decode yMo_mightSpill.2.1 85 = .ok (.iadd, 1) := by decide +kernel
theorem d_Mo_mightSpill_86 : decode yMo_mightSpill.2.1 86 = .ok (.iaload, 1) := by decide +kernel
theorem d_Mo_mightSpill_87 : decode yMo_mightSpill.2.1 87 = .ok (.iload_n 3, 1) := by decide +kernel
theorem d_Mo_mightSpill_88 : decode yMo_mightSpill.2.1 88 = .ok (.iadd, 1) := by decide +kernel
theorem d_Mo_mightSpill_89 : decode yMo_mightSpill.2.1 89 = .ok (.invokevirtual 364, 3) := by decide +kernel
theorem d_Mo_mightSpill_92 : decode yMo_mightSpill.2.1 92 = .ok (.iastore, 1) := by decide +kernel
theorem d_Mo_mightSpill_93 : decode yMo_mightSpill.2.1 93 = .ok (.iload_n 3, 1) := by decide +kernel
theorem d_Mo_mightSpill_94 : decode yMo_mightSpill.2.1 94 = .ok (.ifCond .le 10, 3) := by decide +kernel
theorem d_Mo_mightSpill_97 : decode yMo_mightSpill.2.1 97 = .ok (.aload_n 0, 1) := by decide +kernel
theorem d_Mo_mightSpill_98 : decode yMo_mightSpill.2.1 98 = .ok (.iconst 1, 1) := by decide +kernel
theorem d_Mo_mightSpill_99 : decode yMo_mightSpill.2.1 99 = .ok (.iload_n 1, 1) := by decide +kernel
theorem d_Mo_mightSpill_100 : decode yMo_mightSpill.2.1 100 = .ok (.iload_n 3, 1) := by decide +kernel
theorem d_Mo_mightSpill_101 : decode yMo_mightSpill.2.1 101 = .ok (.invokevirtual 354, 3) := by decide +kernel
theorem d_Mo_mightSpill_104 : decode yMo_mightSpill.2.1 104 = .ok (.return_, 1) := by decide +kernel
def F_Mo_mightSpill (x1 : Int32) (I : gb_Mem) : Option (gb_Mem) :=
  fbd (F_Mo_spillsOf x1 I) fun (r2, I1) =>
  if r2 = 0 then
    some I1
  else
    fbd (F_Mo_comes r2 I1) fun (r4, I3) =>
    if r4 = 0 then
      some I3
    else
      flod I3 1 80 (40 + x1) fun v5 =>
      flod I3 1 80 (48 + x1) fun v6 =>
      flod I3 1 80 (40 + x1) fun v7 =>
      fsto I3 1 80 (40 + x1) (v7 - ((v5 + 2) / 3)) fun I8 =>
      flod I8 1 80 (18 + v6) fun v9 =>
      fsto I8 1 80 (18 + v6) (F_Mo_lesser 999 (v9 + ((v5 + 2) / 3)) I8) fun I10 =>
      if ((v5 + 2) / 3) ≤ 0 then
        some I10
      else
        fbd (F_Mo_notes 1 x1 ((v5 + 2) / 3) I10) fun I11 =>
        some I11
set_option maxRecDepth 4000 in
theorem c_Mo_mightSpill (l : Launch) (d0 : Nat) (x1 : Int32) (I : gb_Mem) {Iz : gb_Mem} (h : F_Mo_mightSpill x1 I = some Iz) : gb_Cs l yMo_mightSpill (d0 + 5) [.inr (some 0), .inl x1] shM I none Iz := by
  refine gb_Ct.of (lv := [(0, .inr (some 0)), (1, .inl x1)]) rfl (Nat.le_of_ble_eq_true rfl) rfl ?_
  unfold F_Mo_mightSpill at h
  show gb_Go l yMo_mightSpill (d0 + 5) 0 0 0 [(0, .inr (some 0)), (1, .inl x1)] [] shM I (gb_po shM none Iz)
  refine go_aload_n (k := 0) d_Mo_mightSpill_0 rfl rfl ?_
  refine go_iload_n (k := 1) d_Mo_mightSpill_1 rfl rfl ?_
  obtain ⟨⟨r2, I1⟩, w1, h⟩ := fbd_e h
  try dsimp only at h
  refine go_callV (y := yMo_spillsOf) (asr := [.inl x1]) (v := some (.inl r2)) (I' := I1) (st1 := [.inl r2]) d_Mo_mightSpill_2 s_yMo_spillsOf m_Mo_367 a_M_0 rfl rfl rfl (Nat.le_of_ble_eq_true rfl) rfl rfl (c_Mo_spillsOf l (d0 + 0) x1 I w1) ?_
  refine go_istore_n (lv' := [(2, .inl r2), (0, .inr (some 0)), (1, .inl x1)]) d_Mo_mightSpill_5 rfl (by decide) rfl ?_
  refine go_iload_n (k := 0) d_Mo_mightSpill_6 rfl rfl ?_
  refine go_if_eq (tgt := 18) d_Mo_mightSpill_7 (by decide) (fun hc => ?_) (fun hc => ?_)
  · rw [if_pos hc] at h
    cases h
    exact go_return d_Mo_mightSpill_18 rfl gb_po_i
  · rw [if_neg hc] at h
    refine go_aload_n (k := 1) d_Mo_mightSpill_10 rfl rfl ?_
    refine go_iload_n (k := 0) d_Mo_mightSpill_11 rfl rfl ?_
    obtain ⟨⟨r4, I3⟩, w1, h⟩ := fbd_e h
    try dsimp only at h
    refine go_callV (y := yMo_comes) (asr := [.inl r2]) (v := some (.inl r4)) (I' := I3) (st1 := [.inl r4]) d_Mo_mightSpill_12 s_yMo_comes m_Mo_370 a_M_0 rfl rfl rfl (Nat.le_of_ble_eq_true rfl) rfl rfl (c_Mo_comes l (d0 + 3) r2 I1 w1) ?_
    refine go_if_ne (tgt := 19) d_Mo_mightSpill_15 (by decide) (fun hc => ?_) (fun hc => ?_)
    · rw [if_neg hc] at h
      refine go_aload_n (k := 1) d_Mo_mightSpill_19 rfl rfl ?_
      refine go_getr (ci := 10) (k := 1) (r := 1) d_Mo_mightSpill_20 a_M_0 rfl (by decide) f_Mo_7 rfl ?_
      refine go_bipush (v := 40) d_Mo_mightSpill_23 (by decide) ?_
      refine go_iload_n (k := 2) d_Mo_mightSpill_25 rfl rfl ?_
      refine go_iadd d_Mo_mightSpill_26 ?_
      obtain ⟨hi, v5, ev5, h⟩ := flod_e h
      refine go_iald2 d_Mo_mightSpill_27 a_M_1 hi ev5 ?_
      refine go_iconst (v := 2) d_Mo_mightSpill_28 (by decide) ?_
      refine go_iadd d_Mo_mightSpill_29 ?_
      refine go_iconst (v := 3) d_Mo_mightSpill_30 (by decide) ?_
      refine go_idiv d_Mo_mightSpill_31 (by decide) ?_
      refine go_istore_n (lv' := [(3, .inl ((v5 + 2) / 3)), (2, .inl r2), (0, .inr (some 0)), (1, .inl x1)]) d_Mo_mightSpill_32 rfl (by decide) rfl ?_
      refine go_aload_n (k := 2) d_Mo_mightSpill_33 rfl rfl ?_
      refine go_getr (ci := 10) (k := 1) (r := 1) d_Mo_mightSpill_34 a_M_0 rfl (by decide) f_Mo_7 rfl ?_
      refine go_bipush (v := 48) d_Mo_mightSpill_37 (by decide) ?_
      refine go_iload_n (k := 3) d_Mo_mightSpill_39 rfl rfl ?_
      refine go_iadd d_Mo_mightSpill_40 ?_
      obtain ⟨hi, v6, ev6, h⟩ := flod_e h
      refine go_iald2 d_Mo_mightSpill_41 a_M_1 hi ev6 ?_
      refine go_istore (lv' := [(4, .inl v6), (3, .inl ((v5 + 2) / 3)), (2, .inl r2), (0, .inr (some 0)), (1, .inl x1)]) d_Mo_mightSpill_42 (by decide) rfl ?_
      refine go_aload_n (k := 3) d_Mo_mightSpill_44 rfl rfl ?_
      refine go_getr (ci := 10) (k := 1) (r := 1) d_Mo_mightSpill_45 a_M_0 rfl (by decide) f_Mo_7 rfl ?_
      refine go_bipush (v := 40) d_Mo_mightSpill_48 (by decide) ?_
      refine go_iload_n (k := 4) d_Mo_mightSpill_50 rfl rfl ?_
      refine go_iadd d_Mo_mightSpill_51 ?_
      refine go_aload_n (k := 3) d_Mo_mightSpill_52 rfl rfl ?_
      refine go_getr (ci := 10) (k := 1) (r := 1) d_Mo_mightSpill_53 a_M_0 rfl (by decide) f_Mo_7 rfl ?_
      refine go_bipush (v := 40) d_Mo_mightSpill_56 (by decide) ?_
      refine go_iload_n (k := 4) d_Mo_mightSpill_58 rfl rfl ?_
      refine go_iadd d_Mo_mightSpill_59 ?_
      obtain ⟨hi, v7, ev7, h⟩ := flod_e h
      refine go_iald2 d_Mo_mightSpill_60 a_M_1 hi ev7 ?_
      refine go_iload_n (k := 1) d_Mo_mightSpill_61 rfl rfl ?_
      refine go_isub d_Mo_mightSpill_62 ?_
      obtain ⟨hi, I8, eI8, h⟩ := fsto_e h
      refine go_iast (I' := I8) d_Mo_mightSpill_63 a_M_1 hi eI8 ?_
      refine go_aload_n (k := 3) d_Mo_mightSpill_64 rfl rfl ?_
      refine go_getr (ci := 10) (k := 1) (r := 1) d_Mo_mightSpill_65 a_M_0 rfl (by decide) f_Mo_7 rfl ?_
      refine go_bipush (v := 18) d_Mo_mightSpill_68 (by decide) ?_
      refine go_iload (k := 0) d_Mo_mightSpill_70 rfl ?_
      refine go_iadd d_Mo_mightSpill_72 ?_
      refine go_aload_n (k := 3) d_Mo_mightSpill_73 rfl rfl ?_
      refine go_sipush (v := 999) d_Mo_mightSpill_74 (by decide) ?_
      refine go_aload_n (k := 3) d_Mo_mightSpill_77 rfl rfl ?_
      refine go_getr (ci := 10) (k := 1) (r := 1) d_Mo_mightSpill_78 a_M_0 rfl (by decide) f_Mo_7 rfl ?_
      refine go_bipush (v := 18) d_Mo_mightSpill_81 (by decide) ?_
      refine go_iload (k := 0) d_Mo_mightSpill_83 rfl ?_
      refine go_iadd d_Mo_mightSpill_85 ?_
      obtain ⟨hi, v9, ev9, h⟩ := flod_e h
      refine go_iald2 d_Mo_mightSpill_86 a_M_1 hi ev9 ?_
      refine go_iload_n (k := 1) d_Mo_mightSpill_87 rfl rfl ?_
      refine go_iadd d_Mo_mightSpill_88 ?_
      refine go_callV (y := yMo_lesser) (asr := [.inl 999, .inl (v9 + ((v5 + 2) / 3))]) (v := some (.inl (F_Mo_lesser 999 (v9 + ((v5 + 2) / 3)) I8))) (I' := I8) (st1 := [.inl (F_Mo_lesser 999 (v9 + ((v5 + 2) / 3)) I8), .inl (18 + v6), .inr (some 1)]) d_Mo_mightSpill_89 s_yMo_lesser m_Mo_364 a_M_0 rfl rfl rfl (Nat.le_of_ble_eq_true rfl) rfl rfl (c_Mo_lesser l (d0 + 4) 999 (v9 + ((v5 + 2) / 3)) I8) ?_
      obtain ⟨hi, I10, eI10, h⟩ := fsto_e h
      refine go_iast (I' := I10) d_Mo_mightSpill_92 a_M_1 hi eI10 ?_
      refine go_iload_n (k := 1) d_Mo_mightSpill_93 rfl rfl ?_
      refine go_if_le (tgt := 104) d_Mo_mightSpill_94 (by decide) (fun hc => ?_) (fun hc => ?_)
      · rw [if_pos hc] at h
        cases h
        exact go_return d_Mo_mightSpill_104 rfl gb_po_i
      · rw [if_neg hc] at h
        refine go_aload_n (k := 3) d_Mo_mightSpill_97 rfl rfl ?_
        refine go_iconst (v := 1) d_Mo_mightSpill_98 (by decide) ?_
        refine go_iload_n (k := 4) d_Mo_mightSpill_99 rfl rfl ?_
        refine go_iload_n (k := 1) d_Mo_mightSpill_100 rfl rfl ?_
        obtain ⟨I11, w1, h⟩ := fbd_e h
        refine go_callV (y := yMo_notes) (asr := [.inl 1, .inl x1, .inl ((v5 + 2) / 3)]) (v := none) (I' := I11) (st1 := []) d_Mo_mightSpill_101 s_yMo_notes m_Mo_354 a_M_0 rfl rfl rfl (Nat.le_of_ble_eq_true rfl) rfl rfl (c_Mo_notes l (d0 + 4) 1 x1 ((v5 + 2) / 3) I10 w1) ?_
        cases h
        exact go_return d_Mo_mightSpill_104 rfl gb_po_i
    · rw [if_pos hc] at h
      cases h
      exact go_return d_Mo_mightSpill_18 rfl gb_po_i
theorem d_Mo_of_0 : decode yMo_of.2.1 0 = .ok (.aload_n 0, 1) := by decide +kernel
theorem d_Mo_of_1 : decode yMo_of.2.1 1 = .ok (.iconst 0, 1) := by decide +kernel
theorem d_Mo_of_2 : decode yMo_of.2.1 2 = .ok (.putfield 137, 3) := by decide +kernel
theorem d_Mo_of_5 : decode yMo_of.2.1 5 = .ok (.aload_n 0, 1) := by decide +kernel
theorem d_Mo_of_6 : decode yMo_of.2.1 6 = .ok (.iload_n 1, 1) := by decide +kernel
theorem d_Mo_of_7 : decode yMo_of.2.1 7 = .ok (.invokevirtual 165, 3) := by decide +kernel
theorem d_Mo_of_10 : decode yMo_of.2.1 10 = .ok (.ifCond .ne 5, 3) := by decide +kernel
theorem d_Mo_of_13 : decode yMo_of.2.1 13 = .ok (.iconst (-1), 1) := by decide +kernel
theorem d_Mo_of_14 : decode yMo_of.2.1 14 = .ok (.ireturn, 1) := by decide +kernel
theorem d_Mo_of_15 : decode yMo_of.2.1 15 = .ok (.iload_n 2, 1) := by decide +kernel
theorem d_Mo_of_16 : decode yMo_of.2.1 16 = .ok (.ifCond .ne 10, 3) := by decide +kernel
theorem d_Mo_of_19 : decode yMo_of.2.1 19 = .ok (.aload_n 0, 1) := by decide +kernel
theorem d_Mo_of_20 : decode yMo_of.2.1 20 = .ok (.getfield 28, 3) := by decide +kernel
theorem d_Mo_of_23 : decode yMo_of.2.1 23 = .ok (.iload_n 1, 1) := by decide +kernel
theorem d_Mo_of_24 : decode yMo_of.2.1 24 = .ok (.iaload, 1) := by decide +kernel
theorem d_Mo_of_25 : decode yMo_of.2.1 25 = .ok (.ireturn, 1) := by decide +kernel
theorem d_Mo_of_26 : decode yMo_of.2.1 26 = .ok (.iload_n 2, 1) := by decide +kernel
theorem d_Mo_of_27 : decode yMo_of.2.1 27 = .ok (.iconst 1, 1) := by decide +kernel
theorem d_Mo_of_28 : decode yMo_of.2.1 28 = .ok (.if_icmp .ne 13, 3) := by decide +kernel
theorem d_Mo_of_31 : decode yMo_of.2.1 31 = .ok (.aload_n 0, 1) := by decide +kernel
theorem d_Mo_of_32 : decode yMo_of.2.1 32 = .ok (.getfield 7, 3) := by decide +kernel
theorem d_Mo_of_35 : decode yMo_of.2.1 35 = .ok (.bipush 40, 2) := by decide +kernel
theorem d_Mo_of_37 : decode yMo_of.2.1 37 = .ok (.iload_n 1, 1) := by decide +kernel
theorem d_Mo_of_38 : decode yMo_of.2.1 38 = .ok (.iadd, 1) := by decide +kernel
theorem d_Mo_of_39 : decode yMo_of.2.1 39 = .ok (.iaload, 1) := by decide +kernel
theorem d_Mo_of_40 : decode yMo_of.2.1 40 = .ok (.ireturn, 1) := by decide +kernel
theorem d_Mo_of_41 : decode yMo_of.2.1 41 = .ok (.iload_n 2, 1) := by decide +kernel
theorem d_Mo_of_42 : decode yMo_of.2.1 42 = .ok (.iconst 2, 1) := by decide +kernel
theorem d_Mo_of_43 : decode yMo_of.2.1 43 = .ok (.if_icmp .ne 13, 3) := by decide +kernel
theorem d_Mo_of_46 : decode yMo_of.2.1 46 = .ok (.aload_n 0, 1) := by decide +kernel
theorem d_Mo_of_47 : decode yMo_of.2.1 47 = .ok (.getfield 7, 3) := by decide +kernel
theorem d_Mo_of_50 : decode yMo_of.2.1 50 = .ok (.bipush 48, 2) := by decide +kernel
theorem d_Mo_of_52 : decode yMo_of.2.1 52 = .ok (.iload_n 1, 1) := by decide +kernel
theorem d_Mo_of_53 : decode yMo_of.2.1 53 = .ok (.iadd, 1) := by decide +kernel
theorem d_Mo_of_54 : decode yMo_of.2.1 54 = .ok (.iaload, 1) := by decide +kernel
theorem d_Mo_of_55 : decode yMo_of.2.1 55 = .ok (.ireturn, 1) := by decide +kernel
theorem d_Mo_of_56 : decode yMo_of.2.1 56 = .ok (.iload_n 2, 1) := by decide +kernel
theorem d_Mo_of_57 : decode yMo_of.2.1 57 = .ok (.iconst 3, 1) := by decide +kernel
theorem d_Mo_of_58 : decode yMo_of.2.1 58 = .ok (.if_icmp .ne 13, 3) := by decide +kernel
theorem d_Mo_of_61 : decode yMo_of.2.1 61 = .ok (.aload_n 0, 1) := by decide +kernel
theorem d_Mo_of_62 : decode yMo_of.2.1 62 = .ok (.getfield 7, 3) := by decide +kernel
theorem d_Mo_of_65 : decode yMo_of.2.1 65 = .ok (.bipush 56, 2) := by decide +kernel
theorem d_Mo_of_67 : decode yMo_of.2.1 67 = .ok (.iload_n 1, 1) := by decide +kernel
theorem d_Mo_of_68 : decode yMo_of.2.1 68 = .ok (.iadd, 1) := by decide +kernel
theorem d_Mo_of_69 : decode yMo_of.2.1 69 = .ok (.iaload, 1) := by decide +kernel
theorem d_Mo_of_70 : decode yMo_of.2.1 70 = .ok (.ireturn, 1) := by decide +kernel
theorem d_Mo_of_71 : decode yMo_of.2.1 71 = .ok (.iload_n 2, 1) := by decide +kernel
theorem d_Mo_of_72 : decode yMo_of.2.1 72 = .ok (.iconst 4, 1) := by decide +kernel
theorem d_Mo_of_73 : decode yMo_of.2.1 73 = .ok (.if_icmp .ne 13, 3) := by decide +kernel
theorem d_Mo_of_76 : decode yMo_of.2.1 76 = .ok (.aload_n 0, 1) := by decide +kernel
theorem d_Mo_of_77 : decode yMo_of.2.1 77 = .ok (.getfield 7, 3) := by decide +kernel
theorem d_Mo_of_80 : decode yMo_of.2.1 80 = .ok (.bipush 64, 2) := by decide +kernel
theorem d_Mo_of_82 : decode yMo_of.2.1 82 = .ok (.iload_n 1, 1) := by decide +kernel
theorem d_Mo_of_83 : decode yMo_of.2.1 83 = .ok (.iadd, 1) := by decide +kernel
theorem d_Mo_of_84 : decode yMo_of.2.1 84 = .ok (.iaload, 1) := by decide +kernel
theorem d_Mo_of_85 : decode yMo_of.2.1 85 = .ok (.ireturn, 1) := by decide +kernel
theorem d_Mo_of_86 : decode yMo_of.2.1 86 = .ok (.iload_n 2, 1) := by decide +kernel
theorem d_Mo_of_87 : decode yMo_of.2.1 87 = .ok (.iconst 5, 1) := by decide +kernel
theorem d_Mo_of_88 : decode yMo_of.2.1 88 = .ok (.if_icmp .ne 13, 3) := by decide +kernel
theorem d_Mo_of_91 : decode yMo_of.2.1 91 = .ok (.aload_n 0, 1) := by decide +kernel
theorem d_Mo_of_92 : decode yMo_of.2.1 92 = .ok (.getfield 7, 3) := by decide +kernel
theorem d_Mo_of_95 : decode yMo_of.2.1 95 = .ok (.bipush 72, 2) := by decide +kernel
theorem d_Mo_of_97 : decode yMo_of.2.1 97 = .ok (.iload_n 1, 1) := by decide +kernel
theorem d_Mo_of_98 : decode yMo_of.2.1 98 = .ok (.iadd, 1) := by decide +kernel
theorem d_Mo_of_99 : decode yMo_of.2.1 99 = .ok (.iaload, 1) := by decide +kernel
theorem d_Mo_of_100 : decode yMo_of.2.1 100 = .ok (.ireturn, 1) := by decide +kernel
theorem d_Mo_of_101 : decode yMo_of.2.1 101 = .ok (.iload_n 2, 1) := by decide +kernel
theorem d_Mo_of_102 : decode yMo_of.2.1 102 = .ok (.bipush 6, 2) := by decide +kernel
theorem d_Mo_of_104 : decode yMo_of.2.1 104 = .ok (.if_icmp .ne 11, 3) := by decide +kernel
theorem d_Mo_of_107 : decode yMo_of.2.1 107 = .ok (.aload_n 0, 1) := by decide +kernel
theorem d_Mo_of_108 : decode yMo_of.2.1 108 = .ok (.iload_n 1, 1) := by decide +kernel
theorem d_Mo_of_109 : decode yMo_of.2.1 109 = .ok (.invokevirtual 376, 3) := by decide +kernel
theorem d_Mo_of_112 : decode yMo_of.2.1 112 = .ok (.goto 32, 3) := by decide +kernel
theorem d_Mo_of_115 : decode yMo_of.2.1 115 = .ok (.iload_n 2, 1) := by decide +kernel
theorem d_Mo_of_116 : decode yMo_of.2.1 116 = .ok (.bipush 7, 2) := by decide +kernel
theorem d_Mo_of_118 : decode yMo_of.2.1 118 = .ok (.if_icmp .ne 11, 3) := by decide +kernel
theorem d_Mo_of_121 : decode yMo_of.2.1 121 = .ok (.aload_n 0, 1) := by decide +kernel
theorem d_Mo_of_122 : decode yMo_of.2.1 122 = .ok (.iload_n 1, 1) := by decide +kernel
theorem d_Mo_of_123 : decode yMo_of.2.1 123 = .ok (.invokevirtual 361, 3) := by decide +kernel
theorem d_Mo_of_126 : decode yMo_of.2.1 126 = .ok (.goto 18, 3) := by decide +kernel
theorem d_Mo_of_129 : decode yMo_of.2.1 129 = .ok (.iload_n 2, 1) := by decide +kernel
theorem d_Mo_of_130 : decode yMo_of.2.1 130 = .ok (.bipush 8, 2) := by decide +kernel
theorem d_Mo_of_132 : decode yMo_of.2.1 132 = .ok (.if_icmp .ne 11, 3) := by decide +kernel
theorem d_Mo_of_135 : decode yMo_of.2.1 135 = .ok (.aload_n 0, 1) := by decide +kernel
theorem d_Mo_of_136 : decode yMo_of.2.1 136 = .ok (.iload_n 1, 1) := by decide +kernel
theorem d_Mo_of_137 : decode yMo_of.2.1 137 = .ok (.invokevirtual 367, 3) := by decide +kernel
theorem d_Mo_of_140 : decode yMo_of.2.1 140 = .ok (.goto 4, 3) := by decide +kernel
theorem d_Mo_of_143 : decode yMo_of.2.1 143 = .ok (.iconst (-1), 1) := by decide +kernel
theorem d_Mo_of_144 : decode yMo_of.2.1 144 = .ok (.ireturn, 1) := by decide +kernel
def F_Mo_of (x1 x2 : Int32) (I : gb_Mem) : Option (Int32 × gb_Mem) :=
  fstf I 0 0 0 fun I1 =>
  if (F_Mo_isBoat x1 I1) = 0 then
    some ((-1), I1)
  else
    if x2 = 0 then
      flod I1 7 8 x1 fun v13 =>
      some (v13, I1)
    else
      if x2 = 1 then
        flod I1 1 80 (40 + x1) fun v12 =>
        some (v12, I1)
      else
        if x2 = 2 then
          flod I1 1 80 (48 + x1) fun v11 =>
          some (v11, I1)
        else
          if x2 = 3 then
            flod I1 1 80 (56 + x1) fun v10 =>
            some (v10, I1)
          else
            if x2 = 4 then
              flod I1 1 80 (64 + x1) fun v9 =>
              some (v9, I1)
            else
              if x2 = 5 then
                flod I1 1 80 (72 + x1) fun v8 =>
                some (v8, I1)
              else
                if x2 = 6 then
                  fbd (F_Mo_passesOf x1 I1) fun (r7, I6) =>
                  some (r7, I6)
                else
                  if x2 = 7 then
                    fbd (F_Mo_poursOf x1 I1) fun (r5, I4) =>
                    some (r5, I4)
                  else
                    if x2 = 8 then
                      fbd (F_Mo_spillsOf x1 I1) fun (r3, I2) =>
                      some (r3, I2)
                    else
                      some ((-1), I1)
set_option maxRecDepth 4000 in
theorem c_Mo_of (l : Launch) (d0 : Nat) (x1 x2 : Int32) (I : gb_Mem) {rz : Int32} {Iz : gb_Mem} (h : F_Mo_of x1 x2 I = some (rz, Iz)) : gb_Cs l yMo_of (d0 + 5) [.inr (some 0), .inl x1, .inl x2] shM I (some (.inl rz)) Iz := by
  refine gb_Ct.of (lv := [(0, .inr (some 0)), (1, .inl x1), (2, .inl x2)]) rfl (Nat.le_of_ble_eq_true rfl) rfl ?_
  unfold F_Mo_of at h
  show gb_Go l yMo_of (d0 + 5) 0 0 0 [(0, .inr (some 0)), (1, .inl x1), (2, .inl x2)] [] shM I (gb_po shM (some (.inl rz)) Iz)
  refine go_aload_n (k := 0) d_Mo_of_0 rfl rfl ?_
  refine go_iconst (v := 0) d_Mo_of_1 (by decide) ?_
  obtain ⟨I1, eI1, h⟩ := fstf_e h
  refine go_putT (ci := 10) (k := 0) (I' := I1) d_Mo_of_2 a_M_0 rfl (by decide) f_Mo_137 rfl rfl rfl rfl rfl eI1 ?_
  refine go_aload_n (k := 0) d_Mo_of_5 rfl rfl ?_
  refine go_iload_n (k := 1) d_Mo_of_6 rfl rfl ?_
  refine go_callV (y := yMo_isBoat) (asr := [.inl x1]) (v := some (.inl (F_Mo_isBoat x1 I1))) (I' := I1) (st1 := [.inl (F_Mo_isBoat x1 I1)]) d_Mo_of_7 s_yMo_isBoat m_Mo_165 a_M_0 rfl rfl rfl (Nat.le_of_ble_eq_true rfl) rfl rfl (c_Mo_isBoat l (d0 + 4) x1 I1) ?_
  refine go_if_ne (tgt := 15) d_Mo_of_10 (by decide) (fun hc => ?_) (fun hc => ?_)
  · rw [if_neg hc] at h
    refine go_iload_n (k := 2) d_Mo_of_15 rfl rfl ?_
    refine go_if_ne (tgt := 26) d_Mo_of_16 (by decide) (fun hc => ?_) (fun hc => ?_)
    · rw [if_neg hc] at h
      refine go_iload_n (k := 2) d_Mo_of_26 rfl rfl ?_
      refine go_iconst (v := 1) d_Mo_of_27 (by decide) ?_
      refine go_cmp_ne (tgt := 41) d_Mo_of_28 (by decide) (fun hc => ?_) (fun hc => ?_)
      · rw [if_neg hc] at h
        refine go_iload_n (k := 2) d_Mo_of_41 rfl rfl ?_
        refine go_iconst (v := 2) d_Mo_of_42 (by decide) ?_
        refine go_cmp_ne (tgt := 56) d_Mo_of_43 (by decide) (fun hc => ?_) (fun hc => ?_)
        · rw [if_neg hc] at h
          refine go_iload_n (k := 2) d_Mo_of_56 rfl rfl ?_
          refine go_iconst (v := 3) d_Mo_of_57 (by decide) ?_
          refine go_cmp_ne (tgt := 71) d_Mo_of_58 (by decide) (fun hc => ?_) (fun hc => ?_)
          · rw [if_neg hc] at h
            refine go_iload_n (k := 2) d_Mo_of_71 rfl rfl ?_
            refine go_iconst (v := 4) d_Mo_of_72 (by decide) ?_
            refine go_cmp_ne (tgt := 86) d_Mo_of_73 (by decide) (fun hc => ?_) (fun hc => ?_)
            · rw [if_neg hc] at h
              refine go_iload_n (k := 2) d_Mo_of_86 rfl rfl ?_
              refine go_iconst (v := 5) d_Mo_of_87 (by decide) ?_
              refine go_cmp_ne (tgt := 101) d_Mo_of_88 (by decide) (fun hc => ?_) (fun hc => ?_)
              · rw [if_neg hc] at h
                refine go_iload_n (k := 2) d_Mo_of_101 rfl rfl ?_
                refine go_bipush (v := 6) d_Mo_of_102 (by decide) ?_
                refine go_cmp_ne (tgt := 115) d_Mo_of_104 (by decide) (fun hc => ?_) (fun hc => ?_)
                · rw [if_neg hc] at h
                  refine go_iload_n (k := 2) d_Mo_of_115 rfl rfl ?_
                  refine go_bipush (v := 7) d_Mo_of_116 (by decide) ?_
                  refine go_cmp_ne (tgt := 129) d_Mo_of_118 (by decide) (fun hc => ?_) (fun hc => ?_)
                  · rw [if_neg hc] at h
                    refine go_iload_n (k := 2) d_Mo_of_129 rfl rfl ?_
                    refine go_bipush (v := 8) d_Mo_of_130 (by decide) ?_
                    refine go_cmp_ne (tgt := 143) d_Mo_of_132 (by decide) (fun hc => ?_) (fun hc => ?_)
                    · rw [if_neg hc] at h
                      refine go_iconst (v := (-1)) d_Mo_of_143 (by decide) ?_
                      cases h
                      exact go_ireturn d_Mo_of_144 rfl gb_po_i
                    · rw [if_pos hc] at h
                      refine go_aload_n (k := 0) d_Mo_of_135 rfl rfl ?_
                      refine go_iload_n (k := 1) d_Mo_of_136 rfl rfl ?_
                      obtain ⟨⟨r3, I2⟩, w1, h⟩ := fbd_e h
                      try dsimp only at h
                      refine go_callV (y := yMo_spillsOf) (asr := [.inl x1]) (v := some (.inl r3)) (I' := I2) (st1 := [.inl r3]) d_Mo_of_137 s_yMo_spillsOf m_Mo_367 a_M_0 rfl rfl rfl (Nat.le_of_ble_eq_true rfl) rfl rfl (c_Mo_spillsOf l (d0 + 0) x1 I1 w1) ?_
                      refine go_goto (tgt := 144) d_Mo_of_140 (by decide) ?_
                      cases h
                      exact go_ireturn d_Mo_of_144 rfl gb_po_i
                  · rw [if_pos hc] at h
                    refine go_aload_n (k := 0) d_Mo_of_121 rfl rfl ?_
                    refine go_iload_n (k := 1) d_Mo_of_122 rfl rfl ?_
                    obtain ⟨⟨r5, I4⟩, w1, h⟩ := fbd_e h
                    try dsimp only at h
                    refine go_callV (y := yMo_poursOf) (asr := [.inl x1]) (v := some (.inl r5)) (I' := I4) (st1 := [.inl r5]) d_Mo_of_123 s_yMo_poursOf m_Mo_361 a_M_0 rfl rfl rfl (Nat.le_of_ble_eq_true rfl) rfl rfl (c_Mo_poursOf l (d0 + 0) x1 I1 w1) ?_
                    refine go_goto (tgt := 144) d_Mo_of_126 (by decide) ?_
                    cases h
                    exact go_ireturn d_Mo_of_144 rfl gb_po_i
                · rw [if_pos hc] at h
                  refine go_aload_n (k := 0) d_Mo_of_107 rfl rfl ?_
                  refine go_iload_n (k := 1) d_Mo_of_108 rfl rfl ?_
                  obtain ⟨⟨r7, I6⟩, w1, h⟩ := fbd_e h
                  try dsimp only at h
                  refine go_callV (y := yMo_passesOf) (asr := [.inl x1]) (v := some (.inl r7)) (I' := I6) (st1 := [.inl r7]) d_Mo_of_109 s_yMo_passesOf m_Mo_376 a_M_0 rfl rfl rfl (Nat.le_of_ble_eq_true rfl) rfl rfl (c_Mo_passesOf l (d0 + 0) x1 I1 w1) ?_
                  refine go_goto (tgt := 144) d_Mo_of_112 (by decide) ?_
                  cases h
                  exact go_ireturn d_Mo_of_144 rfl gb_po_i
              · rw [if_pos hc] at h
                refine go_aload_n (k := 0) d_Mo_of_91 rfl rfl ?_
                refine go_getr (ci := 10) (k := 1) (r := 1) d_Mo_of_92 a_M_0 rfl (by decide) f_Mo_7 rfl ?_
                refine go_bipush (v := 72) d_Mo_of_95 (by decide) ?_
                refine go_iload_n (k := 1) d_Mo_of_97 rfl rfl ?_
                refine go_iadd d_Mo_of_98 ?_
                obtain ⟨hi, v8, ev8, h⟩ := flod_e h
                refine go_iald2 d_Mo_of_99 a_M_1 hi ev8 ?_
                cases h
                exact go_ireturn d_Mo_of_100 rfl gb_po_i
            · rw [if_pos hc] at h
              refine go_aload_n (k := 0) d_Mo_of_76 rfl rfl ?_
              refine go_getr (ci := 10) (k := 1) (r := 1) d_Mo_of_77 a_M_0 rfl (by decide) f_Mo_7 rfl ?_
              refine go_bipush (v := 64) d_Mo_of_80 (by decide) ?_
              refine go_iload_n (k := 1) d_Mo_of_82 rfl rfl ?_
              refine go_iadd d_Mo_of_83 ?_
              obtain ⟨hi, v9, ev9, h⟩ := flod_e h
              refine go_iald2 d_Mo_of_84 a_M_1 hi ev9 ?_
              cases h
              exact go_ireturn d_Mo_of_85 rfl gb_po_i
          · rw [if_pos hc] at h
            refine go_aload_n (k := 0) d_Mo_of_61 rfl rfl ?_
            refine go_getr (ci := 10) (k := 1) (r := 1) d_Mo_of_62 a_M_0 rfl (by decide) f_Mo_7 rfl ?_
            refine go_bipush (v := 56) d_Mo_of_65 (by decide) ?_
            refine go_iload_n (k := 1) d_Mo_of_67 rfl rfl ?_
            refine go_iadd d_Mo_of_68 ?_
            obtain ⟨hi, v10, ev10, h⟩ := flod_e h
            refine go_iald2 d_Mo_of_69 a_M_1 hi ev10 ?_
            cases h
            exact go_ireturn d_Mo_of_70 rfl gb_po_i
        · rw [if_pos hc] at h
          refine go_aload_n (k := 0) d_Mo_of_46 rfl rfl ?_
          refine go_getr (ci := 10) (k := 1) (r := 1) d_Mo_of_47 a_M_0 rfl (by decide) f_Mo_7 rfl ?_
          refine go_bipush (v := 48) d_Mo_of_50 (by decide) ?_
          refine go_iload_n (k := 1) d_Mo_of_52 rfl rfl ?_
          refine go_iadd d_Mo_of_53 ?_
          obtain ⟨hi, v11, ev11, h⟩ := flod_e h
          refine go_iald2 d_Mo_of_54 a_M_1 hi ev11 ?_
          cases h
          exact go_ireturn d_Mo_of_55 rfl gb_po_i
      · rw [if_pos hc] at h
        refine go_aload_n (k := 0) d_Mo_of_31 rfl rfl ?_
        refine go_getr (ci := 10) (k := 1) (r := 1) d_Mo_of_32 a_M_0 rfl (by decide) f_Mo_7 rfl ?_
        refine go_bipush (v := 40) d_Mo_of_35 (by decide) ?_
        refine go_iload_n (k := 1) d_Mo_of_37 rfl rfl ?_
        refine go_iadd d_Mo_of_38 ?_
        obtain ⟨hi, v12, ev12, h⟩ := flod_e h
        refine go_iald2 d_Mo_of_39 a_M_1 hi ev12 ?_
        cases h
        exact go_ireturn d_Mo_of_40 rfl gb_po_i
    · rw [if_pos hc] at h
      refine go_aload_n (k := 0) d_Mo_of_19 rfl rfl ?_
      refine go_getr (ci := 10) (k := 10) (r := 7) d_Mo_of_20 a_M_0 rfl (by decide) f_Mo_28 rfl ?_
      refine go_iload_n (k := 1) d_Mo_of_23 rfl rfl ?_
      obtain ⟨hi, v13, ev13, h⟩ := flod_e h
      refine go_iald2 d_Mo_of_24 a_M_7 hi ev13 ?_
      cases h
      exact go_ireturn d_Mo_of_25 rfl gb_po_i
  · rw [if_pos hc] at h
    refine go_iconst (v := (-1)) d_Mo_of_13 (by decide) ?_
    cases h
    exact go_ireturn d_Mo_of_14 rfl gb_po_i
theorem d_Mo_pours_0 : decode yMo_pours.2.1 0 = .ok (.aload_n 0, 1) := by decide +kernel
theorem d_Mo_pours_1 : decode yMo_pours.2.1 1 = .ok (.getfield 7, 3) := by decide +kernel
theorem d_Mo_pours_4 : decode yMo_pours.2.1 4 = .ok (.bipush 48, 2) := by decide +kernel
theorem d_Mo_pours_6 : decode yMo_pours.2.1 6 = .ok (.iload_n 1, 1) := by decide +kernel
theorem d_Mo_pours_7 : decode yMo_pours.2.1 7 = .ok (.iadd, 1) := by decide +kernel
theorem d_Mo_pours_8 : decode yMo_pours.2.1 8 = .ok (.iaload, 1) := by decide +kernel
theorem d_Mo_pours_9 : decode yMo_pours.2.1 9 = .ok (.istore_n 2, 1) := by decide +kernel
theorem d_Mo_pours_10 : decode yMo_pours.2.1 10 = .ok (.aload_n 0, 1) := by decide +kernel
theorem d_Mo_pours_11 : decode yMo_pours.2.1 11 = .ok (.aload_n 0, 1) := by decide +kernel
theorem d_Mo_pours_12 : decode yMo_pours.2.1 12 = .ok (.iload_n 1, 1) := by decide +kernel
theorem d_Mo_pours_13 : decode yMo_pours.2.1 13 = .ok (.invokevirtual 361, 3) := by decide +kernel
theorem d_Mo_pours_16 : decode yMo_pours.2.1 16 = .ok (.aload_n 0, 1) := by decide +kernel
theorem d_Mo_pours_17 : decode yMo_pours.2.1 17 = .ok (.getfield 7, 3) := by decide +kernel
theorem d_Mo_pours_20 : decode yMo_pours.2.1 20 = .ok (.bipush 40, 2) := by decide +kernel
theorem d_Mo_pours_22 : decode yMo_pours.2.1 22 = .ok (.iload_n 1, 1) := by decide +kernel
theorem d_Mo_pours_23 : decode yMo_pours.2.1 23 = .ok (.iadd, 1) := by decide +kernel
theorem d_Mo_pours_24 : decode yMo_pours.2.1 24 = .ok (.iaload, 1) := by decide +kernel
theorem d_Mo_pours_25 : decode yMo_pours.2.1 25 = .ok (.invokevirtual 364, 3) := by decide +kernel
theorem d_Mo_pours_28 : decode yMo_pours.2.1 28 = .ok (.istore_n 3, 1) := by decide +kernel
theorem d_Mo_pours_29 : decode yMo_pours.2.1 29 = .ok (.aload_n 0, 1) := by decide +kernel
theorem d_Mo_pours_30 : decode yMo_pours.2.1 30 = .ok (.getfield 7, 3) := by decide +kernel
theorem d_Mo_pours_33 : decode yMo_pours.2.1 33 = .ok (.bipush 40, 2) := by decide +kernel
theorem d_Mo_pours_35 : decode yMo_pours.2.1 35 = .ok (.iload_n 1, 1) := by decide +kernel
theorem d_Mo_pours_36 : decode yMo_pours.2.1 36 = .ok (.iadd, 1) := by decide +kernel
theorem d_Mo_pours_37 : decode yMo_pours.2.1 37 = .ok (.aload_n 0, 1) := by decide +kernel
theorem d_Mo_pours_38 : decode yMo_pours.2.1 38 = .ok (.getfield 7, 3) := by decide +kernel
theorem d_Mo_pours_41 : decode yMo_pours.2.1 41 = .ok (.bipush 40, 2) := by decide +kernel
theorem d_Mo_pours_43 : decode yMo_pours.2.1 43 = .ok (.iload_n 1, 1) := by decide +kernel
theorem d_Mo_pours_44 : decode yMo_pours.2.1 44 = .ok (.iadd, 1) := by decide +kernel
theorem d_Mo_pours_45 : decode yMo_pours.2.1 45 = .ok (.iaload, 1) := by decide +kernel
theorem d_Mo_pours_46 : decode yMo_pours.2.1 46 = .ok (.iload_n 3, 1) := by decide +kernel
theorem d_Mo_pours_47 : decode yMo_pours.2.1 47 = .ok (.isub, 1) := by decide +kernel
theorem d_Mo_pours_48 : decode yMo_pours.2.1 48 = .ok (.iastore, 1) := by decide +kernel
theorem d_Mo_pours_49 : decode yMo_pours.2.1 49 = .ok (.iload_n 3, 1) := by decide +kernel
theorem d_Mo_pours_50 : decode yMo_pours.2.1 50 = .ok (.ifCond .le 10, 3) := by decide +kernel
theorem d_Mo_pours_53 : decode yMo_pours.2.1 53 = .ok (.aload_n 0, 1) := by decide +kernel
theorem d_Mo_pours_54 : decode yMo_pours.2.1 54 = .ok (.iconst 0, 1) := by decide +kernel
theorem d_Mo_pours_55 : decode yMo_pours.2.1 55 = .ok (.iload_n 1, 1) := by decide +kernel
theorem d_Mo_pours_56 : decode yMo_pours.2.1 56 = .ok (.iload_n 3, 1) := by decide +kernel
theorem d_Mo_pours_57 : decode yMo_pours.2.1 57 = .ok (.invokevirtual 354, 3) := by decide +kernel
theorem d_Mo_pours_60 : decode yMo_pours.2.1 60 = .ok (.aload_n 0, 1) := by decide +kernel
theorem d_Mo_pours_61 : decode yMo_pours.2.1 61 = .ok (.getfield 25, 3) := by decide +kernel
theorem d_Mo_pours_64 : decode yMo_pours.2.1 64 = .ok (.iload_n 2, 1) := by decide +kernel
theorem d_Mo_pours_65 : decode yMo_pours.2.1 65 = .ok (.iaload, 1) := by decide +kernel
theorem d_Mo_pours_66 : decode yMo_pours.2.1 66 = .ok (.ifCond .ne 18, 3) := by decide +kernel
theorem d_Mo_pours_69 : decode yMo_pours.2.1 69 = .ok (.aload_n 0, 1) := by decide +kernel
theorem d_Mo_pours_70 : decode yMo_pours.2.1 70 = .ok (.getfield 7, 3) := by decide +kernel
theorem d_Mo_pours_73 : decode yMo_pours.2.1 73 = .ok (.iconst 3, 1) := by decide +kernel
theorem d_Mo_pours_74 : decode yMo_pours.2.1 74 = .ok (.aload_n 0, 1) := by decide +kernel
theorem d_Mo_pours_75 : decode yMo_pours.2.1 75 = .ok (.getfield 7, 3) := by decide +kernel
theorem d_Mo_pours_78 : decode yMo_pours.2.1 78 = .ok (.iconst 3, 1) := by decide +kernel
theorem d_Mo_pours_79 : decode yMo_pours.2.1 79 = .ok (.iaload, 1) := by decide +kernel
theorem d_Mo_pours_80 : decode yMo_pours.2.1 80 = .ok (.iload_n 3, 1) := by decide +kernel
theorem d_Mo_pours_81 : decode yMo_pours.2.1 81 = .ok (.iadd, 1) := by decide +kernel
theorem d_Mo_pours_82 : decode yMo_pours.2.1 82 = .ok (.iastore, 1) := by decide +kernel
theorem d_Mo_pours_83 : decode yMo_pours.2.1 83 = .ok (.return_, 1) := by decide +kernel
theorem d_Mo_pours_84 : decode yMo_pours.2.1 84 = .ok (.aload_n 0, 1) := by decide +kernel
theorem d_Mo_pours_85 : decode yMo_pours.2.1 85 = .ok (.getfield 7, 3) := by decide +kernel
theorem d_Mo_pours_88 : decode yMo_pours.2.1 88 = .ok (.bipush 6, 2) := by decide +kernel
theorem d_Mo_pours_90 : decode yMo_pours.2.1 90 = .ok (.iload_n 2, 1) := by decide +kernel
theorem d_Mo_pours_91 : decode yMo_pours.2.1 91 = .ok (.iadd, 1) := by decide +kernel
theorem d_Mo_pours_92 : decode yMo_pours.2.1 92 = .ok (.iaload, 1) := by decide +kernel
theorem d_Mo_pours_93 : decode yMo_pours.2.1 93 = .ok (.ifCond .eq 39, 3) := by decide +kernel
theorem d_Mo_pours_96 : decode yMo_pours.2.1 96 = .ok (.aload_n 0, 1) := by decide +kernel
theorem d_Mo_pours_97 : decode yMo_pours.2.1 97 = .ok (.getfield 7, 3) := by decide +kernel
theorem d_Mo_pours_100 : decode yMo_pours.2.1 100 = .ok (.bipush 6, 2) := by decide +kernel
theorem d_Mo_pours_102 : decode yMo_pours.2.1 102 = .ok (.iload_n 2, 1) := by decide +kernel
theorem d_Mo_pours_103 : decode yMo_pours.2.1 103 = .ok (.iadd, 1) := by decide +kernel
theorem d_Mo_pours_104 : decode yMo_pours.2.1 104 = .ok (.aload_n 0, 1) := by decide +kernel
theorem d_Mo_pours_105 : decode yMo_pours.2.1 105 = .ok (.getfield 7, 3) := by decide +kernel
theorem d_Mo_pours_108 : decode yMo_pours.2.1 108 = .ok (.bipush 6, 2) := by decide +kernel
theorem d_Mo_pours_110 : decode yMo_pours.2.1 110 = .ok (.iload_n 2, 1) := by decide +kernel
theorem d_Mo_pours_111 : decode yMo_pours.2.1 111 = .ok (.iadd, 1) := by decide +kernel
theorem d_Mo_pours_112 : decode yMo_pours.2.1 112 = .ok (.iaload, 1) := by decide +kernel
theorem d_Mo_pours_113 : decode yMo_pours.2.1 113 = .ok (.aload_n 0, 1) := by decide +kernel
theorem d_Mo_pours_114 : decode yMo_pours.2.1 114 = .ok (.getfield 7, 3) := by decide +kernel
theorem d_Mo_pours_117 : decode yMo_pours.2.1 117 = .ok (.bipush 6, 2) := by decide +kernel
theorem d_Mo_pours_119 : decode yMo_pours.2.1 119 = .ok (.iload_n 2, 1) := by decide +kernel
theorem d_Mo_pours_120 : decode yMo_pours.2.1 120 = .ok (.iadd, 1) := by decide +kernel
theorem d_Mo_pours_121 : decode yMo_pours.2.1 121 = .ok (.iaload, 1) := by decide +kernel
theorem d_Mo_pours_122 : decode yMo_pours.2.1 122 = .ok (.ifCond .le 7, 3) := by decide +kernel
theorem d_Mo_pours_125 : decode yMo_pours.2.1 125 = .ok (.iconst (-1), 1) := by decide +kernel
theorem d_Mo_pours_126 : decode yMo_pours.2.1 126 = .ok (.goto 4, 3) := by decide +kernel
theorem d_Mo_pours_129 : decode yMo_pours.2.1 129 = .ok (.iconst 1, 1) := by decide +kernel
theorem d_Mo_pours_130 : decode yMo_pours.2.1 130 = .ok (.iadd, 1) := by decide +kernel
theorem d_Mo_pours_131 : decode yMo_pours.2.1 131 = .ok (.iastore, 1) := by decide +kernel
theorem d_Mo_pours_132 : decode yMo_pours.2.1 132 = .ok (.return_, 1) := by decide +kernel
def J_Mo_pours_130 (s0 s1 s2 : Int32) (I : gb_Mem) : Option (gb_Mem) :=
  fsto I 1 80 s2 (s1 + s0) fun I12 =>
  some I12
set_option maxRecDepth 4000 in
theorem j_Mo_pours_130 (l : Launch) (d0 : Nat) (s0 s1 s2 : Int32) (I : gb_Mem) {Iz : gb_Mem} (h : J_Mo_pours_130 s0 s1 s2 I = some Iz) : gb_Go l yMo_pours (d0 + 5) 0 0 130 [] [.inl s0, .inl s1, .inl s2, .inr (some 1)] shM I (gb_po shM none Iz) := by
  unfold J_Mo_pours_130 at h
  refine go_iadd d_Mo_pours_130 ?_
  obtain ⟨hi, I12, eI12, h⟩ := fsto_e h
  refine go_iast (I' := I12) d_Mo_pours_131 a_M_1 hi eI12 ?_
  cases h
  exact go_return d_Mo_pours_132 rfl gb_po_i
def J_Mo_pours_60 (x2 x3 : Int32) (I : gb_Mem) : Option (gb_Mem) :=
  flod I 6 12 x2 fun v8 =>
  if v8 = 0 then
    fstf I 1 3 ((I 1 3) + x3) fun I13 =>
    some I13
  else
    flod I 1 80 (6 + x2) fun v9 =>
    if v9 = 0 then
      some I
    else
      flod I 1 80 (6 + x2) fun v10 =>
      flod I 1 80 (6 + x2) fun v11 =>
      if v11 ≤ 0 then
        J_Mo_pours_130 1 v10 (6 + x2) I
      else
        J_Mo_pours_130 (-1) v10 (6 + x2) I
set_option maxRecDepth 4000 in
theorem j_Mo_pours_60 (l : Launch) (d0 : Nat) (x2 x3 : Int32) (I : gb_Mem) {Iz : gb_Mem} (h : J_Mo_pours_60 x2 x3 I = some Iz) : gb_Go l yMo_pours (d0 + 5) 0 0 60 [(0, .inr (some 0)), (2, .inl x2), (3, .inl x3)] [] shM I (gb_po shM none Iz) := by
  unfold J_Mo_pours_60 at h
  refine go_aload_n (k := 0) d_Mo_pours_60 rfl rfl ?_
  refine go_getr (ci := 10) (k := 9) (r := 6) d_Mo_pours_61 a_M_0 rfl (by decide) f_Mo_25 rfl ?_
  refine go_iload_n (k := 1) d_Mo_pours_64 rfl rfl ?_
  obtain ⟨hi, v8, ev8, h⟩ := flod_e h
  refine go_iald2 d_Mo_pours_65 a_M_6 hi ev8 ?_
  refine go_if_ne (tgt := 84) d_Mo_pours_66 (by decide) (fun hc => ?_) (fun hc => ?_)
  · rw [if_neg hc] at h
    refine go_aload_n (k := 0) d_Mo_pours_84 rfl rfl ?_
    refine go_getr (ci := 10) (k := 1) (r := 1) d_Mo_pours_85 a_M_0 rfl (by decide) f_Mo_7 rfl ?_
    refine go_bipush (v := 6) d_Mo_pours_88 (by decide) ?_
    refine go_iload_n (k := 1) d_Mo_pours_90 rfl rfl ?_
    refine go_iadd d_Mo_pours_91 ?_
    obtain ⟨hi, v9, ev9, h⟩ := flod_e h
    refine go_iald2 d_Mo_pours_92 a_M_1 hi ev9 ?_
    refine go_if_eq (tgt := 132) d_Mo_pours_93 (by decide) (fun hc => ?_) (fun hc => ?_)
    · rw [if_pos hc] at h
      cases h
      exact go_return d_Mo_pours_132 rfl gb_po_i
    · rw [if_neg hc] at h
      refine go_aload_n (k := 0) d_Mo_pours_96 rfl rfl ?_
      refine go_getr (ci := 10) (k := 1) (r := 1) d_Mo_pours_97 a_M_0 rfl (by decide) f_Mo_7 rfl ?_
      refine go_bipush (v := 6) d_Mo_pours_100 (by decide) ?_
      refine go_iload_n (k := 1) d_Mo_pours_102 rfl rfl ?_
      refine go_iadd d_Mo_pours_103 ?_
      refine go_aload_n (k := 0) d_Mo_pours_104 rfl rfl ?_
      refine go_getr (ci := 10) (k := 1) (r := 1) d_Mo_pours_105 a_M_0 rfl (by decide) f_Mo_7 rfl ?_
      refine go_bipush (v := 6) d_Mo_pours_108 (by decide) ?_
      refine go_iload_n (k := 1) d_Mo_pours_110 rfl rfl ?_
      refine go_iadd d_Mo_pours_111 ?_
      obtain ⟨hi, v10, ev10, h⟩ := flod_e h
      refine go_iald2 d_Mo_pours_112 a_M_1 hi ev10 ?_
      refine go_aload_n (k := 0) d_Mo_pours_113 rfl rfl ?_
      refine go_getr (ci := 10) (k := 1) (r := 1) d_Mo_pours_114 a_M_0 rfl (by decide) f_Mo_7 rfl ?_
      refine go_bipush (v := 6) d_Mo_pours_117 (by decide) ?_
      refine go_iload_n (k := 1) d_Mo_pours_119 rfl rfl ?_
      refine go_iadd d_Mo_pours_120 ?_
      obtain ⟨hi, v11, ev11, h⟩ := flod_e h
      refine go_iald2 d_Mo_pours_121 a_M_1 hi ev11 ?_
      refine go_if_le (tgt := 129) d_Mo_pours_122 (by decide) (fun hc => ?_) (fun hc => ?_)
      · rw [if_pos hc] at h
        refine go_iconst (v := 1) d_Mo_pours_129 (by decide) ?_
        exact go_lv [] rfl (j_Mo_pours_130 l d0 1 v10 (6 + x2) I h)
      · rw [if_neg hc] at h
        refine go_iconst (v := (-1)) d_Mo_pours_125 (by decide) ?_
        refine go_goto (tgt := 130) d_Mo_pours_126 (by decide) ?_
        exact go_lv [] rfl (j_Mo_pours_130 l d0 (-1) v10 (6 + x2) I h)
  · rw [if_pos hc] at h
    refine go_aload_n (k := 0) d_Mo_pours_69 rfl rfl ?_
    refine go_getr (ci := 10) (k := 1) (r := 1) d_Mo_pours_70 a_M_0 rfl (by decide) f_Mo_7 rfl ?_
    refine go_iconst (v := 3) d_Mo_pours_73 (by decide) ?_
    refine go_aload_n (k := 0) d_Mo_pours_74 rfl rfl ?_
    refine go_getr (ci := 10) (k := 1) (r := 1) d_Mo_pours_75 a_M_0 rfl (by decide) f_Mo_7 rfl ?_
    refine go_iconst (v := 3) d_Mo_pours_78 (by decide) ?_
    refine go_iald2 (v := I 1 3) d_Mo_pours_79 a_M_1 (inb_iff.mp (by decide)) rfl ?_
    refine go_iload_n (k := 2) d_Mo_pours_80 rfl rfl ?_
    refine go_iadd d_Mo_pours_81 ?_
    obtain ⟨I13, eI13, h⟩ := fstf_e h
    refine go_iast (I' := I13) d_Mo_pours_82 a_M_1 (inb_iff.mp (by decide)) eI13 ?_
    cases h
    exact go_return d_Mo_pours_83 rfl gb_po_i
def F_Mo_pours (x1 : Int32) (I : gb_Mem) : Option (gb_Mem) :=
  flod I 1 80 (48 + x1) fun v1 =>
  fbd (F_Mo_poursOf x1 I) fun (r3, I2) =>
  flod I2 1 80 (40 + x1) fun v4 =>
  flt (F_Mo_lesser r3 v4 I2) fun y5 =>
  flod I2 1 80 (40 + x1) fun v6 =>
  fsto I2 1 80 (40 + x1) (v6 - y5) fun I7 =>
  if y5 ≤ 0 then
    J_Mo_pours_60 v1 y5 I7
  else
    fbd (F_Mo_notes 0 x1 y5 I7) fun I14 =>
    J_Mo_pours_60 v1 y5 I14
set_option maxRecDepth 4000 in
theorem c_Mo_pours (l : Launch) (d0 : Nat) (x1 : Int32) (I : gb_Mem) {Iz : gb_Mem} (h : F_Mo_pours x1 I = some Iz) : gb_Cs l yMo_pours (d0 + 5) [.inr (some 0), .inl x1] shM I none Iz := by
  refine gb_Ct.of (lv := [(0, .inr (some 0)), (1, .inl x1)]) rfl (Nat.le_of_ble_eq_true rfl) rfl ?_
  unfold F_Mo_pours at h
  show gb_Go l yMo_pours (d0 + 5) 0 0 0 [(0, .inr (some 0)), (1, .inl x1)] [] shM I (gb_po shM none Iz)
  refine go_aload_n (k := 0) d_Mo_pours_0 rfl rfl ?_
  refine go_getr (ci := 10) (k := 1) (r := 1) d_Mo_pours_1 a_M_0 rfl (by decide) f_Mo_7 rfl ?_
  refine go_bipush (v := 48) d_Mo_pours_4 (by decide) ?_
  refine go_iload_n (k := 1) d_Mo_pours_6 rfl rfl ?_
  refine go_iadd d_Mo_pours_7 ?_
  obtain ⟨hi, v1, ev1, h⟩ := flod_e h
  refine go_iald2 d_Mo_pours_8 a_M_1 hi ev1 ?_
  refine go_istore_n (lv' := [(2, .inl v1), (0, .inr (some 0)), (1, .inl x1)]) d_Mo_pours_9 rfl (by decide) rfl ?_
  refine go_aload_n (k := 1) d_Mo_pours_10 rfl rfl ?_
  refine go_aload_n (k := 1) d_Mo_pours_11 rfl rfl ?_
  refine go_iload_n (k := 2) d_Mo_pours_12 rfl rfl ?_
  obtain ⟨⟨r3, I2⟩, w1, h⟩ := fbd_e h
  try dsimp only at h
  refine go_callV (y := yMo_poursOf) (asr := [.inl x1]) (v := some (.inl r3)) (I' := I2) (st1 := [.inl r3, .inr (some 0)]) d_Mo_pours_13 s_yMo_poursOf m_Mo_361 a_M_0 rfl rfl rfl (Nat.le_of_ble_eq_true rfl) rfl rfl (c_Mo_poursOf l (d0 + 0) x1 I w1) ?_
  refine go_aload_n (k := 1) d_Mo_pours_16 rfl rfl ?_
  refine go_getr (ci := 10) (k := 1) (r := 1) d_Mo_pours_17 a_M_0 rfl (by decide) f_Mo_7 rfl ?_
  refine go_bipush (v := 40) d_Mo_pours_20 (by decide) ?_
  refine go_iload_n (k := 2) d_Mo_pours_22 rfl rfl ?_
  refine go_iadd d_Mo_pours_23 ?_
  obtain ⟨hi, v4, ev4, h⟩ := flod_e h
  refine go_iald2 d_Mo_pours_24 a_M_1 hi ev4 ?_
  refine go_callV (y := yMo_lesser) (asr := [.inl r3, .inl v4]) (v := some (.inl (F_Mo_lesser r3 v4 I2))) (I' := I2) (st1 := [.inl (F_Mo_lesser r3 v4 I2)]) d_Mo_pours_25 s_yMo_lesser m_Mo_364 a_M_0 rfl rfl rfl (Nat.le_of_ble_eq_true rfl) rfl rfl (c_Mo_lesser l (d0 + 4) r3 v4 I2) ?_
  obtain ⟨y5, ey5, h⟩ := flt_e h
  refine go_top ey5 ?_
  refine go_istore_n (lv' := [(3, .inl y5), (2, .inl v1), (0, .inr (some 0)), (1, .inl x1)]) d_Mo_pours_28 rfl (by decide) rfl ?_
  refine go_aload_n (k := 2) d_Mo_pours_29 rfl rfl ?_
  refine go_getr (ci := 10) (k := 1) (r := 1) d_Mo_pours_30 a_M_0 rfl (by decide) f_Mo_7 rfl ?_
  refine go_bipush (v := 40) d_Mo_pours_33 (by decide) ?_
  refine go_iload_n (k := 3) d_Mo_pours_35 rfl rfl ?_
  refine go_iadd d_Mo_pours_36 ?_
  refine go_aload_n (k := 2) d_Mo_pours_37 rfl rfl ?_
  refine go_getr (ci := 10) (k := 1) (r := 1) d_Mo_pours_38 a_M_0 rfl (by decide) f_Mo_7 rfl ?_
  refine go_bipush (v := 40) d_Mo_pours_41 (by decide) ?_
  refine go_iload_n (k := 3) d_Mo_pours_43 rfl rfl ?_
  refine go_iadd d_Mo_pours_44 ?_
  obtain ⟨hi, v6, ev6, h⟩ := flod_e h
  refine go_iald2 d_Mo_pours_45 a_M_1 hi ev6 ?_
  refine go_iload_n (k := 0) d_Mo_pours_46 rfl rfl ?_
  refine go_isub d_Mo_pours_47 ?_
  obtain ⟨hi, I7, eI7, h⟩ := fsto_e h
  refine go_iast (I' := I7) d_Mo_pours_48 a_M_1 hi eI7 ?_
  refine go_iload_n (k := 0) d_Mo_pours_49 rfl rfl ?_
  refine go_if_le (tgt := 60) d_Mo_pours_50 (by decide) (fun hc => ?_) (fun hc => ?_)
  · rw [if_pos hc] at h
    exact go_lv [2, 1, 0] rfl (j_Mo_pours_60 l d0 v1 y5 I7 h)
  · rw [if_neg hc] at h
    refine go_aload_n (k := 2) d_Mo_pours_53 rfl rfl ?_
    refine go_iconst (v := 0) d_Mo_pours_54 (by decide) ?_
    refine go_iload_n (k := 3) d_Mo_pours_55 rfl rfl ?_
    refine go_iload_n (k := 0) d_Mo_pours_56 rfl rfl ?_
    obtain ⟨I14, w1, h⟩ := fbd_e h
    refine go_callV (y := yMo_notes) (asr := [.inl 0, .inl x1, .inl y5]) (v := none) (I' := I14) (st1 := []) d_Mo_pours_57 s_yMo_notes m_Mo_354 a_M_0 rfl rfl rfl (Nat.le_of_ble_eq_true rfl) rfl rfl (c_Mo_notes l (d0 + 4) 0 x1 y5 I7 w1) ?_
    exact go_lv [2, 1, 0] rfl (j_Mo_pours_60 l d0 v1 y5 I14 h)
theorem d_Mo_readDeed_0 : decode yMo_readDeed.2.1 0 = .ok (.aload_n 0, 1) := by decide +kernel
theorem d_Mo_readDeed_1 : decode yMo_readDeed.2.1 1 = .ok (.getfield 71, 3) := by decide +kernel
theorem d_Mo_readDeed_4 : decode yMo_readDeed.2.1 4 = .ok (.iload_n 1, 1) := by decide +kernel
theorem d_Mo_readDeed_5 : decode yMo_readDeed.2.1 5 = .ok (.aload_n 0, 1) := by decide +kernel
theorem d_Mo_readDeed_6 : decode yMo_readDeed.2.1 6 = .ok (.bipush 21, 2) := by decide +kernel
theorem d_Mo_readDeed_8 : decode yMo_readDeed.2.1 8 = .ok (.iconst 0, 1) := by decide +kernel
theorem d_Mo_readDeed_9 : decode yMo_readDeed.2.1 9 = .ok (.sipush 999, 3) := by decide +kernel
theorem d_Mo_readDeed_12 : decode yMo_readDeed.2.1 12 = .ok (.invokevirtual 272, 3) := by decide +kernel
theorem d_Mo_readDeed_15 : decode yMo_readDeed.2.1 15 = .ok (.iastore, 1) := by decide +kernel
theorem d_Mo_readDeed_16 : decode yMo_readDeed.2.1 16 = .ok (.aload_n 0, 1) := by decide +kernel
theorem d_Mo_readDeed_17 : decode yMo_readDeed.2.1 17 = .ok (.getfield 71, 3) := by decide +kernel
theorem d_Mo_readDeed_20 : decode yMo_readDeed.2.1 20 = .ok (.iload_n 1, 1) := by decide +kernel
theorem d_Mo_readDeed_21 : decode yMo_readDeed.2.1 21 = .ok (.iaload, 1) := by decide +kernel
theorem d_Mo_readDeed_22 : decode yMo_readDeed.2.1 22 = .ok (.iconst (-1), 1) := by decide +kernel
theorem d_Mo_readDeed_23 : decode yMo_readDeed.2.1 23 = .ok (.if_icmp .ne 5, 3) := by decide +kernel
theorem d_Mo_readDeed_26 : decode yMo_readDeed.2.1 26 = .ok (.iconst (-1), 1) := by decide +kernel
theorem d_Mo_readDeed_27 : decode yMo_readDeed.2.1 27 = .ok (.ireturn, 1) := by decide +kernel
theorem d_Mo_readDeed_28 : decode yMo_readDeed.2.1 28 = .ok (.aload_n 0, 1) := by decide +kernel
theorem d_Mo_readDeed_29 : decode yMo_readDeed.2.1 29 = .ok (.invokevirtual 279, 3) := by decide +kernel
theorem d_Mo_readDeed_32 : decode yMo_readDeed.2.1 32 = .ok (.istore_n 2, 1) := by decide +kernel
theorem d_Mo_readDeed_33 : decode yMo_readDeed.2.1 33 = .ok (.iload_n 2, 1) := by decide +kernel
theorem d_Mo_readDeed_34 : decode yMo_readDeed.2.1 34 = .ok (.iconst (-1), 1) := by decide +kernel
theorem d_Mo_readDeed_35 : decode yMo_readDeed.2.1 35 = .ok (.if_icmp .ne 9, 3) := by decide +kernel
theorem d_Mo_readDeed_38 : decode yMo_readDeed.2.1 38 = .ok (.aload_n 0, 1) := by decide +kernel
theorem d_Mo_readDeed_39 : decode yMo_readDeed.2.1 39 = .ok (.iconst 1, 1) := by decide +kernel
theorem d_Mo_readDeed_40 : decode yMo_readDeed.2.1 40 = .ok (.invokevirtual 218, 3) := by decide +kernel
theorem d_Mo_readDeed_43 : decode yMo_readDeed.2.1 43 = .ok (.ireturn, 1) := by decide +kernel
theorem d_Mo_readDeed_44 : decode yMo_readDeed.2.1 44 = .ok (.aload_n 0, 1) := by decide +kernel
theorem d_Mo_readDeed_45 : decode yMo_readDeed.2.1 45 = .ok (.invokevirtual 225, 3) := by decide +kernel
theorem d_Mo_readDeed_48 : decode yMo_readDeed.2.1 48 = .ok (.aload_n 0, 1) := by decide +kernel
theorem d_Mo_readDeed_49 : decode yMo_readDeed.2.1 49 = .ok (.getfield 71, 3) := by decide +kernel
theorem d_Mo_readDeed_52 : decode yMo_readDeed.2.1 52 = .ok (.iload_n 1, 1) := by decide +kernel
theorem d_Mo_readDeed_53 : decode yMo_readDeed.2.1 53 = .ok (.iconst 1, 1) := by decide +kernel
theorem d_Mo_readDeed_54 : decode yMo_readDeed.2.1 54 = .ok (.iadd, 1) := by decide +kernel
theorem d_Mo_readDeed_55 : decode yMo_readDeed.2.1 55 = .ok (.iload_n 2, 1) := by decide +kernel
theorem d_Mo_readDeed_56 : decode yMo_readDeed.2.1 56 = .ok (.iastore, 1) := by decide +kernel
theorem d_Mo_readDeed_57 : decode yMo_readDeed.2.1 57 = .ok (.aload_n 0, 1) := by decide +kernel
theorem d_Mo_readDeed_58 : decode yMo_readDeed.2.1 58 = .ok (.getfield 71, 3) := by decide +kernel
theorem d_Mo_readDeed_61 : decode yMo_readDeed.2.1 61 = .ok (.iload_n 1, 1) := by decide +kernel
theorem d_Mo_readDeed_62 : decode yMo_readDeed.2.1 62 = .ok (.iconst 2, 1) := by decide +kernel
theorem d_Mo_readDeed_63 : decode yMo_readDeed.2.1 63 = .ok (.iadd, 1) := by decide +kernel
theorem d_Mo_readDeed_64 : decode yMo_readDeed.2.1 64 = .ok (.aload_n 0, 1) := by decide +kernel
theorem d_Mo_readDeed_65 : decode yMo_readDeed.2.1 65 = .ok (.iconst 0, 1) := by decide +kernel
theorem d_Mo_readDeed_66 : decode yMo_readDeed.2.1 66 = .ok (.aload_n 0, 1) := by decide +kernel
theorem d_Mo_readDeed_67 : decode yMo_readDeed.2.1 67 = .ok (.iload_n 2, 1) := by decide +kernel
theorem d_Mo_readDeed_68 : decode yMo_readDeed.2.1 68 = .ok (.invokevirtual 282, 3) := by decide +kernel
theorem d_Mo_readDeed_71 : decode yMo_readDeed.2.1 71 = .ok (.invokevirtual 269, 3) := by decide +kernel
theorem d_Mo_readDeed_74 : decode yMo_readDeed.2.1 74 = .ok (.iastore, 1) := by decide +kernel
theorem d_Mo_readDeed_75 : decode yMo_readDeed.2.1 75 = .ok (.aload_n 0, 1) := by decide +kernel
theorem d_Mo_readDeed_76 : decode yMo_readDeed.2.1 76 = .ok (.getfield 71, 3) := by decide +kernel
theorem d_Mo_readDeed_79 : decode yMo_readDeed.2.1 79 = .ok (.iload_n 1, 1) := by decide +kernel
theorem d_Mo_readDeed_80 : decode yMo_readDeed.2.1 80 = .ok (.iconst 2, 1) := by decide +kernel
theorem d_Mo_readDeed_81 : decode yMo_readDeed.2.1 81 = .ok (.iadd, 1) := by decide +kernel
theorem d_Mo_readDeed_82 : decode yMo_readDeed.2.1 82 = .ok (.iaload, 1) := by decide +kernel
theorem d_Mo_readDeed_83 : decode yMo_readDeed.2.1 83 = .ok (.iconst (-1), 1) := by decide +kernel
theorem d_Mo_readDeed_84 : decode yMo_readDeed.2.1 84 = .ok (.if_icmp .ne 5, 3) := by decide +kernel
theorem d_Mo_readDeed_87 : decode yMo_readDeed.2.1 87 = .ok (.iconst (-1), 1) := by decide +kernel
theorem d_Mo_readDeed_88 : decode yMo_readDeed.2.1 88 = .ok (.ireturn, 1) := by decide +kernel
theorem d_Mo_readDeed_89 : decode yMo_readDeed.2.1 89 = .ok (.aload_n 0, 1) := by decide +kernel
theorem d_Mo_readDeed_90 : decode yMo_readDeed.2.1 90 = .ok (.getfield 71, 3) := by decide +kernel
theorem d_Mo_readDeed_93 : decode yMo_readDeed.2.1 93 = .ok (.iload_n 1, 1) := by decide +kernel
theorem d_Mo_readDeed_94 : decode yMo_readDeed.2.1 94 = .ok (.iconst 3, 1) := by decide +kernel
theorem d_Mo_readDeed_95 : decode yMo_readDeed.2.1 95 = .ok (.iadd, 1) := by decide +kernel
theorem d_Mo_readDeed_96 : decode yMo_readDeed.2.1 96 = .ok (.iload_n 2, 1) := by decide +kernel
theorem d_Mo_readDeed_97 : decode yMo_readDeed.2.1 97 = .ok (.iconst 3, 1) := by decide +kernel
theorem d_Mo_readDeed_98 : decode yMo_readDeed.2.1 98 = .ok (.if_icmp .ne 13, 3) := by decide +kernel
theorem d_Mo_readDeed_101 : decode yMo_readDeed.2.1 101 = .ok (.aload_n 0, 1) := by decide +kernel
theorem d_Mo_readDeed_102 : decode yMo_readDeed.2.1 102 = .ok (.iconst 0, 1) := by decide +kernel
theorem d_Mo_readDeed_103 : decode yMo_readDeed.2.1 103 = .ok (.bipush 99, 2) := by decide +kernel
theorem d_Mo_readDeed_105 : decode yMo_readDeed.2.1 105 = .ok (.invokevirtual 269, 3) := by decide +kernel
theorem d_Mo_readDeed_108 : decode yMo_readDeed.2.1 108 = .ok (.goto 4, 3) := by decide +kernel
theorem d_Mo_readDeed_111 : decode yMo_readDeed.2.1 111 = .ok (.iconst 0, 1) := by decide +kernel
theorem d_Mo_readDeed_112 : decode yMo_readDeed.2.1 112 = .ok (.iastore, 1) := by decide +kernel
theorem d_Mo_readDeed_113 : decode yMo_readDeed.2.1 113 = .ok (.aload_n 0, 1) := by decide +kernel
theorem d_Mo_readDeed_114 : decode yMo_readDeed.2.1 114 = .ok (.getfield 71, 3) := by decide +kernel
theorem d_Mo_readDeed_117 : decode yMo_readDeed.2.1 117 = .ok (.iload_n 1, 1) := by decide +kernel
theorem d_Mo_readDeed_118 : decode yMo_readDeed.2.1 118 = .ok (.iconst 3, 1) := by decide +kernel
theorem d_Mo_readDeed_119 : decode yMo_readDeed.2.1 119 = .ok (.iadd, 1) := by decide +kernel
theorem d_Mo_readDeed_120 : decode yMo_readDeed.2.1 120 = .ok (.iaload, 1) := by decide +kernel
theorem d_Mo_readDeed_121 : decode yMo_readDeed.2.1 121 = .ok (.iconst (-1), 1) := by decide +kernel
theorem d_Mo_readDeed_122 : decode yMo_readDeed.2.1 122 = .ok (.if_icmp .ne 7, 3) := by decide +kernel
theorem d_Mo_readDeed_125 : decode yMo_readDeed.2.1 125 = .ok (.iconst (-1), 1) := by decide +kernel
theorem d_Mo_readDeed_126 : decode yMo_readDeed.2.1 126 = .ok (.goto 9, 3) := by decide +kernel
theorem d_Mo_readDeed_129 : decode yMo_readDeed.2.1 129 = .ok (.aload_n 0, 1) := by decide +kernel
theorem d_Mo_readDeed_130 : decode yMo_readDeed.2.1 130 = .ok (.bipush 59, 2) := by decide +kernel
theorem d_Mo_readDeed_132 : decode yMo_readDeed.2.1 132 = .ok (.invokevirtual 276, 3) := by decide +kernel
theorem d_Mo_readDeed_135 : decode yMo_readDeed.2.1 135 = .ok (.ireturn, 1) := by decide +kernel
def J_Mo_readDeed_112 (x1 s0 s1 : Int32) (I : gb_Mem) : Option (Int32 × gb_Mem) :=
  fsto I 20 128 s1 s0 fun I12 =>
  flod I12 20 128 (x1 + 3) fun v13 =>
  if v13 = (-1) then
    some ((-1), I12)
  else
    fbd (F_Mo_readMark 59 I12) fun (r15, I14) =>
    some (r15, I14)
set_option maxRecDepth 4000 in
theorem j_Mo_readDeed_112 (l : Launch) (d0 : Nat) (x1 s0 s1 : Int32) (I : gb_Mem) {rz : Int32} {Iz : gb_Mem} (h : J_Mo_readDeed_112 x1 s0 s1 I = some (rz, Iz)) : gb_Go l yMo_readDeed (d0 + 5) 0 0 112 [(0, .inr (some 0)), (1, .inl x1)] [.inl s0, .inl s1, .inr (some 20)] shM I (gb_po shM (some (.inl rz)) Iz) := by
  unfold J_Mo_readDeed_112 at h
  obtain ⟨hi, I12, eI12, h⟩ := fsto_e h
  refine go_iast (I' := I12) d_Mo_readDeed_112 a_M_20 hi eI12 ?_
  refine go_aload_n (k := 0) d_Mo_readDeed_113 rfl rfl ?_
  refine go_getr (ci := 10) (k := 38) (r := 20) d_Mo_readDeed_114 a_M_0 rfl (by decide) f_Mo_71 rfl ?_
  refine go_iload_n (k := 1) d_Mo_readDeed_117 rfl rfl ?_
  refine go_iconst (v := 3) d_Mo_readDeed_118 (by decide) ?_
  refine go_iadd d_Mo_readDeed_119 ?_
  obtain ⟨hi, v13, ev13, h⟩ := flod_e h
  refine go_iald2 d_Mo_readDeed_120 a_M_20 hi ev13 ?_
  refine go_iconst (v := (-1)) d_Mo_readDeed_121 (by decide) ?_
  refine go_cmp_ne (tgt := 129) d_Mo_readDeed_122 (by decide) (fun hc => ?_) (fun hc => ?_)
  · rw [if_neg hc] at h
    refine go_aload_n (k := 0) d_Mo_readDeed_129 rfl rfl ?_
    refine go_bipush (v := 59) d_Mo_readDeed_130 (by decide) ?_
    obtain ⟨⟨r15, I14⟩, w1, h⟩ := fbd_e h
    try dsimp only at h
    refine go_callV (y := yMo_readMark) (asr := [.inl 59]) (v := some (.inl r15)) (I' := I14) (st1 := [.inl r15]) d_Mo_readDeed_132 s_yMo_readMark m_Mo_276 a_M_0 rfl rfl rfl (Nat.le_of_ble_eq_true rfl) rfl rfl (c_Mo_readMark l (d0 + 1) 59 I12 w1) ?_
    cases h
    exact go_ireturn d_Mo_readDeed_135 rfl gb_po_i
  · rw [if_pos hc] at h
    refine go_iconst (v := (-1)) d_Mo_readDeed_125 (by decide) ?_
    refine go_goto (tgt := 135) d_Mo_readDeed_126 (by decide) ?_
    cases h
    exact go_ireturn d_Mo_readDeed_135 rfl gb_po_i
def F_Mo_readDeed (x1 : Int32) (I : gb_Mem) : Option (Int32 × gb_Mem) :=
  fbd (F_Mo_readTold 21 0 999 I) fun (r2, I1) =>
  fsto I1 20 128 x1 r2 fun I3 =>
  flod I3 20 128 x1 fun v4 =>
  if v4 = (-1) then
    some ((-1), I3)
  else
    flt (F_Mo_kindOfDeed  I3) fun y5 =>
    if y5 = (-1) then
      fbd (F_Mo_errs 1 I3) fun (r19, I18) =>
      some (r19, I18)
    else
      fbd (F_Mo_reads  I3) fun I6 =>
      fsto I6 20 128 (x1 + 1) y5 fun I7 =>
      fbd (F_Mo_readNumber 0 (F_Mo_mostFor y5 I7) I7) fun (r9, I8) =>
      fsto I8 20 128 (x1 + 2) r9 fun I10 =>
      flod I10 20 128 (x1 + 2) fun v11 =>
      if v11 = (-1) then
        some ((-1), I10)
      else
        if y5 = 3 then
          fbd (F_Mo_readNumber 0 99 I10) fun (r17, I16) =>
          J_Mo_readDeed_112 x1 r17 (x1 + 3) I16
        else
          J_Mo_readDeed_112 x1 0 (x1 + 3) I10
set_option maxRecDepth 4000 in
theorem c_Mo_readDeed (l : Launch) (d0 : Nat) (x1 : Int32) (I : gb_Mem) {rz : Int32} {Iz : gb_Mem} (h : F_Mo_readDeed x1 I = some (rz, Iz)) : gb_Cs l yMo_readDeed (d0 + 5) [.inr (some 0), .inl x1] shM I (some (.inl rz)) Iz := by
  refine gb_Ct.of (lv := [(0, .inr (some 0)), (1, .inl x1)]) rfl (Nat.le_of_ble_eq_true rfl) rfl ?_
  unfold F_Mo_readDeed at h
  show gb_Go l yMo_readDeed (d0 + 5) 0 0 0 [(0, .inr (some 0)), (1, .inl x1)] [] shM I (gb_po shM (some (.inl rz)) Iz)
  refine go_aload_n (k := 0) d_Mo_readDeed_0 rfl rfl ?_
  refine go_getr (ci := 10) (k := 38) (r := 20) d_Mo_readDeed_1 a_M_0 rfl (by decide) f_Mo_71 rfl ?_
  refine go_iload_n (k := 1) d_Mo_readDeed_4 rfl rfl ?_
  refine go_aload_n (k := 0) d_Mo_readDeed_5 rfl rfl ?_
  refine go_bipush (v := 21) d_Mo_readDeed_6 (by decide) ?_
  refine go_iconst (v := 0) d_Mo_readDeed_8 (by decide) ?_
  refine go_sipush (v := 999) d_Mo_readDeed_9 (by decide) ?_
  obtain ⟨⟨r2, I1⟩, w1, h⟩ := fbd_e h
  try dsimp only at h
  refine go_callV (y := yMo_readTold) (asr := [.inl 21, .inl 0, .inl 999]) (v := some (.inl r2)) (I' := I1) (st1 := [.inl r2, .inl x1, .inr (some 20)]) d_Mo_readDeed_12 s_yMo_readTold m_Mo_272 a_M_0 rfl rfl rfl (Nat.le_of_ble_eq_true rfl) rfl rfl (c_Mo_readTold l (d0 + 0) 21 0 999 I w1) ?_
  obtain ⟨hi, I3, eI3, h⟩ := fsto_e h
  refine go_iast (I' := I3) d_Mo_readDeed_15 a_M_20 hi eI3 ?_
  refine go_aload_n (k := 0) d_Mo_readDeed_16 rfl rfl ?_
  refine go_getr (ci := 10) (k := 38) (r := 20) d_Mo_readDeed_17 a_M_0 rfl (by decide) f_Mo_71 rfl ?_
  refine go_iload_n (k := 1) d_Mo_readDeed_20 rfl rfl ?_
  obtain ⟨hi, v4, ev4, h⟩ := flod_e h
  refine go_iald2 d_Mo_readDeed_21 a_M_20 hi ev4 ?_
  refine go_iconst (v := (-1)) d_Mo_readDeed_22 (by decide) ?_
  refine go_cmp_ne (tgt := 28) d_Mo_readDeed_23 (by decide) (fun hc => ?_) (fun hc => ?_)
  · rw [if_neg hc] at h
    refine go_aload_n (k := 0) d_Mo_readDeed_28 rfl rfl ?_
    refine go_callV (y := yMo_kindOfDeed) (asr := []) (v := some (.inl (F_Mo_kindOfDeed  I3))) (I' := I3) (st1 := [.inl (F_Mo_kindOfDeed  I3)]) d_Mo_readDeed_29 s_yMo_kindOfDeed m_Mo_279 a_M_0 rfl rfl rfl (Nat.le_of_ble_eq_true rfl) rfl rfl (c_Mo_kindOfDeed l (d0 + 3)  I3) ?_
    obtain ⟨y5, ey5, h⟩ := flt_e h
    refine go_top ey5 ?_
    refine go_istore_n (lv' := [(2, .inl y5), (0, .inr (some 0)), (1, .inl x1)]) d_Mo_readDeed_32 rfl (by decide) rfl ?_
    refine go_iload_n (k := 0) d_Mo_readDeed_33 rfl rfl ?_
    refine go_iconst (v := (-1)) d_Mo_readDeed_34 (by decide) ?_
    refine go_cmp_ne (tgt := 44) d_Mo_readDeed_35 (by decide) (fun hc => ?_) (fun hc => ?_)
    · rw [if_neg hc] at h
      refine go_aload_n (k := 1) d_Mo_readDeed_44 rfl rfl ?_
      obtain ⟨I6, w1, h⟩ := fbd_e h
      refine go_callV (y := yMo_reads) (asr := []) (v := none) (I' := I6) (st1 := []) d_Mo_readDeed_45 s_yMo_reads m_Mo_225 a_M_0 rfl rfl rfl (Nat.le_of_ble_eq_true rfl) rfl rfl (c_Mo_reads l (d0 + 2)  I3 w1) ?_
      refine go_aload_n (k := 1) d_Mo_readDeed_48 rfl rfl ?_
      refine go_getr (ci := 10) (k := 38) (r := 20) d_Mo_readDeed_49 a_M_0 rfl (by decide) f_Mo_71 rfl ?_
      refine go_iload_n (k := 2) d_Mo_readDeed_52 rfl rfl ?_
      refine go_iconst (v := 1) d_Mo_readDeed_53 (by decide) ?_
      refine go_iadd d_Mo_readDeed_54 ?_
      refine go_iload_n (k := 0) d_Mo_readDeed_55 rfl rfl ?_
      obtain ⟨hi, I7, eI7, h⟩ := fsto_e h
      refine go_iast (I' := I7) d_Mo_readDeed_56 a_M_20 hi eI7 ?_
      refine go_aload_n (k := 1) d_Mo_readDeed_57 rfl rfl ?_
      refine go_getr (ci := 10) (k := 38) (r := 20) d_Mo_readDeed_58 a_M_0 rfl (by decide) f_Mo_71 rfl ?_
      refine go_iload_n (k := 2) d_Mo_readDeed_61 rfl rfl ?_
      refine go_iconst (v := 2) d_Mo_readDeed_62 (by decide) ?_
      refine go_iadd d_Mo_readDeed_63 ?_
      refine go_aload_n (k := 1) d_Mo_readDeed_64 rfl rfl ?_
      refine go_iconst (v := 0) d_Mo_readDeed_65 (by decide) ?_
      refine go_aload_n (k := 1) d_Mo_readDeed_66 rfl rfl ?_
      refine go_iload_n (k := 0) d_Mo_readDeed_67 rfl rfl ?_
      refine go_callV (y := yMo_mostFor) (asr := [.inl y5]) (v := some (.inl (F_Mo_mostFor y5 I7))) (I' := I7) (st1 := [.inl (F_Mo_mostFor y5 I7), .inl 0, .inr (some 0), .inl (x1 + 2), .inr (some 20)]) d_Mo_readDeed_68 s_yMo_mostFor m_Mo_282 a_M_0 rfl rfl rfl (Nat.le_of_ble_eq_true rfl) rfl rfl (c_Mo_mostFor l (d0 + 4) y5 I7) ?_
      obtain ⟨⟨r9, I8⟩, w1, h⟩ := fbd_e h
      try dsimp only at h
      refine go_callV (y := yMo_readNumber) (asr := [.inl 0, .inl (F_Mo_mostFor y5 I7)]) (v := some (.inl r9)) (I' := I8) (st1 := [.inl r9, .inl (x1 + 2), .inr (some 20)]) d_Mo_readDeed_71 s_yMo_readNumber m_Mo_269 a_M_0 rfl rfl rfl (Nat.le_of_ble_eq_true rfl) rfl rfl (c_Mo_readNumber l (d0 + 1) 0 (F_Mo_mostFor y5 I7) I7 w1) ?_
      obtain ⟨hi, I10, eI10, h⟩ := fsto_e h
      refine go_iast (I' := I10) d_Mo_readDeed_74 a_M_20 hi eI10 ?_
      refine go_aload_n (k := 1) d_Mo_readDeed_75 rfl rfl ?_
      refine go_getr (ci := 10) (k := 38) (r := 20) d_Mo_readDeed_76 a_M_0 rfl (by decide) f_Mo_71 rfl ?_
      refine go_iload_n (k := 2) d_Mo_readDeed_79 rfl rfl ?_
      refine go_iconst (v := 2) d_Mo_readDeed_80 (by decide) ?_
      refine go_iadd d_Mo_readDeed_81 ?_
      obtain ⟨hi, v11, ev11, h⟩ := flod_e h
      refine go_iald2 d_Mo_readDeed_82 a_M_20 hi ev11 ?_
      refine go_iconst (v := (-1)) d_Mo_readDeed_83 (by decide) ?_
      refine go_cmp_ne (tgt := 89) d_Mo_readDeed_84 (by decide) (fun hc => ?_) (fun hc => ?_)
      · rw [if_neg hc] at h
        refine go_aload_n (k := 1) d_Mo_readDeed_89 rfl rfl ?_
        refine go_getr (ci := 10) (k := 38) (r := 20) d_Mo_readDeed_90 a_M_0 rfl (by decide) f_Mo_71 rfl ?_
        refine go_iload_n (k := 2) d_Mo_readDeed_93 rfl rfl ?_
        refine go_iconst (v := 3) d_Mo_readDeed_94 (by decide) ?_
        refine go_iadd d_Mo_readDeed_95 ?_
        refine go_iload_n (k := 0) d_Mo_readDeed_96 rfl rfl ?_
        refine go_iconst (v := 3) d_Mo_readDeed_97 (by decide) ?_
        refine go_cmp_ne (tgt := 111) d_Mo_readDeed_98 (by decide) (fun hc => ?_) (fun hc => ?_)
        · rw [if_neg hc] at h
          refine go_iconst (v := 0) d_Mo_readDeed_111 (by decide) ?_
          exact go_lv [1, 2] rfl (j_Mo_readDeed_112 l d0 x1 0 (x1 + 3) I10 h)
        · rw [if_pos hc] at h
          refine go_aload_n (k := 1) d_Mo_readDeed_101 rfl rfl ?_
          refine go_iconst (v := 0) d_Mo_readDeed_102 (by decide) ?_
          refine go_bipush (v := 99) d_Mo_readDeed_103 (by decide) ?_
          obtain ⟨⟨r17, I16⟩, w1, h⟩ := fbd_e h
          try dsimp only at h
          refine go_callV (y := yMo_readNumber) (asr := [.inl 0, .inl 99]) (v := some (.inl r17)) (I' := I16) (st1 := [.inl r17, .inl (x1 + 3), .inr (some 20)]) d_Mo_readDeed_105 s_yMo_readNumber m_Mo_269 a_M_0 rfl rfl rfl (Nat.le_of_ble_eq_true rfl) rfl rfl (c_Mo_readNumber l (d0 + 1) 0 99 I10 w1) ?_
          refine go_goto (tgt := 112) d_Mo_readDeed_108 (by decide) ?_
          exact go_lv [1, 2] rfl (j_Mo_readDeed_112 l d0 x1 r17 (x1 + 3) I16 h)
      · rw [if_pos hc] at h
        refine go_iconst (v := (-1)) d_Mo_readDeed_87 (by decide) ?_
        cases h
        exact go_ireturn d_Mo_readDeed_88 rfl gb_po_i
    · rw [if_pos hc] at h
      refine go_aload_n (k := 1) d_Mo_readDeed_38 rfl rfl ?_
      refine go_iconst (v := 1) d_Mo_readDeed_39 (by decide) ?_
      obtain ⟨⟨r19, I18⟩, w1, h⟩ := fbd_e h
      try dsimp only at h
      refine go_callV (y := yMo_errs) (asr := [.inl 1]) (v := some (.inl r19)) (I' := I18) (st1 := [.inl r19]) d_Mo_readDeed_40 s_yMo_errs m_Mo_218 a_M_0 rfl rfl rfl (Nat.le_of_ble_eq_true rfl) rfl rfl (c_Mo_errs l (d0 + 4) 1 I3 w1) ?_
      cases h
      exact go_ireturn d_Mo_readDeed_43 rfl gb_po_i
  · rw [if_pos hc] at h
    refine go_iconst (v := (-1)) d_Mo_readDeed_26 (by decide) ?_
    cases h
    exact go_ireturn d_Mo_readDeed_27 rfl gb_po_i
