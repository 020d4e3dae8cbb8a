theorem d_Rd_readCondition_0 : decode yRd_readCondition.2.1 0 = .ok (.iconst 0, 1) := by decide +kernel
theorem d_Rd_readCondition_1 : decode yRd_readCondition.2.1 1 = .ok (.istore_n 2, 1) := by decide +kernel
theorem d_Rd_readCondition_2 : decode yRd_readCondition.2.1 2 = .ok (.iconst 0, 1) := by decide +kernel
theorem d_Rd_readCondition_3 : decode yRd_readCondition.2.1 3 = .ok (.istore_n 3, 1) := by decide +kernel
theorem d_Rd_readCondition_4 : decode yRd_readCondition.2.1 4 = .ok (.iconst 0, 1) := by decide +kernel
theorem d_Rd_readCondition_5 : decode yRd_readCondition.2.1 5 = .ok (.istore 4, 2) := by decide +kernel
theorem d_Rd_readCondition_7 : decode yRd_readCondition.2.1 7 = .ok (.iload 4, 2) := by decide +kernel
theorem d_Rd_readCondition_9 : decode yRd_readCondition.2.1 9 = .ok (.sipush 400, 3) := by decide +kernel
theorem d_Rd_readCondition_12 : decode yRd_readCondition.2.1 12 = .ok (.if_icmp .ge 113, 3) := by decide +kernel
theorem d_Rd_readCondition_15 : decode yRd_readCondition.2.1 15 = .ok (.aload_n 0, 1) := by decide +kernel
theorem d_Rd_readCondition_16 : decode yRd_readCondition.2.1 16 = .ok (.getfield 53, 3) := by decide +kernel
theorem d_Rd_readCondition_19 : decode yRd_readCondition.2.1 19 = .ok (.ifCond .ne 106, 3) := by decide +kernel
theorem d_Rd_readCondition_22 : decode yRd_readCondition.2.1 22 = .ok (.aload_n 0, 1) := by decide +kernel
theorem d_Rd_readCondition_23 : decode yRd_readCondition.2.1 23 = .ok (.iload_n 1, 1) := by decide +kernel
theorem d_Rd_readCondition_24 : decode yRd_readCondition.2.1 24 = .ok (.invokevirtual 119, 3) := by decide +kernel
theorem d_Rd_readCondition_27 : decode yRd_readCondition.2.1 27 = .ok (.iload_n 3, 1) := by decide +kernel
theorem d_Rd_readCondition_28 : decode yRd_readCondition.2.1 28 = .ok (.ifCond .le 13, 3) := by decide +kernel
theorem d_Rd_readCondition_31 : decode yRd_readCondition.2.1 31 = .ok (.aload_n 0, 1) := by decide +kernel
theorem d_Rd_readCondition_32 : decode yRd_readCondition.2.1 32 = .ok (.getfield 25, 3) := by decide +kernel
theorem d_Rd_readCondition_35 : decode yRd_readCondition.2.1 35 = .ok (.bipush 10, 2) := by decide +kernel
theorem d_Rd_readCondition_37 : decode yRd_readCondition.2.1 37 = .ok (.iconst 0, 1) := by decide +kernel
theorem d_Rd_readCondition_38 : decode yRd_readCondition.2.1 38 = .ok (.invokevirtual 122, 3) := by decide +kernel
theorem d_Rd_readCondition_41 : decode yRd_readCondition.2.1 41 = .ok (.aload_n 0, 1) := by decide +kernel
theorem d_Rd_readCondition_42 : decode yRd_readCondition.2.1 42 = .ok (.getfield 53, 3) := by decide +kernel
theorem d_Rd_readCondition_45 : decode yRd_readCondition.2.1 45 = .ok (.ifCond .ne 28, 3) := by decide +kernel
theorem d_Rd_readCondition_48 : decode yRd_readCondition.2.1 48 = .ok (.aload_n 0, 1) := by decide +kernel
theorem d_Rd_readCondition_49 : decode yRd_readCondition.2.1 49 = .ok (.invokevirtual 62, 3) := by decide +kernel
theorem d_Rd_readCondition_52 : decode yRd_readCondition.2.1 52 = .ok (.sipush 217, 3) := by decide +kernel
theorem d_Rd_readCondition_55 : decode yRd_readCondition.2.1 55 = .ok (.if_icmp .ne 18, 3) := by decide +kernel
theorem d_Rd_readCondition_58 : decode yRd_readCondition.2.1 58 = .ok (.iconst 1, 1) := by decide +kernel
theorem d_Rd_readCondition_59 : decode yRd_readCondition.2.1 59 = .ok (.istore_n 3, 1) := by decide +kernel
theorem d_Rd_readCondition_60 : decode yRd_readCondition.2.1 60 = .ok (.aload_n 0, 1) := by decide +kernel
theorem d_Rd_readCondition_61 : decode yRd_readCondition.2.1 61 = .ok (.dup, 1) := by decide +kernel
theorem d_Rd_readCondition_62 : decode yRd_readCondition.2.1 62 = .ok (.getfield 80, 3) := by decide +kernel
theorem d_Rd_readCondition_65 : decode yRd_readCondition.2.1 65 = .ok (.iconst 1, 1) := by decide +kernel
theorem d_Rd_readCondition_66 : decode yRd_readCondition.2.1 66 = .ok (.iadd, 1) := by decide +kernel
theorem d_Rd_readCondition_67 : decode yRd_readCondition.2.1 67 = .ok (.putfield 80, 3) := by decide +kernel
theorem d_Rd_readCondition_70 : decode yRd_readCondition.2.1 70 = .ok (.goto 49, 3) := by decide +kernel
theorem d_Rd_readCondition_73 : decode yRd_readCondition.2.1 73 = .ok (.iload_n 2, 1) := by decide +kernel
theorem d_Rd_readCondition_74 : decode yRd_readCondition.2.1 74 = .ok (.ifCond .le 13, 3) := by decide +kernel
theorem d_Rd_readCondition_77 : decode yRd_readCondition.2.1 77 = .ok (.aload_n 0, 1) := by decide +kernel
theorem d_Rd_readCondition_78 : decode yRd_readCondition.2.1 78 = .ok (.getfield 25, 3) := by decide +kernel
theorem d_Rd_readCondition_81 : decode yRd_readCondition.2.1 81 = .ok (.bipush 11, 2) := by decide +kernel
theorem d_Rd_readCondition_83 : decode yRd_readCondition.2.1 83 = .ok (.iconst 0, 1) := by decide +kernel
theorem d_Rd_readCondition_84 : decode yRd_readCondition.2.1 84 = .ok (.invokevirtual 122, 3) := by decide +kernel
theorem d_Rd_readCondition_87 : decode yRd_readCondition.2.1 87 = .ok (.aload_n 0, 1) := by decide +kernel
theorem d_Rd_readCondition_88 : decode yRd_readCondition.2.1 88 = .ok (.getfield 53, 3) := by decide +kernel
theorem d_Rd_readCondition_91 : decode yRd_readCondition.2.1 91 = .ok (.ifCond .ne 13, 3) := by decide +kernel
theorem d_Rd_readCondition_94 : decode yRd_readCondition.2.1 94 = .ok (.aload_n 0, 1) := by decide +kernel
theorem d_Rd_readCondition_95 : decode yRd_readCondition.2.1 95 = .ok (.invokevirtual 62, 3) := by decide +kernel
theorem d_Rd_readCondition_98 : decode yRd_readCondition.2.1 98 = .ok (.sipush 216, 3) := by decide +kernel
theorem d_Rd_readCondition_101 : decode yRd_readCondition.2.1 101 = .ok (.if_icmp .eq 4, 3) := by decide +kernel
theorem d_Rd_readCondition_104 : decode yRd_readCondition.2.1 104 = .ok (.return_, 1) := by decide +kernel
theorem d_Rd_readCondition_105 : decode yRd_readCondition.2.1 105 = .ok (.iconst 0, 1) := by decide +kernel
theorem d_Rd_readCondition_106 : decode yRd_readCondition.2.1 106 = .ok (.istore_n 3, 1) := by decide +kernel
theorem d_Rd_readCondition_107 : decode yRd_readCondition.2.1 107 = .ok (.iconst 1, 1) := by decide +kernel
theorem d_Rd_readCondition_108 : decode yRd_readCondition.2.1 108 = .ok (.istore_n 2, 1) := by decide +kernel
theorem d_Rd_readCondition_109 : decode yRd_readCondition.2.1 109 = .ok (.aload_n 0, 1) := by decide +kernel
theorem d_Rd_readCondition_110 : decode yRd_readCondition.2.1 110 = .ok (.dup, 1) := by decide +kernel
theorem d_Rd_readCondition_111 : decode yRd_readCondition.2.1 111 = .ok (.getfield 80, 3) := by decide +kernel
theorem d_Rd_readCondition_114 : decode yRd_readCondition.2.1 114 = .ok (.iconst 1, 1) := by decide +kernel
theorem d_Rd_readCondition_115 : decode yRd_readCondition.2.1 115 = .ok (.iadd, 1) := by decide +kernel
theorem d_Rd_readCondition_116 : decode yRd_readCondition.2.1 116 = .ok (.putfield 80, 3) := by decide +kernel
theorem d_Rd_readCondition_119 : decode yRd_readCondition.2.1 119 = .ok (.iinc 4 1, 3) := by decide +kernel
theorem d_Rd_readCondition_122 : decode yRd_readCondition.2.1 122 = .ok (.goto (-115), 3) := by decide +kernel
theorem d_Rd_readCondition_125 : decode yRd_readCondition.2.1 125 = .ok (.return_, 1) := by decide +kernel
def J_Rd_readCondition_119 (fC fS : Int32 → gb_Mem → Option gb_Mem) (k : Int32 → Int32 → Int32 → gb_Mem → Option ((gb_Mem) ⊕ (gb_Mem))) (x1 x2 x3 x4 : Int32) (I : gb_Mem) : Option ((gb_Mem) ⊕ (gb_Mem)) :=
  k x2 x3 (x4 + 1) I
set_option maxRecDepth 4000 in
theorem j_Rd_readCondition_119 (l : Launch) (d0 : Nat) (fC fS : Int32 → gb_Mem → Option gb_Mem) (hC : ∀ (x : Int32) (I I2 : gb_Mem), fC x I = some I2 → gb_Cs l yRd_readCondition (d0 + 3) [.inr (some 111), .inl x] shX I none I2) (hS : ∀ (x : Int32) (I I2 : gb_Mem), fS x I = some I2 → gb_Cs l yRd_readSingle (d0 + 3) [.inr (some 111), .inl x] shX I none I2) {post : Option gb_AV → List gb_Ce → gb_Mem → Prop} (k : Int32 → Int32 → Int32 → gb_Mem → Option ((gb_Mem) ⊕ (gb_Mem))) (x1 x2 x3 x4 : Int32) (I : gb_Mem) {ρ : (gb_Mem) ⊕ (gb_Mem)} (h : J_Rd_readCondition_119 fC fS k x1 x2 x3 x4 I = some ρ) (hk : ∀ (z2 z3 z4 : Int32) (Iw : gb_Mem), k z2 z3 z4 Iw = some ρ → gb_Go l yRd_readCondition (d0 + 4) 0 0 7 [(0, .inr (some 111)), (1, .inl x1), (2, .inl z2), (3, .inl z3), (4, .inl z4)] [] shX Iw post) (hX : ∀ (I2 : gb_Mem), ρ = .inl I2 → gb_Go l yRd_readCondition (d0 + 4) 0 0 125 [] [] shX I2 post) (hR : ∀ (I3 : gb_Mem), ρ = .inr I3 → post none shX I3) : gb_Go l yRd_readCondition (d0 + 4) 0 0 119 [(0, .inr (some 111)), (1, .inl x1), (2, .inl x2), (3, .inl x3), (4, .inl x4)] [] shX I post := by
  unfold J_Rd_readCondition_119 at h
  refine go_iinc (k := 4) (v := x4 + 1) (lv' := [(4, .inl (x4 + 1)), (0, .inr (some 111)), (1, .inl x1), (2, .inl x2), (3, .inl x3)]) d_Rd_readCondition_119 rfl rfl (by decide) rfl ?_
  refine go_goto (tgt := 7) d_Rd_readCondition_122 (by decide) ?_
  exact go_lv [1, 2, 3, 4, 0] rfl (hk _ _ _ _ h)
def J_Rd_readCondition_87 (fC fS : Int32 → gb_Mem → Option gb_Mem) (k : Int32 → Int32 → Int32 → gb_Mem → Option ((gb_Mem) ⊕ (gb_Mem))) (x1 x4 : Int32) (I : gb_Mem) : Option ((gb_Mem) ⊕ (gb_Mem)) :=
  if (I 111 7) = 0 then
    fbd (F_Rd_now  I) fun r2 =>
    if r2 = 216 then
      fstf I 111 6 ((I 111 6) + 1) fun I3 =>
      J_Rd_readCondition_119 fC fS k x1 1 0 x4 I3
    else
      some (.inr I)
  else
    some (.inr I)
set_option maxRecDepth 4000 in
theorem j_Rd_readCondition_87 (l : Launch) (d0 : Nat) (fC fS : Int32 → gb_Mem → Option gb_Mem) (hC : ∀ (x : Int32) (I I2 : gb_Mem), fC x I = some I2 → gb_Cs l yRd_readCondition (d0 + 3) [.inr (some 111), .inl x] shX I none I2) (hS : ∀ (x : Int32) (I I2 : gb_Mem), fS x I = some I2 → gb_Cs l yRd_readSingle (d0 + 3) [.inr (some 111), .inl x] shX I none I2) {post : Option gb_AV → List gb_Ce → gb_Mem → Prop} (k : Int32 → Int32 → Int32 → gb_Mem → Option ((gb_Mem) ⊕ (gb_Mem))) (x1 x4 : Int32) (I : gb_Mem) {ρ : (gb_Mem) ⊕ (gb_Mem)} (h : J_Rd_readCondition_87 fC fS k x1 x4 I = some ρ) (hk : ∀ (z2 z3 z4 : Int32) (Iw : gb_Mem), k z2 z3 z4 Iw = some ρ → gb_Go l yRd_readCondition (d0 + 4) 0 0 7 [(0, .inr (some 111)), (1, .inl x1), (2, .inl z2), (3, .inl z3), (4, .inl z4)] [] shX Iw post) (hX : ∀ (I2 : gb_Mem), ρ = .inl I2 → gb_Go l yRd_readCondition (d0 + 4) 0 0 125 [] [] shX I2 post) (hR : ∀ (I3 : gb_Mem), ρ = .inr I3 → post none shX I3) : gb_Go l yRd_readCondition (d0 + 4) 0 0 87 [(0, .inr (some 111)), (1, .inl x1), (4, .inl x4)] [] shX I post := by
  unfold J_Rd_readCondition_87 at h
  refine go_aload_n (k := 0) d_Rd_readCondition_87 rfl rfl ?_
  refine go_geti (ci := 9) (k := 7) d_Rd_readCondition_88 a_X_111 rfl (by decide) f_Rd_53 rfl ?_
  refine go_if_ne (tgt := 104) d_Rd_readCondition_91 (by decide) (fun hc => ?_) (fun hc => ?_)
  · rw [if_neg hc] at h
    exact go_return d_Rd_readCondition_104 rfl (hR _ (Option.some.inj h).symm)
  · rw [if_pos hc] at h
    refine go_aload_n (k := 0) d_Rd_readCondition_94 rfl rfl ?_
    obtain ⟨r2, w1, h⟩ := fbd_e h
    refine go_callV (y := yRd_now) (asr := []) (v := some (.inl r2)) (I' := I) (st1 := [.inl r2]) d_Rd_readCondition_95 s_yRd_now m_Rd_62 a_X_111 rfl rfl rfl (Nat.le_of_ble_eq_true rfl) rfl rfl (c_Rd_now l (d0 + 3)  I w1) ?_
    refine go_sipush (v := 216) d_Rd_readCondition_98 (by decide) ?_
    refine go_cmp_eq (tgt := 105) d_Rd_readCondition_101 (by decide) (fun hc => ?_) (fun hc => ?_)
    · rw [if_pos hc] at h
      refine go_iconst (v := 0) d_Rd_readCondition_105 (by decide) ?_
      refine go_istore_n (lv' := [(3, .inl 0), (0, .inr (some 111)), (1, .inl x1), (4, .inl x4)]) d_Rd_readCondition_106 rfl (by decide) rfl ?_
      refine go_iconst (v := 1) d_Rd_readCondition_107 (by decide) ?_
      refine go_istore_n (lv' := [(2, .inl 1), (3, .inl 0), (0, .inr (some 111)), (1, .inl x1), (4, .inl x4)]) d_Rd_readCondition_108 rfl (by decide) rfl ?_
      refine go_aload_n (k := 2) d_Rd_readCondition_109 rfl rfl ?_
      refine go_dup d_Rd_readCondition_110 ?_
      refine go_geti (ci := 9) (k := 6) d_Rd_readCondition_111 a_X_111 rfl (by decide) f_Rd_80 rfl ?_
      refine go_iconst (v := 1) d_Rd_readCondition_114 (by decide) ?_
      refine go_iadd d_Rd_readCondition_115 ?_
      obtain ⟨I3, eI3, h⟩ := fstf_e h
      refine go_putT (ci := 9) (k := 6) (I' := I3) d_Rd_readCondition_116 a_X_111 rfl (by decide) f_Rd_80 rfl rfl rfl rfl rfl eI3 ?_
      exact go_lv [2, 3, 0, 1, 4] rfl (j_Rd_readCondition_119 l d0 fC fS hC hS k x1 1 0 x4 I3 h hk hX hR)
    · rw [if_neg hc] at h
      exact go_return d_Rd_readCondition_104 rfl (hR _ (Option.some.inj h).symm)
def J_Rd_readCondition_73 (fC fS : Int32 → gb_Mem → Option gb_Mem) (k : Int32 → Int32 → Int32 → gb_Mem → Option ((gb_Mem) ⊕ (gb_Mem))) (x1 x2 x4 : Int32) (I : gb_Mem) : Option ((gb_Mem) ⊕ (gb_Mem)) :=
  if x2 ≤ 0 then
    J_Rd_readCondition_87 fC fS k x1 x4 I
  else
    fbd (F_La_emit 114 11 0 I) fun I4 =>
    J_Rd_readCondition_87 fC fS k x1 x4 I4
set_option maxRecDepth 4000 in
theorem j_Rd_readCondition_73 (l : Launch) (d0 : Nat) (fC fS : Int32 → gb_Mem → Option gb_Mem) (hC : ∀ (x : Int32) (I I2 : gb_Mem), fC x I = some I2 → gb_Cs l yRd_readCondition (d0 + 3) [.inr (some 111), .inl x] shX I none I2) (hS : ∀ (x : Int32) (I I2 : gb_Mem), fS x I = some I2 → gb_Cs l yRd_readSingle (d0 + 3) [.inr (some 111), .inl x] shX I none I2) {post : Option gb_AV → List gb_Ce → gb_Mem → Prop} (k : Int32 → Int32 → Int32 → gb_Mem → Option ((gb_Mem) ⊕ (gb_Mem))) (x1 x2 x4 : Int32) (I : gb_Mem) {ρ : (gb_Mem) ⊕ (gb_Mem)} (h : J_Rd_readCondition_73 fC fS k x1 x2 x4 I = some ρ) (hk : ∀ (z2 z3 z4 : Int32) (Iw : gb_Mem), k z2 z3 z4 Iw = some ρ → gb_Go l yRd_readCondition (d0 + 4) 0 0 7 [(0, .inr (some 111)), (1, .inl x1), (2, .inl z2), (3, .inl z3), (4, .inl z4)] [] shX Iw post) (hX : ∀ (I2 : gb_Mem), ρ = .inl I2 → gb_Go l yRd_readCondition (d0 + 4) 0 0 125 [] [] shX I2 post) (hR : ∀ (I3 : gb_Mem), ρ = .inr I3 → post none shX I3) : gb_Go l yRd_readCondition (d0 + 4) 0 0 73 [(0, .inr (some 111)), (1, .inl x1), (2, .inl x2), (4, .inl x4)] [] shX I post := by
  unfold J_Rd_readCondition_73 at h
  refine go_iload_n (k := 2) d_Rd_readCondition_73 rfl rfl ?_
  refine go_if_le (tgt := 87) d_Rd_readCondition_74 (by decide) (fun hc => ?_) (fun hc => ?_)
  · rw [if_pos hc] at h
    exact go_lv [0, 1, 3] rfl (j_Rd_readCondition_87 l d0 fC fS hC hS k x1 x4 I h hk hX hR)
  · rw [if_neg hc] at h
    refine go_aload_n (k := 0) d_Rd_readCondition_77 rfl rfl ?_
    refine go_getr (ci := 9) (k := 9) (r := 114) d_Rd_readCondition_78 a_X_111 rfl (by decide) f_Rd_25 rfl ?_
    refine go_bipush (v := 11) d_Rd_readCondition_81 (by decide) ?_
    refine go_iconst (v := 0) d_Rd_readCondition_83 (by decide) ?_
    obtain ⟨I4, w1, h⟩ := fbd_e h
    refine go_callV (y := yLa_emit) (asr := [.inl 11, .inl 0]) (v := none) (I' := I4) (st1 := []) d_Rd_readCondition_84 s_yLa_emit m_Rd_122 a_X_114 rfl rfl rfl (Nat.le_of_ble_eq_true rfl) rfl rfl (c_La_emit l (d0 + 3) 114 isLa_114 11 0 I w1) ?_
    exact go_lv [0, 1, 3] rfl (j_Rd_readCondition_87 l d0 fC fS hC hS k x1 x4 I4 h hk hX hR)
def J_Rd_readCondition_41 (fC fS : Int32 → gb_Mem → Option gb_Mem) (k : Int32 → Int32 → Int32 → gb_Mem → Option ((gb_Mem) ⊕ (gb_Mem))) (x1 x2 x4 : Int32) (I : gb_Mem) : Option ((gb_Mem) ⊕ (gb_Mem)) :=
  if (I 111 7) = 0 then
    fbd (F_Rd_now  I) fun r5 =>
    if r5 = 217 then
      fstf I 111 6 ((I 111 6) + 1) fun I6 =>
      J_Rd_readCondition_119 fC fS k x1 x2 1 x4 I6
    else
      J_Rd_readCondition_73 fC fS k x1 x2 x4 I
  else
    J_Rd_readCondition_73 fC fS k x1 x2 x4 I
set_option maxRecDepth 4000 in
theorem j_Rd_readCondition_41 (l : Launch) (d0 : Nat) (fC fS : Int32 → gb_Mem → Option gb_Mem) (hC : ∀ (x : Int32) (I I2 : gb_Mem), fC x I = some I2 → gb_Cs l yRd_readCondition (d0 + 3) [.inr (some 111), .inl x] shX I none I2) (hS : ∀ (x : Int32) (I I2 : gb_Mem), fS x I = some I2 → gb_Cs l yRd_readSingle (d0 + 3) [.inr (some 111), .inl x] shX I none I2) {post : Option gb_AV → List gb_Ce → gb_Mem → Prop} (k : Int32 → Int32 → Int32 → gb_Mem → Option ((gb_Mem) ⊕ (gb_Mem))) (x1 x2 x4 : Int32) (I : gb_Mem) {ρ : (gb_Mem) ⊕ (gb_Mem)} (h : J_Rd_readCondition_41 fC fS k x1 x2 x4 I = some ρ) (hk : ∀ (z2 z3 z4 : Int32) (Iw : gb_Mem), k z2 z3 z4 Iw = some ρ → gb_Go l yRd_readCondition (d0 + 4) 0 0 7 [(0, .inr (some 111)), (1, .inl x1), (2, .inl z2), (3, .inl z3), (4, .inl z4)] [] shX Iw post) (hX : ∀ (I2 : gb_Mem), ρ = .inl I2 → gb_Go l yRd_readCondition (d0 + 4) 0 0 125 [] [] shX I2 post) (hR : ∀ (I3 : gb_Mem), ρ = .inr I3 → post none shX I3) : gb_Go l yRd_readCondition (d0 + 4) 0 0 41 [(0, .inr (some 111)), (1, .inl x1), (2, .inl x2), (4, .inl x4)] [] shX I post := by
  unfold J_Rd_readCondition_41 at h
  refine go_aload_n (k := 0) d_Rd_readCondition_41 rfl rfl ?_
  refine go_geti (ci := 9) (k := 7) d_Rd_readCondition_42 a_X_111 rfl (by decide) f_Rd_53 rfl ?_
  refine go_if_ne (tgt := 73) d_Rd_readCondition_45 (by decide) (fun hc => ?_) (fun hc => ?_)
  · rw [if_neg hc] at h
    exact go_lv [0, 1, 2, 3] rfl (j_Rd_readCondition_73 l d0 fC fS hC hS k x1 x2 x4 I h hk hX hR)
  · rw [if_pos hc] at h
    refine go_aload_n (k := 0) d_Rd_readCondition_48 rfl rfl ?_
    obtain ⟨r5, w1, h⟩ := fbd_e h
    refine go_callV (y := yRd_now) (asr := []) (v := some (.inl r5)) (I' := I) (st1 := [.inl r5]) d_Rd_readCondition_49 s_yRd_now m_Rd_62 a_X_111 rfl rfl rfl (Nat.le_of_ble_eq_true rfl) rfl rfl (c_Rd_now l (d0 + 3)  I w1) ?_
    refine go_sipush (v := 217) d_Rd_readCondition_52 (by decide) ?_
    refine go_cmp_ne (tgt := 73) d_Rd_readCondition_55 (by decide) (fun hc => ?_) (fun hc => ?_)
    · rw [if_neg hc] at h
      exact go_lv [0, 1, 2, 3] rfl (j_Rd_readCondition_73 l d0 fC fS hC hS k x1 x2 x4 I h hk hX hR)
    · rw [if_pos hc] at h
      refine go_iconst (v := 1) d_Rd_readCondition_58 (by decide) ?_
      refine go_istore_n (lv' := [(3, .inl 1), (0, .inr (some 111)), (1, .inl x1), (2, .inl x2), (4, .inl x4)]) d_Rd_readCondition_59 rfl (by decide) rfl ?_
      refine go_aload_n (k := 1) d_Rd_readCondition_60 rfl rfl ?_
      refine go_dup d_Rd_readCondition_61 ?_
      refine go_geti (ci := 9) (k := 6) d_Rd_readCondition_62 a_X_111 rfl (by decide) f_Rd_80 rfl ?_
      refine go_iconst (v := 1) d_Rd_readCondition_65 (by decide) ?_
      refine go_iadd d_Rd_readCondition_66 ?_
      obtain ⟨I6, eI6, h⟩ := fstf_e h
      refine go_putT (ci := 9) (k := 6) (I' := I6) d_Rd_readCondition_67 a_X_111 rfl (by decide) f_Rd_80 rfl rfl rfl rfl rfl eI6 ?_
      refine go_goto (tgt := 119) d_Rd_readCondition_70 (by decide) ?_
      exact go_lv [1, 2, 3, 0, 4] rfl (j_Rd_readCondition_119 l d0 fC fS hC hS k x1 x2 1 x4 I6 h hk hX hR)
def L_Rd_readCondition_7 (fC fS : Int32 → gb_Mem → Option gb_Mem) (x1 : Int32) : Nat → Int32 → Int32 → Int32 → gb_Mem → Option ((gb_Mem) ⊕ (gb_Mem))
  | 0, _, _, _, _ => none
  | n + 1, x2, x3, x4, I =>
    if 400 ≤ x4 then
      some (.inl I)
    else
      if (I 111 7) = 0 then
        fbd (fS x1 I) fun I1 =>
        if x3 ≤ 0 then
          J_Rd_readCondition_41 fC fS (L_Rd_readCondition_7 fC fS x1 n) x1 x2 x4 I1
        else
          fbd (F_La_emit 114 10 0 I1) fun I7 =>
          J_Rd_readCondition_41 fC fS (L_Rd_readCondition_7 fC fS x1 n) x1 x2 x4 I7
      else
        some (.inl I)
set_option maxRecDepth 4000 in
theorem l_Rd_readCondition_7 (l : Launch) (d0 : Nat) (fC fS : Int32 → gb_Mem → Option gb_Mem) (hC : ∀ (x : Int32) (I I2 : gb_Mem), fC x I = some I2 → gb_Cs l yRd_readCondition (d0 + 3) [.inr (some 111), .inl x] shX I none I2) (hS : ∀ (x : Int32) (I I2 : gb_Mem), fS x I = some I2 → gb_Cs l yRd_readSingle (d0 + 3) [.inr (some 111), .inl x] shX I none I2) (x1 : Int32) {post : Option gb_AV → List gb_Ce → gb_Mem → Prop} : ∀ (n : Nat) (x2 x3 x4 : Int32) (I : gb_Mem) {ρ : (gb_Mem) ⊕ (gb_Mem)} (h : L_Rd_readCondition_7 fC fS x1 n x2 x3 x4 I = some ρ) (hX : ∀ (I2 : gb_Mem), ρ = .inl I2 → gb_Go l yRd_readCondition (d0 + 4) 0 0 125 [] [] shX I2 post) (hR : ∀ (I3 : gb_Mem), ρ = .inr I3 → post none shX I3) , gb_Go l yRd_readCondition (d0 + 4) 0 0 7 [(0, .inr (some 111)), (1, .inl x1), (2, .inl x2), (3, .inl x3), (4, .inl x4)] [] shX I post := by
  intro n
  induction n with
  | zero => intro x2 x3 x4 I ρ h hX hR; cases h
  | succ n ih =>
    intro x2 x3 x4 I ρ h hX hR
    rw [L_Rd_readCondition_7] at h
    refine go_iload (k := 4) d_Rd_readCondition_7 rfl ?_
    refine go_sipush (v := 400) d_Rd_readCondition_9 (by decide) ?_
    refine go_cmp_ge (tgt := 125) d_Rd_readCondition_12 (by decide) (fun hc => ?_) (fun hc => ?_)
    · rw [if_pos hc] at h
      exact go_lv [] rfl (hX _ (Option.some.inj h).symm)
    · rw [if_neg hc] at h
      refine go_aload_n (k := 0) d_Rd_readCondition_15 rfl rfl ?_
      refine go_geti (ci := 9) (k := 7) d_Rd_readCondition_16 a_X_111 rfl (by decide) f_Rd_53 rfl ?_
      refine go_if_ne (tgt := 125) d_Rd_readCondition_19 (by decide) (fun hc => ?_) (fun hc => ?_)
      · rw [if_neg hc] at h
        exact go_lv [] rfl (hX _ (Option.some.inj h).symm)
      · rw [if_pos hc] at h
        refine go_aload_n (k := 0) d_Rd_readCondition_22 rfl rfl ?_
        refine go_iload_n (k := 1) d_Rd_readCondition_23 rfl rfl ?_
        obtain ⟨I1, w1, h⟩ := fbd_e h
        refine go_callV (y := yRd_readSingle) (asr := [.inl x1]) (v := none) (I' := I1) (st1 := []) d_Rd_readCondition_24 s_yRd_readSingle m_Rd_119 a_X_111 rfl rfl rfl (Nat.le_of_ble_eq_true rfl) rfl rfl (hS x1 I I1 w1) ?_
        refine go_iload_n (k := 3) d_Rd_readCondition_27 rfl rfl ?_
        refine go_if_le (tgt := 41) d_Rd_readCondition_28 (by decide) (fun hc => ?_) (fun hc => ?_)
        · rw [if_pos hc] at h
          exact go_lv [0, 1, 2, 4] rfl (j_Rd_readCondition_41 l d0 fC fS hC hS (L_Rd_readCondition_7 fC fS x1 n) x1 x2 x4 I1 h (fun z2 z3 z4 Iw hh => ih z2 z3 z4 Iw hh hX hR) hX hR)
        · rw [if_neg hc] at h
          refine go_aload_n (k := 0) d_Rd_readCondition_31 rfl rfl ?_
          refine go_getr (ci := 9) (k := 9) (r := 114) d_Rd_readCondition_32 a_X_111 rfl (by decide) f_Rd_25 rfl ?_
          refine go_bipush (v := 10) d_Rd_readCondition_35 (by decide) ?_
          refine go_iconst (v := 0) d_Rd_readCondition_37 (by decide) ?_
          obtain ⟨I7, w1, h⟩ := fbd_e h
          refine go_callV (y := yLa_emit) (asr := [.inl 10, .inl 0]) (v := none) (I' := I7) (st1 := []) d_Rd_readCondition_38 s_yLa_emit m_Rd_122 a_X_114 rfl rfl rfl (Nat.le_of_ble_eq_true rfl) rfl rfl (c_La_emit l (d0 + 3) 114 isLa_114 10 0 I1 w1) ?_
          exact go_lv [0, 1, 2, 4] rfl (j_Rd_readCondition_41 l d0 fC fS hC hS (L_Rd_readCondition_7 fC fS x1 n) x1 x2 x4 I7 h (fun z2 z3 z4 Iw hh => ih z2 z3 z4 Iw hh hX hR) hX hR)
def F_Rd_readCondition_b (fC fS : Int32 → gb_Mem → Option gb_Mem) (x1 : Int32) (I : gb_Mem) : Option (gb_Mem) :=
  fbr (L_Rd_readCondition_7 fC fS x1 5000 0 0 0 I) (fun I8 =>
    some I8)
    (fun I10 => some I10)
set_option maxRecDepth 4000 in
theorem c_Rd_readCondition_b (l : Launch) (d0 : Nat) (fC fS : Int32 → gb_Mem → Option gb_Mem) (hC : ∀ (x : Int32) (I I2 : gb_Mem), fC x I = some I2 → gb_Cs l yRd_readCondition (d0 + 3) [.inr (some 111), .inl x] shX I none I2) (hS : ∀ (x : Int32) (I I2 : gb_Mem), fS x I = some I2 → gb_Cs l yRd_readSingle (d0 + 3) [.inr (some 111), .inl x] shX I none I2) (x1 : Int32) (I : gb_Mem) {Iz : gb_Mem} (h : F_Rd_readCondition_b fC fS x1 I = some Iz) : gb_Cs l yRd_readCondition (d0 + 4) [.inr (some 111), .inl x1] shX I none Iz := by
  refine gb_Ct.of (lv := [(0, .inr (some 111)), (1, .inl x1)]) rfl (Nat.le_of_ble_eq_true rfl) rfl ?_
  unfold F_Rd_readCondition_b at h
  show gb_Go l yRd_readCondition (d0 + 4) 0 0 0 [(0, .inr (some 111)), (1, .inl x1)] [] shX I (gb_po shX none Iz)
  refine go_iconst (v := 0) d_Rd_readCondition_0 (by decide) ?_
  refine go_istore_n (lv' := [(2, .inl 0), (0, .inr (some 111)), (1, .inl x1)]) d_Rd_readCondition_1 rfl (by decide) rfl ?_
  refine go_iconst (v := 0) d_Rd_readCondition_2 (by decide) ?_
  refine go_istore_n (lv' := [(3, .inl 0), (2, .inl 0), (0, .inr (some 111)), (1, .inl x1)]) d_Rd_readCondition_3 rfl (by decide) rfl ?_
  refine go_iconst (v := 0) d_Rd_readCondition_4 (by decide) ?_
  refine go_istore (lv' := [(4, .inl 0), (3, .inl 0), (2, .inl 0), (0, .inr (some 111)), (1, .inl x1)]) d_Rd_readCondition_5 (by decide) rfl ?_
  refine go_lv [3, 4, 2, 1, 0] (lv' := [(0, .inr (some 111)), (1, .inl x1), (2, .inl 0), (3, .inl 0), (4, .inl 0)]) rfl ?_
  obtain ⟨ρ, w1, w2, w3⟩ := fbr_e2 h
  refine l_Rd_readCondition_7 l d0 fC fS hC hS x1 5000 0 0 0 I w1 (fun I8 e => ?_) (fun I10 e => ?_)
  · have h := w2 _ e
    try dsimp only at h
    cases h
    exact go_return d_Rd_readCondition_125 rfl gb_po_i
  · have h := w3 _ e
    try dsimp only at h
    cases h
    exact gb_po_i
theorem d_Rd_readSingle_0 : decode yRd_readSingle.2.1 0 = .ok (.iconst 0, 1) := by decide +kernel
theorem d_Rd_readSingle_1 : decode yRd_readSingle.2.1 1 = .ok (.istore_n 2, 1) := by decide +kernel
theorem d_Rd_readSingle_2 : decode yRd_readSingle.2.1 2 = .ok (.aload_n 0, 1) := by decide +kernel
theorem d_Rd_readSingle_3 : decode yRd_readSingle.2.1 3 = .ok (.invokevirtual 62, 3) := by decide +kernel
theorem d_Rd_readSingle_6 : decode yRd_readSingle.2.1 6 = .ok (.sipush 218, 3) := by decide +kernel
theorem d_Rd_readSingle_9 : decode yRd_readSingle.2.1 9 = .ok (.if_icmp .ne 27, 3) := by decide +kernel
theorem d_Rd_readSingle_12 : decode yRd_readSingle.2.1 12 = .ok (.iload_n 1, 1) := by decide +kernel
theorem d_Rd_readSingle_13 : decode yRd_readSingle.2.1 13 = .ok (.iload_n 2, 1) := by decide +kernel
theorem d_Rd_readSingle_14 : decode yRd_readSingle.2.1 14 = .ok (.iadd, 1) := by decide +kernel
theorem d_Rd_readSingle_15 : decode yRd_readSingle.2.1 15 = .ok (.bipush 8, 2) := by decide +kernel
theorem d_Rd_readSingle_17 : decode yRd_readSingle.2.1 17 = .ok (.if_icmp .ge 19, 3) := by decide +kernel
theorem d_Rd_readSingle_20 : decode yRd_readSingle.2.1 20 = .ok (.iinc 2 1, 3) := by decide +kernel
theorem d_Rd_readSingle_23 : decode yRd_readSingle.2.1 23 = .ok (.aload_n 0, 1) := by decide +kernel
theorem d_Rd_readSingle_24 : decode yRd_readSingle.2.1 24 = .ok (.dup, 1) := by decide +kernel
theorem d_Rd_readSingle_25 : decode yRd_readSingle.2.1 25 = .ok (.getfield 80, 3) := by decide +kernel
theorem d_Rd_readSingle_28 : decode yRd_readSingle.2.1 28 = .ok (.iconst 1, 1) := by decide +kernel
theorem d_Rd_readSingle_29 : decode yRd_readSingle.2.1 29 = .ok (.iadd, 1) := by decide +kernel
theorem d_Rd_readSingle_30 : decode yRd_readSingle.2.1 30 = .ok (.putfield 80, 3) := by decide +kernel
theorem d_Rd_readSingle_33 : decode yRd_readSingle.2.1 33 = .ok (.goto (-31), 3) := by decide +kernel
theorem d_Rd_readSingle_36 : decode yRd_readSingle.2.1 36 = .ok (.aload_n 0, 1) := by decide +kernel
theorem d_Rd_readSingle_37 : decode yRd_readSingle.2.1 37 = .ok (.invokevirtual 62, 3) := by decide +kernel
theorem d_Rd_readSingle_40 : decode yRd_readSingle.2.1 40 = .ok (.sipush 218, 3) := by decide +kernel
theorem d_Rd_readSingle_43 : decode yRd_readSingle.2.1 43 = .ok (.if_icmp .eq 82, 3) := by decide +kernel
theorem d_Rd_readSingle_46 : decode yRd_readSingle.2.1 46 = .ok (.aload_n 0, 1) := by decide +kernel
theorem d_Rd_readSingle_47 : decode yRd_readSingle.2.1 47 = .ok (.invokevirtual 62, 3) := by decide +kernel
theorem d_Rd_readSingle_50 : decode yRd_readSingle.2.1 50 = .ok (.bipush 40, 2) := by decide +kernel
theorem d_Rd_readSingle_52 : decode yRd_readSingle.2.1 52 = .ok (.if_icmp .eq 73, 3) := by decide +kernel
theorem d_Rd_readSingle_55 : decode yRd_readSingle.2.1 55 = .ok (.aload_n 0, 1) := by decide +kernel
theorem d_Rd_readSingle_56 : decode yRd_readSingle.2.1 56 = .ok (.invokevirtual 74, 3) := by decide +kernel
theorem d_Rd_readSingle_59 : decode yRd_readSingle.2.1 59 = .ok (.aload_n 0, 1) := by decide +kernel
theorem d_Rd_readSingle_60 : decode yRd_readSingle.2.1 60 = .ok (.invokevirtual 62, 3) := by decide +kernel
theorem d_Rd_readSingle_63 : decode yRd_readSingle.2.1 63 = .ok (.istore_n 3, 1) := by decide +kernel
theorem d_Rd_readSingle_64 : decode yRd_readSingle.2.1 64 = .ok (.aload_n 0, 1) := by decide +kernel
theorem d_Rd_readSingle_65 : decode yRd_readSingle.2.1 65 = .ok (.iload_n 3, 1) := by decide +kernel
theorem d_Rd_readSingle_66 : decode yRd_readSingle.2.1 66 = .ok (.bipush 60, 2) := by decide +kernel
theorem d_Rd_readSingle_68 : decode yRd_readSingle.2.1 68 = .ok (.if_icmp .eq 9, 3) := by decide +kernel
theorem d_Rd_readSingle_71 : decode yRd_readSingle.2.1 71 = .ok (.iload_n 3, 1) := by decide +kernel
theorem d_Rd_readSingle_72 : decode yRd_readSingle.2.1 72 = .ok (.bipush 62, 2) := by decide +kernel
theorem d_Rd_readSingle_74 : decode yRd_readSingle.2.1 74 = .ok (.if_icmp .ne 7, 3) := by decide +kernel
theorem d_Rd_readSingle_77 : decode yRd_readSingle.2.1 77 = .ok (.iload_n 3, 1) := by decide +kernel
theorem d_Rd_readSingle_78 : decode yRd_readSingle.2.1 78 = .ok (.goto 5, 3) := by decide +kernel
theorem d_Rd_readSingle_81 : decode yRd_readSingle.2.1 81 = .ok (.bipush 61, 2) := by decide +kernel
theorem d_Rd_readSingle_83 : decode yRd_readSingle.2.1 83 = .ok (.invokevirtual 86, 3) := by decide +kernel
theorem d_Rd_readSingle_86 : decode yRd_readSingle.2.1 86 = .ok (.aload_n 0, 1) := by decide +kernel
theorem d_Rd_readSingle_87 : decode yRd_readSingle.2.1 87 = .ok (.invokevirtual 74, 3) := by decide +kernel
theorem d_Rd_readSingle_90 : decode yRd_readSingle.2.1 90 = .ok (.aload_n 0, 1) := by decide +kernel
theorem d_Rd_readSingle_91 : decode yRd_readSingle.2.1 91 = .ok (.getfield 25, 3) := by decide +kernel
theorem d_Rd_readSingle_94 : decode yRd_readSingle.2.1 94 = .ok (.iload_n 3, 1) := by decide +kernel
theorem d_Rd_readSingle_95 : decode yRd_readSingle.2.1 95 = .ok (.bipush 60, 2) := by decide +kernel
theorem d_Rd_readSingle_97 : decode yRd_readSingle.2.1 97 = .ok (.if_icmp .ne 8, 3) := by decide +kernel
theorem d_Rd_readSingle_100 : decode yRd_readSingle.2.1 100 = .ok (.bipush 7, 2) := by decide +kernel
theorem d_Rd_readSingle_102 : decode yRd_readSingle.2.1 102 = .ok (.goto 16, 3) := by decide +kernel
theorem d_Rd_readSingle_105 : decode yRd_readSingle.2.1 105 = .ok (.iload_n 3, 1) := by decide +kernel
theorem d_Rd_readSingle_106 : decode yRd_readSingle.2.1 106 = .ok (.bipush 62, 2) := by decide +kernel
theorem d_Rd_readSingle_108 : decode yRd_readSingle.2.1 108 = .ok (.if_icmp .ne 8, 3) := by decide +kernel
theorem d_Rd_readSingle_111 : decode yRd_readSingle.2.1 111 = .ok (.bipush 9, 2) := by decide +kernel
theorem d_Rd_readSingle_113 : decode yRd_readSingle.2.1 113 = .ok (.goto 5, 3) := by decide +kernel
theorem d_Rd_readSingle_116 : decode yRd_readSingle.2.1 116 = .ok (.bipush 8, 2) := by decide +kernel
theorem d_Rd_readSingle_118 : decode yRd_readSingle.2.1 118 = .ok (.iconst 0, 1) := by decide +kernel
theorem d_Rd_readSingle_119 : decode yRd_readSingle.2.1 119 = .ok (.invokevirtual 122, 3) := by decide +kernel
theorem d_Rd_readSingle_122 : decode yRd_readSingle.2.1 122 = .ok (.goto 44, 3) := by decide +kernel
theorem d_Rd_readSingle_125 : decode yRd_readSingle.2.1 125 = .ok (.iload_n 1, 1) := by decide +kernel
theorem d_Rd_readSingle_126 : decode yRd_readSingle.2.1 126 = .ok (.iload_n 2, 1) := by decide +kernel
theorem d_Rd_readSingle_127 : decode yRd_readSingle.2.1 127 = .ok (.iadd, 1) := by decide +kernel
theorem d_Rd_readSingle_128 : decode yRd_readSingle.2.1 128 = .ok (.bipush 8, 2) := by decide +kernel
theorem d_Rd_readSingle_130 : decode yRd_readSingle.2.1 130 = .ok (.if_icmp .lt 11, 3) := by decide +kernel
theorem d_Rd_readSingle_133 : decode yRd_readSingle.2.1 133 = .ok (.aload_n 0, 1) := by decide +kernel
theorem d_Rd_readSingle_134 : decode yRd_readSingle.2.1 134 = .ok (.iconst 3, 1) := by decide +kernel
theorem d_Rd_readSingle_135 : decode yRd_readSingle.2.1 135 = .ok (.invokevirtual 112, 3) := by decide +kernel
theorem d_Rd_readSingle_138 : decode yRd_readSingle.2.1 138 = .ok (.goto 28, 3) := by decide +kernel
theorem d_Rd_readSingle_141 : decode yRd_readSingle.2.1 141 = .ok (.aload_n 0, 1) := by decide +kernel
theorem d_Rd_readSingle_142 : decode yRd_readSingle.2.1 142 = .ok (.dup, 1) := by decide +kernel
theorem d_Rd_readSingle_143 : decode yRd_readSingle.2.1 143 = .ok (.getfield 80, 3) := by decide +kernel
theorem d_Rd_readSingle_146 : decode yRd_readSingle.2.1 146 = .ok (.iconst 1, 1) := by decide +kernel
theorem d_Rd_readSingle_147 : decode yRd_readSingle.2.1 147 = .ok (.iadd, 1) := by decide +kernel
theorem d_Rd_readSingle_148 : decode yRd_readSingle.2.1 148 = .ok (.putfield 80, 3) := by decide +kernel
theorem d_Rd_readSingle_151 : decode yRd_readSingle.2.1 151 = .ok (.aload_n 0, 1) := by decide +kernel
theorem d_Rd_readSingle_152 : decode yRd_readSingle.2.1 152 = .ok (.iload_n 1, 1) := by decide +kernel
theorem d_Rd_readSingle_153 : decode yRd_readSingle.2.1 153 = .ok (.iload_n 2, 1) := by decide +kernel
theorem d_Rd_readSingle_154 : decode yRd_readSingle.2.1 154 = .ok (.iadd, 1) := by decide +kernel
theorem d_Rd_readSingle_155 : decode yRd_readSingle.2.1 155 = .ok (.iconst 1, 1) := by decide +kernel
theorem d_Rd_readSingle_156 : decode yRd_readSingle.2.1 156 = .ok (.iadd, 1) := by decide +kernel
theorem d_Rd_readSingle_157 : decode yRd_readSingle.2.1 157 = .ok (.invokevirtual 83, 3) := by decide +kernel
theorem d_Rd_readSingle_160 : decode yRd_readSingle.2.1 160 = .ok (.aload_n 0, 1) := by decide +kernel
theorem d_Rd_readSingle_161 : decode yRd_readSingle.2.1 161 = .ok (.bipush 41, 2) := by decide +kernel
theorem d_Rd_readSingle_163 : decode yRd_readSingle.2.1 163 = .ok (.invokevirtual 86, 3) := by decide +kernel
theorem d_Rd_readSingle_166 : decode yRd_readSingle.2.1 166 = .ok (.iconst 0, 1) := by decide +kernel
theorem d_Rd_readSingle_167 : decode yRd_readSingle.2.1 167 = .ok (.istore_n 3, 1) := by decide +kernel
theorem d_Rd_readSingle_168 : decode yRd_readSingle.2.1 168 = .ok (.iload_n 3, 1) := by decide +kernel
theorem d_Rd_readSingle_169 : decode yRd_readSingle.2.1 169 = .ok (.iload_n 2, 1) := by decide +kernel
theorem d_Rd_readSingle_170 : decode yRd_readSingle.2.1 170 = .ok (.if_icmp .ge 18, 3) := by decide +kernel
theorem d_Rd_readSingle_173 : decode yRd_readSingle.2.1 173 = .ok (.aload_n 0, 1) := by decide +kernel
theorem d_Rd_readSingle_174 : decode yRd_readSingle.2.1 174 = .ok (.getfield 25, 3) := by decide +kernel
theorem d_Rd_readSingle_177 : decode yRd_readSingle.2.1 177 = .ok (.iconst 3, 1) := by decide +kernel
theorem d_Rd_readSingle_178 : decode yRd_readSingle.2.1 178 = .ok (.iconst 0, 1) := by decide +kernel
theorem d_Rd_readSingle_179 : decode yRd_readSingle.2.1 179 = .ok (.invokevirtual 122, 3) := by decide +kernel
theorem d_Rd_readSingle_182 : decode yRd_readSingle.2.1 182 = .ok (.iinc 3 1, 3) := by decide +kernel
theorem d_Rd_readSingle_185 : decode yRd_readSingle.2.1 185 = .ok (.goto (-17), 3) := by decide +kernel
theorem d_Rd_readSingle_188 : decode yRd_readSingle.2.1 188 = .ok (.return_, 1) := by decide +kernel
def L_Rd_readSingle_2 (fC fS : Int32 → gb_Mem → Option gb_Mem) (x1 : Int32) : Nat → Int32 → gb_Mem → Option (Int32 × gb_Mem)
  | 0, _, _ => none
  | n + 1, x2, I =>
    fbd (F_Rd_now  I) fun r1 =>
    if r1 = 218 then
      if 8 ≤ (x1 + x2) then
        some (x2, I)
      else
        fstf I 111 6 ((I 111 6) + 1) fun I2 =>
        L_Rd_readSingle_2 fC fS x1 n (x2 + 1) I2
    else
      some (x2, I)
set_option maxRecDepth 4000 in
theorem l_Rd_readSingle_2 (l : Launch) (d0 : Nat) (fC fS : Int32 → gb_Mem → Option gb_Mem) (hC : ∀ (x : Int32) (I I2 : gb_Mem), fC x I = some I2 → gb_Cs l yRd_readCondition (d0 + 3) [.inr (some 111), .inl x] shX I none I2) (hS : ∀ (x : Int32) (I I2 : gb_Mem), fS x I = some I2 → gb_Cs l yRd_readSingle (d0 + 3) [.inr (some 111), .inl x] shX I none I2) (x1 : Int32) {post : Option gb_AV → List gb_Ce → gb_Mem → Prop} : ∀ (n : Nat) (x2 : Int32) (I : gb_Mem) {ρ : Int32 × gb_Mem} (h : L_Rd_readSingle_2 fC fS x1 n x2 I = some ρ) (hX : ∀ (o2 : Int32) (I2 : gb_Mem), ρ = (o2, I2) → gb_Go l yRd_readSingle (d0 + 4) 0 0 36 [(0, .inr (some 111)), (1, .inl x1), (2, .inl o2)] [] shX I2 post) , gb_Go l yRd_readSingle (d0 + 4) 0 0 2 [(0, .inr (some 111)), (1, .inl x1), (2, .inl x2)] [] shX I post := by
  intro n
  induction n with
  | zero => intro x2 I ρ h hX; cases h
  | succ n ih =>
    intro x2 I ρ h hX
    rw [L_Rd_readSingle_2] at h
    refine go_aload_n (k := 0) d_Rd_readSingle_2 rfl rfl ?_
    obtain ⟨r1, w1, h⟩ := fbd_e h
    refine go_callV (y := yRd_now) (asr := []) (v := some (.inl r1)) (I' := I) (st1 := [.inl r1]) d_Rd_readSingle_3 s_yRd_now m_Rd_62 a_X_111 rfl rfl rfl (Nat.le_of_ble_eq_true rfl) rfl rfl (c_Rd_now l (d0 + 3)  I w1) ?_
    refine go_sipush (v := 218) d_Rd_readSingle_6 (by decide) ?_
    refine go_cmp_ne (tgt := 36) d_Rd_readSingle_9 (by decide) (fun hc => ?_) (fun hc => ?_)
    · rw [if_neg hc] at h
      exact go_lv [0, 1, 2] rfl (hX _ _ (Option.some.inj h).symm)
    · rw [if_pos hc] at h
      refine go_iload_n (k := 1) d_Rd_readSingle_12 rfl rfl ?_
      refine go_iload_n (k := 2) d_Rd_readSingle_13 rfl rfl ?_
      refine go_iadd d_Rd_readSingle_14 ?_
      refine go_bipush (v := 8) d_Rd_readSingle_15 (by decide) ?_
      refine go_cmp_ge (tgt := 36) d_Rd_readSingle_17 (by decide) (fun hc => ?_) (fun hc => ?_)
      · rw [if_pos hc] at h
        exact go_lv [0, 1, 2] rfl (hX _ _ (Option.some.inj h).symm)
      · rw [if_neg hc] at h
        refine go_iinc (k := 2) (v := x2 + 1) (lv' := [(2, .inl (x2 + 1)), (0, .inr (some 111)), (1, .inl x1)]) d_Rd_readSingle_20 rfl rfl (by decide) rfl ?_
        refine go_aload_n (k := 1) d_Rd_readSingle_23 rfl rfl ?_
        refine go_dup d_Rd_readSingle_24 ?_
        refine go_geti (ci := 9) (k := 6) d_Rd_readSingle_25 a_X_111 rfl (by decide) f_Rd_80 rfl ?_
        refine go_iconst (v := 1) d_Rd_readSingle_28 (by decide) ?_
        refine go_iadd d_Rd_readSingle_29 ?_
        obtain ⟨I2, eI2, h⟩ := fstf_e h
        refine go_putT (ci := 9) (k := 6) (I' := I2) d_Rd_readSingle_30 a_X_111 rfl (by decide) f_Rd_80 rfl rfl rfl rfl rfl eI2 ?_
        refine go_goto (tgt := 2) d_Rd_readSingle_33 (by decide) ?_
        exact go_lv [1, 2, 0] rfl (ih (x2 + 1) I2 h hX)
def L_Rd_readSingle_168 (fC fS : Int32 → gb_Mem → Option gb_Mem) (x2 : Int32) : Nat → Int32 → gb_Mem → Option (gb_Mem)
  | 0, _, _ => none
  | n + 1, x3, I =>
    if x2 ≤ x3 then
      some I
    else
      fbd (F_La_emit 114 3 0 I) fun I9 =>
      L_Rd_readSingle_168 fC fS x2 n (x3 + 1) I9
set_option maxRecDepth 4000 in
theorem l_Rd_readSingle_168 (l : Launch) (d0 : Nat) (fC fS : Int32 → gb_Mem → Option gb_Mem) (hC : ∀ (x : Int32) (I I2 : gb_Mem), fC x I = some I2 → gb_Cs l yRd_readCondition (d0 + 3) [.inr (some 111), .inl x] shX I none I2) (hS : ∀ (x : Int32) (I I2 : gb_Mem), fS x I = some I2 → gb_Cs l yRd_readSingle (d0 + 3) [.inr (some 111), .inl x] shX I none I2) (x2 : Int32) {post : Option gb_AV → List gb_Ce → gb_Mem → Prop} : ∀ (n : Nat) (x3 : Int32) (I : gb_Mem) {ρ : gb_Mem} (h : L_Rd_readSingle_168 fC fS x2 n x3 I = some ρ) (hX : ∀ (I2 : gb_Mem), ρ = I2 → gb_Go l yRd_readSingle (d0 + 4) 0 0 188 [] [] shX I2 post) , gb_Go l yRd_readSingle (d0 + 4) 0 0 168 [(0, .inr (some 111)), (2, .inl x2), (3, .inl x3)] [] shX I post := by
  intro n
  induction n with
  | zero => intro x3 I ρ h hX; cases h
  | succ n ih =>
    intro x3 I ρ h hX
    rw [L_Rd_readSingle_168] at h
    refine go_iload_n (k := 2) d_Rd_readSingle_168 rfl rfl ?_
    refine go_iload_n (k := 1) d_Rd_readSingle_169 rfl rfl ?_
    refine go_cmp_ge (tgt := 188) d_Rd_readSingle_170 (by decide) (fun hc => ?_) (fun hc => ?_)
    · rw [if_pos hc] at h
      exact go_lv [] rfl (hX _ (Option.some.inj h).symm)
    · rw [if_neg hc] at h
      refine go_aload_n (k := 0) d_Rd_readSingle_173 rfl rfl ?_
      refine go_getr (ci := 9) (k := 9) (r := 114) d_Rd_readSingle_174 a_X_111 rfl (by decide) f_Rd_25 rfl ?_
      refine go_iconst (v := 3) d_Rd_readSingle_177 (by decide) ?_
      refine go_iconst (v := 0) d_Rd_readSingle_178 (by decide) ?_
      obtain ⟨I9, w1, h⟩ := fbd_e h
      refine go_callV (y := yLa_emit) (asr := [.inl 3, .inl 0]) (v := none) (I' := I9) (st1 := []) d_Rd_readSingle_179 s_yLa_emit m_Rd_122 a_X_114 rfl rfl rfl (Nat.le_of_ble_eq_true rfl) rfl rfl (c_La_emit l (d0 + 3) 114 isLa_114 3 0 I w1) ?_
      refine go_iinc (k := 2) (v := x3 + 1) (lv' := [(3, .inl (x3 + 1)), (0, .inr (some 111)), (2, .inl x2)]) d_Rd_readSingle_182 rfl rfl (by decide) rfl ?_
      refine go_goto (tgt := 168) d_Rd_readSingle_185 (by decide) ?_
      exact go_lv [1, 2, 0] rfl (ih (x3 + 1) I9 h hX)
def J_Rd_readSingle_166 (fC fS : Int32 → gb_Mem → Option gb_Mem) (x2 : Int32) (I : gb_Mem) : Option (gb_Mem) :=
  fbd (L_Rd_readSingle_168 fC fS x2 5000 0 I) fun I10 =>
  some I10
set_option maxRecDepth 4000 in
theorem j_Rd_readSingle_166 (l : Launch) (d0 : Nat) (fC fS : Int32 → gb_Mem → Option gb_Mem) (hC : ∀ (x : Int32) (I I2 : gb_Mem), fC x I = some I2 → gb_Cs l yRd_readCondition (d0 + 3) [.inr (some 111), .inl x] shX I none I2) (hS : ∀ (x : Int32) (I I2 : gb_Mem), fS x I = some I2 → gb_Cs l yRd_readSingle (d0 + 3) [.inr (some 111), .inl x] shX I none I2) (x2 : Int32) (I : gb_Mem) {Iz : gb_Mem} (h : J_Rd_readSingle_166 fC fS x2 I = some Iz) : gb_Go l yRd_readSingle (d0 + 4) 0 0 166 [(0, .inr (some 111)), (2, .inl x2)] [] shX I (gb_po shX none Iz) := by
  unfold J_Rd_readSingle_166 at h
  refine go_iconst (v := 0) d_Rd_readSingle_166 (by decide) ?_
  refine go_istore_n (lv' := [(3, .inl 0), (0, .inr (some 111)), (2, .inl x2)]) d_Rd_readSingle_167 rfl (by decide) rfl ?_
  refine go_lv [1, 2, 0] (lv' := [(0, .inr (some 111)), (2, .inl x2), (3, .inl 0)]) rfl ?_
  obtain ⟨I10, w1, h⟩ := fbd_e h
  refine l_Rd_readSingle_168 l d0 fC fS hC hS x2 5000 0 I w1 (fun I10_ e => ?_)
  cases e
  cases h
  exact go_return d_Rd_readSingle_188 rfl gb_po_i
def J_Rd_readSingle_125 (fC fS : Int32 → gb_Mem → Option gb_Mem) (x1 x2 : Int32) (I : gb_Mem) : Option (gb_Mem) :=
  if (x1 + x2) < 8 then
    fstf I 111 6 ((I 111 6) + 1) fun I6 =>
    fbd (fC ((x1 + x2) + 1) I6) fun I7 =>
    fbd (F_Rd_take 41 I7) fun I8 =>
    J_Rd_readSingle_166 fC fS x2 I8
  else
    fbd (F_Rd_refuse 3 I) fun I11 =>
    J_Rd_readSingle_166 fC fS x2 I11
set_option maxRecDepth 4000 in
theorem j_Rd_readSingle_125 (l : Launch) (d0 : Nat) (fC fS : Int32 → gb_Mem → Option gb_Mem) (hC : ∀ (x : Int32) (I I2 : gb_Mem), fC x I = some I2 → gb_Cs l yRd_readCondition (d0 + 3) [.inr (some 111), .inl x] shX I none I2) (hS : ∀ (x : Int32) (I I2 : gb_Mem), fS x I = some I2 → gb_Cs l yRd_readSingle (d0 + 3) [.inr (some 111), .inl x] shX I none I2) (x1 x2 : Int32) (I : gb_Mem) {Iz : gb_Mem} (h : J_Rd_readSingle_125 fC fS x1 x2 I = some Iz) : gb_Go l yRd_readSingle (d0 + 4) 0 0 125 [(0, .inr (some 111)), (1, .inl x1), (2, .inl x2)] [] shX I (gb_po shX none Iz) := by
  unfold J_Rd_readSingle_125 at h
  refine go_iload_n (k := 1) d_Rd_readSingle_125 rfl rfl ?_
  refine go_iload_n (k := 2) d_Rd_readSingle_126 rfl rfl ?_
  refine go_iadd d_Rd_readSingle_127 ?_
  refine go_bipush (v := 8) d_Rd_readSingle_128 (by decide) ?_
  refine go_cmp_lt (tgt := 141) d_Rd_readSingle_130 (by decide) (fun hc => ?_) (fun hc => ?_)
  · rw [if_pos hc] at h
    refine go_aload_n (k := 0) d_Rd_readSingle_141 rfl rfl ?_
    refine go_dup d_Rd_readSingle_142 ?_
    refine go_geti (ci := 9) (k := 6) d_Rd_readSingle_143 a_X_111 rfl (by decide) f_Rd_80 rfl ?_
    refine go_iconst (v := 1) d_Rd_readSingle_146 (by decide) ?_
    refine go_iadd d_Rd_readSingle_147 ?_
    obtain ⟨I6, eI6, h⟩ := fstf_e h
    refine go_putT (ci := 9) (k := 6) (I' := I6) d_Rd_readSingle_148 a_X_111 rfl (by decide) f_Rd_80 rfl rfl rfl rfl rfl eI6 ?_
    refine go_aload_n (k := 0) d_Rd_readSingle_151 rfl rfl ?_
    refine go_iload_n (k := 1) d_Rd_readSingle_152 rfl rfl ?_
    refine go_iload_n (k := 2) d_Rd_readSingle_153 rfl rfl ?_
    refine go_iadd d_Rd_readSingle_154 ?_
    refine go_iconst (v := 1) d_Rd_readSingle_155 (by decide) ?_
    refine go_iadd d_Rd_readSingle_156 ?_
    obtain ⟨I7, w1, h⟩ := fbd_e h
    refine go_callV (y := yRd_readCondition) (asr := [.inl ((x1 + x2) + 1)]) (v := none) (I' := I7) (st1 := []) d_Rd_readSingle_157 s_yRd_readCondition m_Rd_83 a_X_111 rfl rfl rfl (Nat.le_of_ble_eq_true rfl) rfl rfl (hC ((x1 + x2) + 1) I6 I7 w1) ?_
    refine go_aload_n (k := 0) d_Rd_readSingle_160 rfl rfl ?_
    refine go_bipush (v := 41) d_Rd_readSingle_161 (by decide) ?_
    obtain ⟨I8, w1, h⟩ := fbd_e h
    refine go_callV (y := yRd_take) (asr := [.inl 41]) (v := none) (I' := I8) (st1 := []) d_Rd_readSingle_163 s_yRd_take m_Rd_86 a_X_111 rfl rfl rfl (Nat.le_of_ble_eq_true rfl) rfl rfl (c_Rd_take l (d0 + 2) 41 I7 w1) ?_
    exact go_lv [0, 2] rfl (j_Rd_readSingle_166 l d0 fC fS hC hS x2 I8 h)
  · rw [if_neg hc] at h
    refine go_aload_n (k := 0) d_Rd_readSingle_133 rfl rfl ?_
    refine go_iconst (v := 3) d_Rd_readSingle_134 (by decide) ?_
    obtain ⟨I11, w1, h⟩ := fbd_e h
    refine go_callV (y := yRd_refuse) (asr := [.inl 3]) (v := none) (I' := I11) (st1 := []) d_Rd_readSingle_135 s_yRd_refuse m_Rd_112 a_X_111 rfl rfl rfl (Nat.le_of_ble_eq_true rfl) rfl rfl (c_Rd_refuse l (d0 + 3) 3 I w1) ?_
    refine go_goto (tgt := 166) d_Rd_readSingle_138 (by decide) ?_
    exact go_lv [0, 2] rfl (j_Rd_readSingle_166 l d0 fC fS hC hS x2 I11 h)
def J_Rd_readSingle_118 (fC fS : Int32 → gb_Mem → Option gb_Mem) (x2 s0 : Int32) (I : gb_Mem) : Option (gb_Mem) :=
  fbd (F_La_emit 114 s0 0 I) fun I17 =>
  J_Rd_readSingle_166 fC fS x2 I17
set_option maxRecDepth 4000 in
theorem j_Rd_readSingle_118 (l : Launch) (d0 : Nat) (fC fS : Int32 → gb_Mem → Option gb_Mem) (hC : ∀ (x : Int32) (I I2 : gb_Mem), fC x I = some I2 → gb_Cs l yRd_readCondition (d0 + 3) [.inr (some 111), .inl x] shX I none I2) (hS : ∀ (x : Int32) (I I2 : gb_Mem), fS x I = some I2 → gb_Cs l yRd_readSingle (d0 + 3) [.inr (some 111), .inl x] shX I none I2) (x2 s0 : Int32) (I : gb_Mem) {Iz : gb_Mem} (h : J_Rd_readSingle_118 fC fS x2 s0 I = some Iz) : gb_Go l yRd_readSingle (d0 + 4) 0 0 118 [(0, .inr (some 111)), (2, .inl x2)] [.inl s0, .inr (some 114)] shX I (gb_po shX none Iz) := by
  unfold J_Rd_readSingle_118 at h
  refine go_iconst (v := 0) d_Rd_readSingle_118 (by decide) ?_
  obtain ⟨I17, w1, h⟩ := fbd_e h
  refine go_callV (y := yLa_emit) (asr := [.inl s0, .inl 0]) (v := none) (I' := I17) (st1 := []) d_Rd_readSingle_119 s_yLa_emit m_Rd_122 a_X_114 rfl rfl rfl (Nat.le_of_ble_eq_true rfl) rfl rfl (c_La_emit l (d0 + 3) 114 isLa_114 s0 0 I w1) ?_
  refine go_goto (tgt := 166) d_Rd_readSingle_122 (by decide) ?_
  exact go_lv [0, 1] rfl (j_Rd_readSingle_166 l d0 fC fS hC hS x2 I17 h)
def J_Rd_readSingle_83 (fC fS : Int32 → gb_Mem → Option gb_Mem) (x2 x3 s0 : Int32) (I : gb_Mem) : Option (gb_Mem) :=
  fbd (F_Rd_take s0 I) fun I15 =>
  fbd (F_Rd_readSum  I15) fun I16 =>
  if x3 = 60 then
    J_Rd_readSingle_118 fC fS x2 7 I16
  else
    if x3 = 62 then
      J_Rd_readSingle_118 fC fS x2 9 I16
    else
      J_Rd_readSingle_118 fC fS x2 8 I16
set_option maxRecDepth 4000 in
theorem j_Rd_readSingle_83 (l : Launch) (d0 : Nat) (fC fS : Int32 → gb_Mem → Option gb_Mem) (hC : ∀ (x : Int32) (I I2 : gb_Mem), fC x I = some I2 → gb_Cs l yRd_readCondition (d0 + 3) [.inr (some 111), .inl x] shX I none I2) (hS : ∀ (x : Int32) (I I2 : gb_Mem), fS x I = some I2 → gb_Cs l yRd_readSingle (d0 + 3) [.inr (some 111), .inl x] shX I none I2) (x2 x3 s0 : Int32) (I : gb_Mem) {Iz : gb_Mem} (h : J_Rd_readSingle_83 fC fS x2 x3 s0 I = some Iz) : gb_Go l yRd_readSingle (d0 + 4) 0 0 83 [(0, .inr (some 111)), (2, .inl x2), (3, .inl x3)] [.inl s0, .inr (some 111)] shX I (gb_po shX none Iz) := by
  unfold J_Rd_readSingle_83 at h
  obtain ⟨I15, w1, h⟩ := fbd_e h
  refine go_callV (y := yRd_take) (asr := [.inl s0]) (v := none) (I' := I15) (st1 := []) d_Rd_readSingle_83 s_yRd_take m_Rd_86 a_X_111 rfl rfl rfl (Nat.le_of_ble_eq_true rfl) rfl rfl (c_Rd_take l (d0 + 2) s0 I w1) ?_
  refine go_aload_n (k := 0) d_Rd_readSingle_86 rfl rfl ?_
  obtain ⟨I16, w1, h⟩ := fbd_e h
  refine go_callV (y := yRd_readSum) (asr := []) (v := none) (I' := I16) (st1 := []) d_Rd_readSingle_87 s_yRd_readSum m_Rd_74 a_X_111 rfl rfl rfl (Nat.le_of_ble_eq_true rfl) rfl rfl (c_Rd_readSum l (d0 + 0)  I15 w1) ?_
  refine go_aload_n (k := 0) d_Rd_readSingle_90 rfl rfl ?_
  refine go_getr (ci := 9) (k := 9) (r := 114) d_Rd_readSingle_91 a_X_111 rfl (by decide) f_Rd_25 rfl ?_
  refine go_iload_n (k := 2) d_Rd_readSingle_94 rfl rfl ?_
  refine go_bipush (v := 60) d_Rd_readSingle_95 (by decide) ?_
  refine go_cmp_ne (tgt := 105) d_Rd_readSingle_97 (by decide) (fun hc => ?_) (fun hc => ?_)
  · rw [if_neg hc] at h
    refine go_iload_n (k := 2) d_Rd_readSingle_105 rfl rfl ?_
    refine go_bipush (v := 62) d_Rd_readSingle_106 (by decide) ?_
    refine go_cmp_ne (tgt := 116) d_Rd_readSingle_108 (by decide) (fun hc => ?_) (fun hc => ?_)
    · rw [if_neg hc] at h
      refine go_bipush (v := 8) d_Rd_readSingle_116 (by decide) ?_
      exact go_lv [0, 1] rfl (j_Rd_readSingle_118 l d0 fC fS hC hS x2 8 I16 h)
    · rw [if_pos hc] at h
      refine go_bipush (v := 9) d_Rd_readSingle_111 (by decide) ?_
      refine go_goto (tgt := 118) d_Rd_readSingle_113 (by decide) ?_
      exact go_lv [0, 1] rfl (j_Rd_readSingle_118 l d0 fC fS hC hS x2 9 I16 h)
  · rw [if_pos hc] at h
    refine go_bipush (v := 7) d_Rd_readSingle_100 (by decide) ?_
    refine go_goto (tgt := 118) d_Rd_readSingle_102 (by decide) ?_
    exact go_lv [0, 1] rfl (j_Rd_readSingle_118 l d0 fC fS hC hS x2 7 I16 h)
def J_Rd_readSingle_77 (fC fS : Int32 → gb_Mem → Option gb_Mem) (x2 x3 : Int32) (I : gb_Mem) : Option (gb_Mem) :=
  J_Rd_readSingle_83 fC fS x2 x3 x3 I
set_option maxRecDepth 4000 in
theorem j_Rd_readSingle_77 (l : Launch) (d0 : Nat) (fC fS : Int32 → gb_Mem → Option gb_Mem) (hC : ∀ (x : Int32) (I I2 : gb_Mem), fC x I = some I2 → gb_Cs l yRd_readCondition (d0 + 3) [.inr (some 111), .inl x] shX I none I2) (hS : ∀ (x : Int32) (I I2 : gb_Mem), fS x I = some I2 → gb_Cs l yRd_readSingle (d0 + 3) [.inr (some 111), .inl x] shX I none I2) (x2 x3 : Int32) (I : gb_Mem) {Iz : gb_Mem} (h : J_Rd_readSingle_77 fC fS x2 x3 I = some Iz) : gb_Go l yRd_readSingle (d0 + 4) 0 0 77 [(0, .inr (some 111)), (2, .inl x2), (3, .inl x3)] [.inr (some 111)] shX I (gb_po shX none Iz) := by
  unfold J_Rd_readSingle_77 at h
  refine go_iload_n (k := 2) d_Rd_readSingle_77 rfl rfl ?_
  refine go_goto (tgt := 83) d_Rd_readSingle_78 (by decide) ?_
  exact go_lv [0, 1, 2] rfl (j_Rd_readSingle_83 l d0 fC fS hC hS x2 x3 x3 I h)
def J_Rd_readSingle_36 (fC fS : Int32 → gb_Mem → Option gb_Mem) (x1 x2 : Int32) (I : gb_Mem) : Option (gb_Mem) :=
  fbd (F_Rd_now  I) fun r5 =>
  if r5 = 218 then
    J_Rd_readSingle_125 fC fS x1 x2 I
  else
    fbd (F_Rd_now  I) fun r12 =>
    if r12 = 40 then
      J_Rd_readSingle_125 fC fS x1 x2 I
    else
      fbd (F_Rd_readSum  I) fun I13 =>
      fbd (F_Rd_now  I13) fun r14 =>
      if r14 = 60 then
        J_Rd_readSingle_77 fC fS x2 r14 I13
      else
        if r14 = 62 then
          J_Rd_readSingle_77 fC fS x2 r14 I13
        else
          J_Rd_readSingle_83 fC fS x2 r14 61 I13
set_option maxRecDepth 4000 in
theorem j_Rd_readSingle_36 (l : Launch) (d0 : Nat) (fC fS : Int32 → gb_Mem → Option gb_Mem) (hC : ∀ (x : Int32) (I I2 : gb_Mem), fC x I = some I2 → gb_Cs l yRd_readCondition (d0 + 3) [.inr (some 111), .inl x] shX I none I2) (hS : ∀ (x : Int32) (I I2 : gb_Mem), fS x I = some I2 → gb_Cs l yRd_readSingle (d0 + 3) [.inr (some 111), .inl x] shX I none I2) (x1 x2 : Int32) (I : gb_Mem) {Iz : gb_Mem} (h : J_Rd_readSingle_36 fC fS x1 x2 I = some Iz) : gb_Go l yRd_readSingle (d0 + 4) 0 0 36 [(0, .inr (some 111)), (1, .inl x1), (2, .inl x2)] [] shX I (gb_po shX none Iz) := by
  unfold J_Rd_readSingle_36 at h
  refine go_aload_n (k := 0) d_Rd_readSingle_36 rfl rfl ?_
  obtain ⟨r5, w1, h⟩ := fbd_e h
  refine go_callV (y := yRd_now) (asr := []) (v := some (.inl r5)) (I' := I) (st1 := [.inl r5]) d_Rd_readSingle_37 s_yRd_now m_Rd_62 a_X_111 rfl rfl rfl (Nat.le_of_ble_eq_true rfl) rfl rfl (c_Rd_now l (d0 + 3)  I w1) ?_
  refine go_sipush (v := 218) d_Rd_readSingle_40 (by decide) ?_
  refine go_cmp_eq (tgt := 125) d_Rd_readSingle_43 (by decide) (fun hc => ?_) (fun hc => ?_)
  · rw [if_pos hc] at h
    exact go_lv [0, 1, 2] rfl (j_Rd_readSingle_125 l d0 fC fS hC hS x1 x2 I h)
  · rw [if_neg hc] at h
    refine go_aload_n (k := 0) d_Rd_readSingle_46 rfl rfl ?_
    obtain ⟨r12, w1, h⟩ := fbd_e h
    refine go_callV (y := yRd_now) (asr := []) (v := some (.inl r12)) (I' := I) (st1 := [.inl r12]) d_Rd_readSingle_47 s_yRd_now m_Rd_62 a_X_111 rfl rfl rfl (Nat.le_of_ble_eq_true rfl) rfl rfl (c_Rd_now l (d0 + 3)  I w1) ?_
    refine go_bipush (v := 40) d_Rd_readSingle_50 (by decide) ?_
    refine go_cmp_eq (tgt := 125) d_Rd_readSingle_52 (by decide) (fun hc => ?_) (fun hc => ?_)
    · rw [if_pos hc] at h
      exact go_lv [0, 1, 2] rfl (j_Rd_readSingle_125 l d0 fC fS hC hS x1 x2 I h)
    · rw [if_neg hc] at h
      refine go_aload_n (k := 0) d_Rd_readSingle_55 rfl rfl ?_
      obtain ⟨I13, w1, h⟩ := fbd_e h
      refine go_callV (y := yRd_readSum) (asr := []) (v := none) (I' := I13) (st1 := []) d_Rd_readSingle_56 s_yRd_readSum m_Rd_74 a_X_111 rfl rfl rfl (Nat.le_of_ble_eq_true rfl) rfl rfl (c_Rd_readSum l (d0 + 0)  I w1) ?_
      refine go_aload_n (k := 0) d_Rd_readSingle_59 rfl rfl ?_
      obtain ⟨r14, w1, h⟩ := fbd_e h
      refine go_callV (y := yRd_now) (asr := []) (v := some (.inl r14)) (I' := I13) (st1 := [.inl r14]) d_Rd_readSingle_60 s_yRd_now m_Rd_62 a_X_111 rfl rfl rfl (Nat.le_of_ble_eq_true rfl) rfl rfl (c_Rd_now l (d0 + 3)  I13 w1) ?_
      refine go_istore_n (lv' := [(3, .inl r14), (0, .inr (some 111)), (1, .inl x1), (2, .inl x2)]) d_Rd_readSingle_63 rfl (by decide) rfl ?_
      refine go_aload_n (k := 1) d_Rd_readSingle_64 rfl rfl ?_
      refine go_iload_n (k := 0) d_Rd_readSingle_65 rfl rfl ?_
      refine go_bipush (v := 60) d_Rd_readSingle_66 (by decide) ?_
      refine go_cmp_eq (tgt := 77) d_Rd_readSingle_68 (by decide) (fun hc => ?_) (fun hc => ?_)
      · rw [if_pos hc] at h
        exact go_lv [1, 3, 0] rfl (j_Rd_readSingle_77 l d0 fC fS hC hS x2 r14 I13 h)
      · rw [if_neg hc] at h
        refine go_iload_n (k := 0) d_Rd_readSingle_71 rfl rfl ?_
        refine go_bipush (v := 62) d_Rd_readSingle_72 (by decide) ?_
        refine go_cmp_ne (tgt := 81) d_Rd_readSingle_74 (by decide) (fun hc => ?_) (fun hc => ?_)
        · rw [if_neg hc] at h
          refine go_bipush (v := 61) d_Rd_readSingle_81 (by decide) ?_
          exact go_lv [1, 3, 0] rfl (j_Rd_readSingle_83 l d0 fC fS hC hS x2 r14 61 I13 h)
        · rw [if_pos hc] at h
          exact go_lv [1, 3, 0] rfl (j_Rd_readSingle_77 l d0 fC fS hC hS x2 r14 I13 h)
def F_Rd_readSingle_b (fC fS : Int32 → gb_Mem → Option gb_Mem) (x1 : Int32) (I : gb_Mem) : Option (gb_Mem) :=
  fbd (L_Rd_readSingle_2 fC fS x1 5000 0 I) fun (o3, I4) =>
  J_Rd_readSingle_36 fC fS x1 o3 I4
set_option maxRecDepth 4000 in
theorem c_Rd_readSingle_b (l : Launch) (d0 : Nat) (fC fS : Int32 → gb_Mem → Option gb_Mem) (hC : ∀ (x : Int32) (I I2 : gb_Mem), fC x I = some I2 → gb_Cs l yRd_readCondition (d0 + 3) [.inr (some 111), .inl x] shX I none I2) (hS : ∀ (x : Int32) (I I2 : gb_Mem), fS x I = some I2 → gb_Cs l yRd_readSingle (d0 + 3) [.inr (some 111), .inl x] shX I none I2) (x1 : Int32) (I : gb_Mem) {Iz : gb_Mem} (h : F_Rd_readSingle_b fC fS x1 I = some Iz) : gb_Cs l yRd_readSingle (d0 + 4) [.inr (some 111), .inl x1] shX I none Iz := by
  refine gb_Ct.of (lv := [(0, .inr (some 111)), (1, .inl x1)]) rfl (Nat.le_of_ble_eq_true rfl) rfl ?_
  unfold F_Rd_readSingle_b at h
  show gb_Go l yRd_readSingle (d0 + 4) 0 0 0 [(0, .inr (some 111)), (1, .inl x1)] [] shX I (gb_po shX none Iz)
  refine go_iconst (v := 0) d_Rd_readSingle_0 (by decide) ?_
  refine go_istore_n (lv' := [(2, .inl 0), (0, .inr (some 111)), (1, .inl x1)]) d_Rd_readSingle_1 rfl (by decide) rfl ?_
  refine go_lv [1, 2, 0] (lv' := [(0, .inr (some 111)), (1, .inl x1), (2, .inl 0)]) rfl ?_
  obtain ⟨⟨o3, I4⟩, w1, h⟩ := fbd_e h
  try dsimp only at h
  refine l_Rd_readSingle_2 l d0 fC fS hC hS x1 5000 0 I w1 (fun o3_ I4_ e => ?_)
  cases e
  exact go_lv [0, 1, 2] rfl (j_Rd_readSingle_36 l d0 fC fS hC hS x1 o3 I4 h)
def F_Rd_rec : Nat → Bool → Int32 → gb_Mem → Option gb_Mem
  | 0, _, _, _ => none
  | n + 1, true, x, I => F_Rd_readCondition_b (F_Rd_rec n true) (F_Rd_rec n false) x I
  | n + 1, false, x, I => F_Rd_readSingle_b (F_Rd_rec n true) (F_Rd_rec n false) x I
theorem c_Rd_rec (l : Launch) (d0 : Nat) : ∀ (n : Nat), (∀ (x : Int32) (I I2 : gb_Mem), F_Rd_rec n true x I = some I2 → gb_Cs l yRd_readCondition (d0 + n + 3) [.inr (some 111), .inl x] shX I none I2) ∧ (∀ (x : Int32) (I I2 : gb_Mem), F_Rd_rec n false x I = some I2 → gb_Cs l yRd_readSingle (d0 + n + 3) [.inr (some 111), .inl x] shX I none I2) := by
  intro n
  induction n with
  | zero => exact ⟨fun x I I2 h => (by cases h), fun x I I2 h => (by cases h)⟩
  | succ n ih =>
    refine ⟨fun x I I2 h => ?_, fun x I I2 h => ?_⟩
    · rw [show d0 + (n + 1) + 3 = d0 + n + 4 by omega]
      exact c_Rd_readCondition_b l (d0 + n) _ _ ih.1 ih.2 x I h
    · rw [show d0 + (n + 1) + 3 = d0 + n + 4 by omega]
      exact c_Rd_readSingle_b l (d0 + n) _ _ ih.1 ih.2 x I h
def F_Rd_readCondition (x1 : Int32) (I : gb_Mem) : Option gb_Mem := F_Rd_rec 40 true x1 I
theorem c_Rd_readCondition (l : Launch) (d0 : Nat) (x1 : Int32) (I : gb_Mem) {Iz : gb_Mem} (h : F_Rd_readCondition x1 I = some Iz) : gb_Cs l yRd_readCondition (d0 + 43) [.inr (some 111), .inl x1] shX I none Iz := by
  rw [show d0 + 43 = d0 + 40 + 3 by omega]
  exact (c_Rd_rec l d0 40).1 x1 I Iz h
