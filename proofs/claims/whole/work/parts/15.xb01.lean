theorem d_Rd_readLaw_0 : decode yRd_readLaw.2.1 0 = .ok (.aload_n 0, 1) := by decide +kernel
theorem d_Rd_readLaw_1 : decode yRd_readLaw.2.1 1 = .ok (.invokevirtual 56, 3) := by decide +kernel
theorem d_Rd_readLaw_4 : decode yRd_readLaw.2.1 4 = .ok (.aload_n 0, 1) := by decide +kernel
theorem d_Rd_readLaw_5 : decode yRd_readLaw.2.1 5 = .ok (.getfield 25, 3) := by decide +kernel
theorem d_Rd_readLaw_8 : decode yRd_readLaw.2.1 8 = .ok (.invokevirtual 59, 3) := by decide +kernel
theorem d_Rd_readLaw_11 : decode yRd_readLaw.2.1 11 = .ok (.iconst 0, 1) := by decide +kernel
theorem d_Rd_readLaw_12 : decode yRd_readLaw.2.1 12 = .ok (.istore_n 1, 1) := by decide +kernel
theorem d_Rd_readLaw_13 : decode yRd_readLaw.2.1 13 = .ok (.iload_n 1, 1) := by decide +kernel
theorem d_Rd_readLaw_14 : decode yRd_readLaw.2.1 14 = .ok (.bipush 16, 2) := by decide +kernel
theorem d_Rd_readLaw_16 : decode yRd_readLaw.2.1 16 = .ok (.if_icmp .gt 109, 3) := by decide +kernel
theorem d_Rd_readLaw_19 : decode yRd_readLaw.2.1 19 = .ok (.aload_n 0, 1) := by decide +kernel
theorem d_Rd_readLaw_20 : decode yRd_readLaw.2.1 20 = .ok (.getfield 53, 3) := by decide +kernel
theorem d_Rd_readLaw_23 : decode yRd_readLaw.2.1 23 = .ok (.ifCond .ne 102, 3) := by decide +kernel
theorem d_Rd_readLaw_26 : decode yRd_readLaw.2.1 26 = .ok (.aload_n 0, 1) := by decide +kernel
theorem d_Rd_readLaw_27 : decode yRd_readLaw.2.1 27 = .ok (.invokevirtual 62, 3) := by decide +kernel
theorem d_Rd_readLaw_30 : decode yRd_readLaw.2.1 30 = .ok (.ifCond .eq 95, 3) := by decide +kernel
theorem d_Rd_readLaw_33 : decode yRd_readLaw.2.1 33 = .ok (.aload_n 0, 1) := by decide +kernel
theorem d_Rd_readLaw_34 : decode yRd_readLaw.2.1 34 = .ok (.invokevirtual 62, 3) := by decide +kernel
theorem d_Rd_readLaw_37 : decode yRd_readLaw.2.1 37 = .ok (.sipush 200, 3) := by decide +kernel
theorem d_Rd_readLaw_40 : decode yRd_readLaw.2.1 40 = .ok (.isub, 1) := by decide +kernel
theorem d_Rd_readLaw_41 : decode yRd_readLaw.2.1 41 = .ok (.istore_n 2, 1) := by decide +kernel
theorem d_Rd_readLaw_42 : decode yRd_readLaw.2.1 42 = .ok (.aload_n 0, 1) := by decide +kernel
theorem d_Rd_readLaw_43 : decode yRd_readLaw.2.1 43 = .ok (.iload_n 1, 1) := by decide +kernel
theorem d_Rd_readLaw_44 : decode yRd_readLaw.2.1 44 = .ok (.aload_n 0, 1) := by decide +kernel
theorem d_Rd_readLaw_45 : decode yRd_readLaw.2.1 45 = .ok (.invokevirtual 62, 3) := by decide +kernel
theorem d_Rd_readLaw_48 : decode yRd_readLaw.2.1 48 = .ok (.sipush 200, 3) := by decide +kernel
theorem d_Rd_readLaw_51 : decode yRd_readLaw.2.1 51 = .ok (.sipush 202, 3) := by decide +kernel
theorem d_Rd_readLaw_54 : decode yRd_readLaw.2.1 54 = .ok (.invokestatic 66, 3) := by decide +kernel
theorem d_Rd_readLaw_57 : decode yRd_readLaw.2.1 57 = .ok (.invokevirtual 70, 3) := by decide +kernel
theorem d_Rd_readLaw_60 : decode yRd_readLaw.2.1 60 = .ok (.aload_n 0, 1) := by decide +kernel
theorem d_Rd_readLaw_61 : decode yRd_readLaw.2.1 61 = .ok (.invokevirtual 74, 3) := by decide +kernel
theorem d_Rd_readLaw_64 : decode yRd_readLaw.2.1 64 = .ok (.aload_n 0, 1) := by decide +kernel
theorem d_Rd_readLaw_65 : decode yRd_readLaw.2.1 65 = .ok (.getfield 25, 3) := by decide +kernel
theorem d_Rd_readLaw_68 : decode yRd_readLaw.2.1 68 = .ok (.getfield 77, 3) := by decide +kernel
theorem d_Rd_readLaw_71 : decode yRd_readLaw.2.1 71 = .ok (.istore_n 3, 1) := by decide +kernel
theorem d_Rd_readLaw_72 : decode yRd_readLaw.2.1 72 = .ok (.aload_n 0, 1) := by decide +kernel
theorem d_Rd_readLaw_73 : decode yRd_readLaw.2.1 73 = .ok (.getfield 53, 3) := by decide +kernel
theorem d_Rd_readLaw_76 : decode yRd_readLaw.2.1 76 = .ok (.ifCond .ne 28, 3) := by decide +kernel
theorem d_Rd_readLaw_79 : decode yRd_readLaw.2.1 79 = .ok (.aload_n 0, 1) := by decide +kernel
theorem d_Rd_readLaw_80 : decode yRd_readLaw.2.1 80 = .ok (.invokevirtual 62, 3) := by decide +kernel
theorem d_Rd_readLaw_83 : decode yRd_readLaw.2.1 83 = .ok (.sipush 215, 3) := by decide +kernel
theorem d_Rd_readLaw_86 : decode yRd_readLaw.2.1 86 = .ok (.if_icmp .ne 18, 3) := by decide +kernel
theorem d_Rd_readLaw_89 : decode yRd_readLaw.2.1 89 = .ok (.aload_n 0, 1) := by decide +kernel
theorem d_Rd_readLaw_90 : decode yRd_readLaw.2.1 90 = .ok (.dup, 1) := by decide +kernel
theorem d_Rd_readLaw_91 : decode yRd_readLaw.2.1 91 = .ok (.getfield 80, 3) := by decide +kernel
theorem d_Rd_readLaw_94 : decode yRd_readLaw.2.1 94 = .ok (.iconst 1, 1) := by decide +kernel
theorem d_Rd_readLaw_95 : decode yRd_readLaw.2.1 95 = .ok (.iadd, 1) := by decide +kernel
theorem d_Rd_readLaw_96 : decode yRd_readLaw.2.1 96 = .ok (.putfield 80, 3) := by decide +kernel
theorem d_Rd_readLaw_99 : decode yRd_readLaw.2.1 99 = .ok (.aload_n 0, 1) := by decide +kernel
theorem d_Rd_readLaw_100 : decode yRd_readLaw.2.1 100 = .ok (.iconst 0, 1) := by decide +kernel
theorem d_Rd_readLaw_101 : decode yRd_readLaw.2.1 101 = .ok (.invokevirtual 83, 3) := by decide +kernel
theorem d_Rd_readLaw_104 : decode yRd_readLaw.2.1 104 = .ok (.aload_n 0, 1) := by decide +kernel
theorem d_Rd_readLaw_105 : decode yRd_readLaw.2.1 105 = .ok (.bipush 59, 2) := by decide +kernel
theorem d_Rd_readLaw_107 : decode yRd_readLaw.2.1 107 = .ok (.invokevirtual 86, 3) := by decide +kernel
theorem d_Rd_readLaw_110 : decode yRd_readLaw.2.1 110 = .ok (.aload_n 0, 1) := by decide +kernel
theorem d_Rd_readLaw_111 : decode yRd_readLaw.2.1 111 = .ok (.getfield 25, 3) := by decide +kernel
theorem d_Rd_readLaw_114 : decode yRd_readLaw.2.1 114 = .ok (.iload_n 2, 1) := by decide +kernel
theorem d_Rd_readLaw_115 : decode yRd_readLaw.2.1 115 = .ok (.iload_n 3, 1) := by decide +kernel
theorem d_Rd_readLaw_116 : decode yRd_readLaw.2.1 116 = .ok (.invokevirtual 89, 3) := by decide +kernel
theorem d_Rd_readLaw_119 : decode yRd_readLaw.2.1 119 = .ok (.iinc 1 1, 3) := by decide +kernel
theorem d_Rd_readLaw_122 : decode yRd_readLaw.2.1 122 = .ok (.goto (-109), 3) := by decide +kernel
theorem d_Rd_readLaw_125 : decode yRd_readLaw.2.1 125 = .ok (.return_, 1) := by decide +kernel
def J_Rd_readLaw_104 (k : Int32 → gb_Mem → Option (gb_Mem)) (x1 x2 x3 : Int32) (I : gb_Mem) : Option (gb_Mem) :=
  fbd (F_Rd_take 59 I) fun I8 =>
  fbd (F_La_addLine 114 x2 x3 I8) fun I9 =>
  k (x1 + 1) I9
set_option maxRecDepth 4000 in
theorem j_Rd_readLaw_104 (l : Launch) (d0 : Nat) {post : Option gb_AV → List gb_Ce → gb_Mem → Prop} (k : Int32 → gb_Mem → Option (gb_Mem)) (x1 x2 x3 : Int32) (I : gb_Mem) {ρ : gb_Mem} (h : J_Rd_readLaw_104 k x1 x2 x3 I = some ρ) (hk : ∀ (z1 : Int32) (Iw : gb_Mem), k z1 Iw = some ρ → gb_Go l yRd_readLaw (d0 + 44) 0 0 13 [(0, .inr (some 111)), (1, .inl z1)] [] shX Iw post) (hX : ∀ (I2 : gb_Mem), ρ = I2 → gb_Go l yRd_readLaw (d0 + 44) 0 0 125 [] [] shX I2 post) : gb_Go l yRd_readLaw (d0 + 44) 0 0 104 [(0, .inr (some 111)), (1, .inl x1), (2, .inl x2), (3, .inl x3)] [] shX I post := by
  unfold J_Rd_readLaw_104 at h
  refine go_aload_n (k := 0) d_Rd_readLaw_104 rfl rfl ?_
  refine go_bipush (v := 59) d_Rd_readLaw_105 (by decide) ?_
  obtain ⟨I8, w1, h⟩ := fbd_e h
  refine go_callV (y := yRd_take) (asr := [.inl 59]) (v := none) (I' := I8) (st1 := []) d_Rd_readLaw_107 s_yRd_take m_Rd_86 a_X_111 rfl rfl rfl (Nat.le_of_ble_eq_true rfl) rfl rfl (c_Rd_take l (d0 + 42) 59 I w1) ?_
  refine go_aload_n (k := 0) d_Rd_readLaw_110 rfl rfl ?_
  refine go_getr (ci := 9) (k := 9) (r := 114) d_Rd_readLaw_111 a_X_111 rfl (by decide) f_Rd_25 rfl ?_
  refine go_iload_n (k := 2) d_Rd_readLaw_114 rfl rfl ?_
  refine go_iload_n (k := 3) d_Rd_readLaw_115 rfl rfl ?_
  obtain ⟨I9, w1, h⟩ := fbd_e h
  refine go_callV (y := yLa_addLine) (asr := [.inl x2, .inl x3]) (v := none) (I' := I9) (st1 := []) d_Rd_readLaw_116 s_yLa_addLine m_Rd_89 a_X_114 rfl rfl rfl (Nat.le_of_ble_eq_true rfl) rfl rfl (c_La_addLine l (d0 + 42) 114 isLa_114 x2 x3 I8 w1) ?_
  refine go_iinc (k := 1) (v := x1 + 1) (lv' := [(1, .inl (x1 + 1)), (0, .inr (some 111)), (2, .inl x2), (3, .inl x3)]) d_Rd_readLaw_119 rfl rfl (by decide) rfl ?_
  refine go_goto (tgt := 13) d_Rd_readLaw_122 (by decide) ?_
  exact go_lv [1, 0] rfl (hk _ _ h)
def L_Rd_readLaw_13 : Nat → Int32 → gb_Mem → Option (gb_Mem)
  | 0, _, _ => none
  | n + 1, x1, I =>
    if 16 < x1 then
      some I
    else
      if (I 111 7) = 0 then
        fbd (F_Rd_now  I) fun r3 =>
        if r3 = 0 then
          some I
        else
          fbd (F_Rd_now  I) fun r4 =>
          fbd (F_Rd_now  I) fun r5 =>
          fbd (F_Rd_openLine x1 (F_Gb_within r5 200 202 I) I) fun I6 =>
          fbd (F_Rd_readSum  I6) fun I7 =>
          if (I7 111 7) = 0 then
            fbd (F_Rd_now  I7) fun r10 =>
            if r10 = 215 then
              fstf I7 111 6 ((I7 111 6) + 1) fun I11 =>
              fbd (F_Rd_readCondition 0 I11) fun I12 =>
              J_Rd_readLaw_104 (L_Rd_readLaw_13 n) x1 (r4 - 200) (I7 114 1) I12
            else
              J_Rd_readLaw_104 (L_Rd_readLaw_13 n) x1 (r4 - 200) (I7 114 1) I7
          else
            J_Rd_readLaw_104 (L_Rd_readLaw_13 n) x1 (r4 - 200) (I7 114 1) I7
      else
        some I
set_option maxRecDepth 4000 in
theorem l_Rd_readLaw_13 (l : Launch) (d0 : Nat) {post : Option gb_AV → List gb_Ce → gb_Mem → Prop} : ∀ (n : Nat) (x1 : Int32) (I : gb_Mem) {ρ : gb_Mem} (h : L_Rd_readLaw_13 n x1 I = some ρ) (hX : ∀ (I2 : gb_Mem), ρ = I2 → gb_Go l yRd_readLaw (d0 + 44) 0 0 125 [] [] shX I2 post) , gb_Go l yRd_readLaw (d0 + 44) 0 0 13 [(0, .inr (some 111)), (1, .inl x1)] [] shX I post := by
  intro n
  induction n with
  | zero => intro x1 I ρ h hX; cases h
  | succ n ih =>
    intro x1 I ρ h hX
    rw [L_Rd_readLaw_13] at h
    refine go_iload_n (k := 1) d_Rd_readLaw_13 rfl rfl ?_
    refine go_bipush (v := 16) d_Rd_readLaw_14 (by decide) ?_
    refine go_cmp_gt (tgt := 125) d_Rd_readLaw_16 (by decide) (fun hc => ?_) (fun hc => ?_)
    · rw [if_pos hc] at h
      exact go_lv [] rfl (hX _ (Option.some.inj h).symm)
    · rw [if_neg hc] at h
      refine go_aload_n (k := 0) d_Rd_readLaw_19 rfl rfl ?_
      refine go_geti (ci := 9) (k := 7) d_Rd_readLaw_20 a_X_111 rfl (by decide) f_Rd_53 rfl ?_
      refine go_if_ne (tgt := 125) d_Rd_readLaw_23 (by decide) (fun hc => ?_) (fun hc => ?_)
      · rw [if_neg hc] at h
        exact go_lv [] rfl (hX _ (Option.some.inj h).symm)
      · rw [if_pos hc] at h
        refine go_aload_n (k := 0) d_Rd_readLaw_26 rfl rfl ?_
        obtain ⟨r3, w1, h⟩ := fbd_e h
        refine go_callV (y := yRd_now) (asr := []) (v := some (.inl r3)) (I' := I) (st1 := [.inl r3]) d_Rd_readLaw_27 s_yRd_now m_Rd_62 a_X_111 rfl rfl rfl (Nat.le_of_ble_eq_true rfl) rfl rfl (c_Rd_now l (d0 + 43)  I w1) ?_
        refine go_if_eq (tgt := 125) d_Rd_readLaw_30 (by decide) (fun hc => ?_) (fun hc => ?_)
        · rw [if_pos hc] at h
          exact go_lv [] rfl (hX _ (Option.some.inj h).symm)
        · rw [if_neg hc] at h
          refine go_aload_n (k := 0) d_Rd_readLaw_33 rfl rfl ?_
          obtain ⟨r4, w1, h⟩ := fbd_e h
          refine go_callV (y := yRd_now) (asr := []) (v := some (.inl r4)) (I' := I) (st1 := [.inl r4]) d_Rd_readLaw_34 s_yRd_now m_Rd_62 a_X_111 rfl rfl rfl (Nat.le_of_ble_eq_true rfl) rfl rfl (c_Rd_now l (d0 + 43)  I w1) ?_
          refine go_sipush (v := 200) d_Rd_readLaw_37 (by decide) ?_
          refine go_isub d_Rd_readLaw_40 ?_
          refine go_istore_n (lv' := [(2, .inl (r4 - 200)), (0, .inr (some 111)), (1, .inl x1)]) d_Rd_readLaw_41 rfl (by decide) rfl ?_
          refine go_aload_n (k := 1) d_Rd_readLaw_42 rfl rfl ?_
          refine go_iload_n (k := 2) d_Rd_readLaw_43 rfl rfl ?_
          refine go_aload_n (k := 1) d_Rd_readLaw_44 rfl rfl ?_
          obtain ⟨r5, w1, h⟩ := fbd_e h
          refine go_callV (y := yRd_now) (asr := []) (v := some (.inl r5)) (I' := I) (st1 := [.inl r5, .inl x1, .inr (some 111)]) d_Rd_readLaw_45 s_yRd_now m_Rd_62 a_X_111 rfl rfl rfl (Nat.le_of_ble_eq_true rfl) rfl rfl (c_Rd_now l (d0 + 43)  I w1) ?_
          refine go_sipush (v := 200) d_Rd_readLaw_48 (by decide) ?_
          refine go_sipush (v := 202) d_Rd_readLaw_51 (by decide) ?_
          refine go_callSN (y := yGb_within) (asr := [.inl r5, .inl 200, .inl 202]) (v := some (.inl (F_Gb_within r5 200 202 I))) (I' := I) (st1 := [.inl (F_Gb_within r5 200 202 I), .inl x1, .inr (some 111)]) d_Rd_readLaw_54 s_yGb_within m_Rd_66 rfl (Nat.le_of_ble_eq_true rfl) rfl rfl (c_Gb_within l (d0 + 43) r5 200 202 I) ?_
          obtain ⟨I6, w1, h⟩ := fbd_e h
          refine go_callV (y := yRd_openLine) (asr := [.inl x1, .inl (F_Gb_within r5 200 202 I)]) (v := none) (I' := I6) (st1 := []) d_Rd_readLaw_57 s_yRd_openLine m_Rd_70 a_X_111 rfl rfl rfl (Nat.le_of_ble_eq_true rfl) rfl rfl (c_Rd_openLine l (d0 + 42) x1 (F_Gb_within r5 200 202 I) I w1) ?_
          refine go_aload_n (k := 1) d_Rd_readLaw_60 rfl rfl ?_
          obtain ⟨I7, w1, h⟩ := fbd_e h
          refine go_callV (y := yRd_readSum) (asr := []) (v := none) (I' := I7) (st1 := []) d_Rd_readLaw_61 s_yRd_readSum m_Rd_74 a_X_111 rfl rfl rfl (Nat.le_of_ble_eq_true rfl) rfl rfl (c_Rd_readSum l (d0 + 40)  I6 w1) ?_
          refine go_aload_n (k := 1) d_Rd_readLaw_64 rfl rfl ?_
          refine go_getr (ci := 9) (k := 9) (r := 114) d_Rd_readLaw_65 a_X_111 rfl (by decide) f_Rd_25 rfl ?_
          refine go_getiN (ci := 3) (k := 1) d_Rd_readLaw_68 a_X_114 rfl (by decide) f_Rd_77 rfl ?_
          refine go_istore_n (lv' := [(3, .inl (I7 114 1)), (2, .inl (r4 - 200)), (0, .inr (some 111)), (1, .inl x1)]) d_Rd_readLaw_71 rfl (by decide) rfl ?_
          refine go_aload_n (k := 2) d_Rd_readLaw_72 rfl rfl ?_
          refine go_geti (ci := 9) (k := 7) d_Rd_readLaw_73 a_X_111 rfl (by decide) f_Rd_53 rfl ?_
          refine go_if_ne (tgt := 104) d_Rd_readLaw_76 (by decide) (fun hc => ?_) (fun hc => ?_)
          · rw [if_neg hc] at h
            exact go_lv [2, 3, 1, 0] rfl (j_Rd_readLaw_104 l d0 (L_Rd_readLaw_13 n) x1 (r4 - 200) (I7 114 1) I7 h (fun z1 Iw hh => ih z1 Iw hh hX) hX)
          · rw [if_pos hc] at h
            refine go_aload_n (k := 2) d_Rd_readLaw_79 rfl rfl ?_
            obtain ⟨r10, w1, h⟩ := fbd_e h
            refine go_callV (y := yRd_now) (asr := []) (v := some (.inl r10)) (I' := I7) (st1 := [.inl r10]) d_Rd_readLaw_80 s_yRd_now m_Rd_62 a_X_111 rfl rfl rfl (Nat.le_of_ble_eq_true rfl) rfl rfl (c_Rd_now l (d0 + 43)  I7 w1) ?_
            refine go_sipush (v := 215) d_Rd_readLaw_83 (by decide) ?_
            refine go_cmp_ne (tgt := 104) d_Rd_readLaw_86 (by decide) (fun hc => ?_) (fun hc => ?_)
            · rw [if_neg hc] at h
              exact go_lv [2, 3, 1, 0] rfl (j_Rd_readLaw_104 l d0 (L_Rd_readLaw_13 n) x1 (r4 - 200) (I7 114 1) I7 h (fun z1 Iw hh => ih z1 Iw hh hX) hX)
            · rw [if_pos hc] at h
              refine go_aload_n (k := 2) d_Rd_readLaw_89 rfl rfl ?_
              refine go_dup d_Rd_readLaw_90 ?_
              refine go_geti (ci := 9) (k := 6) d_Rd_readLaw_91 a_X_111 rfl (by decide) f_Rd_80 rfl ?_
              refine go_iconst (v := 1) d_Rd_readLaw_94 (by decide) ?_
              refine go_iadd d_Rd_readLaw_95 ?_
              obtain ⟨I11, eI11, h⟩ := fstf_e h
              refine go_putT (ci := 9) (k := 6) (I' := I11) d_Rd_readLaw_96 a_X_111 rfl (by decide) f_Rd_80 rfl rfl rfl rfl rfl eI11 ?_
              refine go_aload_n (k := 2) d_Rd_readLaw_99 rfl rfl ?_
              refine go_iconst (v := 0) d_Rd_readLaw_100 (by decide) ?_
              obtain ⟨I12, w1, h⟩ := fbd_e h
              refine go_callV (y := yRd_readCondition) (asr := [.inl 0]) (v := none) (I' := I12) (st1 := []) d_Rd_readLaw_101 s_yRd_readCondition m_Rd_83 a_X_111 rfl rfl rfl (Nat.le_of_ble_eq_true rfl) rfl rfl (c_Rd_readCondition l (d0 + 0) 0 I11 w1) ?_
              exact go_lv [2, 3, 1, 0] rfl (j_Rd_readLaw_104 l d0 (L_Rd_readLaw_13 n) x1 (r4 - 200) (I7 114 1) I12 h (fun z1 Iw hh => ih z1 Iw hh hX) hX)
def F_Rd_readLaw (I : gb_Mem) : Option (gb_Mem) :=
  fbd (F_Rd_cutTokens  I) fun I1 =>
  fbd (F_La_clear 114 I1) fun I2 =>
  fbd (L_Rd_readLaw_13 5000 0 I2) fun I13 =>
  some I13
set_option maxRecDepth 4000 in
theorem c_Rd_readLaw (l : Launch) (d0 : Nat) (I : gb_Mem) {Iz : gb_Mem} (h : F_Rd_readLaw I = some Iz) : gb_Cs l yRd_readLaw (d0 + 44) [.inr (some 111)] shX I none Iz := by
  refine gb_Ct.of (lv := [(0, .inr (some 111))]) rfl (Nat.le_of_ble_eq_true rfl) rfl ?_
  unfold F_Rd_readLaw at h
  show gb_Go l yRd_readLaw (d0 + 44) 0 0 0 [(0, .inr (some 111))] [] shX I (gb_po shX none Iz)
  refine go_aload_n (k := 0) d_Rd_readLaw_0 rfl rfl ?_
  obtain ⟨I1, w1, h⟩ := fbd_e h
  refine go_callV (y := yRd_cutTokens) (asr := []) (v := none) (I' := I1) (st1 := []) d_Rd_readLaw_1 s_yRd_cutTokens m_Rd_56 a_X_111 rfl rfl rfl (Nat.le_of_ble_eq_true rfl) rfl rfl (c_Rd_cutTokens l (d0 + 36)  I w1) ?_
  refine go_aload_n (k := 0) d_Rd_readLaw_4 rfl rfl ?_
  refine go_getr (ci := 9) (k := 9) (r := 114) d_Rd_readLaw_5 a_X_111 rfl (by decide) f_Rd_25 rfl ?_
  obtain ⟨I2, w1, h⟩ := fbd_e h
  refine go_callV (y := yLa_clear) (asr := []) (v := none) (I' := I2) (st1 := []) d_Rd_readLaw_8 s_yLa_clear m_Rd_59 a_X_114 rfl rfl rfl (Nat.le_of_ble_eq_true rfl) rfl rfl (c_La_clear l (d0 + 43) 114 isLa_114 I1 w1) ?_
  refine go_iconst (v := 0) d_Rd_readLaw_11 (by decide) ?_
  refine go_istore_n (lv' := [(1, .inl 0), (0, .inr (some 111))]) d_Rd_readLaw_12 rfl (by decide) rfl ?_
  refine go_lv [1, 0] (lv' := [(0, .inr (some 111)), (1, .inl 0)]) rfl ?_
  obtain ⟨I13, w1, h⟩ := fbd_e h
  refine l_Rd_readLaw_13 l d0  5000 0 I2 w1 (fun I13_ e => ?_)
  cases e
  cases h
  exact go_return d_Rd_readLaw_125 rfl gb_po_i
theorem d_Gb_text_0 : decode yGb_text.2.1 0 = .ok (.aload_n 0, 1) := by decide +kernel
theorem d_Gb_text_1 : decode yGb_text.2.1 1 = .ok (.getfield 138, 3) := by decide +kernel
theorem d_Gb_text_4 : decode yGb_text.2.1 4 = .ok (.istore_n 2, 1) := by decide +kernel
theorem d_Gb_text_5 : decode yGb_text.2.1 5 = .ok (.aload_n 0, 1) := by decide +kernel
theorem d_Gb_text_6 : decode yGb_text.2.1 6 = .ok (.iconst 0, 1) := by decide +kernel
theorem d_Gb_text_7 : decode yGb_text.2.1 7 = .ok (.putfield 138, 3) := by decide +kernel
theorem d_Gb_text_10 : decode yGb_text.2.1 10 = .ok (.aload_n 0, 1) := by decide +kernel
theorem d_Gb_text_11 : decode yGb_text.2.1 11 = .ok (.getfield 73, 3) := by decide +kernel
theorem d_Gb_text_14 : decode yGb_text.2.1 14 = .ok (.iload_n 2, 1) := by decide +kernel
theorem d_Gb_text_15 : decode yGb_text.2.1 15 = .ok (.aload_n 0, 1) := by decide +kernel
theorem d_Gb_text_16 : decode yGb_text.2.1 16 = .ok (.getfield 12, 3) := by decide +kernel
theorem d_Gb_text_19 : decode yGb_text.2.1 19 = .ok (.getfield 35, 3) := by decide +kernel
theorem d_Gb_text_22 : decode yGb_text.2.1 22 = .ok (.getfield 95, 3) := by decide +kernel
theorem d_Gb_text_25 : decode yGb_text.2.1 25 = .ok (.invokevirtual 144, 3) := by decide +kernel
theorem d_Gb_text_28 : decode yGb_text.2.1 28 = .ok (.iload_n 1, 1) := by decide +kernel
theorem d_Gb_text_29 : decode yGb_text.2.1 29 = .ok (.ifCond .ne 13, 3) := by decide +kernel
theorem d_Gb_text_32 : decode yGb_text.2.1 32 = .ok (.aload_n 0, 1) := by decide +kernel
theorem d_Gb_text_33 : decode yGb_text.2.1 33 = .ok (.getfield 73, 3) := by decide +kernel
theorem d_Gb_text_36 : decode yGb_text.2.1 36 = .ok (.invokevirtual 147, 3) := by decide +kernel
theorem d_Gb_text_39 : decode yGb_text.2.1 39 = .ok (.goto 25, 3) := by decide +kernel
theorem d_Gb_text_42 : decode yGb_text.2.1 42 = .ok (.iload_n 1, 1) := by decide +kernel
theorem d_Gb_text_43 : decode yGb_text.2.1 43 = .ok (.iconst 1, 1) := by decide +kernel
theorem d_Gb_text_44 : decode yGb_text.2.1 44 = .ok (.iconst 3, 1) := by decide +kernel
theorem d_Gb_text_45 : decode yGb_text.2.1 45 = .ok (.invokestatic 84, 3) := by decide +kernel
theorem d_Gb_text_48 : decode yGb_text.2.1 48 = .ok (.ifCond .eq 14, 3) := by decide +kernel
theorem d_Gb_text_51 : decode yGb_text.2.1 51 = .ok (.aload_n 0, 1) := by decide +kernel
theorem d_Gb_text_52 : decode yGb_text.2.1 52 = .ok (.getfield 73, 3) := by decide +kernel
theorem d_Gb_text_55 : decode yGb_text.2.1 55 = .ok (.iload_n 1, 1) := by decide +kernel
theorem d_Gb_text_56 : decode yGb_text.2.1 56 = .ok (.invokevirtual 150, 3) := by decide +kernel
theorem d_Gb_text_59 : decode yGb_text.2.1 59 = .ok (.goto 5, 3) := by decide +kernel
theorem d_Gb_text_62 : decode yGb_text.2.1 62 = .ok (.iconst (-1), 1) := by decide +kernel
theorem d_Gb_text_63 : decode yGb_text.2.1 63 = .ok (.ireturn, 1) := by decide +kernel
theorem d_Gb_text_64 : decode yGb_text.2.1 64 = .ok (.aload_n 0, 1) := by decide +kernel
theorem d_Gb_text_65 : decode yGb_text.2.1 65 = .ok (.getfield 73, 3) := by decide +kernel
theorem d_Gb_text_68 : decode yGb_text.2.1 68 = .ok (.getfield 153, 3) := by decide +kernel
theorem d_Gb_text_71 : decode yGb_text.2.1 71 = .ok (.ifCond .ne 11, 3) := by decide +kernel
theorem d_Gb_text_74 : decode yGb_text.2.1 74 = .ok (.aload_n 0, 1) := by decide +kernel
theorem d_Gb_text_75 : decode yGb_text.2.1 75 = .ok (.iload_n 1, 1) := by decide +kernel
theorem d_Gb_text_76 : decode yGb_text.2.1 76 = .ok (.invokevirtual 156, 3) := by decide +kernel
theorem d_Gb_text_79 : decode yGb_text.2.1 79 = .ok (.goto 4, 3) := by decide +kernel
theorem d_Gb_text_82 : decode yGb_text.2.1 82 = .ok (.iconst (-1), 1) := by decide +kernel
theorem d_Gb_text_83 : decode yGb_text.2.1 83 = .ok (.ireturn, 1) := by decide +kernel
def J_Gb_text_64 (x1 : Int32) (I : gb_Mem) : Option (Int32 × gb_Mem) :=
  if (I 111 7) = 0 then
    fbd (F_Gb_takeText x1 I) fun (r5, I4) =>
    some (r5, I4)
  else
    some ((-1), I)
set_option maxRecDepth 4000 in
theorem j_Gb_text_64 (l : Launch) (d0 : Nat) (x1 : Int32) (I : gb_Mem) {rz : Int32} {Iz : gb_Mem} (h : J_Gb_text_64 x1 I = some (rz, Iz)) : gb_Go l yGb_text (d0 + 45) 0 0 64 [(0, .inr (some 0)), (1, .inl x1)] [] shX I (gb_po shX (some (.inl rz)) Iz) := by
  unfold J_Gb_text_64 at h
  refine go_aload_n (k := 0) d_Gb_text_64 rfl rfl ?_
  refine go_getr (ci := 0) (k := 11) (r := 111) d_Gb_text_65 a_X_0 rfl (by decide) f_Gb_73 rfl ?_
  refine go_getiN (ci := 9) (k := 7) d_Gb_text_68 a_X_111 rfl (by decide) f_Gb_153 rfl ?_
  refine go_if_ne (tgt := 82) d_Gb_text_71 (by decide) (fun hc => ?_) (fun hc => ?_)
  · rw [if_neg hc] at h
    refine go_iconst (v := (-1)) d_Gb_text_82 (by decide) ?_
    cases h
    exact go_ireturn d_Gb_text_83 rfl gb_po_i
  · rw [if_pos hc] at h
    refine go_aload_n (k := 0) d_Gb_text_74 rfl rfl ?_
    refine go_iload_n (k := 1) d_Gb_text_75 rfl rfl ?_
    obtain ⟨⟨r5, I4⟩, w1, h⟩ := fbd_e h
    try dsimp only at h
    refine go_callV (y := yGb_takeText) (asr := [.inl x1]) (v := some (.inl r5)) (I' := I4) (st1 := [.inl r5]) d_Gb_text_76 s_yGb_takeText m_Gb_156 a_X_0 rfl rfl rfl (Nat.le_of_ble_eq_true rfl) rfl rfl (c_Gb_takeText l (d0 + 42) x1 I w1) ?_
    refine go_goto (tgt := 83) d_Gb_text_79 (by decide) ?_
    cases h
    exact go_ireturn d_Gb_text_83 rfl gb_po_i
def F_Gb_text (x1 : Int32) (I : gb_Mem) : Option (Int32 × gb_Mem) :=
  fstf I 0 10 0 fun I1 =>
  fbd (F_Rd_start (I 0 10) (I1 2 5) I1) fun I2 =>
  if x1 = 0 then
    fbd (F_Rd_readLaw  I2) fun I6 =>
    J_Gb_text_64 x1 I6
  else
    if (F_Gb_within x1 1 3 I2) = 0 then
      some ((-1), I2)
    else
      fbd (F_Rd_readLines x1 I2) fun I3 =>
      J_Gb_text_64 x1 I3
set_option maxRecDepth 4000 in
theorem c_Gb_text (l : Launch) (d0 : Nat) (x1 : Int32) (I : gb_Mem) {rz : Int32} {Iz : gb_Mem} (h : F_Gb_text x1 I = some (rz, Iz)) : gb_Cs l yGb_text (d0 + 45) [.inr (some 0), .inl x1] shX I (some (.inl rz)) Iz := by
  refine gb_Ct.of (lv := [(0, .inr (some 0)), (1, .inl x1)]) rfl (Nat.le_of_ble_eq_true rfl) rfl ?_
  unfold F_Gb_text at h
  show gb_Go l yGb_text (d0 + 45) 0 0 0 [(0, .inr (some 0)), (1, .inl x1)] [] shX I (gb_po shX (some (.inl rz)) Iz)
  refine go_aload_n (k := 0) d_Gb_text_0 rfl rfl ?_
  refine go_geti (ci := 0) (k := 10) d_Gb_text_1 a_X_0 rfl (by decide) f_Gb_138 rfl ?_
  refine go_istore_n (lv' := [(2, .inl (I 0 10)), (0, .inr (some 0)), (1, .inl x1)]) d_Gb_text_4 rfl (by decide) rfl ?_
  refine go_aload_n (k := 1) d_Gb_text_5 rfl rfl ?_
  refine go_iconst (v := 0) d_Gb_text_6 (by decide) ?_
  obtain ⟨I1, eI1, h⟩ := fstf_e h
  refine go_putT (ci := 0) (k := 10) (I' := I1) d_Gb_text_7 a_X_0 rfl (by decide) f_Gb_138 rfl rfl rfl rfl rfl eI1 ?_
  refine go_aload_n (k := 1) d_Gb_text_10 rfl rfl ?_
  refine go_getr (ci := 0) (k := 11) (r := 111) d_Gb_text_11 a_X_0 rfl (by decide) f_Gb_73 rfl ?_
  refine go_iload_n (k := 0) d_Gb_text_14 rfl rfl ?_
  refine go_aload_n (k := 1) d_Gb_text_15 rfl rfl ?_
  refine go_getr (ci := 0) (k := 0) (r := 1) d_Gb_text_16 a_X_0 rfl (by decide) f_Gb_12 rfl ?_
  refine go_getrN (ci := 1) (k := 0) (r := 2) d_Gb_text_19 a_X_1 rfl (by decide) f_Gb_35 rfl ?_
  refine go_getiN (ci := 2) (k := 5) d_Gb_text_22 a_X_2 rfl (by decide) f_Gb_95 rfl ?_
  obtain ⟨I2, w1, h⟩ := fbd_e h
  refine go_callV (y := yRd_start) (asr := [.inl (I 0 10), .inl (I1 2 5)]) (v := none) (I' := I2) (st1 := []) d_Gb_text_25 s_yRd_start m_Gb_144 a_X_111 rfl rfl rfl (Nat.le_of_ble_eq_true rfl) rfl rfl (c_Rd_start l (d0 + 43) (I 0 10) (I1 2 5) I1 w1) ?_
  refine go_iload_n (k := 2) d_Gb_text_28 rfl rfl ?_
  refine go_if_ne (tgt := 42) d_Gb_text_29 (by decide) (fun hc => ?_) (fun hc => ?_)
  · rw [if_neg hc] at h
    refine go_iload_n (k := 2) d_Gb_text_42 rfl rfl ?_
    refine go_iconst (v := 1) d_Gb_text_43 (by decide) ?_
    refine go_iconst (v := 3) d_Gb_text_44 (by decide) ?_
    refine go_callS (y := yGb_within) (asr := [.inl x1, .inl 1, .inl 3]) (v := some (.inl (F_Gb_within x1 1 3 I2))) (I' := I2) (st1 := [.inl (F_Gb_within x1 1 3 I2)]) d_Gb_text_45 s_yGb_within m_Gb_84 rfl (Nat.le_of_ble_eq_true rfl) rfl rfl (c_Gb_within l (d0 + 44) x1 1 3 I2) ?_
    refine go_if_eq (tgt := 62) d_Gb_text_48 (by decide) (fun hc => ?_) (fun hc => ?_)
    · rw [if_pos hc] at h
      refine go_iconst (v := (-1)) d_Gb_text_62 (by decide) ?_
      cases h
      exact go_ireturn d_Gb_text_63 rfl gb_po_i
    · rw [if_neg hc] at h
      refine go_aload_n (k := 1) d_Gb_text_51 rfl rfl ?_
      refine go_getr (ci := 0) (k := 11) (r := 111) d_Gb_text_52 a_X_0 rfl (by decide) f_Gb_73 rfl ?_
      refine go_iload_n (k := 2) d_Gb_text_55 rfl rfl ?_
      obtain ⟨I3, w1, h⟩ := fbd_e h
      refine go_callV (y := yRd_readLines) (asr := [.inl x1]) (v := none) (I' := I3) (st1 := []) d_Gb_text_56 s_yRd_readLines m_Gb_150 a_X_111 rfl rfl rfl (Nat.le_of_ble_eq_true rfl) rfl rfl (c_Rd_readLines l (d0 + 36) x1 I2 w1) ?_
      refine go_goto (tgt := 64) d_Gb_text_59 (by decide) ?_
      exact go_lv [1, 2] rfl (j_Gb_text_64 l d0 x1 I3 h)
  · rw [if_pos hc] at h
    refine go_aload_n (k := 1) d_Gb_text_32 rfl rfl ?_
    refine go_getr (ci := 0) (k := 11) (r := 111) d_Gb_text_33 a_X_0 rfl (by decide) f_Gb_73 rfl ?_
    obtain ⟨I6, w1, h⟩ := fbd_e h
    refine go_callV (y := yRd_readLaw) (asr := []) (v := none) (I' := I6) (st1 := []) d_Gb_text_36 s_yRd_readLaw m_Gb_147 a_X_111 rfl rfl rfl (Nat.le_of_ble_eq_true rfl) rfl rfl (c_Rd_readLaw l (d0 + 0)  I2 w1) ?_
    refine go_goto (tgt := 64) d_Gb_text_39 (by decide) ?_
    exact go_lv [1, 2] rfl (j_Gb_text_64 l d0 x1 I6 h)
