theorem d_Mo_twoOf_0 : decode yMo_twoOf.2.1 0 = .ok (.iload_n 1, 1) := by decide +kernel
theorem d_Mo_twoOf_1 : decode yMo_twoOf.2.1 1 = .ok (.iconst 2, 1) := by decide +kernel
theorem d_Mo_twoOf_2 : decode yMo_twoOf.2.1 2 = .ok (.if_icmp .ne 7, 3) := by decide +kernel
theorem d_Mo_twoOf_5 : decode yMo_twoOf.2.1 5 = .ok (.iload_n 2, 1) := by decide +kernel
theorem d_Mo_twoOf_6 : decode yMo_twoOf.2.1 6 = .ok (.iload_n 3, 1) := by decide +kernel
theorem d_Mo_twoOf_7 : decode yMo_twoOf.2.1 7 = .ok (.iadd, 1) := by decide +kernel
theorem d_Mo_twoOf_8 : decode yMo_twoOf.2.1 8 = .ok (.ireturn, 1) := by decide +kernel
theorem d_Mo_twoOf_9 : decode yMo_twoOf.2.1 9 = .ok (.iload_n 1, 1) := by decide +kernel
theorem d_Mo_twoOf_10 : decode yMo_twoOf.2.1 10 = .ok (.iconst 3, 1) := by decide +kernel
theorem d_Mo_twoOf_11 : decode yMo_twoOf.2.1 11 = .ok (.if_icmp .ne 7, 3) := by decide +kernel
theorem d_Mo_twoOf_14 : decode yMo_twoOf.2.1 14 = .ok (.iload_n 2, 1) := by decide +kernel
theorem d_Mo_twoOf_15 : decode yMo_twoOf.2.1 15 = .ok (.iload_n 3, 1) := by decide +kernel
theorem d_Mo_twoOf_16 : decode yMo_twoOf.2.1 16 = .ok (.isub, 1) := by decide +kernel
theorem d_Mo_twoOf_17 : decode yMo_twoOf.2.1 17 = .ok (.ireturn, 1) := by decide +kernel
theorem d_Mo_twoOf_18 : decode yMo_twoOf.2.1 18 = .ok (.iload_n 1, 1) := by decide +kernel
theorem d_Mo_twoOf_19 : decode yMo_twoOf.2.1 19 = .ok (.iconst 4, 1) := by decide +kernel
theorem d_Mo_twoOf_20 : decode yMo_twoOf.2.1 20 = .ok (.if_icmp .ne 7, 3) := by decide +kernel
theorem d_Mo_twoOf_23 : decode yMo_twoOf.2.1 23 = .ok (.iload_n 2, 1) := by decide +kernel
theorem d_Mo_twoOf_24 : decode yMo_twoOf.2.1 24 = .ok (.iload_n 3, 1) := by decide +kernel
theorem d_Mo_twoOf_25 : decode yMo_twoOf.2.1 25 = .ok (.imul, 1) := by decide +kernel
theorem d_Mo_twoOf_26 : decode yMo_twoOf.2.1 26 = .ok (.ireturn, 1) := by decide +kernel
theorem d_Mo_twoOf_27 : decode yMo_twoOf.2.1 27 = .ok (.iload_n 1, 1) := by decide +kernel
theorem d_Mo_twoOf_28 : decode yMo_twoOf.2.1 28 = .ok (.iconst 5, 1) := by decide +kernel
theorem d_Mo_twoOf_29 : decode yMo_twoOf.2.1 29 = .ok (.if_icmp .ne 7, 3) := by decide +kernel
theorem d_Mo_twoOf_32 : decode yMo_twoOf.2.1 32 = .ok (.iload_n 2, 1) := by decide +kernel
theorem d_Mo_twoOf_33 : decode yMo_twoOf.2.1 33 = .ok (.iload_n 3, 1) := by decide +kernel
theorem d_Mo_twoOf_34 : decode yMo_twoOf.2.1 34 = .ok (.idiv, 1) := by decide +kernel
theorem d_Mo_twoOf_35 : decode yMo_twoOf.2.1 35 = .ok (.ireturn, 1) := by decide +kernel
theorem d_Mo_twoOf_36 : decode yMo_twoOf.2.1 36 = .ok (.iload_n 1, 1) := by decide +kernel
theorem d_Mo_twoOf_37 : decode yMo_twoOf.2.1 37 = .ok (.bipush 6, 2) := by decide +kernel
theorem d_Mo_twoOf_39 : decode yMo_twoOf.2.1 39 = .ok (.if_icmp .ne 14, 3) := by decide +kernel
theorem d_Mo_twoOf_42 : decode yMo_twoOf.2.1 42 = .ok (.iload_n 2, 1) := by decide +kernel
theorem d_Mo_twoOf_43 : decode yMo_twoOf.2.1 43 = .ok (.iload_n 3, 1) := by decide +kernel
theorem d_Mo_twoOf_44 : decode yMo_twoOf.2.1 44 = .ok (.if_icmp .ge 7, 3) := by decide +kernel
theorem d_Mo_twoOf_47 : decode yMo_twoOf.2.1 47 = .ok (.iconst 1, 1) := by decide +kernel
theorem d_Mo_twoOf_48 : decode yMo_twoOf.2.1 48 = .ok (.goto 4, 3) := by decide +kernel
theorem d_Mo_twoOf_51 : decode yMo_twoOf.2.1 51 = .ok (.iconst 0, 1) := by decide +kernel
theorem d_Mo_twoOf_52 : decode yMo_twoOf.2.1 52 = .ok (.ireturn, 1) := by decide +kernel
theorem d_Mo_twoOf_53 : decode yMo_twoOf.2.1 53 = .ok (.iload_n 1, 1) := by decide +kernel
theorem d_Mo_twoOf_54 : decode yMo_twoOf.2.1 54 = .ok (.bipush 7, 2) := by decide +kernel
theorem d_Mo_twoOf_56 : decode yMo_twoOf.2.1 56 = .ok (.if_icmp .ne 14, 3) := by decide +kernel
theorem d_Mo_twoOf_59 : decode yMo_twoOf.2.1 59 = .ok (.iload_n 2, 1) := by decide +kernel
theorem d_Mo_twoOf_60 : decode yMo_twoOf.2.1 60 = .ok (.iload_n 3, 1) := by decide +kernel
theorem d_Mo_twoOf_61 : decode yMo_twoOf.2.1 61 = .ok (.if_icmp .ne 7, 3) := by decide +kernel
theorem d_Mo_twoOf_64 : decode yMo_twoOf.2.1 64 = .ok (.iconst 1, 1) := by decide +kernel
theorem d_Mo_twoOf_65 : decode yMo_twoOf.2.1 65 = .ok (.goto 4, 3) := by decide +kernel
theorem d_Mo_twoOf_68 : decode yMo_twoOf.2.1 68 = .ok (.iconst 0, 1) := by decide +kernel
theorem d_Mo_twoOf_69 : decode yMo_twoOf.2.1 69 = .ok (.ireturn, 1) := by decide +kernel
theorem d_Mo_twoOf_70 : decode yMo_twoOf.2.1 70 = .ok (.iload_n 1, 1) := by decide +kernel
theorem d_Mo_twoOf_71 : decode yMo_twoOf.2.1 71 = .ok (.bipush 8, 2) := by decide +kernel
theorem d_Mo_twoOf_73 : decode yMo_twoOf.2.1 73 = .ok (.if_icmp .ne 14, 3) := by decide +kernel
theorem d_Mo_twoOf_76 : decode yMo_twoOf.2.1 76 = .ok (.iload_n 2, 1) := by decide +kernel
theorem d_Mo_twoOf_77 : decode yMo_twoOf.2.1 77 = .ok (.iload_n 3, 1) := by decide +kernel
theorem d_Mo_twoOf_78 : decode yMo_twoOf.2.1 78 = .ok (.if_icmp .le 7, 3) := by decide +kernel
theorem d_Mo_twoOf_81 : decode yMo_twoOf.2.1 81 = .ok (.iconst 1, 1) := by decide +kernel
theorem d_Mo_twoOf_82 : decode yMo_twoOf.2.1 82 = .ok (.goto 4, 3) := by decide +kernel
theorem d_Mo_twoOf_85 : decode yMo_twoOf.2.1 85 = .ok (.iconst 0, 1) := by decide +kernel
theorem d_Mo_twoOf_86 : decode yMo_twoOf.2.1 86 = .ok (.ireturn, 1) := by decide +kernel
theorem d_Mo_twoOf_87 : decode yMo_twoOf.2.1 87 = .ok (.iload_n 1, 1) := by decide +kernel
theorem d_Mo_twoOf_88 : decode yMo_twoOf.2.1 88 = .ok (.bipush 10, 2) := by decide +kernel
theorem d_Mo_twoOf_90 : decode yMo_twoOf.2.1 90 = .ok (.if_icmp .ne 9, 3) := by decide +kernel
theorem d_Mo_twoOf_93 : decode yMo_twoOf.2.1 93 = .ok (.iload_n 2, 1) := by decide +kernel
theorem d_Mo_twoOf_94 : decode yMo_twoOf.2.1 94 = .ok (.iload_n 3, 1) := by decide +kernel
theorem d_Mo_twoOf_95 : decode yMo_twoOf.2.1 95 = .ok (.imul, 1) := by decide +kernel
theorem d_Mo_twoOf_96 : decode yMo_twoOf.2.1 96 = .ok (.goto 14, 3) := by decide +kernel
theorem d_Mo_twoOf_99 : decode yMo_twoOf.2.1 99 = .ok (.iload_n 2, 1) := by decide +kernel
theorem d_Mo_twoOf_100 : decode yMo_twoOf.2.1 100 = .ok (.iload_n 3, 1) := by decide +kernel
theorem d_Mo_twoOf_101 : decode yMo_twoOf.2.1 101 = .ok (.iadd, 1) := by decide +kernel
theorem d_Mo_twoOf_102 : decode yMo_twoOf.2.1 102 = .ok (.ifCond .le 7, 3) := by decide +kernel
theorem d_Mo_twoOf_105 : decode yMo_twoOf.2.1 105 = .ok (.iconst 1, 1) := by decide +kernel
theorem d_Mo_twoOf_106 : decode yMo_twoOf.2.1 106 = .ok (.goto 4, 3) := by decide +kernel
theorem d_Mo_twoOf_109 : decode yMo_twoOf.2.1 109 = .ok (.iconst 0, 1) := by decide +kernel
theorem d_Mo_twoOf_110 : decode yMo_twoOf.2.1 110 = .ok (.ireturn, 1) := by decide +kernel
def F_Mo_twoOf (x1 x2 x3 : Int32) (I : gb_Mem) : Option (Int32) :=
  if x1 = 2 then
    some (x2 + x3)
  else
    if x1 = 3 then
      some (x2 - x3)
    else
      if x1 = 4 then
        some (x2 * x3)
      else
        if x1 = 5 then
          fgd (decide (¬ x3 = 0)) <|
          some (x2 / x3)
        else
          if x1 = 6 then
            if x3 ≤ x2 then
              some 0
            else
              some 1
          else
            if x1 = 7 then
              if x2 = x3 then
                some 1
              else
                some 0
            else
              if x1 = 8 then
                if x2 ≤ x3 then
                  some 0
                else
                  some 1
              else
                if x1 = 10 then
                  some (x2 * x3)
                else
                  if (x2 + x3) ≤ 0 then
                    some 0
                  else
                    some 1
set_option maxRecDepth 4000 in
theorem c_Mo_twoOf (l : Launch) (d0 : Nat) (x1 x2 x3 : Int32) (I : gb_Mem) {rz : Int32} (h : F_Mo_twoOf x1 x2 x3 I = some rz) : gb_Cs l yMo_twoOf (d0 + 0) [.inr (some 0), .inl x1, .inl x2, .inl x3] shM I (some (.inl rz)) I := by
  refine gb_Ct.of (lv := [(0, .inr (some 0)), (1, .inl x1), (2, .inl x2), (3, .inl x3)]) rfl (Nat.le_of_ble_eq_true rfl) rfl ?_
  unfold F_Mo_twoOf at h
  show gb_Go l yMo_twoOf (d0 + 0) 0 0 0 [(0, .inr (some 0)), (1, .inl x1), (2, .inl x2), (3, .inl x3)] [] shM I (gb_po shM (some (.inl rz)) I)
  refine go_iload_n (k := 1) d_Mo_twoOf_0 rfl rfl ?_
  refine go_iconst (v := 2) d_Mo_twoOf_1 (by decide) ?_
  refine go_cmp_ne (tgt := 9) d_Mo_twoOf_2 (by decide) (fun hc => ?_) (fun hc => ?_)
  · rw [if_neg hc] at h
    refine go_iload_n (k := 1) d_Mo_twoOf_9 rfl rfl ?_
    refine go_iconst (v := 3) d_Mo_twoOf_10 (by decide) ?_
    refine go_cmp_ne (tgt := 18) d_Mo_twoOf_11 (by decide) (fun hc => ?_) (fun hc => ?_)
    · rw [if_neg hc] at h
      refine go_iload_n (k := 1) d_Mo_twoOf_18 rfl rfl ?_
      refine go_iconst (v := 4) d_Mo_twoOf_19 (by decide) ?_
      refine go_cmp_ne (tgt := 27) d_Mo_twoOf_20 (by decide) (fun hc => ?_) (fun hc => ?_)
      · rw [if_neg hc] at h
        refine go_iload_n (k := 1) d_Mo_twoOf_27 rfl rfl ?_
        refine go_iconst (v := 5) d_Mo_twoOf_28 (by decide) ?_
        refine go_cmp_ne (tgt := 36) d_Mo_twoOf_29 (by decide) (fun hc => ?_) (fun hc => ?_)
        · rw [if_neg hc] at h
          refine go_iload_n (k := 1) d_Mo_twoOf_36 rfl rfl ?_
          refine go_bipush (v := 6) d_Mo_twoOf_37 (by decide) ?_
          refine go_cmp_ne (tgt := 53) d_Mo_twoOf_39 (by decide) (fun hc => ?_) (fun hc => ?_)
          · rw [if_neg hc] at h
            refine go_iload_n (k := 1) d_Mo_twoOf_53 rfl rfl ?_
            refine go_bipush (v := 7) d_Mo_twoOf_54 (by decide) ?_
            refine go_cmp_ne (tgt := 70) d_Mo_twoOf_56 (by decide) (fun hc => ?_) (fun hc => ?_)
            · rw [if_neg hc] at h
              refine go_iload_n (k := 1) d_Mo_twoOf_70 rfl rfl ?_
              refine go_bipush (v := 8) d_Mo_twoOf_71 (by decide) ?_
              refine go_cmp_ne (tgt := 87) d_Mo_twoOf_73 (by decide) (fun hc => ?_) (fun hc => ?_)
              · rw [if_neg hc] at h
                refine go_iload_n (k := 1) d_Mo_twoOf_87 rfl rfl ?_
                refine go_bipush (v := 10) d_Mo_twoOf_88 (by decide) ?_
                refine go_cmp_ne (tgt := 99) d_Mo_twoOf_90 (by decide) (fun hc => ?_) (fun hc => ?_)
                · rw [if_neg hc] at h
                  refine go_iload_n (k := 2) d_Mo_twoOf_99 rfl rfl ?_
                  refine go_iload_n (k := 3) d_Mo_twoOf_100 rfl rfl ?_
                  refine go_iadd d_Mo_twoOf_101 ?_
                  refine go_if_le (tgt := 109) d_Mo_twoOf_102 (by decide) (fun hc => ?_) (fun hc => ?_)
                  · rw [if_pos hc] at h
                    refine go_iconst (v := 0) d_Mo_twoOf_109 (by decide) ?_
                    cases h
                    exact go_ireturn d_Mo_twoOf_110 rfl gb_po_i
                  · rw [if_neg hc] at h
                    refine go_iconst (v := 1) d_Mo_twoOf_105 (by decide) ?_
                    refine go_goto (tgt := 110) d_Mo_twoOf_106 (by decide) ?_
                    cases h
                    exact go_ireturn d_Mo_twoOf_110 rfl gb_po_i
                · rw [if_pos hc] at h
                  refine go_iload_n (k := 2) d_Mo_twoOf_93 rfl rfl ?_
                  refine go_iload_n (k := 3) d_Mo_twoOf_94 rfl rfl ?_
                  refine go_imul d_Mo_twoOf_95 ?_
                  refine go_goto (tgt := 110) d_Mo_twoOf_96 (by decide) ?_
                  cases h
                  exact go_ireturn d_Mo_twoOf_110 rfl gb_po_i
              · rw [if_pos hc] at h
                refine go_iload_n (k := 2) d_Mo_twoOf_76 rfl rfl ?_
                refine go_iload_n (k := 3) d_Mo_twoOf_77 rfl rfl ?_
                refine go_cmp_le (tgt := 85) d_Mo_twoOf_78 (by decide) (fun hc => ?_) (fun hc => ?_)
                · rw [if_pos hc] at h
                  refine go_iconst (v := 0) d_Mo_twoOf_85 (by decide) ?_
                  cases h
                  exact go_ireturn d_Mo_twoOf_86 rfl gb_po_i
                · rw [if_neg hc] at h
                  refine go_iconst (v := 1) d_Mo_twoOf_81 (by decide) ?_
                  refine go_goto (tgt := 86) d_Mo_twoOf_82 (by decide) ?_
                  cases h
                  exact go_ireturn d_Mo_twoOf_86 rfl gb_po_i
            · rw [if_pos hc] at h
              refine go_iload_n (k := 2) d_Mo_twoOf_59 rfl rfl ?_
              refine go_iload_n (k := 3) d_Mo_twoOf_60 rfl rfl ?_
              refine go_cmp_ne (tgt := 68) d_Mo_twoOf_61 (by decide) (fun hc => ?_) (fun hc => ?_)
              · rw [if_neg hc] at h
                refine go_iconst (v := 0) d_Mo_twoOf_68 (by decide) ?_
                cases h
                exact go_ireturn d_Mo_twoOf_69 rfl gb_po_i
              · rw [if_pos hc] at h
                refine go_iconst (v := 1) d_Mo_twoOf_64 (by decide) ?_
                refine go_goto (tgt := 69) d_Mo_twoOf_65 (by decide) ?_
                cases h
                exact go_ireturn d_Mo_twoOf_69 rfl gb_po_i
          · rw [if_pos hc] at h
            refine go_iload_n (k := 2) d_Mo_twoOf_42 rfl rfl ?_
            refine go_iload_n (k := 3) d_Mo_twoOf_43 rfl rfl ?_
            refine go_cmp_ge (tgt := 51) d_Mo_twoOf_44 (by decide) (fun hc => ?_) (fun hc => ?_)
            · rw [if_pos hc] at h
              refine go_iconst (v := 0) d_Mo_twoOf_51 (by decide) ?_
              cases h
              exact go_ireturn d_Mo_twoOf_52 rfl gb_po_i
            · rw [if_neg hc] at h
              refine go_iconst (v := 1) d_Mo_twoOf_47 (by decide) ?_
              refine go_goto (tgt := 52) d_Mo_twoOf_48 (by decide) ?_
              cases h
              exact go_ireturn d_Mo_twoOf_52 rfl gb_po_i
        · rw [if_pos hc] at h
          refine go_iload_n (k := 2) d_Mo_twoOf_32 rfl rfl ?_
          refine go_iload_n (k := 3) d_Mo_twoOf_33 rfl rfl ?_
          obtain ⟨hz, h⟩ := fgd_e h
          refine go_idiv d_Mo_twoOf_34 (of_decide_eq_true hz) ?_
          cases h
          exact go_ireturn d_Mo_twoOf_35 rfl gb_po_i
      · rw [if_pos hc] at h
        refine go_iload_n (k := 2) d_Mo_twoOf_23 rfl rfl ?_
        refine go_iload_n (k := 3) d_Mo_twoOf_24 rfl rfl ?_
        refine go_imul d_Mo_twoOf_25 ?_
        cases h
        exact go_ireturn d_Mo_twoOf_26 rfl gb_po_i
    · rw [if_pos hc] at h
      refine go_iload_n (k := 2) d_Mo_twoOf_14 rfl rfl ?_
      refine go_iload_n (k := 3) d_Mo_twoOf_15 rfl rfl ?_
      refine go_isub d_Mo_twoOf_16 ?_
      cases h
      exact go_ireturn d_Mo_twoOf_17 rfl gb_po_i
  · rw [if_pos hc] at h
    refine go_iload_n (k := 2) d_Mo_twoOf_5 rfl rfl ?_
    refine go_iload_n (k := 3) d_Mo_twoOf_6 rfl rfl ?_
    refine go_iadd d_Mo_twoOf_7 ?_
    cases h
    exact go_ireturn d_Mo_twoOf_8 rfl gb_po_i
theorem d_Mo_types_0 : decode yMo_types.2.1 0 = .ok (.bipush 24, 2) := by decide +kernel
theorem d_Mo_types_2 : decode yMo_types.2.1 2 = .ok (.istore_n 2, 1) := by decide +kernel
theorem d_Mo_types_3 : decode yMo_types.2.1 3 = .ok (.iload_n 2, 1) := by decide +kernel
theorem d_Mo_types_4 : decode yMo_types.2.1 4 = .ok (.ifCond .lt 35, 3) := by decide +kernel
theorem d_Mo_types_7 : decode yMo_types.2.1 7 = .ok (.aload_n 0, 1) := by decide +kernel
theorem d_Mo_types_8 : decode yMo_types.2.1 8 = .ok (.getfield 34, 3) := by decide +kernel
theorem d_Mo_types_11 : decode yMo_types.2.1 11 = .ok (.aload_n 0, 1) := by decide +kernel
theorem d_Mo_types_12 : decode yMo_types.2.1 12 = .ok (.getfield 171, 3) := by decide +kernel
theorem d_Mo_types_15 : decode yMo_types.2.1 15 = .ok (.iload_n 1, 1) := by decide +kernel
theorem d_Mo_types_16 : decode yMo_types.2.1 16 = .ok (.iload_n 2, 1) := by decide +kernel
theorem d_Mo_types_17 : decode yMo_types.2.1 17 = .ok (.ishr, 1) := by decide +kernel
theorem d_Mo_types_18 : decode yMo_types.2.1 18 = .ok (.sipush 255, 3) := by decide +kernel
theorem d_Mo_types_21 : decode yMo_types.2.1 21 = .ok (.iand, 1) := by decide +kernel
theorem d_Mo_types_22 : decode yMo_types.2.1 22 = .ok (.iastore, 1) := by decide +kernel
theorem d_Mo_types_23 : decode yMo_types.2.1 23 = .ok (.aload_n 0, 1) := by decide +kernel
theorem d_Mo_types_24 : decode yMo_types.2.1 24 = .ok (.aload_n 0, 1) := by decide +kernel
theorem d_Mo_types_25 : decode yMo_types.2.1 25 = .ok (.getfield 171, 3) := by decide +kernel
theorem d_Mo_types_28 : decode yMo_types.2.1 28 = .ok (.iconst 1, 1) := by decide +kernel
theorem d_Mo_types_29 : decode yMo_types.2.1 29 = .ok (.iadd, 1) := by decide +kernel
theorem d_Mo_types_30 : decode yMo_types.2.1 30 = .ok (.putfield 171, 3) := by decide +kernel
theorem d_Mo_types_33 : decode yMo_types.2.1 33 = .ok (.iinc 2 (-8), 3) := by decide +kernel
theorem d_Mo_types_36 : decode yMo_types.2.1 36 = .ok (.goto (-33), 3) := by decide +kernel
theorem d_Mo_types_39 : decode yMo_types.2.1 39 = .ok (.return_, 1) := by decide +kernel
def L_Mo_types_3 (x1 : Int32) : Nat → Int32 → gb_Mem → Option (gb_Mem)
  | 0, _, _ => none
  | n + 1, x2, I =>
    if x2 < 0 then
      some I
    else
      fsto I 9 400 (I 0 13) ((x1 >>> (x2 &&& 31)) &&& 255) fun I1 =>
      fstf I1 0 13 ((I1 0 13) + 1) fun I2 =>
      L_Mo_types_3 x1 n (x2 + (-8)) I2
set_option maxRecDepth 4000 in
theorem l_Mo_types_3 (l : Launch) (d0 : Nat) (x1 : Int32) {post : Option gb_AV → List gb_Ce → gb_Mem → Prop} : ∀ (n : Nat) (x2 : Int32) (I : gb_Mem) {ρ : gb_Mem} (h : L_Mo_types_3 x1 n x2 I = some ρ) (hX : ∀ (I2 : gb_Mem), ρ = I2 → gb_Go l yMo_types (d0 + 0) 0 0 39 [] [] shM I2 post) , gb_Go l yMo_types (d0 + 0) 0 0 3 [(0, .inr (some 0)), (1, .inl x1), (2, .inl x2)] [] shM I post := by
  intro n
  induction n with
  | zero => intro x2 I ρ h hX; cases h
  | succ n ih =>
    intro x2 I ρ h hX
    rw [L_Mo_types_3] at h
    refine go_iload_n (k := 2) d_Mo_types_3 rfl rfl ?_
    refine go_if_lt (tgt := 39) d_Mo_types_4 (by decide) (fun hc => ?_) (fun hc => ?_)
    · rw [if_pos hc] at h
      exact go_lv [] rfl (hX _ (Option.some.inj h).symm)
    · rw [if_neg hc] at h
      refine go_aload_n (k := 0) d_Mo_types_7 rfl rfl ?_
      refine go_getr (ci := 10) (k := 12) (r := 9) d_Mo_types_8 a_M_0 rfl (by decide) f_Mo_34 rfl ?_
      refine go_aload_n (k := 0) d_Mo_types_11 rfl rfl ?_
      refine go_geti (ci := 10) (k := 13) d_Mo_types_12 a_M_0 rfl (by decide) f_Mo_171 rfl ?_
      refine go_iload_n (k := 1) d_Mo_types_15 rfl rfl ?_
      refine go_iload_n (k := 2) d_Mo_types_16 rfl rfl ?_
      refine go_ishr d_Mo_types_17 ?_
      refine go_sipush (v := 255) d_Mo_types_18 (by decide) ?_
      refine go_iand d_Mo_types_21 ?_
      obtain ⟨hi, I1, eI1, h⟩ := fsto_e h
      refine go_iast (I' := I1) d_Mo_types_22 a_M_9 hi eI1 ?_
      refine go_aload_n (k := 0) d_Mo_types_23 rfl rfl ?_
      refine go_aload_n (k := 0) d_Mo_types_24 rfl rfl ?_
      refine go_geti (ci := 10) (k := 13) d_Mo_types_25 a_M_0 rfl (by decide) f_Mo_171 rfl ?_
      refine go_iconst (v := 1) d_Mo_types_28 (by decide) ?_
      refine go_iadd d_Mo_types_29 ?_
      obtain ⟨I2, eI2, h⟩ := fstf_e h
      refine go_putT (ci := 10) (k := 13) (I' := I2) d_Mo_types_30 a_M_0 rfl (by decide) f_Mo_171 rfl rfl rfl rfl rfl eI2 ?_
      refine go_iinc (k := 2) (v := x2 + (-8)) (lv' := [(2, .inl (x2 + (-8))), (0, .inr (some 0)), (1, .inl x1)]) d_Mo_types_33 rfl rfl (by decide) rfl ?_
      refine go_goto (tgt := 3) d_Mo_types_36 (by decide) ?_
      exact go_lv [1, 2, 0] rfl (ih (x2 + (-8)) I2 h hX)
def F_Mo_types (x1 : Int32) (I : gb_Mem) : Option (gb_Mem) :=
  fbd (L_Mo_types_3 x1 5000 24 I) fun I3 =>
  some I3
set_option maxRecDepth 4000 in
theorem c_Mo_types (l : Launch) (d0 : Nat) (x1 : Int32) (I : gb_Mem) {Iz : gb_Mem} (h : F_Mo_types x1 I = some Iz) : gb_Cs l yMo_types (d0 + 0) [.inr (some 0), .inl x1] shM I none Iz := by
  refine gb_Ct.of (lv := [(0, .inr (some 0)), (1, .inl x1)]) rfl (Nat.le_of_ble_eq_true rfl) rfl ?_
  unfold F_Mo_types at h
  show gb_Go l yMo_types (d0 + 0) 0 0 0 [(0, .inr (some 0)), (1, .inl x1)] [] shM I (gb_po shM none Iz)
  refine go_bipush (v := 24) d_Mo_types_0 (by decide) ?_
  refine go_istore_n (lv' := [(2, .inl 24), (0, .inr (some 0)), (1, .inl x1)]) d_Mo_types_2 rfl (by decide) rfl ?_
  refine go_lv [1, 2, 0] (lv' := [(0, .inr (some 0)), (1, .inl x1), (2, .inl 24)]) rfl ?_
  obtain ⟨I3, w1, h⟩ := fbd_e h
  refine l_Mo_types_3 l d0 x1 5000 24 I w1 (fun I3_ e => ?_)
  cases e
  cases h
  exact go_return d_Mo_types_39 rfl gb_po_i
theorem d_Mo_undo_0 : decode yMo_undo.2.1 0 = .ok (.aload_n 0, 1) := by decide +kernel
theorem d_Mo_undo_1 : decode yMo_undo.2.1 1 = .ok (.iconst 0, 1) := by decide +kernel
theorem d_Mo_undo_2 : decode yMo_undo.2.1 2 = .ok (.putfield 137, 3) := by decide +kernel
theorem d_Mo_undo_5 : decode yMo_undo.2.1 5 = .ok (.aload_n 0, 1) := by decide +kernel
theorem d_Mo_undo_6 : decode yMo_undo.2.1 6 = .ok (.getfield 141, 3) := by decide +kernel
theorem d_Mo_undo_9 : decode yMo_undo.2.1 9 = .ok (.ifCond .ne 5, 3) := by decide +kernel
theorem d_Mo_undo_12 : decode yMo_undo.2.1 12 = .ok (.iconst 0, 1) := by decide +kernel
theorem d_Mo_undo_13 : decode yMo_undo.2.1 13 = .ok (.ireturn, 1) := by decide +kernel
theorem d_Mo_undo_14 : decode yMo_undo.2.1 14 = .ok (.aload_n 0, 1) := by decide +kernel
theorem d_Mo_undo_15 : decode yMo_undo.2.1 15 = .ok (.aload_n 0, 1) := by decide +kernel
theorem d_Mo_undo_16 : decode yMo_undo.2.1 16 = .ok (.getfield 141, 3) := by decide +kernel
theorem d_Mo_undo_19 : decode yMo_undo.2.1 19 = .ok (.iconst 1, 1) := by decide +kernel
theorem d_Mo_undo_20 : decode yMo_undo.2.1 20 = .ok (.isub, 1) := by decide +kernel
theorem d_Mo_undo_21 : decode yMo_undo.2.1 21 = .ok (.putfield 141, 3) := by decide +kernel
theorem d_Mo_undo_24 : decode yMo_undo.2.1 24 = .ok (.iconst 0, 1) := by decide +kernel
theorem d_Mo_undo_25 : decode yMo_undo.2.1 25 = .ok (.istore_n 1, 1) := by decide +kernel
theorem d_Mo_undo_26 : decode yMo_undo.2.1 26 = .ok (.iload_n 1, 1) := by decide +kernel
theorem d_Mo_undo_27 : decode yMo_undo.2.1 27 = .ok (.bipush 80, 2) := by decide +kernel
theorem d_Mo_undo_29 : decode yMo_undo.2.1 29 = .ok (.if_icmp .ge 29, 3) := by decide +kernel
theorem d_Mo_undo_32 : decode yMo_undo.2.1 32 = .ok (.aload_n 0, 1) := by decide +kernel
theorem d_Mo_undo_33 : decode yMo_undo.2.1 33 = .ok (.getfield 7, 3) := by decide +kernel
theorem d_Mo_undo_36 : decode yMo_undo.2.1 36 = .ok (.iload_n 1, 1) := by decide +kernel
theorem d_Mo_undo_37 : decode yMo_undo.2.1 37 = .ok (.aload_n 0, 1) := by decide +kernel
theorem d_Mo_undo_38 : decode yMo_undo.2.1 38 = .ok (.getfield 13, 3) := by decide +kernel
theorem d_Mo_undo_41 : decode yMo_undo.2.1 41 = .ok (.bipush 80, 2) := by decide +kernel
theorem d_Mo_undo_43 : decode yMo_undo.2.1 43 = .ok (.aload_n 0, 1) := by decide +kernel
theorem d_Mo_undo_44 : decode yMo_undo.2.1 44 = .ok (.getfield 141, 3) := by decide +kernel
theorem d_Mo_undo_47 : decode yMo_undo.2.1 47 = .ok (.imul, 1) := by decide +kernel
theorem d_Mo_undo_48 : decode yMo_undo.2.1 48 = .ok (.iload_n 1, 1) := by decide +kernel
theorem d_Mo_undo_49 : decode yMo_undo.2.1 49 = .ok (.iadd, 1) := by decide +kernel
theorem d_Mo_undo_50 : decode yMo_undo.2.1 50 = .ok (.iaload, 1) := by decide +kernel
theorem d_Mo_undo_51 : decode yMo_undo.2.1 51 = .ok (.iastore, 1) := by decide +kernel
theorem d_Mo_undo_52 : decode yMo_undo.2.1 52 = .ok (.iinc 1 1, 3) := by decide +kernel
theorem d_Mo_undo_55 : decode yMo_undo.2.1 55 = .ok (.goto (-29), 3) := by decide +kernel
theorem d_Mo_undo_58 : decode yMo_undo.2.1 58 = .ok (.iconst 1, 1) := by decide +kernel
theorem d_Mo_undo_59 : decode yMo_undo.2.1 59 = .ok (.ireturn, 1) := by decide +kernel
def L_Mo_undo_26 : Nat → Int32 → gb_Mem → Option (gb_Mem)
  | 0, _, _ => none
  | n + 1, x1, I =>
    if 80 ≤ x1 then
      some I
    else
      flod I 2 480 ((80 * (I 0 3)) + x1) fun v3 =>
      fsto I 1 80 x1 v3 fun I4 =>
      L_Mo_undo_26 n (x1 + 1) I4
set_option maxRecDepth 4000 in
theorem l_Mo_undo_26 (l : Launch) (d0 : Nat) {post : Option gb_AV → List gb_Ce → gb_Mem → Prop} : ∀ (n : Nat) (x1 : Int32) (I : gb_Mem) {ρ : gb_Mem} (h : L_Mo_undo_26 n x1 I = some ρ) (hX : ∀ (I2 : gb_Mem), ρ = I2 → gb_Go l yMo_undo (d0 + 0) 0 0 58 [] [] shM I2 post) , gb_Go l yMo_undo (d0 + 0) 0 0 26 [(0, .inr (some 0)), (1, .inl x1)] [] shM I post := by
  intro n
  induction n with
  | zero => intro x1 I ρ h hX; cases h
  | succ n ih =>
    intro x1 I ρ h hX
    rw [L_Mo_undo_26] at h
    refine go_iload_n (k := 1) d_Mo_undo_26 rfl rfl ?_
    refine go_bipush (v := 80) d_Mo_undo_27 (by decide) ?_
    refine go_cmp_ge (tgt := 58) d_Mo_undo_29 (by decide) (fun hc => ?_) (fun hc => ?_)
    · rw [if_pos hc] at h
      exact go_lv [] rfl (hX _ (Option.some.inj h).symm)
    · rw [if_neg hc] at h
      refine go_aload_n (k := 0) d_Mo_undo_32 rfl rfl ?_
      refine go_getr (ci := 10) (k := 1) (r := 1) d_Mo_undo_33 a_M_0 rfl (by decide) f_Mo_7 rfl ?_
      refine go_iload_n (k := 1) d_Mo_undo_36 rfl rfl ?_
      refine go_aload_n (k := 0) d_Mo_undo_37 rfl rfl ?_
      refine go_getr (ci := 10) (k := 2) (r := 2) d_Mo_undo_38 a_M_0 rfl (by decide) f_Mo_13 rfl ?_
      refine go_bipush (v := 80) d_Mo_undo_41 (by decide) ?_
      refine go_aload_n (k := 0) d_Mo_undo_43 rfl rfl ?_
      refine go_geti (ci := 10) (k := 3) d_Mo_undo_44 a_M_0 rfl (by decide) f_Mo_141 rfl ?_
      refine go_imul d_Mo_undo_47 ?_
      refine go_iload_n (k := 1) d_Mo_undo_48 rfl rfl ?_
      refine go_iadd d_Mo_undo_49 ?_
      obtain ⟨hi, v3, ev3, h⟩ := flod_e h
      refine go_iald2 d_Mo_undo_50 a_M_2 hi ev3 ?_
      obtain ⟨hi, I4, eI4, h⟩ := fsto_e h
      refine go_iast (I' := I4) d_Mo_undo_51 a_M_1 hi eI4 ?_
      refine go_iinc (k := 1) (v := x1 + 1) (lv' := [(1, .inl (x1 + 1)), (0, .inr (some 0))]) d_Mo_undo_52 rfl rfl (by decide) rfl ?_
      refine go_goto (tgt := 26) d_Mo_undo_55 (by decide) ?_
      exact go_lv [1, 0] rfl (ih (x1 + 1) I4 h hX)
def F_Mo_undo (I : gb_Mem) : Option (Int32 × gb_Mem) :=
  fstf I 0 0 0 fun I1 =>
  if (I1 0 3) = 0 then
    some (0, I1)
  else
    fstf I1 0 3 ((I1 0 3) - 1) fun I2 =>
    fbd (L_Mo_undo_26 5000 0 I2) fun I5 =>
    some (1, I5)
set_option maxRecDepth 4000 in
theorem c_Mo_undo (l : Launch) (d0 : Nat) (I : gb_Mem) {rz : Int32} {Iz : gb_Mem} (h : F_Mo_undo I = some (rz, Iz)) : gb_Cs l yMo_undo (d0 + 0) [.inr (some 0)] shM I (some (.inl rz)) Iz := by
  refine gb_Ct.of (lv := [(0, .inr (some 0))]) rfl (Nat.le_of_ble_eq_true rfl) rfl ?_
  unfold F_Mo_undo at h
  show gb_Go l yMo_undo (d0 + 0) 0 0 0 [(0, .inr (some 0))] [] shM I (gb_po shM (some (.inl rz)) Iz)
  refine go_aload_n (k := 0) d_Mo_undo_0 rfl rfl ?_
  refine go_iconst (v := 0) d_Mo_undo_1 (by decide) ?_
  obtain ⟨I1, eI1, h⟩ := fstf_e h
  refine go_putT (ci := 10) (k := 0) (I' := I1) d_Mo_undo_2 a_M_0 rfl (by decide) f_Mo_137 rfl rfl rfl rfl rfl eI1 ?_
  refine go_aload_n (k := 0) d_Mo_undo_5 rfl rfl ?_
  refine go_geti (ci := 10) (k := 3) d_Mo_undo_6 a_M_0 rfl (by decide) f_Mo_141 rfl ?_
  refine go_if_ne (tgt := 14) d_Mo_undo_9 (by decide) (fun hc => ?_) (fun hc => ?_)
  · rw [if_neg hc] at h
    refine go_aload_n (k := 0) d_Mo_undo_14 rfl rfl ?_
    refine go_aload_n (k := 0) d_Mo_undo_15 rfl rfl ?_
    refine go_geti (ci := 10) (k := 3) d_Mo_undo_16 a_M_0 rfl (by decide) f_Mo_141 rfl ?_
    refine go_iconst (v := 1) d_Mo_undo_19 (by decide) ?_
    refine go_isub d_Mo_undo_20 ?_
    obtain ⟨I2, eI2, h⟩ := fstf_e h
    refine go_putT (ci := 10) (k := 3) (I' := I2) d_Mo_undo_21 a_M_0 rfl (by decide) f_Mo_141 rfl rfl rfl rfl rfl eI2 ?_
    refine go_iconst (v := 0) d_Mo_undo_24 (by decide) ?_
    refine go_istore_n (lv' := [(1, .inl 0), (0, .inr (some 0))]) d_Mo_undo_25 rfl (by decide) rfl ?_
    refine go_lv [1, 0] (lv' := [(0, .inr (some 0)), (1, .inl 0)]) rfl ?_
    obtain ⟨I5, w1, h⟩ := fbd_e h
    refine l_Mo_undo_26 l d0  5000 0 I2 w1 (fun I5_ e => ?_)
    cases e
    refine go_iconst (v := 1) d_Mo_undo_58 (by decide) ?_
    cases h
    exact go_zreturn d_Mo_undo_59 rfl (Or.inr rfl) gb_po_i
  · rw [if_pos hc] at h
    refine go_iconst (v := 0) d_Mo_undo_12 (by decide) ?_
    cases h
    exact go_zreturn d_Mo_undo_13 rfl (Or.inl rfl) gb_po_i
theorem d_Mo_waits_0 : decode yMo_waits.2.1 0 = .ok (.aload_n 0, 1) := by decide +kernel
theorem d_Mo_waits_1 : decode yMo_waits.2.1 1 = .ok (.getfield 61, 3) := by decide +kernel
theorem d_Mo_waits_4 : decode yMo_waits.2.1 4 = .ok (.aload_n 0, 1) := by decide +kernel
theorem d_Mo_waits_5 : decode yMo_waits.2.1 5 = .ok (.getfield 241, 3) := by decide +kernel
theorem d_Mo_waits_8 : decode yMo_waits.2.1 8 = .ok (.iload_n 1, 1) := by decide +kernel
theorem d_Mo_waits_9 : decode yMo_waits.2.1 9 = .ok (.iastore, 1) := by decide +kernel
theorem d_Mo_waits_10 : decode yMo_waits.2.1 10 = .ok (.aload_n 0, 1) := by decide +kernel
theorem d_Mo_waits_11 : decode yMo_waits.2.1 11 = .ok (.aload_n 0, 1) := by decide +kernel
theorem d_Mo_waits_12 : decode yMo_waits.2.1 12 = .ok (.getfield 241, 3) := by decide +kernel
theorem d_Mo_waits_15 : decode yMo_waits.2.1 15 = .ok (.iconst 1, 1) := by decide +kernel
theorem d_Mo_waits_16 : decode yMo_waits.2.1 16 = .ok (.iadd, 1) := by decide +kernel
theorem d_Mo_waits_17 : decode yMo_waits.2.1 17 = .ok (.putfield 241, 3) := by decide +kernel
theorem d_Mo_waits_20 : decode yMo_waits.2.1 20 = .ok (.return_, 1) := by decide +kernel
def F_Mo_waits (x1 : Int32) (I : gb_Mem) : Option (gb_Mem) :=
  fsto I 18 40 (I 0 30) x1 fun I1 =>
  fstf I1 0 30 ((I1 0 30) + 1) fun I2 =>
  some I2
set_option maxRecDepth 4000 in
theorem c_Mo_waits (l : Launch) (d0 : Nat) (x1 : Int32) (I : gb_Mem) {Iz : gb_Mem} (h : F_Mo_waits x1 I = some Iz) : gb_Cs l yMo_waits (d0 + 0) [.inr (some 0), .inl x1] shM I none Iz := by
  refine gb_Ct.of (lv := [(0, .inr (some 0)), (1, .inl x1)]) rfl (Nat.le_of_ble_eq_true rfl) rfl ?_
  unfold F_Mo_waits at h
  show gb_Go l yMo_waits (d0 + 0) 0 0 0 [(0, .inr (some 0)), (1, .inl x1)] [] shM I (gb_po shM none Iz)
  refine go_aload_n (k := 0) d_Mo_waits_0 rfl rfl ?_
  refine go_getr (ci := 10) (k := 29) (r := 18) d_Mo_waits_1 a_M_0 rfl (by decide) f_Mo_61 rfl ?_
  refine go_aload_n (k := 0) d_Mo_waits_4 rfl rfl ?_
  refine go_geti (ci := 10) (k := 30) d_Mo_waits_5 a_M_0 rfl (by decide) f_Mo_241 rfl ?_
  refine go_iload_n (k := 1) d_Mo_waits_8 rfl rfl ?_
  obtain ⟨hi, I1, eI1, h⟩ := fsto_e h
  refine go_iast (I' := I1) d_Mo_waits_9 a_M_18 hi eI1 ?_
  refine go_aload_n (k := 0) d_Mo_waits_10 rfl rfl ?_
  refine go_aload_n (k := 0) d_Mo_waits_11 rfl rfl ?_
  refine go_geti (ci := 10) (k := 30) d_Mo_waits_12 a_M_0 rfl (by decide) f_Mo_241 rfl ?_
  refine go_iconst (v := 1) d_Mo_waits_15 (by decide) ?_
  refine go_iadd d_Mo_waits_16 ?_
  obtain ⟨I2, eI2, h⟩ := fstf_e h
  refine go_putT (ci := 10) (k := 30) (I' := I2) d_Mo_waits_17 a_M_0 rfl (by decide) f_Mo_241 rfl rfl rfl rfl rfl eI2 ?_
  cases h
  exact go_return d_Mo_waits_20 rfl gb_po_i
theorem d_Mo_wordAt_0 : decode yMo_wordAt.2.1 0 = .ok (.iconst (-1), 1) := by decide +kernel
theorem d_Mo_wordAt_1 : decode yMo_wordAt.2.1 1 = .ok (.istore_n 3, 1) := by decide +kernel
theorem d_Mo_wordAt_2 : decode yMo_wordAt.2.1 2 = .ok (.iconst 0, 1) := by decide +kernel
theorem d_Mo_wordAt_3 : decode yMo_wordAt.2.1 3 = .ok (.istore 4, 2) := by decide +kernel
theorem d_Mo_wordAt_5 : decode yMo_wordAt.2.1 5 = .ok (.iload 4, 2) := by decide +kernel
theorem d_Mo_wordAt_7 : decode yMo_wordAt.2.1 7 = .ok (.sipush 141, 3) := by decide +kernel
theorem d_Mo_wordAt_10 : decode yMo_wordAt.2.1 10 = .ok (.if_icmp .ge 108, 3) := by decide +kernel
theorem d_Mo_wordAt_13 : decode yMo_wordAt.2.1 13 = .ok (.iconst 0, 1) := by decide +kernel
theorem d_Mo_wordAt_14 : decode yMo_wordAt.2.1 14 = .ok (.istore 5, 2) := by decide +kernel
theorem d_Mo_wordAt_16 : decode yMo_wordAt.2.1 16 = .ok (.iload_n 3, 1) := by decide +kernel
theorem d_Mo_wordAt_17 : decode yMo_wordAt.2.1 17 = .ok (.iconst 1, 1) := by decide +kernel
theorem d_Mo_wordAt_18 : decode yMo_wordAt.2.1 18 = .ok (.iadd, 1) := by decide +kernel
theorem d_Mo_wordAt_19 : decode yMo_wordAt.2.1 19 = .ok (.istore_n 3, 1) := by decide +kernel
theorem d_Mo_wordAt_20 : decode yMo_wordAt.2.1 20 = .ok (.iload_n 1, 1) := by decide +kernel
theorem d_Mo_wordAt_21 : decode yMo_wordAt.2.1 21 = .ok (.iload 5, 2) := by decide +kernel
theorem d_Mo_wordAt_23 : decode yMo_wordAt.2.1 23 = .ok (.iadd, 1) := by decide +kernel
theorem d_Mo_wordAt_24 : decode yMo_wordAt.2.1 24 = .ok (.iload_n 2, 1) := by decide +kernel
theorem d_Mo_wordAt_25 : decode yMo_wordAt.2.1 25 = .ok (.if_icmp .ge 36, 3) := by decide +kernel
theorem d_Mo_wordAt_28 : decode yMo_wordAt.2.1 28 = .ok (.aload_n 0, 1) := by decide +kernel
theorem d_Mo_wordAt_29 : decode yMo_wordAt.2.1 29 = .ok (.getfield 37, 3) := by decide +kernel
theorem d_Mo_wordAt_32 : decode yMo_wordAt.2.1 32 = .ok (.iload 4, 2) := by decide +kernel
theorem d_Mo_wordAt_34 : decode yMo_wordAt.2.1 34 = .ok (.iconst 1, 1) := by decide +kernel
theorem d_Mo_wordAt_35 : decode yMo_wordAt.2.1 35 = .ok (.iadd, 1) := by decide +kernel
theorem d_Mo_wordAt_36 : decode yMo_wordAt.2.1 36 = .ok (.iload 5, 2) := by decide +kernel
theorem d_Mo_wordAt_38 : decode yMo_wordAt.2.1 38 = .ok (.iadd, 1) := by decide +kernel
theorem d_Mo_wordAt_39 : decode yMo_wordAt.2.1 39 = .ok (.iaload, 1) := by decide +kernel
theorem d_Mo_wordAt_40 : decode yMo_wordAt.2.1 40 = .ok (.aload_n 0, 1) := by decide +kernel
theorem d_Mo_wordAt_41 : decode yMo_wordAt.2.1 41 = .ok (.getfield 34, 3) := by decide +kernel
theorem d_Mo_wordAt_44 : decode yMo_wordAt.2.1 44 = .ok (.iload_n 1, 1) := by decide +kernel
theorem d_Mo_wordAt_45 : decode yMo_wordAt.2.1 45 = .ok (.iload 5, 2) := by decide +kernel
theorem d_Mo_wordAt_47 : decode yMo_wordAt.2.1 47 = .ok (.iadd, 1) := by decide +kernel
theorem d_Mo_wordAt_48 : decode yMo_wordAt.2.1 48 = .ok (.iaload, 1) := by decide +kernel
theorem d_Mo_wordAt_49 : decode yMo_wordAt.2.1 49 = .ok (.if_icmp .ne 12, 3) := by decide +kernel
theorem d_Mo_wordAt_52 : decode yMo_wordAt.2.1 52 = .ok (.iload 5, 2) := by decide +kernel
theorem d_Mo_wordAt_54 : decode yMo_wordAt.2.1 54 = .ok (.iconst 1, 1) := by decide +kernel
theorem d_Mo_wordAt_55 : decode yMo_wordAt.2.1 55 = .ok (.iadd, 1) := by decide +kernel
theorem d_Mo_wordAt_56 : decode yMo_wordAt.2.1 56 = .ok (.istore 5, 2) := by decide +kernel
theorem d_Mo_wordAt_58 : decode yMo_wordAt.2.1 58 = .ok (.goto (-38), 3) := by decide +kernel
theorem d_Mo_wordAt_61 : decode yMo_wordAt.2.1 61 = .ok (.iload_n 1, 1) := by decide +kernel
theorem d_Mo_wordAt_62 : decode yMo_wordAt.2.1 62 = .ok (.iload 5, 2) := by decide +kernel
theorem d_Mo_wordAt_64 : decode yMo_wordAt.2.1 64 = .ok (.iadd, 1) := by decide +kernel
theorem d_Mo_wordAt_65 : decode yMo_wordAt.2.1 65 = .ok (.iload_n 2, 1) := by decide +kernel
theorem d_Mo_wordAt_66 : decode yMo_wordAt.2.1 66 = .ok (.if_icmp .ne 22, 3) := by decide +kernel
theorem d_Mo_wordAt_69 : decode yMo_wordAt.2.1 69 = .ok (.aload_n 0, 1) := by decide +kernel
theorem d_Mo_wordAt_70 : decode yMo_wordAt.2.1 70 = .ok (.getfield 37, 3) := by decide +kernel
theorem d_Mo_wordAt_73 : decode yMo_wordAt.2.1 73 = .ok (.iload 4, 2) := by decide +kernel
theorem d_Mo_wordAt_75 : decode yMo_wordAt.2.1 75 = .ok (.iconst 1, 1) := by decide +kernel
theorem d_Mo_wordAt_76 : decode yMo_wordAt.2.1 76 = .ok (.iadd, 1) := by decide +kernel
theorem d_Mo_wordAt_77 : decode yMo_wordAt.2.1 77 = .ok (.iload 5, 2) := by decide +kernel
theorem d_Mo_wordAt_79 : decode yMo_wordAt.2.1 79 = .ok (.iadd, 1) := by decide +kernel
theorem d_Mo_wordAt_80 : decode yMo_wordAt.2.1 80 = .ok (.iaload, 1) := by decide +kernel
theorem d_Mo_wordAt_81 : decode yMo_wordAt.2.1 81 = .ok (.bipush 32, 2) := by decide +kernel
theorem d_Mo_wordAt_83 : decode yMo_wordAt.2.1 83 = .ok (.if_icmp .ne 5, 3) := by decide +kernel
theorem d_Mo_wordAt_86 : decode yMo_wordAt.2.1 86 = .ok (.iload_n 3, 1) := by decide +kernel
theorem d_Mo_wordAt_87 : decode yMo_wordAt.2.1 87 = .ok (.ireturn, 1) := by decide +kernel
theorem d_Mo_wordAt_88 : decode yMo_wordAt.2.1 88 = .ok (.iload 4, 2) := by decide +kernel
theorem d_Mo_wordAt_90 : decode yMo_wordAt.2.1 90 = .ok (.iconst 1, 1) := by decide +kernel
theorem d_Mo_wordAt_91 : decode yMo_wordAt.2.1 91 = .ok (.iadd, 1) := by decide +kernel
theorem d_Mo_wordAt_92 : decode yMo_wordAt.2.1 92 = .ok (.istore 4, 2) := by decide +kernel
theorem d_Mo_wordAt_94 : decode yMo_wordAt.2.1 94 = .ok (.aload_n 0, 1) := by decide +kernel
theorem d_Mo_wordAt_95 : decode yMo_wordAt.2.1 95 = .ok (.getfield 37, 3) := by decide +kernel
theorem d_Mo_wordAt_98 : decode yMo_wordAt.2.1 98 = .ok (.iload 4, 2) := by decide +kernel
theorem d_Mo_wordAt_100 : decode yMo_wordAt.2.1 100 = .ok (.iaload, 1) := by decide +kernel
theorem d_Mo_wordAt_101 : decode yMo_wordAt.2.1 101 = .ok (.bipush 32, 2) := by decide +kernel
theorem d_Mo_wordAt_103 : decode yMo_wordAt.2.1 103 = .ok (.if_icmp .eq 12, 3) := by decide +kernel
theorem d_Mo_wordAt_106 : decode yMo_wordAt.2.1 106 = .ok (.iload 4, 2) := by decide +kernel
theorem d_Mo_wordAt_108 : decode yMo_wordAt.2.1 108 = .ok (.iconst 1, 1) := by decide +kernel
theorem d_Mo_wordAt_109 : decode yMo_wordAt.2.1 109 = .ok (.iadd, 1) := by decide +kernel
theorem d_Mo_wordAt_110 : decode yMo_wordAt.2.1 110 = .ok (.istore 4, 2) := by decide +kernel
theorem d_Mo_wordAt_112 : decode yMo_wordAt.2.1 112 = .ok (.goto (-18), 3) := by decide +kernel
theorem d_Mo_wordAt_115 : decode yMo_wordAt.2.1 115 = .ok (.goto (-110), 3) := by decide +kernel
theorem d_Mo_wordAt_118 : decode yMo_wordAt.2.1 118 = .ok (.iconst (-1), 1) := by decide +kernel
theorem d_Mo_wordAt_119 : decode yMo_wordAt.2.1 119 = .ok (.ireturn, 1) := by decide +kernel
def L_Mo_wordAt_20 (x1 x2 x3 x4 : Int32) (I : gb_Mem) : Nat → Int32 → Option (Int32)
  | 0, _ => none
  | n + 1, x5 =>
    if x2 ≤ (x1 + x5) then
      some x5
    else
      flod I 10 142 ((x4 + 1) + x5) fun v1 =>
      flod I 9 400 (x1 + x5) fun v2 =>
      if v1 = v2 then
        L_Mo_wordAt_20 x1 x2 x3 x4 I n (x5 + 1)
      else
        some x5
set_option maxRecDepth 4000 in
theorem l_Mo_wordAt_20 (l : Launch) (d0 : Nat) (x1 x2 x3 x4 : Int32) (I : gb_Mem) {post : Option gb_AV → List gb_Ce → gb_Mem → Prop} : ∀ (n : Nat) (x5 : Int32) {ρ : Int32} (h : L_Mo_wordAt_20 x1 x2 x3 x4 I n x5 = some ρ) (hX : ∀ (o5 : Int32), ρ = o5 → gb_Go l yMo_wordAt (d0 + 0) 0 0 61 [(0, .inr (some 0)), (1, .inl x1), (2, .inl x2), (3, .inl x3), (4, .inl x4), (5, .inl o5)] [] shM I post) , gb_Go l yMo_wordAt (d0 + 0) 0 0 20 [(0, .inr (some 0)), (1, .inl x1), (2, .inl x2), (3, .inl x3), (4, .inl x4), (5, .inl x5)] [] shM I post := by
  intro n
  induction n with
  | zero => intro x5 ρ h hX; cases h
  | succ n ih =>
    intro x5 ρ h hX
    rw [L_Mo_wordAt_20] at h
    refine go_iload_n (k := 1) d_Mo_wordAt_20 rfl rfl ?_
    refine go_iload (k := 5) d_Mo_wordAt_21 rfl ?_
    refine go_iadd d_Mo_wordAt_23 ?_
    refine go_iload_n (k := 2) d_Mo_wordAt_24 rfl rfl ?_
    refine go_cmp_ge (tgt := 61) d_Mo_wordAt_25 (by decide) (fun hc => ?_) (fun hc => ?_)
    · rw [if_pos hc] at h
      exact go_lv [0, 1, 2, 3, 4, 5] rfl (hX _ (Option.some.inj h).symm)
    · rw [if_neg hc] at h
      refine go_aload_n (k := 0) d_Mo_wordAt_28 rfl rfl ?_
      refine go_getr (ci := 10) (k := 18) (r := 10) d_Mo_wordAt_29 a_M_0 rfl (by decide) f_Mo_37 rfl ?_
      refine go_iload (k := 4) d_Mo_wordAt_32 rfl ?_
      refine go_iconst (v := 1) d_Mo_wordAt_34 (by decide) ?_
      refine go_iadd d_Mo_wordAt_35 ?_
      refine go_iload (k := 5) d_Mo_wordAt_36 rfl ?_
      refine go_iadd d_Mo_wordAt_38 ?_
      obtain ⟨hi, v1, ev1, h⟩ := flod_e h
      refine go_iald2 d_Mo_wordAt_39 a_M_10 hi ev1 ?_
      refine go_aload_n (k := 0) d_Mo_wordAt_40 rfl rfl ?_
      refine go_getr (ci := 10) (k := 12) (r := 9) d_Mo_wordAt_41 a_M_0 rfl (by decide) f_Mo_34 rfl ?_
      refine go_iload_n (k := 1) d_Mo_wordAt_44 rfl rfl ?_
      refine go_iload (k := 5) d_Mo_wordAt_45 rfl ?_
      refine go_iadd d_Mo_wordAt_47 ?_
      obtain ⟨hi, v2, ev2, h⟩ := flod_e h
      refine go_iald2 d_Mo_wordAt_48 a_M_9 hi ev2 ?_
      refine go_cmp_ne (tgt := 61) d_Mo_wordAt_49 (by decide) (fun hc => ?_) (fun hc => ?_)
      · rw [if_neg hc] at h
        exact go_lv [0, 1, 2, 3, 4, 5] rfl (hX _ (Option.some.inj h).symm)
      · rw [if_pos hc] at h
        refine go_iload (k := 5) d_Mo_wordAt_52 rfl ?_
        refine go_iconst (v := 1) d_Mo_wordAt_54 (by decide) ?_
        refine go_iadd d_Mo_wordAt_55 ?_
        refine go_istore (lv' := [(5, .inl (x5 + 1)), (0, .inr (some 0)), (1, .inl x1), (2, .inl x2), (3, .inl x3), (4, .inl x4)]) d_Mo_wordAt_56 (by decide) rfl ?_
        refine go_goto (tgt := 20) d_Mo_wordAt_58 (by decide) ?_
        exact go_lv [1, 2, 3, 4, 5, 0] rfl (ih (x5 + 1) h hX)
def L_Mo_wordAt_94 (x1 x2 x3 : Int32) (I : gb_Mem) : Nat → Int32 → Option (Int32)
  | 0, _ => none
  | n + 1, x4 =>
    flod I 10 142 x4 fun v4 =>
    if v4 = 32 then
      some x4
    else
      L_Mo_wordAt_94 x1 x2 x3 I n (x4 + 1)
set_option maxRecDepth 4000 in
theorem l_Mo_wordAt_94 (l : Launch) (d0 : Nat) (x1 x2 x3 : Int32) (I : gb_Mem) {post : Option gb_AV → List gb_Ce → gb_Mem → Prop} : ∀ (n : Nat) (x4 : Int32) {ρ : Int32} (h : L_Mo_wordAt_94 x1 x2 x3 I n x4 = some ρ) (hX : ∀ (o4 : Int32), ρ = o4 → gb_Go l yMo_wordAt (d0 + 0) 0 0 115 [(0, .inr (some 0)), (1, .inl x1), (2, .inl x2), (3, .inl x3), (4, .inl o4)] [] shM I post) , gb_Go l yMo_wordAt (d0 + 0) 0 0 94 [(0, .inr (some 0)), (1, .inl x1), (2, .inl x2), (3, .inl x3), (4, .inl x4)] [] shM I post := by
  intro n
  induction n with
  | zero => intro x4 ρ h hX; cases h
  | succ n ih =>
    intro x4 ρ h hX
    rw [L_Mo_wordAt_94] at h
    refine go_aload_n (k := 0) d_Mo_wordAt_94 rfl rfl ?_
    refine go_getr (ci := 10) (k := 18) (r := 10) d_Mo_wordAt_95 a_M_0 rfl (by decide) f_Mo_37 rfl ?_
    refine go_iload (k := 4) d_Mo_wordAt_98 rfl ?_
    obtain ⟨hi, v4, ev4, h⟩ := flod_e h
    refine go_iald2 d_Mo_wordAt_100 a_M_10 hi ev4 ?_
    refine go_bipush (v := 32) d_Mo_wordAt_101 (by decide) ?_
    refine go_cmp_eq (tgt := 115) d_Mo_wordAt_103 (by decide) (fun hc => ?_) (fun hc => ?_)
    · rw [if_pos hc] at h
      exact go_lv [0, 1, 2, 3, 4] rfl (hX _ (Option.some.inj h).symm)
    · rw [if_neg hc] at h
      refine go_iload (k := 4) d_Mo_wordAt_106 rfl ?_
      refine go_iconst (v := 1) d_Mo_wordAt_108 (by decide) ?_
      refine go_iadd d_Mo_wordAt_109 ?_
      refine go_istore (lv' := [(4, .inl (x4 + 1)), (0, .inr (some 0)), (1, .inl x1), (2, .inl x2), (3, .inl x3)]) d_Mo_wordAt_110 (by decide) rfl ?_
      refine go_goto (tgt := 94) d_Mo_wordAt_112 (by decide) ?_
      exact go_lv [1, 2, 3, 4, 0] rfl (ih (x4 + 1) h hX)
def J_Mo_wordAt_88 (k : Int32 → Int32 → Option ((Unit) ⊕ (Int32))) (x1 x2 x3 x4 : Int32) (I : gb_Mem) : Option ((Unit) ⊕ (Int32)) :=
  fbd (L_Mo_wordAt_94 x1 x2 x3 I 5000 (x4 + 1)) fun o5 =>
  k x3 o5
set_option maxRecDepth 4000 in
theorem j_Mo_wordAt_88 (l : Launch) (d0 : Nat) {post : Option gb_AV → List gb_Ce → gb_Mem → Prop} (k : Int32 → Int32 → Option ((Unit) ⊕ (Int32))) (x1 x2 x3 x4 : Int32) (I : gb_Mem) {ρ : (Unit) ⊕ (Int32)} (h : J_Mo_wordAt_88 k x1 x2 x3 x4 I = some ρ) (hk : ∀ (z3 z4 : Int32), k z3 z4 = some ρ → gb_Go l yMo_wordAt (d0 + 0) 0 0 5 [(0, .inr (some 0)), (1, .inl x1), (2, .inl x2), (3, .inl z3), (4, .inl z4)] [] shM I post) (hX : ρ = .inl () → gb_Go l yMo_wordAt (d0 + 0) 0 0 118 [] [] shM I post) (hR : ∀ (v : Int32), ρ = .inr v → post (some (.inl v)) shM I) : gb_Go l yMo_wordAt (d0 + 0) 0 0 88 [(0, .inr (some 0)), (1, .inl x1), (2, .inl x2), (3, .inl x3), (4, .inl x4)] [] shM I post := by
  unfold J_Mo_wordAt_88 at h
  refine go_iload (k := 4) d_Mo_wordAt_88 rfl ?_
  refine go_iconst (v := 1) d_Mo_wordAt_90 (by decide) ?_
  refine go_iadd d_Mo_wordAt_91 ?_
  refine go_istore (lv' := [(4, .inl (x4 + 1)), (0, .inr (some 0)), (1, .inl x1), (2, .inl x2), (3, .inl x3)]) d_Mo_wordAt_92 (by decide) rfl ?_
  refine go_lv [1, 2, 3, 4, 0] (lv' := [(0, .inr (some 0)), (1, .inl x1), (2, .inl x2), (3, .inl x3), (4, .inl (x4 + 1))]) rfl ?_
  obtain ⟨o5, w1, h⟩ := fbd_e h
  refine l_Mo_wordAt_94 l d0 x1 x2 x3 I 5000 (x4 + 1) w1 (fun o5_ e => ?_)
  cases e
  refine go_goto (tgt := 5) d_Mo_wordAt_115 (by decide) ?_
  exact go_lv [0, 1, 2, 3, 4] rfl (hk _ _ h)
def J_Mo_wordAt_61 (k : Int32 → Int32 → Option ((Unit) ⊕ (Int32))) (x1 x2 x3 x4 x5 : Int32) (I : gb_Mem) : Option ((Unit) ⊕ (Int32)) :=
  if (x1 + x5) = x2 then
    flod I 10 142 ((x4 + 1) + x5) fun v6 =>
    if v6 = 32 then
      some (.inr x3)
    else
      J_Mo_wordAt_88 k x1 x2 x3 x4 I
  else
    J_Mo_wordAt_88 k x1 x2 x3 x4 I
set_option maxRecDepth 4000 in
theorem j_Mo_wordAt_61 (l : Launch) (d0 : Nat) {post : Option gb_AV → List gb_Ce → gb_Mem → Prop} (k : Int32 → Int32 → Option ((Unit) ⊕ (Int32))) (x1 x2 x3 x4 x5 : Int32) (I : gb_Mem) {ρ : (Unit) ⊕ (Int32)} (h : J_Mo_wordAt_61 k x1 x2 x3 x4 x5 I = some ρ) (hk : ∀ (z3 z4 : Int32), k z3 z4 = some ρ → gb_Go l yMo_wordAt (d0 + 0) 0 0 5 [(0, .inr (some 0)), (1, .inl x1), (2, .inl x2), (3, .inl z3), (4, .inl z4)] [] shM I post) (hX : ρ = .inl () → gb_Go l yMo_wordAt (d0 + 0) 0 0 118 [] [] shM I post) (hR : ∀ (v : Int32), ρ = .inr v → post (some (.inl v)) shM I) : gb_Go l yMo_wordAt (d0 + 0) 0 0 61 [(0, .inr (some 0)), (1, .inl x1), (2, .inl x2), (3, .inl x3), (4, .inl x4), (5, .inl x5)] [] shM I post := by
  unfold J_Mo_wordAt_61 at h
  refine go_iload_n (k := 1) d_Mo_wordAt_61 rfl rfl ?_
  refine go_iload (k := 5) d_Mo_wordAt_62 rfl ?_
  refine go_iadd d_Mo_wordAt_64 ?_
  refine go_iload_n (k := 2) d_Mo_wordAt_65 rfl rfl ?_
  refine go_cmp_ne (tgt := 88) d_Mo_wordAt_66 (by decide) (fun hc => ?_) (fun hc => ?_)
  · rw [if_neg hc] at h
    exact go_lv [0, 1, 2, 3, 4] rfl (j_Mo_wordAt_88 l d0 k x1 x2 x3 x4 I h hk hX hR)
  · rw [if_pos hc] at h
    refine go_aload_n (k := 0) d_Mo_wordAt_69 rfl rfl ?_
    refine go_getr (ci := 10) (k := 18) (r := 10) d_Mo_wordAt_70 a_M_0 rfl (by decide) f_Mo_37 rfl ?_
    refine go_iload (k := 4) d_Mo_wordAt_73 rfl ?_
    refine go_iconst (v := 1) d_Mo_wordAt_75 (by decide) ?_
    refine go_iadd d_Mo_wordAt_76 ?_
    refine go_iload (k := 5) d_Mo_wordAt_77 rfl ?_
    refine go_iadd d_Mo_wordAt_79 ?_
    obtain ⟨hi, v6, ev6, h⟩ := flod_e h
    refine go_iald2 d_Mo_wordAt_80 a_M_10 hi ev6 ?_
    refine go_bipush (v := 32) d_Mo_wordAt_81 (by decide) ?_
    refine go_cmp_ne (tgt := 88) d_Mo_wordAt_83 (by decide) (fun hc => ?_) (fun hc => ?_)
    · rw [if_neg hc] at h
      exact go_lv [0, 1, 2, 3, 4] rfl (j_Mo_wordAt_88 l d0 k x1 x2 x3 x4 I h hk hX hR)
    · rw [if_pos hc] at h
      refine go_iload_n (k := 3) d_Mo_wordAt_86 rfl rfl ?_
      exact go_ireturn d_Mo_wordAt_87 rfl (hR _ (Option.some.inj h).symm)
def L_Mo_wordAt_5 (x1 x2 : Int32) (I : gb_Mem) : Nat → Int32 → Int32 → Option ((Unit) ⊕ (Int32))
  | 0, _, _ => none
  | n + 1, x3, x4 =>
    if 141 ≤ x4 then
      some (.inl ())
    else
      fbd (L_Mo_wordAt_20 x1 x2 (x3 + 1) x4 I 5000 0) fun o3 =>
      J_Mo_wordAt_61 (L_Mo_wordAt_5 x1 x2 I n) x1 x2 (x3 + 1) x4 o3 I
set_option maxRecDepth 4000 in
theorem l_Mo_wordAt_5 (l : Launch) (d0 : Nat) (x1 x2 : Int32) (I : gb_Mem) {post : Option gb_AV → List gb_Ce → gb_Mem → Prop} : ∀ (n : Nat) (x3 x4 : Int32) {ρ : (Unit) ⊕ (Int32)} (h : L_Mo_wordAt_5 x1 x2 I n x3 x4 = some ρ) (hX : ρ = .inl () → gb_Go l yMo_wordAt (d0 + 0) 0 0 118 [] [] shM I post) (hR : ∀ (v : Int32), ρ = .inr v → post (some (.inl v)) shM I) , gb_Go l yMo_wordAt (d0 + 0) 0 0 5 [(0, .inr (some 0)), (1, .inl x1), (2, .inl x2), (3, .inl x3), (4, .inl x4)] [] shM I post := by
  intro n
  induction n with
  | zero => intro x3 x4 ρ h hX hR; cases h
  | succ n ih =>
    intro x3 x4 ρ h hX hR
    rw [L_Mo_wordAt_5] at h
    refine go_iload (k := 4) d_Mo_wordAt_5 rfl ?_
    refine go_sipush (v := 141) d_Mo_wordAt_7 (by decide) ?_
    refine go_cmp_ge (tgt := 118) d_Mo_wordAt_10 (by decide) (fun hc => ?_) (fun hc => ?_)
    · rw [if_pos hc] at h
      exact go_lv [] rfl (hX (Option.some.inj h).symm)
    · rw [if_neg hc] at h
      refine go_iconst (v := 0) d_Mo_wordAt_13 (by decide) ?_
      refine go_istore (lv' := [(5, .inl 0), (0, .inr (some 0)), (1, .inl x1), (2, .inl x2), (3, .inl x3), (4, .inl x4)]) d_Mo_wordAt_14 (by decide) rfl ?_
      refine go_iload_n (k := 4) d_Mo_wordAt_16 rfl rfl ?_
      refine go_iconst (v := 1) d_Mo_wordAt_17 (by decide) ?_
      refine go_iadd d_Mo_wordAt_18 ?_
      refine go_istore_n (lv' := [(3, .inl (x3 + 1)), (5, .inl 0), (0, .inr (some 0)), (1, .inl x1), (2, .inl x2), (4, .inl x4)]) d_Mo_wordAt_19 rfl (by decide) rfl ?_
      refine go_lv [2, 3, 4, 0, 5, 1] (lv' := [(0, .inr (some 0)), (1, .inl x1), (2, .inl x2), (3, .inl (x3 + 1)), (4, .inl x4), (5, .inl 0)]) rfl ?_
      obtain ⟨o3, w1, h⟩ := fbd_e h
      refine l_Mo_wordAt_20 l d0 x1 x2 (x3 + 1) x4 I 5000 0 w1 (fun o3_ e => ?_)
      cases e
      exact go_lv [0, 1, 2, 3, 4, 5] rfl (j_Mo_wordAt_61 l d0 (L_Mo_wordAt_5 x1 x2 I n) x1 x2 (x3 + 1) x4 o3 I h (fun z3 z4 hh => ih z3 z4 hh hX hR) hX hR)
def F_Mo_wordAt (x1 x2 : Int32) (I : gb_Mem) : Option (Int32) :=
  fbr (L_Mo_wordAt_5 x1 x2 I 5000 (-1) 0) (fun _ =>
    some (-1))
    (fun q7 => some q7)
set_option maxRecDepth 4000 in
theorem c_Mo_wordAt (l : Launch) (d0 : Nat) (x1 x2 : Int32) (I : gb_Mem) {rz : Int32} (h : F_Mo_wordAt x1 x2 I = some rz) : gb_Cs l yMo_wordAt (d0 + 0) [.inr (some 0), .inl x1, .inl x2] shM I (some (.inl rz)) I := by
  refine gb_Ct.of (lv := [(0, .inr (some 0)), (1, .inl x1), (2, .inl x2)]) rfl (Nat.le_of_ble_eq_true rfl) rfl ?_
  unfold F_Mo_wordAt at h
  show gb_Go l yMo_wordAt (d0 + 0) 0 0 0 [(0, .inr (some 0)), (1, .inl x1), (2, .inl x2)] [] shM I (gb_po shM (some (.inl rz)) I)
  refine go_iconst (v := (-1)) d_Mo_wordAt_0 (by decide) ?_
  refine go_istore_n (lv' := [(3, .inl (-1)), (0, .inr (some 0)), (1, .inl x1), (2, .inl x2)]) d_Mo_wordAt_1 rfl (by decide) rfl ?_
  refine go_iconst (v := 0) d_Mo_wordAt_2 (by decide) ?_
  refine go_istore (lv' := [(4, .inl 0), (3, .inl (-1)), (0, .inr (some 0)), (1, .inl x1), (2, .inl x2)]) d_Mo_wordAt_3 (by decide) rfl ?_
  refine go_lv [2, 3, 4, 1, 0] (lv' := [(0, .inr (some 0)), (1, .inl x1), (2, .inl x2), (3, .inl (-1)), (4, .inl 0)]) rfl ?_
  obtain ⟨ρ, w1, w2, w3⟩ := fbr_e2 h
  refine l_Mo_wordAt_5 l d0 x1 x2 I 5000 (-1) 0 w1 (fun  e => ?_) (fun q7 e => ?_)
  · have h := w2 _ e
    try dsimp only at h
    refine go_iconst (v := (-1)) d_Mo_wordAt_118 (by decide) ?_
    cases h
    exact go_ireturn d_Mo_wordAt_119 rfl gb_po_i
  · have h := w3 _ e
    try dsimp only at h
    cases h
    exact gb_po_i
theorem d_Mo_asks_0 : decode yMo_asks.2.1 0 = .ok (.aload_n 0, 1) := by decide +kernel
theorem d_Mo_asks_1 : decode yMo_asks.2.1 1 = .ok (.getfield 7, 3) := by decide +kernel
theorem d_Mo_asks_4 : decode yMo_asks.2.1 4 = .ok (.bipush 48, 2) := by decide +kernel
theorem d_Mo_asks_6 : decode yMo_asks.2.1 6 = .ok (.iload_n 1, 1) := by decide +kernel
theorem d_Mo_asks_7 : decode yMo_asks.2.1 7 = .ok (.iadd, 1) := by decide +kernel
theorem d_Mo_asks_8 : decode yMo_asks.2.1 8 = .ok (.iaload, 1) := by decide +kernel
theorem d_Mo_asks_9 : decode yMo_asks.2.1 9 = .ok (.istore_n 2, 1) := by decide +kernel
theorem d_Mo_asks_10 : decode yMo_asks.2.1 10 = .ok (.aload_n 0, 1) := by decide +kernel
theorem d_Mo_asks_11 : decode yMo_asks.2.1 11 = .ok (.getfield 77, 3) := by decide +kernel
theorem d_Mo_asks_14 : decode yMo_asks.2.1 14 = .ok (.iconst 0, 1) := by decide +kernel
theorem d_Mo_asks_15 : decode yMo_asks.2.1 15 = .ok (.aload_n 0, 1) := by decide +kernel
theorem d_Mo_asks_16 : decode yMo_asks.2.1 16 = .ok (.getfield 28, 3) := by decide +kernel
theorem d_Mo_asks_19 : decode yMo_asks.2.1 19 = .ok (.iload_n 1, 1) := by decide +kernel
theorem d_Mo_asks_20 : decode yMo_asks.2.1 20 = .ok (.iaload, 1) := by decide +kernel
theorem d_Mo_asks_21 : decode yMo_asks.2.1 21 = .ok (.iastore, 1) := by decide +kernel
theorem d_Mo_asks_22 : decode yMo_asks.2.1 22 = .ok (.aload_n 0, 1) := by decide +kernel
theorem d_Mo_asks_23 : decode yMo_asks.2.1 23 = .ok (.getfield 77, 3) := by decide +kernel
theorem d_Mo_asks_26 : decode yMo_asks.2.1 26 = .ok (.iconst 1, 1) := by decide +kernel
theorem d_Mo_asks_27 : decode yMo_asks.2.1 27 = .ok (.aload_n 0, 1) := by decide +kernel
theorem d_Mo_asks_28 : decode yMo_asks.2.1 28 = .ok (.getfield 7, 3) := by decide +kernel
theorem d_Mo_asks_31 : decode yMo_asks.2.1 31 = .ok (.bipush 40, 2) := by decide +kernel
theorem d_Mo_asks_33 : decode yMo_asks.2.1 33 = .ok (.iload_n 1, 1) := by decide +kernel
theorem d_Mo_asks_34 : decode yMo_asks.2.1 34 = .ok (.iadd, 1) := by decide +kernel
theorem d_Mo_asks_35 : decode yMo_asks.2.1 35 = .ok (.iaload, 1) := by decide +kernel
theorem d_Mo_asks_36 : decode yMo_asks.2.1 36 = .ok (.iastore, 1) := by decide +kernel
theorem d_Mo_asks_37 : decode yMo_asks.2.1 37 = .ok (.aload_n 0, 1) := by decide +kernel
theorem d_Mo_asks_38 : decode yMo_asks.2.1 38 = .ok (.getfield 77, 3) := by decide +kernel
theorem d_Mo_asks_41 : decode yMo_asks.2.1 41 = .ok (.iconst 2, 1) := by decide +kernel
theorem d_Mo_asks_42 : decode yMo_asks.2.1 42 = .ok (.aload_n 0, 1) := by decide +kernel
theorem d_Mo_asks_43 : decode yMo_asks.2.1 43 = .ok (.getfield 7, 3) := by decide +kernel
theorem d_Mo_asks_46 : decode yMo_asks.2.1 46 = .ok (.bipush 64, 2) := by decide +kernel
theorem d_Mo_asks_48 : decode yMo_asks.2.1 48 = .ok (.iload_n 1, 1) := by decide +kernel
theorem d_Mo_asks_49 : decode yMo_asks.2.1 49 = .ok (.iadd, 1) := by decide +kernel
theorem d_Mo_asks_50 : decode yMo_asks.2.1 50 = .ok (.iaload, 1) := by decide +kernel
theorem d_Mo_asks_51 : decode yMo_asks.2.1 51 = .ok (.iastore, 1) := by decide +kernel
theorem d_Mo_asks_52 : decode yMo_asks.2.1 52 = .ok (.aload_n 0, 1) := by decide +kernel
theorem d_Mo_asks_53 : decode yMo_asks.2.1 53 = .ok (.getfield 77, 3) := by decide +kernel
theorem d_Mo_asks_56 : decode yMo_asks.2.1 56 = .ok (.iconst 3, 1) := by decide +kernel
theorem d_Mo_asks_57 : decode yMo_asks.2.1 57 = .ok (.aload_n 0, 1) := by decide +kernel
theorem d_Mo_asks_58 : decode yMo_asks.2.1 58 = .ok (.iload_n 2, 1) := by decide +kernel
theorem d_Mo_asks_59 : decode yMo_asks.2.1 59 = .ok (.invokevirtual 330, 3) := by decide +kernel
theorem d_Mo_asks_62 : decode yMo_asks.2.1 62 = .ok (.iastore, 1) := by decide +kernel
theorem d_Mo_asks_63 : decode yMo_asks.2.1 63 = .ok (.aload_n 0, 1) := by decide +kernel
theorem d_Mo_asks_64 : decode yMo_asks.2.1 64 = .ok (.getfield 77, 3) := by decide +kernel
theorem d_Mo_asks_67 : decode yMo_asks.2.1 67 = .ok (.iconst 4, 1) := by decide +kernel
theorem d_Mo_asks_68 : decode yMo_asks.2.1 68 = .ok (.aload_n 0, 1) := by decide +kernel
theorem d_Mo_asks_69 : decode yMo_asks.2.1 69 = .ok (.getfield 22, 3) := by decide +kernel
theorem d_Mo_asks_72 : decode yMo_asks.2.1 72 = .ok (.iload_n 2, 1) := by decide +kernel
theorem d_Mo_asks_73 : decode yMo_asks.2.1 73 = .ok (.iaload, 1) := by decide +kernel
theorem d_Mo_asks_74 : decode yMo_asks.2.1 74 = .ok (.iastore, 1) := by decide +kernel
theorem d_Mo_asks_75 : decode yMo_asks.2.1 75 = .ok (.aload_n 0, 1) := by decide +kernel
theorem d_Mo_asks_76 : decode yMo_asks.2.1 76 = .ok (.getfield 77, 3) := by decide +kernel
theorem d_Mo_asks_79 : decode yMo_asks.2.1 79 = .ok (.iconst 5, 1) := by decide +kernel
theorem d_Mo_asks_80 : decode yMo_asks.2.1 80 = .ok (.aload_n 0, 1) := by decide +kernel
theorem d_Mo_asks_81 : decode yMo_asks.2.1 81 = .ok (.getfield 7, 3) := by decide +kernel
theorem d_Mo_asks_84 : decode yMo_asks.2.1 84 = .ok (.bipush 6, 2) := by decide +kernel
theorem d_Mo_asks_86 : decode yMo_asks.2.1 86 = .ok (.iload_n 2, 1) := by decide +kernel
theorem d_Mo_asks_87 : decode yMo_asks.2.1 87 = .ok (.iadd, 1) := by decide +kernel
theorem d_Mo_asks_88 : decode yMo_asks.2.1 88 = .ok (.iaload, 1) := by decide +kernel
theorem d_Mo_asks_89 : decode yMo_asks.2.1 89 = .ok (.iastore, 1) := by decide +kernel
theorem d_Mo_asks_90 : decode yMo_asks.2.1 90 = .ok (.aload_n 0, 1) := by decide +kernel
theorem d_Mo_asks_91 : decode yMo_asks.2.1 91 = .ok (.getfield 77, 3) := by decide +kernel
theorem d_Mo_asks_94 : decode yMo_asks.2.1 94 = .ok (.bipush 6, 2) := by decide +kernel
theorem d_Mo_asks_96 : decode yMo_asks.2.1 96 = .ok (.aload_n 0, 1) := by decide +kernel
theorem d_Mo_asks_97 : decode yMo_asks.2.1 97 = .ok (.getfield 25, 3) := by decide +kernel
theorem d_Mo_asks_100 : decode yMo_asks.2.1 100 = .ok (.iload_n 2, 1) := by decide +kernel
theorem d_Mo_asks_101 : decode yMo_asks.2.1 101 = .ok (.iaload, 1) := by decide +kernel
theorem d_Mo_asks_102 : decode yMo_asks.2.1 102 = .ok (.iastore, 1) := by decide +kernel
theorem d_Mo_asks_103 : decode yMo_asks.2.1 103 = .ok (.aload_n 0, 1) := by decide +kernel
theorem d_Mo_asks_104 : decode yMo_asks.2.1 104 = .ok (.getfield 77, 3) := by decide +kernel
theorem d_Mo_asks_107 : decode yMo_asks.2.1 107 = .ok (.bipush 7, 2) := by decide +kernel
theorem d_Mo_asks_109 : decode yMo_asks.2.1 109 = .ok (.iload_n 2, 1) := by decide +kernel
theorem d_Mo_asks_110 : decode yMo_asks.2.1 110 = .ok (.iastore, 1) := by decide +kernel
theorem d_Mo_asks_111 : decode yMo_asks.2.1 111 = .ok (.aload_n 0, 1) := by decide +kernel
theorem d_Mo_asks_112 : decode yMo_asks.2.1 112 = .ok (.getfield 77, 3) := by decide +kernel
theorem d_Mo_asks_115 : decode yMo_asks.2.1 115 = .ok (.bipush 8, 2) := by decide +kernel
theorem d_Mo_asks_117 : decode yMo_asks.2.1 117 = .ok (.aload_n 0, 1) := by decide +kernel
theorem d_Mo_asks_118 : decode yMo_asks.2.1 118 = .ok (.getfield 7, 3) := by decide +kernel
theorem d_Mo_asks_121 : decode yMo_asks.2.1 121 = .ok (.bipush 56, 2) := by decide +kernel
theorem d_Mo_asks_123 : decode yMo_asks.2.1 123 = .ok (.iload_n 1, 1) := by decide +kernel
theorem d_Mo_asks_124 : decode yMo_asks.2.1 124 = .ok (.iadd, 1) := by decide +kernel
theorem d_Mo_asks_125 : decode yMo_asks.2.1 125 = .ok (.iaload, 1) := by decide +kernel
theorem d_Mo_asks_126 : decode yMo_asks.2.1 126 = .ok (.iastore, 1) := by decide +kernel
theorem d_Mo_asks_127 : decode yMo_asks.2.1 127 = .ok (.aload_n 0, 1) := by decide +kernel
theorem d_Mo_asks_128 : decode yMo_asks.2.1 128 = .ok (.getfield 77, 3) := by decide +kernel
theorem d_Mo_asks_131 : decode yMo_asks.2.1 131 = .ok (.bipush 9, 2) := by decide +kernel
theorem d_Mo_asks_133 : decode yMo_asks.2.1 133 = .ok (.aload_n 0, 1) := by decide +kernel
theorem d_Mo_asks_134 : decode yMo_asks.2.1 134 = .ok (.getfield 7, 3) := by decide +kernel
theorem d_Mo_asks_137 : decode yMo_asks.2.1 137 = .ok (.iconst 5, 1) := by decide +kernel
theorem d_Mo_asks_138 : decode yMo_asks.2.1 138 = .ok (.iaload, 1) := by decide +kernel
theorem d_Mo_asks_139 : decode yMo_asks.2.1 139 = .ok (.iastore, 1) := by decide +kernel
theorem d_Mo_asks_140 : decode yMo_asks.2.1 140 = .ok (.aload_n 0, 1) := by decide +kernel
theorem d_Mo_asks_141 : decode yMo_asks.2.1 141 = .ok (.getfield 77, 3) := by decide +kernel
theorem d_Mo_asks_144 : decode yMo_asks.2.1 144 = .ok (.bipush 10, 2) := by decide +kernel
theorem d_Mo_asks_146 : decode yMo_asks.2.1 146 = .ok (.aload_n 0, 1) := by decide +kernel
theorem d_Mo_asks_147 : decode yMo_asks.2.1 147 = .ok (.getfield 7, 3) := by decide +kernel
theorem d_Mo_asks_150 : decode yMo_asks.2.1 150 = .ok (.bipush 18, 2) := by decide +kernel
theorem d_Mo_asks_152 : decode yMo_asks.2.1 152 = .ok (.iload_n 2, 1) := by decide +kernel
theorem d_Mo_asks_153 : decode yMo_asks.2.1 153 = .ok (.iadd, 1) := by decide +kernel
theorem d_Mo_asks_154 : decode yMo_asks.2.1 154 = .ok (.iaload, 1) := by decide +kernel
theorem d_Mo_asks_155 : decode yMo_asks.2.1 155 = .ok (.iastore, 1) := by decide +kernel
theorem d_Mo_asks_156 : decode yMo_asks.2.1 156 = .ok (.aload_n 0, 1) := by decide +kernel
theorem d_Mo_asks_157 : decode yMo_asks.2.1 157 = .ok (.getfield 77, 3) := by decide +kernel
theorem d_Mo_asks_160 : decode yMo_asks.2.1 160 = .ok (.bipush 11, 2) := by decide +kernel
theorem d_Mo_asks_162 : decode yMo_asks.2.1 162 = .ok (.aload_n 0, 1) := by decide +kernel
theorem d_Mo_asks_163 : decode yMo_asks.2.1 163 = .ok (.getfield 7, 3) := by decide +kernel
theorem d_Mo_asks_166 : decode yMo_asks.2.1 166 = .ok (.iconst 0, 1) := by decide +kernel
theorem d_Mo_asks_167 : decode yMo_asks.2.1 167 = .ok (.iaload, 1) := by decide +kernel
theorem d_Mo_asks_168 : decode yMo_asks.2.1 168 = .ok (.iastore, 1) := by decide +kernel
theorem d_Mo_asks_169 : decode yMo_asks.2.1 169 = .ok (.return_, 1) := by decide +kernel
def F_Mo_asks (x1 : Int32) (I : gb_Mem) : Option (gb_Mem) :=
  flod I 1 80 (48 + x1) fun v1 =>
  flod I 7 8 x1 fun v2 =>
  fstf I 22 0 v2 fun I3 =>
  flod I3 1 80 (40 + x1) fun v4 =>
  fstf I3 22 1 v4 fun I5 =>
  flod I5 1 80 (64 + x1) fun v6 =>
  fstf I5 22 2 v6 fun I7 =>
  fbd (F_Mo_steady v1 I7) fun r8 =>
  fstf I7 22 3 r8 fun I9 =>
  flod I9 5 12 v1 fun v10 =>
  fstf I9 22 4 v10 fun I11 =>
  flod I11 1 80 (6 + v1) fun v12 =>
  fstf I11 22 5 v12 fun I13 =>
  flod I13 6 12 v1 fun v14 =>
  fstf I13 22 6 v14 fun I15 =>
  fstf I15 22 7 v1 fun I16 =>
  flod I16 1 80 (56 + x1) fun v17 =>
  fstf I16 22 8 v17 fun I18 =>
  fstf I18 22 9 (I18 1 5) fun I19 =>
  flod I19 1 80 (18 + v1) fun v20 =>
  fstf I19 22 10 v20 fun I21 =>
  fstf I21 22 11 (I21 1 0) fun I22 =>
  some I22
set_option maxRecDepth 4000 in
theorem c_Mo_asks (l : Launch) (d0 : Nat) (x1 : Int32) (I : gb_Mem) {Iz : gb_Mem} (h : F_Mo_asks x1 I = some Iz) : gb_Cs l yMo_asks (d0 + 1) [.inr (some 0), .inl x1] shM I none Iz := by
  refine gb_Ct.of (lv := [(0, .inr (some 0)), (1, .inl x1)]) rfl (Nat.le_of_ble_eq_true rfl) rfl ?_
  unfold F_Mo_asks at h
  show gb_Go l yMo_asks (d0 + 1) 0 0 0 [(0, .inr (some 0)), (1, .inl x1)] [] shM I (gb_po shM none Iz)
  refine go_aload_n (k := 0) d_Mo_asks_0 rfl rfl ?_
  refine go_getr (ci := 10) (k := 1) (r := 1) d_Mo_asks_1 a_M_0 rfl (by decide) f_Mo_7 rfl ?_
  refine go_bipush (v := 48) d_Mo_asks_4 (by decide) ?_
  refine go_iload_n (k := 1) d_Mo_asks_6 rfl rfl ?_
  refine go_iadd d_Mo_asks_7 ?_
  obtain ⟨hi, v1, ev1, h⟩ := flod_e h
  refine go_iald2 d_Mo_asks_8 a_M_1 hi ev1 ?_
  refine go_istore_n (lv' := [(2, .inl v1), (0, .inr (some 0)), (1, .inl x1)]) d_Mo_asks_9 rfl (by decide) rfl ?_
  refine go_aload_n (k := 1) d_Mo_asks_10 rfl rfl ?_
  refine go_getr (ci := 10) (k := 41) (r := 22) d_Mo_asks_11 a_M_0 rfl (by decide) f_Mo_77 rfl ?_
  refine go_iconst (v := 0) d_Mo_asks_14 (by decide) ?_
  refine go_aload_n (k := 1) d_Mo_asks_15 rfl rfl ?_
  refine go_getr (ci := 10) (k := 10) (r := 7) d_Mo_asks_16 a_M_0 rfl (by decide) f_Mo_28 rfl ?_
  refine go_iload_n (k := 2) d_Mo_asks_19 rfl rfl ?_
  obtain ⟨hi, v2, ev2, h⟩ := flod_e h
  refine go_iald2 d_Mo_asks_20 a_M_7 hi ev2 ?_
  obtain ⟨I3, eI3, h⟩ := fstf_e h
  refine go_iast (I' := I3) d_Mo_asks_21 a_M_22 (inb_iff.mp (by decide)) eI3 ?_
  refine go_aload_n (k := 1) d_Mo_asks_22 rfl rfl ?_
  refine go_getr (ci := 10) (k := 41) (r := 22) d_Mo_asks_23 a_M_0 rfl (by decide) f_Mo_77 rfl ?_
  refine go_iconst (v := 1) d_Mo_asks_26 (by decide) ?_
  refine go_aload_n (k := 1) d_Mo_asks_27 rfl rfl ?_
  refine go_getr (ci := 10) (k := 1) (r := 1) d_Mo_asks_28 a_M_0 rfl (by decide) f_Mo_7 rfl ?_
  refine go_bipush (v := 40) d_Mo_asks_31 (by decide) ?_
  refine go_iload_n (k := 2) d_Mo_asks_33 rfl rfl ?_
  refine go_iadd d_Mo_asks_34 ?_
  obtain ⟨hi, v4, ev4, h⟩ := flod_e h
  refine go_iald2 d_Mo_asks_35 a_M_1 hi ev4 ?_
  obtain ⟨I5, eI5, h⟩ := fstf_e h
  refine go_iast (I' := I5) d_Mo_asks_36 a_M_22 (inb_iff.mp (by decide)) eI5 ?_
  refine go_aload_n (k := 1) d_Mo_asks_37 rfl rfl ?_
  refine go_getr (ci := 10) (k := 41) (r := 22) d_Mo_asks_38 a_M_0 rfl (by decide) f_Mo_77 rfl ?_
  refine go_iconst (v := 2) d_Mo_asks_41 (by decide) ?_
  refine go_aload_n (k := 1) d_Mo_asks_42 rfl rfl ?_
  refine go_getr (ci := 10) (k := 1) (r := 1) d_Mo_asks_43 a_M_0 rfl (by decide) f_Mo_7 rfl ?_
  refine go_bipush (v := 64) d_Mo_asks_46 (by decide) ?_
  refine go_iload_n (k := 2) d_Mo_asks_48 rfl rfl ?_
  refine go_iadd d_Mo_asks_49 ?_
  obtain ⟨hi, v6, ev6, h⟩ := flod_e h
  refine go_iald2 d_Mo_asks_50 a_M_1 hi ev6 ?_
  obtain ⟨I7, eI7, h⟩ := fstf_e h
  refine go_iast (I' := I7) d_Mo_asks_51 a_M_22 (inb_iff.mp (by decide)) eI7 ?_
  refine go_aload_n (k := 1) d_Mo_asks_52 rfl rfl ?_
  refine go_getr (ci := 10) (k := 41) (r := 22) d_Mo_asks_53 a_M_0 rfl (by decide) f_Mo_77 rfl ?_
  refine go_iconst (v := 3) d_Mo_asks_56 (by decide) ?_
  refine go_aload_n (k := 1) d_Mo_asks_57 rfl rfl ?_
  refine go_iload_n (k := 0) d_Mo_asks_58 rfl rfl ?_
  obtain ⟨r8, w1, h⟩ := fbd_e h
  refine go_callV (y := yMo_steady) (asr := [.inl v1]) (v := some (.inl r8)) (I' := I7) (st1 := [.inl r8, .inl 3, .inr (some 22)]) d_Mo_asks_59 s_yMo_steady m_Mo_330 a_M_0 rfl rfl rfl (Nat.le_of_ble_eq_true rfl) rfl rfl (c_Mo_steady l (d0 + 0) v1 I7 w1) ?_
  obtain ⟨I9, eI9, h⟩ := fstf_e h
  refine go_iast (I' := I9) d_Mo_asks_62 a_M_22 (inb_iff.mp (by decide)) eI9 ?_
  refine go_aload_n (k := 1) d_Mo_asks_63 rfl rfl ?_
  refine go_getr (ci := 10) (k := 41) (r := 22) d_Mo_asks_64 a_M_0 rfl (by decide) f_Mo_77 rfl ?_
  refine go_iconst (v := 4) d_Mo_asks_67 (by decide) ?_
  refine go_aload_n (k := 1) d_Mo_asks_68 rfl rfl ?_
  refine go_getr (ci := 10) (k := 8) (r := 5) d_Mo_asks_69 a_M_0 rfl (by decide) f_Mo_22 rfl ?_
  refine go_iload_n (k := 0) d_Mo_asks_72 rfl rfl ?_
  obtain ⟨hi, v10, ev10, h⟩ := flod_e h
  refine go_iald2 d_Mo_asks_73 a_M_5 hi ev10 ?_
  obtain ⟨I11, eI11, h⟩ := fstf_e h
  refine go_iast (I' := I11) d_Mo_asks_74 a_M_22 (inb_iff.mp (by decide)) eI11 ?_
  refine go_aload_n (k := 1) d_Mo_asks_75 rfl rfl ?_
  refine go_getr (ci := 10) (k := 41) (r := 22) d_Mo_asks_76 a_M_0 rfl (by decide) f_Mo_77 rfl ?_
  refine go_iconst (v := 5) d_Mo_asks_79 (by decide) ?_
  refine go_aload_n (k := 1) d_Mo_asks_80 rfl rfl ?_
  refine go_getr (ci := 10) (k := 1) (r := 1) d_Mo_asks_81 a_M_0 rfl (by decide) f_Mo_7 rfl ?_
  refine go_bipush (v := 6) d_Mo_asks_84 (by decide) ?_
  refine go_iload_n (k := 0) d_Mo_asks_86 rfl rfl ?_
  refine go_iadd d_Mo_asks_87 ?_
  obtain ⟨hi, v12, ev12, h⟩ := flod_e h
  refine go_iald2 d_Mo_asks_88 a_M_1 hi ev12 ?_
  obtain ⟨I13, eI13, h⟩ := fstf_e h
  refine go_iast (I' := I13) d_Mo_asks_89 a_M_22 (inb_iff.mp (by decide)) eI13 ?_
  refine go_aload_n (k := 1) d_Mo_asks_90 rfl rfl ?_
  refine go_getr (ci := 10) (k := 41) (r := 22) d_Mo_asks_91 a_M_0 rfl (by decide) f_Mo_77 rfl ?_
  refine go_bipush (v := 6) d_Mo_asks_94 (by decide) ?_
  refine go_aload_n (k := 1) d_Mo_asks_96 rfl rfl ?_
  refine go_getr (ci := 10) (k := 9) (r := 6) d_Mo_asks_97 a_M_0 rfl (by decide) f_Mo_25 rfl ?_
  refine go_iload_n (k := 0) d_Mo_asks_100 rfl rfl ?_
  obtain ⟨hi, v14, ev14, h⟩ := flod_e h
  refine go_iald2 d_Mo_asks_101 a_M_6 hi ev14 ?_
  obtain ⟨I15, eI15, h⟩ := fstf_e h
  refine go_iast (I' := I15) d_Mo_asks_102 a_M_22 (inb_iff.mp (by decide)) eI15 ?_
  refine go_aload_n (k := 1) d_Mo_asks_103 rfl rfl ?_
  refine go_getr (ci := 10) (k := 41) (r := 22) d_Mo_asks_104 a_M_0 rfl (by decide) f_Mo_77 rfl ?_
  refine go_bipush (v := 7) d_Mo_asks_107 (by decide) ?_
  refine go_iload_n (k := 0) d_Mo_asks_109 rfl rfl ?_
  obtain ⟨I16, eI16, h⟩ := fstf_e h
  refine go_iast (I' := I16) d_Mo_asks_110 a_M_22 (inb_iff.mp (by decide)) eI16 ?_
  refine go_aload_n (k := 1) d_Mo_asks_111 rfl rfl ?_
  refine go_getr (ci := 10) (k := 41) (r := 22) d_Mo_asks_112 a_M_0 rfl (by decide) f_Mo_77 rfl ?_
  refine go_bipush (v := 8) d_Mo_asks_115 (by decide) ?_
  refine go_aload_n (k := 1) d_Mo_asks_117 rfl rfl ?_
  refine go_getr (ci := 10) (k := 1) (r := 1) d_Mo_asks_118 a_M_0 rfl (by decide) f_Mo_7 rfl ?_
  refine go_bipush (v := 56) d_Mo_asks_121 (by decide) ?_
  refine go_iload_n (k := 2) d_Mo_asks_123 rfl rfl ?_
  refine go_iadd d_Mo_asks_124 ?_
  obtain ⟨hi, v17, ev17, h⟩ := flod_e h
  refine go_iald2 d_Mo_asks_125 a_M_1 hi ev17 ?_
  obtain ⟨I18, eI18, h⟩ := fstf_e h
  refine go_iast (I' := I18) d_Mo_asks_126 a_M_22 (inb_iff.mp (by decide)) eI18 ?_
  refine go_aload_n (k := 1) d_Mo_asks_127 rfl rfl ?_
  refine go_getr (ci := 10) (k := 41) (r := 22) d_Mo_asks_128 a_M_0 rfl (by decide) f_Mo_77 rfl ?_
  refine go_bipush (v := 9) d_Mo_asks_131 (by decide) ?_
  refine go_aload_n (k := 1) d_Mo_asks_133 rfl rfl ?_
  refine go_getr (ci := 10) (k := 1) (r := 1) d_Mo_asks_134 a_M_0 rfl (by decide) f_Mo_7 rfl ?_
  refine go_iconst (v := 5) d_Mo_asks_137 (by decide) ?_
  refine go_iald2 (v := I18 1 5) d_Mo_asks_138 a_M_1 (inb_iff.mp (by decide)) rfl ?_
  obtain ⟨I19, eI19, h⟩ := fstf_e h
  refine go_iast (I' := I19) d_Mo_asks_139 a_M_22 (inb_iff.mp (by decide)) eI19 ?_
  refine go_aload_n (k := 1) d_Mo_asks_140 rfl rfl ?_
  refine go_getr (ci := 10) (k := 41) (r := 22) d_Mo_asks_141 a_M_0 rfl (by decide) f_Mo_77 rfl ?_
  refine go_bipush (v := 10) d_Mo_asks_144 (by decide) ?_
  refine go_aload_n (k := 1) d_Mo_asks_146 rfl rfl ?_
  refine go_getr (ci := 10) (k := 1) (r := 1) d_Mo_asks_147 a_M_0 rfl (by decide) f_Mo_7 rfl ?_
  refine go_bipush (v := 18) d_Mo_asks_150 (by decide) ?_
  refine go_iload_n (k := 0) d_Mo_asks_152 rfl rfl ?_
  refine go_iadd d_Mo_asks_153 ?_
  obtain ⟨hi, v20, ev20, h⟩ := flod_e h
  refine go_iald2 d_Mo_asks_154 a_M_1 hi ev20 ?_
  obtain ⟨I21, eI21, h⟩ := fstf_e h
  refine go_iast (I' := I21) d_Mo_asks_155 a_M_22 (inb_iff.mp (by decide)) eI21 ?_
  refine go_aload_n (k := 1) d_Mo_asks_156 rfl rfl ?_
  refine go_getr (ci := 10) (k := 41) (r := 22) d_Mo_asks_157 a_M_0 rfl (by decide) f_Mo_77 rfl ?_
  refine go_bipush (v := 11) d_Mo_asks_160 (by decide) ?_
  refine go_aload_n (k := 1) d_Mo_asks_162 rfl rfl ?_
  refine go_getr (ci := 10) (k := 1) (r := 1) d_Mo_asks_163 a_M_0 rfl (by decide) f_Mo_7 rfl ?_
  refine go_iconst (v := 0) d_Mo_asks_166 (by decide) ?_
  refine go_iald2 (v := I21 1 0) d_Mo_asks_167 a_M_1 (inb_iff.mp (by decide)) rfl ?_
  obtain ⟨I22, eI22, h⟩ := fstf_e h
  refine go_iast (I' := I22) d_Mo_asks_168 a_M_22 (inb_iff.mp (by decide)) eI22 ?_
  cases h
  exact go_return d_Mo_asks_169 rfl gb_po_i
theorem d_Mo_boat_0 : decode yMo_boat.2.1 0 = .ok (.aload_n 0, 1) := by decide +kernel
theorem d_Mo_boat_1 : decode yMo_boat.2.1 1 = .ok (.iconst 0, 1) := by decide +kernel
theorem d_Mo_boat_2 : decode yMo_boat.2.1 2 = .ok (.putfield 137, 3) := by decide +kernel
theorem d_Mo_boat_5 : decode yMo_boat.2.1 5 = .ok (.aload_n 0, 1) := by decide +kernel
theorem d_Mo_boat_6 : decode yMo_boat.2.1 6 = .ok (.iload_n 1, 1) := by decide +kernel
theorem d_Mo_boat_7 : decode yMo_boat.2.1 7 = .ok (.iconst 0, 1) := by decide +kernel
theorem d_Mo_boat_8 : decode yMo_boat.2.1 8 = .ok (.iconst 4, 1) := by decide +kernel
theorem d_Mo_boat_9 : decode yMo_boat.2.1 9 = .ok (.invokevirtual 157, 3) := by decide +kernel
theorem d_Mo_boat_12 : decode yMo_boat.2.1 12 = .ok (.ifCond .eq 52, 3) := by decide +kernel
theorem d_Mo_boat_15 : decode yMo_boat.2.1 15 = .ok (.aload_n 0, 1) := by decide +kernel
theorem d_Mo_boat_16 : decode yMo_boat.2.1 16 = .ok (.iload_n 2, 1) := by decide +kernel
theorem d_Mo_boat_17 : decode yMo_boat.2.1 17 = .ok (.iconst 0, 1) := by decide +kernel
theorem d_Mo_boat_18 : decode yMo_boat.2.1 18 = .ok (.bipush 99, 2) := by decide +kernel
theorem d_Mo_boat_20 : decode yMo_boat.2.1 20 = .ok (.invokevirtual 157, 3) := by decide +kernel
theorem d_Mo_boat_23 : decode yMo_boat.2.1 23 = .ok (.ifCond .eq 41, 3) := by decide +kernel
theorem d_Mo_boat_26 : decode yMo_boat.2.1 26 = .ok (.aload_n 0, 1) := by decide +kernel
theorem d_Mo_boat_27 : decode yMo_boat.2.1 27 = .ok (.iload_n 3, 1) := by decide +kernel
theorem d_Mo_boat_28 : decode yMo_boat.2.1 28 = .ok (.invokevirtual 161, 3) := by decide +kernel
theorem d_Mo_boat_31 : decode yMo_boat.2.1 31 = .ok (.ifCond .eq 33, 3) := by decide +kernel
theorem d_Mo_boat_34 : decode yMo_boat.2.1 34 = .ok (.aload_n 0, 1) := by decide +kernel
theorem d_Mo_boat_35 : decode yMo_boat.2.1 35 = .ok (.iload 4, 2) := by decide +kernel
theorem d_Mo_boat_37 : decode yMo_boat.2.1 37 = .ok (.iconst 0, 1) := by decide +kernel
theorem d_Mo_boat_38 : decode yMo_boat.2.1 38 = .ok (.iconst 1, 1) := by decide +kernel
theorem d_Mo_boat_39 : decode yMo_boat.2.1 39 = .ok (.invokevirtual 157, 3) := by decide +kernel
theorem d_Mo_boat_42 : decode yMo_boat.2.1 42 = .ok (.ifCond .eq 22, 3) := by decide +kernel
theorem d_Mo_boat_45 : decode yMo_boat.2.1 45 = .ok (.iload_n 3, 1) := by decide +kernel
theorem d_Mo_boat_46 : decode yMo_boat.2.1 46 = .ok (.aload_n 0, 1) := by decide +kernel
theorem d_Mo_boat_47 : decode yMo_boat.2.1 47 = .ok (.iload 4, 2) := by decide +kernel
theorem d_Mo_boat_49 : decode yMo_boat.2.1 49 = .ok (.invokevirtual 153, 3) := by decide +kernel
theorem d_Mo_boat_52 : decode yMo_boat.2.1 52 = .ok (.if_icmp .eq 12, 3) := by decide +kernel
theorem d_Mo_boat_55 : decode yMo_boat.2.1 55 = .ok (.aload_n 0, 1) := by decide +kernel
theorem d_Mo_boat_56 : decode yMo_boat.2.1 56 = .ok (.getfield 150, 3) := by decide +kernel
theorem d_Mo_boat_59 : decode yMo_boat.2.1 59 = .ok (.bipush 8, 2) := by decide +kernel
theorem d_Mo_boat_61 : decode yMo_boat.2.1 61 = .ok (.if_icmp .ne 5, 3) := by decide +kernel
theorem d_Mo_boat_64 : decode yMo_boat.2.1 64 = .ok (.iconst (-1), 1) := by decide +kernel
theorem d_Mo_boat_65 : decode yMo_boat.2.1 65 = .ok (.ireturn, 1) := by decide +kernel
theorem d_Mo_boat_66 : decode yMo_boat.2.1 66 = .ok (.aload_n 0, 1) := by decide +kernel
theorem d_Mo_boat_67 : decode yMo_boat.2.1 67 = .ok (.getfield 28, 3) := by decide +kernel
theorem d_Mo_boat_70 : decode yMo_boat.2.1 70 = .ok (.aload_n 0, 1) := by decide +kernel
theorem d_Mo_boat_71 : decode yMo_boat.2.1 71 = .ok (.getfield 150, 3) := by decide +kernel
theorem d_Mo_boat_74 : decode yMo_boat.2.1 74 = .ok (.iload_n 1, 1) := by decide +kernel
theorem d_Mo_boat_75 : decode yMo_boat.2.1 75 = .ok (.iastore, 1) := by decide +kernel
theorem d_Mo_boat_76 : decode yMo_boat.2.1 76 = .ok (.aload_n 0, 1) := by decide +kernel
theorem d_Mo_boat_77 : decode yMo_boat.2.1 77 = .ok (.getfield 7, 3) := by decide +kernel
theorem d_Mo_boat_80 : decode yMo_boat.2.1 80 = .ok (.bipush 40, 2) := by decide +kernel
theorem d_Mo_boat_82 : decode yMo_boat.2.1 82 = .ok (.aload_n 0, 1) := by decide +kernel
theorem d_Mo_boat_83 : decode yMo_boat.2.1 83 = .ok (.getfield 150, 3) := by decide +kernel
theorem d_Mo_boat_86 : decode yMo_boat.2.1 86 = .ok (.iadd, 1) := by decide +kernel
theorem d_Mo_boat_87 : decode yMo_boat.2.1 87 = .ok (.iload_n 2, 1) := by decide +kernel
theorem d_Mo_boat_88 : decode yMo_boat.2.1 88 = .ok (.iastore, 1) := by decide +kernel
theorem d_Mo_boat_89 : decode yMo_boat.2.1 89 = .ok (.aload_n 0, 1) := by decide +kernel
theorem d_Mo_boat_90 : decode yMo_boat.2.1 90 = .ok (.getfield 7, 3) := by decide +kernel
theorem d_Mo_boat_93 : decode yMo_boat.2.1 93 = .ok (.bipush 48, 2) := by decide +kernel
theorem d_Mo_boat_95 : decode yMo_boat.2.1 95 = .ok (.aload_n 0, 1) := by decide +kernel
theorem d_Mo_boat_96 : decode yMo_boat.2.1 96 = .ok (.getfield 150, 3) := by decide +kernel
theorem d_Mo_boat_99 : decode yMo_boat.2.1 99 = .ok (.iadd, 1) := by decide +kernel
theorem d_Mo_boat_100 : decode yMo_boat.2.1 100 = .ok (.iload_n 3, 1) := by decide +kernel
theorem d_Mo_boat_101 : decode yMo_boat.2.1 101 = .ok (.iastore, 1) := by decide +kernel
theorem d_Mo_boat_102 : decode yMo_boat.2.1 102 = .ok (.aload_n 0, 1) := by decide +kernel
theorem d_Mo_boat_103 : decode yMo_boat.2.1 103 = .ok (.getfield 7, 3) := by decide +kernel
theorem d_Mo_boat_106 : decode yMo_boat.2.1 106 = .ok (.bipush 56, 2) := by decide +kernel
theorem d_Mo_boat_108 : decode yMo_boat.2.1 108 = .ok (.aload_n 0, 1) := by decide +kernel
theorem d_Mo_boat_109 : decode yMo_boat.2.1 109 = .ok (.getfield 150, 3) := by decide +kernel
theorem d_Mo_boat_112 : decode yMo_boat.2.1 112 = .ok (.iadd, 1) := by decide +kernel
theorem d_Mo_boat_113 : decode yMo_boat.2.1 113 = .ok (.iload 4, 2) := by decide +kernel
theorem d_Mo_boat_115 : decode yMo_boat.2.1 115 = .ok (.iastore, 1) := by decide +kernel
theorem d_Mo_boat_116 : decode yMo_boat.2.1 116 = .ok (.aload_n 0, 1) := by decide +kernel
theorem d_Mo_boat_117 : decode yMo_boat.2.1 117 = .ok (.getfield 7, 3) := by decide +kernel
theorem d_Mo_boat_120 : decode yMo_boat.2.1 120 = .ok (.bipush 64, 2) := by decide +kernel
theorem d_Mo_boat_122 : decode yMo_boat.2.1 122 = .ok (.aload_n 0, 1) := by decide +kernel
theorem d_Mo_boat_123 : decode yMo_boat.2.1 123 = .ok (.getfield 150, 3) := by decide +kernel
theorem d_Mo_boat_126 : decode yMo_boat.2.1 126 = .ok (.iadd, 1) := by decide +kernel
theorem d_Mo_boat_127 : decode yMo_boat.2.1 127 = .ok (.iconst 0, 1) := by decide +kernel
theorem d_Mo_boat_128 : decode yMo_boat.2.1 128 = .ok (.iastore, 1) := by decide +kernel
theorem d_Mo_boat_129 : decode yMo_boat.2.1 129 = .ok (.aload_n 0, 1) := by decide +kernel
theorem d_Mo_boat_130 : decode yMo_boat.2.1 130 = .ok (.getfield 7, 3) := by decide +kernel
theorem d_Mo_boat_133 : decode yMo_boat.2.1 133 = .ok (.bipush 72, 2) := by decide +kernel
theorem d_Mo_boat_135 : decode yMo_boat.2.1 135 = .ok (.aload_n 0, 1) := by decide +kernel
theorem d_Mo_boat_136 : decode yMo_boat.2.1 136 = .ok (.getfield 150, 3) := by decide +kernel
theorem d_Mo_boat_139 : decode yMo_boat.2.1 139 = .ok (.iadd, 1) := by decide +kernel
theorem d_Mo_boat_140 : decode yMo_boat.2.1 140 = .ok (.iconst 0, 1) := by decide +kernel
theorem d_Mo_boat_141 : decode yMo_boat.2.1 141 = .ok (.iastore, 1) := by decide +kernel
theorem d_Mo_boat_142 : decode yMo_boat.2.1 142 = .ok (.aload_n 0, 1) := by decide +kernel
theorem d_Mo_boat_143 : decode yMo_boat.2.1 143 = .ok (.aload_n 0, 1) := by decide +kernel
theorem d_Mo_boat_144 : decode yMo_boat.2.1 144 = .ok (.getfield 150, 3) := by decide +kernel
theorem d_Mo_boat_147 : decode yMo_boat.2.1 147 = .ok (.iconst 1, 1) := by decide +kernel
theorem d_Mo_boat_148 : decode yMo_boat.2.1 148 = .ok (.iadd, 1) := by decide +kernel
theorem d_Mo_boat_149 : decode yMo_boat.2.1 149 = .ok (.putfield 150, 3) := by decide +kernel
theorem d_Mo_boat_152 : decode yMo_boat.2.1 152 = .ok (.aload_n 0, 1) := by decide +kernel
theorem d_Mo_boat_153 : decode yMo_boat.2.1 153 = .ok (.iconst 0, 1) := by decide +kernel
theorem d_Mo_boat_154 : decode yMo_boat.2.1 154 = .ok (.putfield 141, 3) := by decide +kernel
theorem d_Mo_boat_157 : decode yMo_boat.2.1 157 = .ok (.aload_n 0, 1) := by decide +kernel
theorem d_Mo_boat_158 : decode yMo_boat.2.1 158 = .ok (.getfield 150, 3) := by decide +kernel
theorem d_Mo_boat_161 : decode yMo_boat.2.1 161 = .ok (.iconst 1, 1) := by decide +kernel
theorem d_Mo_boat_162 : decode yMo_boat.2.1 162 = .ok (.isub, 1) := by decide +kernel
theorem d_Mo_boat_163 : decode yMo_boat.2.1 163 = .ok (.ireturn, 1) := by decide +kernel
def F_Mo_boat (x1 x2 x3 x4 : Int32) (I : gb_Mem) : Option (Int32 × gb_Mem) :=
  fstf I 0 0 0 fun I1 =>
  if (F_Mo_isIn x1 0 4 I1) = 0 then
    some ((-1), I1)
  else
    if (F_Mo_isIn x2 0 99 I1) = 0 then
      some ((-1), I1)
    else
      if (F_Mo_isSeat x3 I1) = 0 then
        some ((-1), I1)
      else
        if (F_Mo_isIn x4 0 1 I1) = 0 then
          some ((-1), I1)
        else
          if x3 = (F_Mo_shoreOf x4 I1) then
            some ((-1), I1)
          else
            if (I1 0 6) = 8 then
              some ((-1), I1)
            else
              fsto I1 7 8 (I1 0 6) x1 fun I2 =>
              fsto I2 1 80 (40 + (I2 0 6)) x2 fun I3 =>
              fsto I3 1 80 (48 + (I3 0 6)) x3 fun I4 =>
              fsto I4 1 80 (56 + (I4 0 6)) x4 fun I5 =>
              fsto I5 1 80 (64 + (I5 0 6)) 0 fun I6 =>
              fsto I6 1 80 (72 + (I6 0 6)) 0 fun I7 =>
              fstf I7 0 6 ((I7 0 6) + 1) fun I8 =>
              fstf I8 0 3 0 fun I9 =>
              some ((I9 0 6) - 1, I9)
set_option maxRecDepth 4000 in
theorem c_Mo_boat (l : Launch) (d0 : Nat) (x1 x2 x3 x4 : Int32) (I : gb_Mem) {rz : Int32} {Iz : gb_Mem} (h : F_Mo_boat x1 x2 x3 x4 I = some (rz, Iz)) : gb_Cs l yMo_boat (d0 + 1) [.inr (some 0), .inl x1, .inl x2, .inl x3, .inl x4] shM I (some (.inl rz)) Iz := by
  refine gb_Ct.of (lv := [(0, .inr (some 0)), (1, .inl x1), (2, .inl x2), (3, .inl x3), (4, .inl x4)]) rfl (Nat.le_of_ble_eq_true rfl) rfl ?_
  unfold F_Mo_boat at h
  show gb_Go l yMo_boat (d0 + 1) 0 0 0 [(0, .inr (some 0)), (1, .inl x1), (2, .inl x2), (3, .inl x3), (4, .inl x4)] [] shM I (gb_po shM (some (.inl rz)) Iz)
  refine go_aload_n (k := 0) d_Mo_boat_0 rfl rfl ?_
  refine go_iconst (v := 0) d_Mo_boat_1 (by decide) ?_
  obtain ⟨I1, eI1, h⟩ := fstf_e h
  refine go_putT (ci := 10) (k := 0) (I' := I1) d_Mo_boat_2 a_M_0 rfl (by decide) f_Mo_137 rfl rfl rfl rfl rfl eI1 ?_
  refine go_aload_n (k := 0) d_Mo_boat_5 rfl rfl ?_
  refine go_iload_n (k := 1) d_Mo_boat_6 rfl rfl ?_
  refine go_iconst (v := 0) d_Mo_boat_7 (by decide) ?_
  refine go_iconst (v := 4) d_Mo_boat_8 (by decide) ?_
  refine go_callV (y := yMo_isIn) (asr := [.inl x1, .inl 0, .inl 4]) (v := some (.inl (F_Mo_isIn x1 0 4 I1))) (I' := I1) (st1 := [.inl (F_Mo_isIn x1 0 4 I1)]) d_Mo_boat_9 s_yMo_isIn m_Mo_157 a_M_0 rfl rfl rfl (Nat.le_of_ble_eq_true rfl) rfl rfl (c_Mo_isIn l (d0 + 0) x1 0 4 I1) ?_
  refine go_if_eq (tgt := 64) d_Mo_boat_12 (by decide) (fun hc => ?_) (fun hc => ?_)
  · rw [if_pos hc] at h
    refine go_iconst (v := (-1)) d_Mo_boat_64 (by decide) ?_
    cases h
    exact go_ireturn d_Mo_boat_65 rfl gb_po_i
  · rw [if_neg hc] at h
    refine go_aload_n (k := 0) d_Mo_boat_15 rfl rfl ?_
    refine go_iload_n (k := 2) d_Mo_boat_16 rfl rfl ?_
    refine go_iconst (v := 0) d_Mo_boat_17 (by decide) ?_
    refine go_bipush (v := 99) d_Mo_boat_18 (by decide) ?_
    refine go_callV (y := yMo_isIn) (asr := [.inl x2, .inl 0, .inl 99]) (v := some (.inl (F_Mo_isIn x2 0 99 I1))) (I' := I1) (st1 := [.inl (F_Mo_isIn x2 0 99 I1)]) d_Mo_boat_20 s_yMo_isIn m_Mo_157 a_M_0 rfl rfl rfl (Nat.le_of_ble_eq_true rfl) rfl rfl (c_Mo_isIn l (d0 + 0) x2 0 99 I1) ?_
    refine go_if_eq (tgt := 64) d_Mo_boat_23 (by decide) (fun hc => ?_) (fun hc => ?_)
    · rw [if_pos hc] at h
      refine go_iconst (v := (-1)) d_Mo_boat_64 (by decide) ?_
      cases h
      exact go_ireturn d_Mo_boat_65 rfl gb_po_i
    · rw [if_neg hc] at h
      refine go_aload_n (k := 0) d_Mo_boat_26 rfl rfl ?_
      refine go_iload_n (k := 3) d_Mo_boat_27 rfl rfl ?_
      refine go_callV (y := yMo_isSeat) (asr := [.inl x3]) (v := some (.inl (F_Mo_isSeat x3 I1))) (I' := I1) (st1 := [.inl (F_Mo_isSeat x3 I1)]) d_Mo_boat_28 s_yMo_isSeat m_Mo_161 a_M_0 rfl rfl rfl (Nat.le_of_ble_eq_true rfl) rfl rfl (c_Mo_isSeat l (d0 + 0) x3 I1) ?_
      refine go_if_eq (tgt := 64) d_Mo_boat_31 (by decide) (fun hc => ?_) (fun hc => ?_)
      · rw [if_pos hc] at h
        refine go_iconst (v := (-1)) d_Mo_boat_64 (by decide) ?_
        cases h
        exact go_ireturn d_Mo_boat_65 rfl gb_po_i
      · rw [if_neg hc] at h
        refine go_aload_n (k := 0) d_Mo_boat_34 rfl rfl ?_
        refine go_iload (k := 4) d_Mo_boat_35 rfl ?_
        refine go_iconst (v := 0) d_Mo_boat_37 (by decide) ?_
        refine go_iconst (v := 1) d_Mo_boat_38 (by decide) ?_
        refine go_callV (y := yMo_isIn) (asr := [.inl x4, .inl 0, .inl 1]) (v := some (.inl (F_Mo_isIn x4 0 1 I1))) (I' := I1) (st1 := [.inl (F_Mo_isIn x4 0 1 I1)]) d_Mo_boat_39 s_yMo_isIn m_Mo_157 a_M_0 rfl rfl rfl (Nat.le_of_ble_eq_true rfl) rfl rfl (c_Mo_isIn l (d0 + 0) x4 0 1 I1) ?_
        refine go_if_eq (tgt := 64) d_Mo_boat_42 (by decide) (fun hc => ?_) (fun hc => ?_)
        · rw [if_pos hc] at h
          refine go_iconst (v := (-1)) d_Mo_boat_64 (by decide) ?_
          cases h
          exact go_ireturn d_Mo_boat_65 rfl gb_po_i
        · rw [if_neg hc] at h
          refine go_iload_n (k := 3) d_Mo_boat_45 rfl rfl ?_
          refine go_aload_n (k := 0) d_Mo_boat_46 rfl rfl ?_
          refine go_iload (k := 4) d_Mo_boat_47 rfl ?_
          refine go_callV (y := yMo_shoreOf) (asr := [.inl x4]) (v := some (.inl (F_Mo_shoreOf x4 I1))) (I' := I1) (st1 := [.inl (F_Mo_shoreOf x4 I1), .inl x3]) d_Mo_boat_49 s_yMo_shoreOf m_Mo_153 a_M_0 rfl rfl rfl (Nat.le_of_ble_eq_true rfl) rfl rfl (c_Mo_shoreOf l (d0 + 0) x4 I1) ?_
          refine go_cmp_eq (tgt := 64) d_Mo_boat_52 (by decide) (fun hc => ?_) (fun hc => ?_)
          · rw [if_pos hc] at h
            refine go_iconst (v := (-1)) d_Mo_boat_64 (by decide) ?_
            cases h
            exact go_ireturn d_Mo_boat_65 rfl gb_po_i
          · rw [if_neg hc] at h
            refine go_aload_n (k := 0) d_Mo_boat_55 rfl rfl ?_
            refine go_geti (ci := 10) (k := 6) d_Mo_boat_56 a_M_0 rfl (by decide) f_Mo_150 rfl ?_
            refine go_bipush (v := 8) d_Mo_boat_59 (by decide) ?_
            refine go_cmp_ne (tgt := 66) d_Mo_boat_61 (by decide) (fun hc => ?_) (fun hc => ?_)
            · rw [if_neg hc] at h
              refine go_aload_n (k := 0) d_Mo_boat_66 rfl rfl ?_
              refine go_getr (ci := 10) (k := 10) (r := 7) d_Mo_boat_67 a_M_0 rfl (by decide) f_Mo_28 rfl ?_
              refine go_aload_n (k := 0) d_Mo_boat_70 rfl rfl ?_
              refine go_geti (ci := 10) (k := 6) d_Mo_boat_71 a_M_0 rfl (by decide) f_Mo_150 rfl ?_
              refine go_iload_n (k := 1) d_Mo_boat_74 rfl rfl ?_
              obtain ⟨hi, I2, eI2, h⟩ := fsto_e h
              refine go_iast (I' := I2) d_Mo_boat_75 a_M_7 hi eI2 ?_
              refine go_aload_n (k := 0) d_Mo_boat_76 rfl rfl ?_
              refine go_getr (ci := 10) (k := 1) (r := 1) d_Mo_boat_77 a_M_0 rfl (by decide) f_Mo_7 rfl ?_
              refine go_bipush (v := 40) d_Mo_boat_80 (by decide) ?_
              refine go_aload_n (k := 0) d_Mo_boat_82 rfl rfl ?_
              refine go_geti (ci := 10) (k := 6) d_Mo_boat_83 a_M_0 rfl (by decide) f_Mo_150 rfl ?_
              refine go_iadd d_Mo_boat_86 ?_
              refine go_iload_n (k := 2) d_Mo_boat_87 rfl rfl ?_
              obtain ⟨hi, I3, eI3, h⟩ := fsto_e h
              refine go_iast (I' := I3) d_Mo_boat_88 a_M_1 hi eI3 ?_
              refine go_aload_n (k := 0) d_Mo_boat_89 rfl rfl ?_
              refine go_getr (ci := 10) (k := 1) (r := 1) d_Mo_boat_90 a_M_0 rfl (by decide) f_Mo_7 rfl ?_
              refine go_bipush (v := 48) d_Mo_boat_93 (by decide) ?_
              refine go_aload_n (k := 0) d_Mo_boat_95 rfl rfl ?_
              refine go_geti (ci := 10) (k := 6) d_Mo_boat_96 a_M_0 rfl (by decide) f_Mo_150 rfl ?_
              refine go_iadd d_Mo_boat_99 ?_
              refine go_iload_n (k := 3) d_Mo_boat_100 rfl rfl ?_
              obtain ⟨hi, I4, eI4, h⟩ := fsto_e h
              refine go_iast (I' := I4) d_Mo_boat_101 a_M_1 hi eI4 ?_
              refine go_aload_n (k := 0) d_Mo_boat_102 rfl rfl ?_
              refine go_getr (ci := 10) (k := 1) (r := 1) d_Mo_boat_103 a_M_0 rfl (by decide) f_Mo_7 rfl ?_
              refine go_bipush (v := 56) d_Mo_boat_106 (by decide) ?_
              refine go_aload_n (k := 0) d_Mo_boat_108 rfl rfl ?_
              refine go_geti (ci := 10) (k := 6) d_Mo_boat_109 a_M_0 rfl (by decide) f_Mo_150 rfl ?_
              refine go_iadd d_Mo_boat_112 ?_
              refine go_iload (k := 4) d_Mo_boat_113 rfl ?_
              obtain ⟨hi, I5, eI5, h⟩ := fsto_e h
              refine go_iast (I' := I5) d_Mo_boat_115 a_M_1 hi eI5 ?_
              refine go_aload_n (k := 0) d_Mo_boat_116 rfl rfl ?_
              refine go_getr (ci := 10) (k := 1) (r := 1) d_Mo_boat_117 a_M_0 rfl (by decide) f_Mo_7 rfl ?_
              refine go_bipush (v := 64) d_Mo_boat_120 (by decide) ?_
              refine go_aload_n (k := 0) d_Mo_boat_122 rfl rfl ?_
              refine go_geti (ci := 10) (k := 6) d_Mo_boat_123 a_M_0 rfl (by decide) f_Mo_150 rfl ?_
              refine go_iadd d_Mo_boat_126 ?_
              refine go_iconst (v := 0) d_Mo_boat_127 (by decide) ?_
              obtain ⟨hi, I6, eI6, h⟩ := fsto_e h
              refine go_iast (I' := I6) d_Mo_boat_128 a_M_1 hi eI6 ?_
              refine go_aload_n (k := 0) d_Mo_boat_129 rfl rfl ?_
              refine go_getr (ci := 10) (k := 1) (r := 1) d_Mo_boat_130 a_M_0 rfl (by decide) f_Mo_7 rfl ?_
              refine go_bipush (v := 72) d_Mo_boat_133 (by decide) ?_
              refine go_aload_n (k := 0) d_Mo_boat_135 rfl rfl ?_
              refine go_geti (ci := 10) (k := 6) d_Mo_boat_136 a_M_0 rfl (by decide) f_Mo_150 rfl ?_
              refine go_iadd d_Mo_boat_139 ?_
              refine go_iconst (v := 0) d_Mo_boat_140 (by decide) ?_
              obtain ⟨hi, I7, eI7, h⟩ := fsto_e h
              refine go_iast (I' := I7) d_Mo_boat_141 a_M_1 hi eI7 ?_
              refine go_aload_n (k := 0) d_Mo_boat_142 rfl rfl ?_
              refine go_aload_n (k := 0) d_Mo_boat_143 rfl rfl ?_
              refine go_geti (ci := 10) (k := 6) d_Mo_boat_144 a_M_0 rfl (by decide) f_Mo_150 rfl ?_
              refine go_iconst (v := 1) d_Mo_boat_147 (by decide) ?_
              refine go_iadd d_Mo_boat_148 ?_
              obtain ⟨I8, eI8, h⟩ := fstf_e h
              refine go_putT (ci := 10) (k := 6) (I' := I8) d_Mo_boat_149 a_M_0 rfl (by decide) f_Mo_150 rfl rfl rfl rfl rfl eI8 ?_
              refine go_aload_n (k := 0) d_Mo_boat_152 rfl rfl ?_
              refine go_iconst (v := 0) d_Mo_boat_153 (by decide) ?_
              obtain ⟨I9, eI9, h⟩ := fstf_e h
              refine go_putT (ci := 10) (k := 3) (I' := I9) d_Mo_boat_154 a_M_0 rfl (by decide) f_Mo_141 rfl rfl rfl rfl rfl eI9 ?_
              refine go_aload_n (k := 0) d_Mo_boat_157 rfl rfl ?_
              refine go_geti (ci := 10) (k := 6) d_Mo_boat_158 a_M_0 rfl (by decide) f_Mo_150 rfl ?_
              refine go_iconst (v := 1) d_Mo_boat_161 (by decide) ?_
              refine go_isub d_Mo_boat_162 ?_
              cases h
              exact go_ireturn d_Mo_boat_163 rfl gb_po_i
            · rw [if_pos hc] at h
              refine go_iconst (v := (-1)) d_Mo_boat_64 (by decide) ?_
              cases h
              exact go_ireturn d_Mo_boat_65 rfl gb_po_i
theorem d_Mo_book_0 : decode yMo_book.2.1 0 = .ok (.aload_n 0, 1) := by decide +kernel
theorem d_Mo_book_1 : decode yMo_book.2.1 1 = .ok (.iconst 0, 1) := by decide +kernel
theorem d_Mo_book_2 : decode yMo_book.2.1 2 = .ok (.putfield 137, 3) := by decide +kernel
theorem d_Mo_book_5 : decode yMo_book.2.1 5 = .ok (.aload_n 0, 1) := by decide +kernel
theorem d_Mo_book_6 : decode yMo_book.2.1 6 = .ok (.iload_n 1, 1) := by decide +kernel
theorem d_Mo_book_7 : decode yMo_book.2.1 7 = .ok (.iconst 0, 1) := by decide +kernel
theorem d_Mo_book_8 : decode yMo_book.2.1 8 = .ok (.aload_n 0, 1) := by decide +kernel
theorem d_Mo_book_9 : decode yMo_book.2.1 9 = .ok (.getfield 7, 3) := by decide +kernel
theorem d_Mo_book_12 : decode yMo_book.2.1 12 = .ok (.iconst 2, 1) := by decide +kernel
theorem d_Mo_book_13 : decode yMo_book.2.1 13 = .ok (.iaload, 1) := by decide +kernel
theorem d_Mo_book_14 : decode yMo_book.2.1 14 = .ok (.iconst 1, 1) := by decide +kernel
theorem d_Mo_book_15 : decode yMo_book.2.1 15 = .ok (.isub, 1) := by decide +kernel
theorem d_Mo_book_16 : decode yMo_book.2.1 16 = .ok (.invokevirtual 157, 3) := by decide +kernel
theorem d_Mo_book_19 : decode yMo_book.2.1 19 = .ok (.ifCond .eq 26, 3) := by decide +kernel
theorem d_Mo_book_22 : decode yMo_book.2.1 22 = .ok (.aload_n 0, 1) := by decide +kernel
theorem d_Mo_book_23 : decode yMo_book.2.1 23 = .ok (.iload_n 2, 1) := by decide +kernel
theorem d_Mo_book_24 : decode yMo_book.2.1 24 = .ok (.iconst 0, 1) := by decide +kernel
theorem d_Mo_book_25 : decode yMo_book.2.1 25 = .ok (.iconst 3, 1) := by decide +kernel
theorem d_Mo_book_26 : decode yMo_book.2.1 26 = .ok (.invokevirtual 157, 3) := by decide +kernel
theorem d_Mo_book_29 : decode yMo_book.2.1 29 = .ok (.ifCond .eq 16, 3) := by decide +kernel
theorem d_Mo_book_32 : decode yMo_book.2.1 32 = .ok (.aload_n 0, 1) := by decide +kernel
theorem d_Mo_book_33 : decode yMo_book.2.1 33 = .ok (.getfield 31, 3) := by decide +kernel
theorem d_Mo_book_36 : decode yMo_book.2.1 36 = .ok (.iconst 4, 1) := by decide +kernel
theorem d_Mo_book_37 : decode yMo_book.2.1 37 = .ok (.iload_n 1, 1) := by decide +kernel
theorem d_Mo_book_38 : decode yMo_book.2.1 38 = .ok (.imul, 1) := by decide +kernel
theorem d_Mo_book_39 : decode yMo_book.2.1 39 = .ok (.iload_n 2, 1) := by decide +kernel
theorem d_Mo_book_40 : decode yMo_book.2.1 40 = .ok (.iadd, 1) := by decide +kernel
theorem d_Mo_book_41 : decode yMo_book.2.1 41 = .ok (.iaload, 1) := by decide +kernel
theorem d_Mo_book_42 : decode yMo_book.2.1 42 = .ok (.goto 4, 3) := by decide +kernel
theorem d_Mo_book_45 : decode yMo_book.2.1 45 = .ok (.iconst (-1), 1) := by decide +kernel
theorem d_Mo_book_46 : decode yMo_book.2.1 46 = .ok (.ireturn, 1) := by decide +kernel
def F_Mo_book (x1 x2 : Int32) (I : gb_Mem) : Option (Int32 × gb_Mem) :=
  fstf I 0 0 0 fun I1 =>
  if (F_Mo_isIn x1 0 ((I1 1 2) - 1) I1) = 0 then
    some ((-1), I1)
  else
    if (F_Mo_isIn x2 0 3 I1) = 0 then
      some ((-1), I1)
    else
      flod I1 8 600 ((4 * x1) + x2) fun v2 =>
      some (v2, I1)
set_option maxRecDepth 4000 in
theorem c_Mo_book (l : Launch) (d0 : Nat) (x1 x2 : Int32) (I : gb_Mem) {rz : Int32} {Iz : gb_Mem} (h : F_Mo_book x1 x2 I = some (rz, Iz)) : gb_Cs l yMo_book (d0 + 1) [.inr (some 0), .inl x1, .inl x2] shM I (some (.inl rz)) Iz := by
  refine gb_Ct.of (lv := [(0, .inr (some 0)), (1, .inl x1), (2, .inl x2)]) rfl (Nat.le_of_ble_eq_true rfl) rfl ?_
  unfold F_Mo_book at h
  show gb_Go l yMo_book (d0 + 1) 0 0 0 [(0, .inr (some 0)), (1, .inl x1), (2, .inl x2)] [] shM I (gb_po shM (some (.inl rz)) Iz)
  refine go_aload_n (k := 0) d_Mo_book_0 rfl rfl ?_
  refine go_iconst (v := 0) d_Mo_book_1 (by decide) ?_
  obtain ⟨I1, eI1, h⟩ := fstf_e h
  refine go_putT (ci := 10) (k := 0) (I' := I1) d_Mo_book_2 a_M_0 rfl (by decide) f_Mo_137 rfl rfl rfl rfl rfl eI1 ?_
  refine go_aload_n (k := 0) d_Mo_book_5 rfl rfl ?_
  refine go_iload_n (k := 1) d_Mo_book_6 rfl rfl ?_
  refine go_iconst (v := 0) d_Mo_book_7 (by decide) ?_
  refine go_aload_n (k := 0) d_Mo_book_8 rfl rfl ?_
  refine go_getr (ci := 10) (k := 1) (r := 1) d_Mo_book_9 a_M_0 rfl (by decide) f_Mo_7 rfl ?_
  refine go_iconst (v := 2) d_Mo_book_12 (by decide) ?_
  refine go_iald2 (v := I1 1 2) d_Mo_book_13 a_M_1 (inb_iff.mp (by decide)) rfl ?_
  refine go_iconst (v := 1) d_Mo_book_14 (by decide) ?_
  refine go_isub d_Mo_book_15 ?_
  refine go_callV (y := yMo_isIn) (asr := [.inl x1, .inl 0, .inl ((I1 1 2) - 1)]) (v := some (.inl (F_Mo_isIn x1 0 ((I1 1 2) - 1) I1))) (I' := I1) (st1 := [.inl (F_Mo_isIn x1 0 ((I1 1 2) - 1) I1)]) d_Mo_book_16 s_yMo_isIn m_Mo_157 a_M_0 rfl rfl rfl (Nat.le_of_ble_eq_true rfl) rfl rfl (c_Mo_isIn l (d0 + 0) x1 0 ((I1 1 2) - 1) I1) ?_
  refine go_if_eq (tgt := 45) d_Mo_book_19 (by decide) (fun hc => ?_) (fun hc => ?_)
  · rw [if_pos hc] at h
    refine go_iconst (v := (-1)) d_Mo_book_45 (by decide) ?_
    cases h
    exact go_ireturn d_Mo_book_46 rfl gb_po_i
  · rw [if_neg hc] at h
    refine go_aload_n (k := 0) d_Mo_book_22 rfl rfl ?_
    refine go_iload_n (k := 2) d_Mo_book_23 rfl rfl ?_
    refine go_iconst (v := 0) d_Mo_book_24 (by decide) ?_
    refine go_iconst (v := 3) d_Mo_book_25 (by decide) ?_
    refine go_callV (y := yMo_isIn) (asr := [.inl x2, .inl 0, .inl 3]) (v := some (.inl (F_Mo_isIn x2 0 3 I1))) (I' := I1) (st1 := [.inl (F_Mo_isIn x2 0 3 I1)]) d_Mo_book_26 s_yMo_isIn m_Mo_157 a_M_0 rfl rfl rfl (Nat.le_of_ble_eq_true rfl) rfl rfl (c_Mo_isIn l (d0 + 0) x2 0 3 I1) ?_
    refine go_if_eq (tgt := 45) d_Mo_book_29 (by decide) (fun hc => ?_) (fun hc => ?_)
    · rw [if_pos hc] at h
      refine go_iconst (v := (-1)) d_Mo_book_45 (by decide) ?_
      cases h
      exact go_ireturn d_Mo_book_46 rfl gb_po_i
    · rw [if_neg hc] at h
      refine go_aload_n (k := 0) d_Mo_book_32 rfl rfl ?_
      refine go_getr (ci := 10) (k := 11) (r := 8) d_Mo_book_33 a_M_0 rfl (by decide) f_Mo_31 rfl ?_
      refine go_iconst (v := 4) d_Mo_book_36 (by decide) ?_
      refine go_iload_n (k := 1) d_Mo_book_37 rfl rfl ?_
      refine go_imul d_Mo_book_38 ?_
      refine go_iload_n (k := 2) d_Mo_book_39 rfl rfl ?_
      refine go_iadd d_Mo_book_40 ?_
      obtain ⟨hi, v2, ev2, h⟩ := flod_e h
      refine go_iald2 d_Mo_book_41 a_M_8 hi ev2 ?_
      refine go_goto (tgt := 46) d_Mo_book_42 (by decide) ?_
      cases h
      exact go_ireturn d_Mo_book_46 rfl gb_po_i
theorem d_Mo_canAct_0 : decode yMo_canAct.2.1 0 = .ok (.iload_n 1, 1) := by decide +kernel
theorem d_Mo_canAct_1 : decode yMo_canAct.2.1 1 = .ok (.ifCond .ne 46, 3) := by decide +kernel
theorem d_Mo_canAct_4 : decode yMo_canAct.2.1 4 = .ok (.aload_n 0, 1) := by decide +kernel
theorem d_Mo_canAct_5 : decode yMo_canAct.2.1 5 = .ok (.iload_n 2, 1) := by decide +kernel
theorem d_Mo_canAct_6 : decode yMo_canAct.2.1 6 = .ok (.invokevirtual 165, 3) := by decide +kernel
theorem d_Mo_canAct_9 : decode yMo_canAct.2.1 9 = .ok (.ifCond .eq 36, 3) := by decide +kernel
theorem d_Mo_canAct_12 : decode yMo_canAct.2.1 12 = .ok (.aload_n 0, 1) := by decide +kernel
theorem d_Mo_canAct_13 : decode yMo_canAct.2.1 13 = .ok (.iload_n 3, 1) := by decide +kernel
theorem d_Mo_canAct_14 : decode yMo_canAct.2.1 14 = .ok (.invokevirtual 161, 3) := by decide +kernel
theorem d_Mo_canAct_17 : decode yMo_canAct.2.1 17 = .ok (.ifCond .eq 28, 3) := by decide +kernel
theorem d_Mo_canAct_20 : decode yMo_canAct.2.1 20 = .ok (.aload_n 0, 1) := by decide +kernel
theorem d_Mo_canAct_21 : decode yMo_canAct.2.1 21 = .ok (.aload_n 0, 1) := by decide +kernel
theorem d_Mo_canAct_22 : decode yMo_canAct.2.1 22 = .ok (.aload_n 0, 1) := by decide +kernel
theorem d_Mo_canAct_23 : decode yMo_canAct.2.1 23 = .ok (.getfield 7, 3) := by decide +kernel
theorem d_Mo_canAct_26 : decode yMo_canAct.2.1 26 = .ok (.bipush 48, 2) := by decide +kernel
theorem d_Mo_canAct_28 : decode yMo_canAct.2.1 28 = .ok (.iload_n 2, 1) := by decide +kernel
theorem d_Mo_canAct_29 : decode yMo_canAct.2.1 29 = .ok (.iadd, 1) := by decide +kernel
theorem d_Mo_canAct_30 : decode yMo_canAct.2.1 30 = .ok (.iaload, 1) := by decide +kernel
theorem d_Mo_canAct_31 : decode yMo_canAct.2.1 31 = .ok (.invokevirtual 388, 3) := by decide +kernel
theorem d_Mo_canAct_34 : decode yMo_canAct.2.1 34 = .ok (.iload_n 3, 1) := by decide +kernel
theorem d_Mo_canAct_35 : decode yMo_canAct.2.1 35 = .ok (.invokevirtual 391, 3) := by decide +kernel
theorem d_Mo_canAct_38 : decode yMo_canAct.2.1 38 = .ok (.ifCond .eq 7, 3) := by decide +kernel
theorem d_Mo_canAct_41 : decode yMo_canAct.2.1 41 = .ok (.iconst 1, 1) := by decide +kernel
theorem d_Mo_canAct_42 : decode yMo_canAct.2.1 42 = .ok (.goto 4, 3) := by decide +kernel
theorem d_Mo_canAct_45 : decode yMo_canAct.2.1 45 = .ok (.iconst 0, 1) := by decide +kernel
theorem d_Mo_canAct_46 : decode yMo_canAct.2.1 46 = .ok (.ireturn, 1) := by decide +kernel
theorem d_Mo_canAct_47 : decode yMo_canAct.2.1 47 = .ok (.iload_n 1, 1) := by decide +kernel
theorem d_Mo_canAct_48 : decode yMo_canAct.2.1 48 = .ok (.iconst 1, 1) := by decide +kernel
theorem d_Mo_canAct_49 : decode yMo_canAct.2.1 49 = .ok (.if_icmp .ne 35, 3) := by decide +kernel
theorem d_Mo_canAct_52 : decode yMo_canAct.2.1 52 = .ok (.aload_n 0, 1) := by decide +kernel
theorem d_Mo_canAct_53 : decode yMo_canAct.2.1 53 = .ok (.iload_n 2, 1) := by decide +kernel
theorem d_Mo_canAct_54 : decode yMo_canAct.2.1 54 = .ok (.invokevirtual 165, 3) := by decide +kernel
theorem d_Mo_canAct_57 : decode yMo_canAct.2.1 57 = .ok (.ifCond .eq 25, 3) := by decide +kernel
theorem d_Mo_canAct_60 : decode yMo_canAct.2.1 60 = .ok (.aload_n 0, 1) := by decide +kernel
theorem d_Mo_canAct_61 : decode yMo_canAct.2.1 61 = .ok (.iload_n 3, 1) := by decide +kernel
theorem d_Mo_canAct_62 : decode yMo_canAct.2.1 62 = .ok (.iconst 1, 1) := by decide +kernel
theorem d_Mo_canAct_63 : decode yMo_canAct.2.1 63 = .ok (.aload_n 0, 1) := by decide +kernel
theorem d_Mo_canAct_64 : decode yMo_canAct.2.1 64 = .ok (.getfield 7, 3) := by decide +kernel
theorem d_Mo_canAct_67 : decode yMo_canAct.2.1 67 = .ok (.bipush 40, 2) := by decide +kernel
theorem d_Mo_canAct_69 : decode yMo_canAct.2.1 69 = .ok (.iload_n 2, 1) := by decide +kernel
theorem d_Mo_canAct_70 : decode yMo_canAct.2.1 70 = .ok (.iadd, 1) := by decide +kernel
theorem d_Mo_canAct_71 : decode yMo_canAct.2.1 71 = .ok (.iaload, 1) := by decide +kernel
theorem d_Mo_canAct_72 : decode yMo_canAct.2.1 72 = .ok (.invokevirtual 157, 3) := by decide +kernel
theorem d_Mo_canAct_75 : decode yMo_canAct.2.1 75 = .ok (.ifCond .eq 7, 3) := by decide +kernel
theorem d_Mo_canAct_78 : decode yMo_canAct.2.1 78 = .ok (.iconst 1, 1) := by decide +kernel
theorem d_Mo_canAct_79 : decode yMo_canAct.2.1 79 = .ok (.goto 4, 3) := by decide +kernel
theorem d_Mo_canAct_82 : decode yMo_canAct.2.1 82 = .ok (.iconst 0, 1) := by decide +kernel
theorem d_Mo_canAct_83 : decode yMo_canAct.2.1 83 = .ok (.ireturn, 1) := by decide +kernel
theorem d_Mo_canAct_84 : decode yMo_canAct.2.1 84 = .ok (.iload_n 1, 1) := by decide +kernel
theorem d_Mo_canAct_85 : decode yMo_canAct.2.1 85 = .ok (.iconst 2, 1) := by decide +kernel
theorem d_Mo_canAct_86 : decode yMo_canAct.2.1 86 = .ok (.if_icmp .ne 31, 3) := by decide +kernel
theorem d_Mo_canAct_89 : decode yMo_canAct.2.1 89 = .ok (.aload_n 0, 1) := by decide +kernel
theorem d_Mo_canAct_90 : decode yMo_canAct.2.1 90 = .ok (.iload_n 2, 1) := by decide +kernel
theorem d_Mo_canAct_91 : decode yMo_canAct.2.1 91 = .ok (.invokevirtual 161, 3) := by decide +kernel
theorem d_Mo_canAct_94 : decode yMo_canAct.2.1 94 = .ok (.ifCond .eq 19, 3) := by decide +kernel
theorem d_Mo_canAct_97 : decode yMo_canAct.2.1 97 = .ok (.aload_n 0, 1) := by decide +kernel
theorem d_Mo_canAct_98 : decode yMo_canAct.2.1 98 = .ok (.getfield 7, 3) := by decide +kernel
theorem d_Mo_canAct_101 : decode yMo_canAct.2.1 101 = .ok (.bipush 18, 2) := by decide +kernel
theorem d_Mo_canAct_103 : decode yMo_canAct.2.1 103 = .ok (.iload_n 2, 1) := by decide +kernel
theorem d_Mo_canAct_104 : decode yMo_canAct.2.1 104 = .ok (.iadd, 1) := by decide +kernel
theorem d_Mo_canAct_105 : decode yMo_canAct.2.1 105 = .ok (.iaload, 1) := by decide +kernel
theorem d_Mo_canAct_106 : decode yMo_canAct.2.1 106 = .ok (.ifCond .le 7, 3) := by decide +kernel
theorem d_Mo_canAct_109 : decode yMo_canAct.2.1 109 = .ok (.iconst 1, 1) := by decide +kernel
theorem d_Mo_canAct_110 : decode yMo_canAct.2.1 110 = .ok (.goto 28, 3) := by decide +kernel
theorem d_Mo_canAct_113 : decode yMo_canAct.2.1 113 = .ok (.iconst 0, 1) := by decide +kernel
theorem d_Mo_canAct_114 : decode yMo_canAct.2.1 114 = .ok (.goto 24, 3) := by decide +kernel
theorem d_Mo_canAct_117 : decode yMo_canAct.2.1 117 = .ok (.iload_n 1, 1) := by decide +kernel
theorem d_Mo_canAct_118 : decode yMo_canAct.2.1 118 = .ok (.iconst 3, 1) := by decide +kernel
theorem d_Mo_canAct_119 : decode yMo_canAct.2.1 119 = .ok (.if_icmp .ne 18, 3) := by decide +kernel
theorem d_Mo_canAct_122 : decode yMo_canAct.2.1 122 = .ok (.aload_n 0, 1) := by decide +kernel
theorem d_Mo_canAct_123 : decode yMo_canAct.2.1 123 = .ok (.iload_n 3, 1) := by decide +kernel
theorem d_Mo_canAct_124 : decode yMo_canAct.2.1 124 = .ok (.iconst 1, 1) := by decide +kernel
theorem d_Mo_canAct_125 : decode yMo_canAct.2.1 125 = .ok (.bipush 9, 2) := by decide +kernel
theorem d_Mo_canAct_127 : decode yMo_canAct.2.1 127 = .ok (.invokevirtual 157, 3) := by decide +kernel
theorem d_Mo_canAct_130 : decode yMo_canAct.2.1 130 = .ok (.ifCond .eq 7, 3) := by decide +kernel
theorem d_Mo_canAct_133 : decode yMo_canAct.2.1 133 = .ok (.iconst 1, 1) := by decide +kernel
theorem d_Mo_canAct_134 : decode yMo_canAct.2.1 134 = .ok (.goto 4, 3) := by decide +kernel
theorem d_Mo_canAct_137 : decode yMo_canAct.2.1 137 = .ok (.iconst 0, 1) := by decide +kernel
theorem d_Mo_canAct_138 : decode yMo_canAct.2.1 138 = .ok (.ireturn, 1) := by decide +kernel
def J_Mo_canAct_113 (I : gb_Mem) : Option (Int32) :=
  some 0
set_option maxRecDepth 4000 in
theorem j_Mo_canAct_113 (l : Launch) (d0 : Nat) (I : gb_Mem) {rz : Int32} (h : J_Mo_canAct_113 I = some rz) : gb_Go l yMo_canAct (d0 + 1) 0 0 113 [] [] shM I (gb_po shM (some (.inl rz)) I) := by
  unfold J_Mo_canAct_113 at h
  refine go_iconst (v := 0) d_Mo_canAct_113 (by decide) ?_
  refine go_goto (tgt := 138) d_Mo_canAct_114 (by decide) ?_
  cases h
  exact go_zreturn d_Mo_canAct_138 rfl (Or.inl rfl) gb_po_i
def F_Mo_canAct (x1 x2 x3 : Int32) (I : gb_Mem) : Option (Int32) :=
  if x1 = 0 then
    if (F_Mo_isBoat x2 I) = 0 then
      some 0
    else
      if (F_Mo_isSeat x3 I) = 0 then
        some 0
      else
        flod I 1 80 (48 + x2) fun v3 =>
        fbd (F_Mo_reachOf v3 I) fun r4 =>
        if (F_Mo_has r4 x3 I) = 0 then
          some 0
        else
          some 1
  else
    if x1 = 1 then
      if (F_Mo_isBoat x2 I) = 0 then
        some 0
      else
        flod I 1 80 (40 + x2) fun v2 =>
        if (F_Mo_isIn x3 1 v2 I) = 0 then
          some 0
        else
          some 1
    else
      if x1 = 2 then
        if (F_Mo_isSeat x2 I) = 0 then
          J_Mo_canAct_113 I
        else
          flod I 1 80 (18 + x2) fun v1 =>
          if v1 ≤ 0 then
            J_Mo_canAct_113 I
          else
            some 1
      else
        if x1 = 3 then
          if (F_Mo_isIn x3 1 9 I) = 0 then
            some 0
          else
            some 1
        else
          some 0
set_option maxRecDepth 4000 in
theorem c_Mo_canAct (l : Launch) (d0 : Nat) (x1 x2 x3 : Int32) (I : gb_Mem) {rz : Int32} (h : F_Mo_canAct x1 x2 x3 I = some rz) : gb_Cs l yMo_canAct (d0 + 1) [.inr (some 0), .inl x1, .inl x2, .inl x3] shM I (some (.inl rz)) I := by
  refine gb_Ct.of (lv := [(0, .inr (some 0)), (1, .inl x1), (2, .inl x2), (3, .inl x3)]) rfl (Nat.le_of_ble_eq_true rfl) rfl ?_
  unfold F_Mo_canAct at h
  show gb_Go l yMo_canAct (d0 + 1) 0 0 0 [(0, .inr (some 0)), (1, .inl x1), (2, .inl x2), (3, .inl x3)] [] shM I (gb_po shM (some (.inl rz)) I)
  refine go_iload_n (k := 1) d_Mo_canAct_0 rfl rfl ?_
  refine go_if_ne (tgt := 47) d_Mo_canAct_1 (by decide) (fun hc => ?_) (fun hc => ?_)
  · rw [if_neg hc] at h
    refine go_iload_n (k := 1) d_Mo_canAct_47 rfl rfl ?_
    refine go_iconst (v := 1) d_Mo_canAct_48 (by decide) ?_
    refine go_cmp_ne (tgt := 84) d_Mo_canAct_49 (by decide) (fun hc => ?_) (fun hc => ?_)
    · rw [if_neg hc] at h
      refine go_iload_n (k := 1) d_Mo_canAct_84 rfl rfl ?_
      refine go_iconst (v := 2) d_Mo_canAct_85 (by decide) ?_
      refine go_cmp_ne (tgt := 117) d_Mo_canAct_86 (by decide) (fun hc => ?_) (fun hc => ?_)
      · rw [if_neg hc] at h
        refine go_iload_n (k := 1) d_Mo_canAct_117 rfl rfl ?_
        refine go_iconst (v := 3) d_Mo_canAct_118 (by decide) ?_
        refine go_cmp_ne (tgt := 137) d_Mo_canAct_119 (by decide) (fun hc => ?_) (fun hc => ?_)
        · rw [if_neg hc] at h
          refine go_iconst (v := 0) d_Mo_canAct_137 (by decide) ?_
          cases h
          exact go_zreturn d_Mo_canAct_138 rfl (Or.inl rfl) gb_po_i
        · rw [if_pos hc] at h
          refine go_aload_n (k := 0) d_Mo_canAct_122 rfl rfl ?_
          refine go_iload_n (k := 3) d_Mo_canAct_123 rfl rfl ?_
          refine go_iconst (v := 1) d_Mo_canAct_124 (by decide) ?_
          refine go_bipush (v := 9) d_Mo_canAct_125 (by decide) ?_
          refine go_callV (y := yMo_isIn) (asr := [.inl x3, .inl 1, .inl 9]) (v := some (.inl (F_Mo_isIn x3 1 9 I))) (I' := I) (st1 := [.inl (F_Mo_isIn x3 1 9 I)]) d_Mo_canAct_127 s_yMo_isIn m_Mo_157 a_M_0 rfl rfl rfl (Nat.le_of_ble_eq_true rfl) rfl rfl (c_Mo_isIn l (d0 + 0) x3 1 9 I) ?_
          refine go_if_eq (tgt := 137) d_Mo_canAct_130 (by decide) (fun hc => ?_) (fun hc => ?_)
          · rw [if_pos hc] at h
            refine go_iconst (v := 0) d_Mo_canAct_137 (by decide) ?_
            cases h
            exact go_zreturn d_Mo_canAct_138 rfl (Or.inl rfl) gb_po_i
          · rw [if_neg hc] at h
            refine go_iconst (v := 1) d_Mo_canAct_133 (by decide) ?_
            refine go_goto (tgt := 138) d_Mo_canAct_134 (by decide) ?_
            cases h
            exact go_zreturn d_Mo_canAct_138 rfl (Or.inr rfl) gb_po_i
      · rw [if_pos hc] at h
        refine go_aload_n (k := 0) d_Mo_canAct_89 rfl rfl ?_
        refine go_iload_n (k := 2) d_Mo_canAct_90 rfl rfl ?_
        refine go_callV (y := yMo_isSeat) (asr := [.inl x2]) (v := some (.inl (F_Mo_isSeat x2 I))) (I' := I) (st1 := [.inl (F_Mo_isSeat x2 I)]) d_Mo_canAct_91 s_yMo_isSeat m_Mo_161 a_M_0 rfl rfl rfl (Nat.le_of_ble_eq_true rfl) rfl rfl (c_Mo_isSeat l (d0 + 0) x2 I) ?_
        refine go_if_eq (tgt := 113) d_Mo_canAct_94 (by decide) (fun hc => ?_) (fun hc => ?_)
        · rw [if_pos hc] at h
          exact go_lv [] rfl (j_Mo_canAct_113 l d0 I h)
        · rw [if_neg hc] at h
          refine go_aload_n (k := 0) d_Mo_canAct_97 rfl rfl ?_
          refine go_getr (ci := 10) (k := 1) (r := 1) d_Mo_canAct_98 a_M_0 rfl (by decide) f_Mo_7 rfl ?_
          refine go_bipush (v := 18) d_Mo_canAct_101 (by decide) ?_
          refine go_iload_n (k := 2) d_Mo_canAct_103 rfl rfl ?_
          refine go_iadd d_Mo_canAct_104 ?_
          obtain ⟨hi, v1, ev1, h⟩ := flod_e h
          refine go_iald2 d_Mo_canAct_105 a_M_1 hi ev1 ?_
          refine go_if_le (tgt := 113) d_Mo_canAct_106 (by decide) (fun hc => ?_) (fun hc => ?_)
          · rw [if_pos hc] at h
            exact go_lv [] rfl (j_Mo_canAct_113 l d0 I h)
          · rw [if_neg hc] at h
            refine go_iconst (v := 1) d_Mo_canAct_109 (by decide) ?_
            refine go_goto (tgt := 138) d_Mo_canAct_110 (by decide) ?_
            cases h
            exact go_zreturn d_Mo_canAct_138 rfl (Or.inr rfl) gb_po_i
    · rw [if_pos hc] at h
      refine go_aload_n (k := 0) d_Mo_canAct_52 rfl rfl ?_
      refine go_iload_n (k := 2) d_Mo_canAct_53 rfl rfl ?_
      refine go_callV (y := yMo_isBoat) (asr := [.inl x2]) (v := some (.inl (F_Mo_isBoat x2 I))) (I' := I) (st1 := [.inl (F_Mo_isBoat x2 I)]) d_Mo_canAct_54 s_yMo_isBoat m_Mo_165 a_M_0 rfl rfl rfl (Nat.le_of_ble_eq_true rfl) rfl rfl (c_Mo_isBoat l (d0 + 0) x2 I) ?_
      refine go_if_eq (tgt := 82) d_Mo_canAct_57 (by decide) (fun hc => ?_) (fun hc => ?_)
      · rw [if_pos hc] at h
        refine go_iconst (v := 0) d_Mo_canAct_82 (by decide) ?_
        cases h
        exact go_zreturn d_Mo_canAct_83 rfl (Or.inl rfl) gb_po_i
      · rw [if_neg hc] at h
        refine go_aload_n (k := 0) d_Mo_canAct_60 rfl rfl ?_
        refine go_iload_n (k := 3) d_Mo_canAct_61 rfl rfl ?_
        refine go_iconst (v := 1) d_Mo_canAct_62 (by decide) ?_
        refine go_aload_n (k := 0) d_Mo_canAct_63 rfl rfl ?_
        refine go_getr (ci := 10) (k := 1) (r := 1) d_Mo_canAct_64 a_M_0 rfl (by decide) f_Mo_7 rfl ?_
        refine go_bipush (v := 40) d_Mo_canAct_67 (by decide) ?_
        refine go_iload_n (k := 2) d_Mo_canAct_69 rfl rfl ?_
        refine go_iadd d_Mo_canAct_70 ?_
        obtain ⟨hi, v2, ev2, h⟩ := flod_e h
        refine go_iald2 d_Mo_canAct_71 a_M_1 hi ev2 ?_
        refine go_callV (y := yMo_isIn) (asr := [.inl x3, .inl 1, .inl v2]) (v := some (.inl (F_Mo_isIn x3 1 v2 I))) (I' := I) (st1 := [.inl (F_Mo_isIn x3 1 v2 I)]) d_Mo_canAct_72 s_yMo_isIn m_Mo_157 a_M_0 rfl rfl rfl (Nat.le_of_ble_eq_true rfl) rfl rfl (c_Mo_isIn l (d0 + 0) x3 1 v2 I) ?_
        refine go_if_eq (tgt := 82) d_Mo_canAct_75 (by decide) (fun hc => ?_) (fun hc => ?_)
        · rw [if_pos hc] at h
          refine go_iconst (v := 0) d_Mo_canAct_82 (by decide) ?_
          cases h
          exact go_zreturn d_Mo_canAct_83 rfl (Or.inl rfl) gb_po_i
        · rw [if_neg hc] at h
          refine go_iconst (v := 1) d_Mo_canAct_78 (by decide) ?_
          refine go_goto (tgt := 83) d_Mo_canAct_79 (by decide) ?_
          cases h
          exact go_zreturn d_Mo_canAct_83 rfl (Or.inr rfl) gb_po_i
  · rw [if_pos hc] at h
    refine go_aload_n (k := 0) d_Mo_canAct_4 rfl rfl ?_
    refine go_iload_n (k := 2) d_Mo_canAct_5 rfl rfl ?_
    refine go_callV (y := yMo_isBoat) (asr := [.inl x2]) (v := some (.inl (F_Mo_isBoat x2 I))) (I' := I) (st1 := [.inl (F_Mo_isBoat x2 I)]) d_Mo_canAct_6 s_yMo_isBoat m_Mo_165 a_M_0 rfl rfl rfl (Nat.le_of_ble_eq_true rfl) rfl rfl (c_Mo_isBoat l (d0 + 0) x2 I) ?_
    refine go_if_eq (tgt := 45) d_Mo_canAct_9 (by decide) (fun hc => ?_) (fun hc => ?_)
    · rw [if_pos hc] at h
      refine go_iconst (v := 0) d_Mo_canAct_45 (by decide) ?_
      cases h
      exact go_zreturn d_Mo_canAct_46 rfl (Or.inl rfl) gb_po_i
    · rw [if_neg hc] at h
      refine go_aload_n (k := 0) d_Mo_canAct_12 rfl rfl ?_
      refine go_iload_n (k := 3) d_Mo_canAct_13 rfl rfl ?_
      refine go_callV (y := yMo_isSeat) (asr := [.inl x3]) (v := some (.inl (F_Mo_isSeat x3 I))) (I' := I) (st1 := [.inl (F_Mo_isSeat x3 I)]) d_Mo_canAct_14 s_yMo_isSeat m_Mo_161 a_M_0 rfl rfl rfl (Nat.le_of_ble_eq_true rfl) rfl rfl (c_Mo_isSeat l (d0 + 0) x3 I) ?_
      refine go_if_eq (tgt := 45) d_Mo_canAct_17 (by decide) (fun hc => ?_) (fun hc => ?_)
      · rw [if_pos hc] at h
        refine go_iconst (v := 0) d_Mo_canAct_45 (by decide) ?_
        cases h
        exact go_zreturn d_Mo_canAct_46 rfl (Or.inl rfl) gb_po_i
      · rw [if_neg hc] at h
        refine go_aload_n (k := 0) d_Mo_canAct_20 rfl rfl ?_
        refine go_aload_n (k := 0) d_Mo_canAct_21 rfl rfl ?_
        refine go_aload_n (k := 0) d_Mo_canAct_22 rfl rfl ?_
        refine go_getr (ci := 10) (k := 1) (r := 1) d_Mo_canAct_23 a_M_0 rfl (by decide) f_Mo_7 rfl ?_
        refine go_bipush (v := 48) d_Mo_canAct_26 (by decide) ?_
        refine go_iload_n (k := 2) d_Mo_canAct_28 rfl rfl ?_
        refine go_iadd d_Mo_canAct_29 ?_
        obtain ⟨hi, v3, ev3, h⟩ := flod_e h
        refine go_iald2 d_Mo_canAct_30 a_M_1 hi ev3 ?_
        obtain ⟨r4, w1, h⟩ := fbd_e h
        refine go_callV (y := yMo_reachOf) (asr := [.inl v3]) (v := some (.inl r4)) (I' := I) (st1 := [.inl r4, .inr (some 0)]) d_Mo_canAct_31 s_yMo_reachOf m_Mo_388 a_M_0 rfl rfl rfl (Nat.le_of_ble_eq_true rfl) rfl rfl (c_Mo_reachOf l (d0 + 0) v3 I w1) ?_
        refine go_iload_n (k := 3) d_Mo_canAct_34 rfl rfl ?_
        refine go_callV (y := yMo_has) (asr := [.inl r4, .inl x3]) (v := some (.inl (F_Mo_has r4 x3 I))) (I' := I) (st1 := [.inl (F_Mo_has r4 x3 I)]) d_Mo_canAct_35 s_yMo_has m_Mo_391 a_M_0 rfl rfl rfl (Nat.le_of_ble_eq_true rfl) rfl rfl (c_Mo_has l (d0 + 0) r4 x3 I) ?_
        refine go_if_eq (tgt := 45) d_Mo_canAct_38 (by decide) (fun hc => ?_) (fun hc => ?_)
        · rw [if_pos hc] at h
          refine go_iconst (v := 0) d_Mo_canAct_45 (by decide) ?_
          cases h
          exact go_zreturn d_Mo_canAct_46 rfl (Or.inl rfl) gb_po_i
        · rw [if_neg hc] at h
          refine go_iconst (v := 1) d_Mo_canAct_41 (by decide) ?_
          refine go_goto (tgt := 46) d_Mo_canAct_42 (by decide) ?_
          cases h
          exact go_zreturn d_Mo_canAct_46 rfl (Or.inr rfl) gb_po_i
theorem d_Mo_canAsk_0 : decode yMo_canAsk.2.1 0 = .ok (.aload_n 0, 1) := by decide +kernel
theorem d_Mo_canAsk_1 : decode yMo_canAsk.2.1 1 = .ok (.iload_n 1, 1) := by decide +kernel
theorem d_Mo_canAsk_2 : decode yMo_canAsk.2.1 2 = .ok (.bipush 7, 2) := by decide +kernel
theorem d_Mo_canAsk_4 : decode yMo_canAsk.2.1 4 = .ok (.bipush 18, 2) := by decide +kernel
theorem d_Mo_canAsk_6 : decode yMo_canAsk.2.1 6 = .ok (.invokevirtual 157, 3) := by decide +kernel
theorem d_Mo_canAsk_9 : decode yMo_canAsk.2.1 9 = .ok (.ireturn, 1) := by decide +kernel
def F_Mo_canAsk (x1 : Int32) (I : gb_Mem) : Int32 :=
  F_Mo_isIn x1 7 18 I
set_option maxRecDepth 4000 in
theorem c_Mo_canAsk (l : Launch) (d0 : Nat) (x1 : Int32) (I : gb_Mem)  : gb_Cs l yMo_canAsk (d0 + 1) [.inr (some 0), .inl x1] shM I (some (.inl (F_Mo_canAsk x1 I))) I := by
  refine gb_Ct.of (lv := [(0, .inr (some 0)), (1, .inl x1)]) rfl (Nat.le_of_ble_eq_true rfl) rfl ?_
  generalize h : F_Mo_canAsk x1 I = rz
  unfold F_Mo_canAsk at h
  show gb_Go l yMo_canAsk (d0 + 1) 0 0 0 [(0, .inr (some 0)), (1, .inl x1)] [] shM I (gb_po shM (some (.inl rz)) I)
  refine go_aload_n (k := 0) d_Mo_canAsk_0 rfl rfl ?_
  refine go_iload_n (k := 1) d_Mo_canAsk_1 rfl rfl ?_
  refine go_bipush (v := 7) d_Mo_canAsk_2 (by decide) ?_
  refine go_bipush (v := 18) d_Mo_canAsk_4 (by decide) ?_
  refine go_callV (y := yMo_isIn) (asr := [.inl x1, .inl 7, .inl 18]) (v := some (.inl (F_Mo_isIn x1 7 18 I))) (I' := I) (st1 := [.inl (F_Mo_isIn x1 7 18 I)]) d_Mo_canAsk_6 s_yMo_isIn m_Mo_157 a_M_0 rfl rfl rfl (Nat.le_of_ble_eq_true rfl) rfl rfl (c_Mo_isIn l (d0 + 0) x1 7 18 I) ?_
  subst h
  exact go_zreturn d_Mo_canAsk_9 rfl (zb_Mo_isIn x1 7 18 I) gb_po_i
theorem zb_Mo_canAsk (x1 : Int32) (I : gb_Mem) : F_Mo_canAsk x1 I = 0 ∨ F_Mo_canAsk x1 I = 1 := by
  unfold F_Mo_canAsk
  repeat' split
  all_goals first | exact Or.inl rfl | exact Or.inr rfl | exact zb_Mo_isIn _ _ _ _
theorem d_Mo_canSet_0 : decode yMo_canSet.2.1 0 = .ok (.iload_n 1, 1) := by decide +kernel
theorem d_Mo_canSet_1 : decode yMo_canSet.2.1 1 = .ok (.bipush 7, 2) := by decide +kernel
theorem d_Mo_canSet_3 : decode yMo_canSet.2.1 3 = .ok (.if_icmp .ne 12, 3) := by decide +kernel
theorem d_Mo_canSet_6 : decode yMo_canSet.2.1 6 = .ok (.aload_n 0, 1) := by decide +kernel
theorem d_Mo_canSet_7 : decode yMo_canSet.2.1 7 = .ok (.iload_n 3, 1) := by decide +kernel
theorem d_Mo_canSet_8 : decode yMo_canSet.2.1 8 = .ok (.iconst 0, 1) := by decide +kernel
theorem d_Mo_canSet_9 : decode yMo_canSet.2.1 9 = .ok (.bipush 9, 2) := by decide +kernel
theorem d_Mo_canSet_11 : decode yMo_canSet.2.1 11 = .ok (.invokevirtual 157, 3) := by decide +kernel
theorem d_Mo_canSet_14 : decode yMo_canSet.2.1 14 = .ok (.ireturn, 1) := by decide +kernel
theorem d_Mo_canSet_15 : decode yMo_canSet.2.1 15 = .ok (.iload_n 1, 1) := by decide +kernel
theorem d_Mo_canSet_16 : decode yMo_canSet.2.1 16 = .ok (.iconst 5, 1) := by decide +kernel
theorem d_Mo_canSet_17 : decode yMo_canSet.2.1 17 = .ok (.if_icmp .eq 9, 3) := by decide +kernel
theorem d_Mo_canSet_20 : decode yMo_canSet.2.1 20 = .ok (.iload_n 1, 1) := by decide +kernel
theorem d_Mo_canSet_21 : decode yMo_canSet.2.1 21 = .ok (.bipush 6, 2) := by decide +kernel
theorem d_Mo_canSet_23 : decode yMo_canSet.2.1 23 = .ok (.if_icmp .ne 38, 3) := by decide +kernel
theorem d_Mo_canSet_26 : decode yMo_canSet.2.1 26 = .ok (.aload_n 0, 1) := by decide +kernel
theorem d_Mo_canSet_27 : decode yMo_canSet.2.1 27 = .ok (.iload_n 2, 1) := by decide +kernel
theorem d_Mo_canSet_28 : decode yMo_canSet.2.1 28 = .ok (.invokevirtual 165, 3) := by decide +kernel
theorem d_Mo_canSet_31 : decode yMo_canSet.2.1 31 = .ok (.ifCond .eq 28, 3) := by decide +kernel
theorem d_Mo_canSet_34 : decode yMo_canSet.2.1 34 = .ok (.aload_n 0, 1) := by decide +kernel
theorem d_Mo_canSet_35 : decode yMo_canSet.2.1 35 = .ok (.iload_n 3, 1) := by decide +kernel
theorem d_Mo_canSet_36 : decode yMo_canSet.2.1 36 = .ok (.iconst 0, 1) := by decide +kernel
theorem d_Mo_canSet_37 : decode yMo_canSet.2.1 37 = .ok (.iload_n 1, 1) := by decide +kernel
theorem d_Mo_canSet_38 : decode yMo_canSet.2.1 38 = .ok (.iconst 5, 1) := by decide +kernel
theorem d_Mo_canSet_39 : decode yMo_canSet.2.1 39 = .ok (.if_icmp .ne 8, 3) := by decide +kernel
theorem d_Mo_canSet_42 : decode yMo_canSet.2.1 42 = .ok (.bipush 99, 2) := by decide +kernel
theorem d_Mo_canSet_44 : decode yMo_canSet.2.1 44 = .ok (.goto 5, 3) := by decide +kernel
theorem d_Mo_canSet_47 : decode yMo_canSet.2.1 47 = .ok (.bipush 9, 2) := by decide +kernel
theorem d_Mo_canSet_49 : decode yMo_canSet.2.1 49 = .ok (.invokevirtual 157, 3) := by decide +kernel
theorem d_Mo_canSet_52 : decode yMo_canSet.2.1 52 = .ok (.ifCond .eq 7, 3) := by decide +kernel
theorem d_Mo_canSet_55 : decode yMo_canSet.2.1 55 = .ok (.iconst 1, 1) := by decide +kernel
theorem d_Mo_canSet_56 : decode yMo_canSet.2.1 56 = .ok (.goto 4, 3) := by decide +kernel
theorem d_Mo_canSet_59 : decode yMo_canSet.2.1 59 = .ok (.iconst 0, 1) := by decide +kernel
theorem d_Mo_canSet_60 : decode yMo_canSet.2.1 60 = .ok (.ireturn, 1) := by decide +kernel
theorem d_Mo_canSet_61 : decode yMo_canSet.2.1 61 = .ok (.aload_n 0, 1) := by decide +kernel
theorem d_Mo_canSet_62 : decode yMo_canSet.2.1 62 = .ok (.iload_n 1, 1) := by decide +kernel
theorem d_Mo_canSet_63 : decode yMo_canSet.2.1 63 = .ok (.iconst 0, 1) := by decide +kernel
theorem d_Mo_canSet_64 : decode yMo_canSet.2.1 64 = .ok (.iconst 4, 1) := by decide +kernel
theorem d_Mo_canSet_65 : decode yMo_canSet.2.1 65 = .ok (.invokevirtual 157, 3) := by decide +kernel
theorem d_Mo_canSet_68 : decode yMo_canSet.2.1 68 = .ok (.ifCond .eq 11, 3) := by decide +kernel
theorem d_Mo_canSet_71 : decode yMo_canSet.2.1 71 = .ok (.aload_n 0, 1) := by decide +kernel
theorem d_Mo_canSet_72 : decode yMo_canSet.2.1 72 = .ok (.iload_n 2, 1) := by decide +kernel
theorem d_Mo_canSet_73 : decode yMo_canSet.2.1 73 = .ok (.invokevirtual 161, 3) := by decide +kernel
theorem d_Mo_canSet_76 : decode yMo_canSet.2.1 76 = .ok (.ifCond .ne 5, 3) := by decide +kernel
theorem d_Mo_canSet_79 : decode yMo_canSet.2.1 79 = .ok (.iconst 0, 1) := by decide +kernel
theorem d_Mo_canSet_80 : decode yMo_canSet.2.1 80 = .ok (.ireturn, 1) := by decide +kernel
theorem d_Mo_canSet_81 : decode yMo_canSet.2.1 81 = .ok (.aload_n 0, 1) := by decide +kernel
theorem d_Mo_canSet_82 : decode yMo_canSet.2.1 82 = .ok (.iload_n 3, 1) := by decide +kernel
theorem d_Mo_canSet_83 : decode yMo_canSet.2.1 83 = .ok (.iload_n 1, 1) := by decide +kernel
theorem d_Mo_canSet_84 : decode yMo_canSet.2.1 84 = .ok (.iconst 2, 1) := by decide +kernel
theorem d_Mo_canSet_85 : decode yMo_canSet.2.1 85 = .ok (.if_icmp .ne 8, 3) := by decide +kernel
theorem d_Mo_canSet_88 : decode yMo_canSet.2.1 88 = .ok (.bipush (-9), 2) := by decide +kernel
theorem d_Mo_canSet_90 : decode yMo_canSet.2.1 90 = .ok (.goto 4, 3) := by decide +kernel
theorem d_Mo_canSet_93 : decode yMo_canSet.2.1 93 = .ok (.iconst 0, 1) := by decide +kernel
theorem d_Mo_canSet_94 : decode yMo_canSet.2.1 94 = .ok (.iload_n 1, 1) := by decide +kernel
theorem d_Mo_canSet_95 : decode yMo_canSet.2.1 95 = .ok (.iconst 3, 1) := by decide +kernel
theorem d_Mo_canSet_96 : decode yMo_canSet.2.1 96 = .ok (.if_icmp .ne 7, 3) := by decide +kernel
theorem d_Mo_canSet_99 : decode yMo_canSet.2.1 99 = .ok (.iconst 1, 1) := by decide +kernel
theorem d_Mo_canSet_100 : decode yMo_canSet.2.1 100 = .ok (.goto 16, 3) := by decide +kernel
theorem d_Mo_canSet_103 : decode yMo_canSet.2.1 103 = .ok (.iload_n 1, 1) := by decide +kernel
theorem d_Mo_canSet_104 : decode yMo_canSet.2.1 104 = .ok (.iconst 4, 1) := by decide +kernel
theorem d_Mo_canSet_105 : decode yMo_canSet.2.1 105 = .ok (.if_icmp .ne 9, 3) := by decide +kernel
theorem d_Mo_canSet_108 : decode yMo_canSet.2.1 108 = .ok (.sipush 999, 3) := by decide +kernel
theorem d_Mo_canSet_111 : decode yMo_canSet.2.1 111 = .ok (.goto 5, 3) := by decide +kernel
theorem d_Mo_canSet_114 : decode yMo_canSet.2.1 114 = .ok (.bipush 9, 2) := by decide +kernel
theorem d_Mo_canSet_116 : decode yMo_canSet.2.1 116 = .ok (.invokevirtual 157, 3) := by decide +kernel
theorem d_Mo_canSet_119 : decode yMo_canSet.2.1 119 = .ok (.ireturn, 1) := by decide +kernel
def J_Mo_canSet_49 (s0 s1 s2 : Int32) (I : gb_Mem) : Int32 :=
  if (F_Mo_isIn s2 s1 s0 I) = 0 then
    0
  else
    1
set_option maxRecDepth 4000 in
theorem j_Mo_canSet_49 (l : Launch) (d0 : Nat) (s0 s1 s2 : Int32) (I : gb_Mem) {rz : Int32} (h : J_Mo_canSet_49 s0 s1 s2 I = rz) : gb_Go l yMo_canSet (d0 + 1) 0 0 49 [] [.inl s0, .inl s1, .inl s2, .inr (some 0)] shM I (gb_po shM (some (.inl rz)) I) := by
  unfold J_Mo_canSet_49 at h
  refine go_callV (y := yMo_isIn) (asr := [.inl s2, .inl s1, .inl s0]) (v := some (.inl (F_Mo_isIn s2 s1 s0 I))) (I' := I) (st1 := [.inl (F_Mo_isIn s2 s1 s0 I)]) d_Mo_canSet_49 s_yMo_isIn m_Mo_157 a_M_0 rfl rfl rfl (Nat.le_of_ble_eq_true rfl) rfl rfl (c_Mo_isIn l (d0 + 0) s2 s1 s0 I) ?_
  refine go_if_eq (tgt := 59) d_Mo_canSet_52 (by decide) (fun hc => ?_) (fun hc => ?_)
  · rw [if_pos hc] at h
    refine go_iconst (v := 0) d_Mo_canSet_59 (by decide) ?_
    subst h
    exact go_zreturn d_Mo_canSet_60 rfl (Or.inl rfl) gb_po_i
  · rw [if_neg hc] at h
    refine go_iconst (v := 1) d_Mo_canSet_55 (by decide) ?_
    refine go_goto (tgt := 60) d_Mo_canSet_56 (by decide) ?_
    subst h
    exact go_zreturn d_Mo_canSet_60 rfl (Or.inr rfl) gb_po_i
def J_Mo_canSet_26 (x1 x2 x3 : Int32) (I : gb_Mem) : Int32 :=
  if (F_Mo_isBoat x2 I) = 0 then
    0
  else
    if x1 = 5 then
      J_Mo_canSet_49 99 0 x3 I
    else
      J_Mo_canSet_49 9 0 x3 I
set_option maxRecDepth 4000 in
theorem j_Mo_canSet_26 (l : Launch) (d0 : Nat) (x1 x2 x3 : Int32) (I : gb_Mem) {rz : Int32} (h : J_Mo_canSet_26 x1 x2 x3 I = rz) : gb_Go l yMo_canSet (d0 + 1) 0 0 26 [(0, .inr (some 0)), (1, .inl x1), (2, .inl x2), (3, .inl x3)] [] shM I (gb_po shM (some (.inl rz)) I) := by
  unfold J_Mo_canSet_26 at h
  refine go_aload_n (k := 0) d_Mo_canSet_26 rfl rfl ?_
  refine go_iload_n (k := 2) d_Mo_canSet_27 rfl rfl ?_
  refine go_callV (y := yMo_isBoat) (asr := [.inl x2]) (v := some (.inl (F_Mo_isBoat x2 I))) (I' := I) (st1 := [.inl (F_Mo_isBoat x2 I)]) d_Mo_canSet_28 s_yMo_isBoat m_Mo_165 a_M_0 rfl rfl rfl (Nat.le_of_ble_eq_true rfl) rfl rfl (c_Mo_isBoat l (d0 + 0) x2 I) ?_
  refine go_if_eq (tgt := 59) d_Mo_canSet_31 (by decide) (fun hc => ?_) (fun hc => ?_)
  · rw [if_pos hc] at h
    refine go_iconst (v := 0) d_Mo_canSet_59 (by decide) ?_
    subst h
    exact go_zreturn d_Mo_canSet_60 rfl (Or.inl rfl) gb_po_i
  · rw [if_neg hc] at h
    refine go_aload_n (k := 0) d_Mo_canSet_34 rfl rfl ?_
    refine go_iload_n (k := 3) d_Mo_canSet_35 rfl rfl ?_
    refine go_iconst (v := 0) d_Mo_canSet_36 (by decide) ?_
    refine go_iload_n (k := 1) d_Mo_canSet_37 rfl rfl ?_
    refine go_iconst (v := 5) d_Mo_canSet_38 (by decide) ?_
    refine go_cmp_ne (tgt := 47) d_Mo_canSet_39 (by decide) (fun hc => ?_) (fun hc => ?_)
    · rw [if_neg hc] at h
      refine go_bipush (v := 9) d_Mo_canSet_47 (by decide) ?_
      exact go_lv [] rfl (j_Mo_canSet_49 l d0 9 0 x3 I h)
    · rw [if_pos hc] at h
      refine go_bipush (v := 99) d_Mo_canSet_42 (by decide) ?_
      refine go_goto (tgt := 49) d_Mo_canSet_44 (by decide) ?_
      exact go_lv [] rfl (j_Mo_canSet_49 l d0 99 0 x3 I h)
def J_Mo_canSet_116 (s0 s1 s2 : Int32) (I : gb_Mem) : Int32 :=
  F_Mo_isIn s2 s1 s0 I
set_option maxRecDepth 4000 in
theorem j_Mo_canSet_116 (l : Launch) (d0 : Nat) (s0 s1 s2 : Int32) (I : gb_Mem) {rz : Int32} (h : J_Mo_canSet_116 s0 s1 s2 I = rz) : gb_Go l yMo_canSet (d0 + 1) 0 0 116 [] [.inl s0, .inl s1, .inl s2, .inr (some 0)] shM I (gb_po shM (some (.inl rz)) I) := by
  unfold J_Mo_canSet_116 at h
  refine go_callV (y := yMo_isIn) (asr := [.inl s2, .inl s1, .inl s0]) (v := some (.inl (F_Mo_isIn s2 s1 s0 I))) (I' := I) (st1 := [.inl (F_Mo_isIn s2 s1 s0 I)]) d_Mo_canSet_116 s_yMo_isIn m_Mo_157 a_M_0 rfl rfl rfl (Nat.le_of_ble_eq_true rfl) rfl rfl (c_Mo_isIn l (d0 + 0) s2 s1 s0 I) ?_
  subst h
  exact go_zreturn d_Mo_canSet_119 rfl (zb_Mo_isIn s2 s1 s0 I) gb_po_i
def J_Mo_canSet_94 (x1 s0 s1 : Int32) (I : gb_Mem) : Int32 :=
  if x1 = 3 then
    J_Mo_canSet_116 1 s0 s1 I
  else
    if x1 = 4 then
      J_Mo_canSet_116 999 s0 s1 I
    else
      J_Mo_canSet_116 9 s0 s1 I
set_option maxRecDepth 4000 in
theorem j_Mo_canSet_94 (l : Launch) (d0 : Nat) (x1 s0 s1 : Int32) (I : gb_Mem) {rz : Int32} (h : J_Mo_canSet_94 x1 s0 s1 I = rz) : gb_Go l yMo_canSet (d0 + 1) 0 0 94 [(1, .inl x1)] [.inl s0, .inl s1, .inr (some 0)] shM I (gb_po shM (some (.inl rz)) I) := by
  unfold J_Mo_canSet_94 at h
  refine go_iload_n (k := 0) d_Mo_canSet_94 rfl rfl ?_
  refine go_iconst (v := 3) d_Mo_canSet_95 (by decide) ?_
  refine go_cmp_ne (tgt := 103) d_Mo_canSet_96 (by decide) (fun hc => ?_) (fun hc => ?_)
  · rw [if_neg hc] at h
    refine go_iload_n (k := 0) d_Mo_canSet_103 rfl rfl ?_
    refine go_iconst (v := 4) d_Mo_canSet_104 (by decide) ?_
    refine go_cmp_ne (tgt := 114) d_Mo_canSet_105 (by decide) (fun hc => ?_) (fun hc => ?_)
    · rw [if_neg hc] at h
      refine go_bipush (v := 9) d_Mo_canSet_114 (by decide) ?_
      exact go_lv [] rfl (j_Mo_canSet_116 l d0 9 s0 s1 I h)
    · rw [if_pos hc] at h
      refine go_sipush (v := 999) d_Mo_canSet_108 (by decide) ?_
      refine go_goto (tgt := 116) d_Mo_canSet_111 (by decide) ?_
      exact go_lv [] rfl (j_Mo_canSet_116 l d0 999 s0 s1 I h)
  · rw [if_pos hc] at h
    refine go_iconst (v := 1) d_Mo_canSet_99 (by decide) ?_
    refine go_goto (tgt := 116) d_Mo_canSet_100 (by decide) ?_
    exact go_lv [] rfl (j_Mo_canSet_116 l d0 1 s0 s1 I h)
def F_Mo_canSet (x1 x2 x3 : Int32) (I : gb_Mem) : Int32 :=
  if x1 = 7 then
    F_Mo_isIn x3 0 9 I
  else
    if x1 = 5 then
      J_Mo_canSet_26 x1 x2 x3 I
    else
      if x1 = 6 then
        J_Mo_canSet_26 x1 x2 x3 I
      else
        if (F_Mo_isIn x1 0 4 I) = 0 then
          0
        else
          if (F_Mo_isSeat x2 I) = 0 then
            0
          else
            if x1 = 2 then
              J_Mo_canSet_94 x1 (-9) x3 I
            else
              J_Mo_canSet_94 x1 0 x3 I
set_option maxRecDepth 4000 in
theorem c_Mo_canSet (l : Launch) (d0 : Nat) (x1 x2 x3 : Int32) (I : gb_Mem)  : gb_Cs l yMo_canSet (d0 + 1) [.inr (some 0), .inl x1, .inl x2, .inl x3] shM I (some (.inl (F_Mo_canSet x1 x2 x3 I))) I := by
  refine gb_Ct.of (lv := [(0, .inr (some 0)), (1, .inl x1), (2, .inl x2), (3, .inl x3)]) rfl (Nat.le_of_ble_eq_true rfl) rfl ?_
  generalize h : F_Mo_canSet x1 x2 x3 I = rz
  unfold F_Mo_canSet at h
  show gb_Go l yMo_canSet (d0 + 1) 0 0 0 [(0, .inr (some 0)), (1, .inl x1), (2, .inl x2), (3, .inl x3)] [] shM I (gb_po shM (some (.inl rz)) I)
  refine go_iload_n (k := 1) d_Mo_canSet_0 rfl rfl ?_
  refine go_bipush (v := 7) d_Mo_canSet_1 (by decide) ?_
  refine go_cmp_ne (tgt := 15) d_Mo_canSet_3 (by decide) (fun hc => ?_) (fun hc => ?_)
  · rw [if_neg hc] at h
    refine go_iload_n (k := 1) d_Mo_canSet_15 rfl rfl ?_
    refine go_iconst (v := 5) d_Mo_canSet_16 (by decide) ?_
    refine go_cmp_eq (tgt := 26) d_Mo_canSet_17 (by decide) (fun hc => ?_) (fun hc => ?_)
    · rw [if_pos hc] at h
      exact go_lv [0, 1, 2, 3] rfl (j_Mo_canSet_26 l d0 x1 x2 x3 I h)
    · rw [if_neg hc] at h
      refine go_iload_n (k := 1) d_Mo_canSet_20 rfl rfl ?_
      refine go_bipush (v := 6) d_Mo_canSet_21 (by decide) ?_
      refine go_cmp_ne (tgt := 61) d_Mo_canSet_23 (by decide) (fun hc => ?_) (fun hc => ?_)
      · rw [if_neg hc] at h
        refine go_aload_n (k := 0) d_Mo_canSet_61 rfl rfl ?_
        refine go_iload_n (k := 1) d_Mo_canSet_62 rfl rfl ?_
        refine go_iconst (v := 0) d_Mo_canSet_63 (by decide) ?_
        refine go_iconst (v := 4) d_Mo_canSet_64 (by decide) ?_
        refine go_callV (y := yMo_isIn) (asr := [.inl x1, .inl 0, .inl 4]) (v := some (.inl (F_Mo_isIn x1 0 4 I))) (I' := I) (st1 := [.inl (F_Mo_isIn x1 0 4 I)]) d_Mo_canSet_65 s_yMo_isIn m_Mo_157 a_M_0 rfl rfl rfl (Nat.le_of_ble_eq_true rfl) rfl rfl (c_Mo_isIn l (d0 + 0) x1 0 4 I) ?_
        refine go_if_eq (tgt := 79) d_Mo_canSet_68 (by decide) (fun hc => ?_) (fun hc => ?_)
        · rw [if_pos hc] at h
          refine go_iconst (v := 0) d_Mo_canSet_79 (by decide) ?_
          subst h
          exact go_zreturn d_Mo_canSet_80 rfl (Or.inl rfl) gb_po_i
        · rw [if_neg hc] at h
          refine go_aload_n (k := 0) d_Mo_canSet_71 rfl rfl ?_
          refine go_iload_n (k := 2) d_Mo_canSet_72 rfl rfl ?_
          refine go_callV (y := yMo_isSeat) (asr := [.inl x2]) (v := some (.inl (F_Mo_isSeat x2 I))) (I' := I) (st1 := [.inl (F_Mo_isSeat x2 I)]) d_Mo_canSet_73 s_yMo_isSeat m_Mo_161 a_M_0 rfl rfl rfl (Nat.le_of_ble_eq_true rfl) rfl rfl (c_Mo_isSeat l (d0 + 0) x2 I) ?_
          refine go_if_ne (tgt := 81) d_Mo_canSet_76 (by decide) (fun hc => ?_) (fun hc => ?_)
          · rw [if_neg hc] at h
            refine go_aload_n (k := 0) d_Mo_canSet_81 rfl rfl ?_
            refine go_iload_n (k := 3) d_Mo_canSet_82 rfl rfl ?_
            refine go_iload_n (k := 1) d_Mo_canSet_83 rfl rfl ?_
            refine go_iconst (v := 2) d_Mo_canSet_84 (by decide) ?_
            refine go_cmp_ne (tgt := 93) d_Mo_canSet_85 (by decide) (fun hc => ?_) (fun hc => ?_)
            · rw [if_neg hc] at h
              refine go_iconst (v := 0) d_Mo_canSet_93 (by decide) ?_
              exact go_lv [1] rfl (j_Mo_canSet_94 l d0 x1 0 x3 I h)
            · rw [if_pos hc] at h
              refine go_bipush (v := (-9)) d_Mo_canSet_88 (by decide) ?_
              refine go_goto (tgt := 94) d_Mo_canSet_90 (by decide) ?_
              exact go_lv [1] rfl (j_Mo_canSet_94 l d0 x1 (-9) x3 I h)
          · rw [if_pos hc] at h
            refine go_iconst (v := 0) d_Mo_canSet_79 (by decide) ?_
            subst h
            exact go_zreturn d_Mo_canSet_80 rfl (Or.inl rfl) gb_po_i
      · rw [if_pos hc] at h
        exact go_lv [0, 1, 2, 3] rfl (j_Mo_canSet_26 l d0 x1 x2 x3 I h)
  · rw [if_pos hc] at h
    refine go_aload_n (k := 0) d_Mo_canSet_6 rfl rfl ?_
    refine go_iload_n (k := 3) d_Mo_canSet_7 rfl rfl ?_
    refine go_iconst (v := 0) d_Mo_canSet_8 (by decide) ?_
    refine go_bipush (v := 9) d_Mo_canSet_9 (by decide) ?_
    refine go_callV (y := yMo_isIn) (asr := [.inl x3, .inl 0, .inl 9]) (v := some (.inl (F_Mo_isIn x3 0 9 I))) (I' := I) (st1 := [.inl (F_Mo_isIn x3 0 9 I)]) d_Mo_canSet_11 s_yMo_isIn m_Mo_157 a_M_0 rfl rfl rfl (Nat.le_of_ble_eq_true rfl) rfl rfl (c_Mo_isIn l (d0 + 0) x3 0 9 I) ?_
    subst h
    exact go_zreturn d_Mo_canSet_14 rfl (zb_Mo_isIn x3 0 9 I) gb_po_i
theorem zbj_Mo_canSet_49 (s0 s1 s2 : Int32) (I : gb_Mem) : J_Mo_canSet_49 s0 s1 s2 I = 0 ∨ J_Mo_canSet_49 s0 s1 s2 I = 1 := by
  unfold J_Mo_canSet_49
  repeat' split
  all_goals first | exact Or.inl rfl | exact Or.inr rfl | exact zb_Mo_isIn _ _ _ _
theorem zbj_Mo_canSet_26 (x1 x2 x3 : Int32) (I : gb_Mem) : J_Mo_canSet_26 x1 x2 x3 I = 0 ∨ J_Mo_canSet_26 x1 x2 x3 I = 1 := by
  unfold J_Mo_canSet_26
  repeat' split
  all_goals first | exact Or.inl rfl | exact Or.inr rfl | exact zb_Mo_isIn _ _ _ _ | exact zbj_Mo_canSet_49 _ _ _ _
theorem zbj_Mo_canSet_116 (s0 s1 s2 : Int32) (I : gb_Mem) : J_Mo_canSet_116 s0 s1 s2 I = 0 ∨ J_Mo_canSet_116 s0 s1 s2 I = 1 := by
  unfold J_Mo_canSet_116
  repeat' split
  all_goals first | exact Or.inl rfl | exact Or.inr rfl | exact zb_Mo_isIn _ _ _ _ | exact zbj_Mo_canSet_49 _ _ _ _ | exact zbj_Mo_canSet_26 _ _ _ _
theorem zbj_Mo_canSet_94 (x1 s0 s1 : Int32) (I : gb_Mem) : J_Mo_canSet_94 x1 s0 s1 I = 0 ∨ J_Mo_canSet_94 x1 s0 s1 I = 1 := by
  unfold J_Mo_canSet_94
  repeat' split
  all_goals first | exact Or.inl rfl | exact Or.inr rfl | exact zb_Mo_isIn _ _ _ _ | exact zbj_Mo_canSet_49 _ _ _ _ | exact zbj_Mo_canSet_26 _ _ _ _ | exact zbj_Mo_canSet_116 _ _ _ _
theorem zb_Mo_canSet (x1 x2 x3 : Int32) (I : gb_Mem) : F_Mo_canSet x1 x2 x3 I = 0 ∨ F_Mo_canSet x1 x2 x3 I = 1 := by
  unfold F_Mo_canSet
  repeat' split
  all_goals first | exact Or.inl rfl | exact Or.inr rfl | exact zb_Mo_isIn _ _ _ _ | exact zbj_Mo_canSet_49 _ _ _ _ | exact zbj_Mo_canSet_26 _ _ _ _ | exact zbj_Mo_canSet_116 _ _ _ _ | exact zbj_Mo_canSet_94 _ _ _ _
theorem d_Mo_cloth_0 : decode yMo_cloth.2.1 0 = .ok (.aload_n 0, 1) := by decide +kernel
theorem d_Mo_cloth_1 : decode yMo_cloth.2.1 1 = .ok (.iconst 0, 1) := by decide +kernel
theorem d_Mo_cloth_2 : decode yMo_cloth.2.1 2 = .ok (.putfield 137, 3) := by decide +kernel
theorem d_Mo_cloth_5 : decode yMo_cloth.2.1 5 = .ok (.iload_n 1, 1) := by decide +kernel
theorem d_Mo_cloth_6 : decode yMo_cloth.2.1 6 = .ok (.iconst (-1), 1) := by decide +kernel
theorem d_Mo_cloth_7 : decode yMo_cloth.2.1 7 = .ok (.if_icmp .ne 10, 3) := by decide +kernel
theorem d_Mo_cloth_10 : decode yMo_cloth.2.1 10 = .ok (.aload_n 0, 1) := by decide +kernel
theorem d_Mo_cloth_11 : decode yMo_cloth.2.1 11 = .ok (.iconst 0, 1) := by decide +kernel
theorem d_Mo_cloth_12 : decode yMo_cloth.2.1 12 = .ok (.putfield 465, 3) := by decide +kernel
theorem d_Mo_cloth_15 : decode yMo_cloth.2.1 15 = .ok (.iconst 0, 1) := by decide +kernel
theorem d_Mo_cloth_16 : decode yMo_cloth.2.1 16 = .ok (.ireturn, 1) := by decide +kernel
theorem d_Mo_cloth_17 : decode yMo_cloth.2.1 17 = .ok (.aload_n 0, 1) := by decide +kernel
theorem d_Mo_cloth_18 : decode yMo_cloth.2.1 18 = .ok (.iload_n 1, 1) := by decide +kernel
theorem d_Mo_cloth_19 : decode yMo_cloth.2.1 19 = .ok (.iconst 0, 1) := by decide +kernel
theorem d_Mo_cloth_20 : decode yMo_cloth.2.1 20 = .ok (.bipush 99, 2) := by decide +kernel
theorem d_Mo_cloth_22 : decode yMo_cloth.2.1 22 = .ok (.invokevirtual 157, 3) := by decide +kernel
theorem d_Mo_cloth_25 : decode yMo_cloth.2.1 25 = .ok (.ifCond .eq 25, 3) := by decide +kernel
theorem d_Mo_cloth_28 : decode yMo_cloth.2.1 28 = .ok (.aload_n 0, 1) := by decide +kernel
theorem d_Mo_cloth_29 : decode yMo_cloth.2.1 29 = .ok (.iload_n 2, 1) := by decide +kernel
theorem d_Mo_cloth_30 : decode yMo_cloth.2.1 30 = .ok (.iload_n 1, 1) := by decide +kernel
theorem d_Mo_cloth_31 : decode yMo_cloth.2.1 31 = .ok (.iconst 1, 1) := by decide +kernel
theorem d_Mo_cloth_32 : decode yMo_cloth.2.1 32 = .ok (.iadd, 1) := by decide +kernel
theorem d_Mo_cloth_33 : decode yMo_cloth.2.1 33 = .ok (.bipush 100, 2) := by decide +kernel
theorem d_Mo_cloth_35 : decode yMo_cloth.2.1 35 = .ok (.invokevirtual 157, 3) := by decide +kernel
theorem d_Mo_cloth_38 : decode yMo_cloth.2.1 38 = .ok (.ifCond .eq 12, 3) := by decide +kernel
theorem d_Mo_cloth_41 : decode yMo_cloth.2.1 41 = .ok (.aload_n 0, 1) := by decide +kernel
theorem d_Mo_cloth_42 : decode yMo_cloth.2.1 42 = .ok (.getfield 465, 3) := by decide +kernel
theorem d_Mo_cloth_45 : decode yMo_cloth.2.1 45 = .ok (.bipush 9, 2) := by decide +kernel
theorem d_Mo_cloth_47 : decode yMo_cloth.2.1 47 = .ok (.if_icmp .ne 5, 3) := by decide +kernel
theorem d_Mo_cloth_50 : decode yMo_cloth.2.1 50 = .ok (.iconst (-1), 1) := by decide +kernel
theorem d_Mo_cloth_51 : decode yMo_cloth.2.1 51 = .ok (.ireturn, 1) := by decide +kernel
theorem d_Mo_cloth_52 : decode yMo_cloth.2.1 52 = .ok (.aload_n 0, 1) := by decide +kernel
theorem d_Mo_cloth_53 : decode yMo_cloth.2.1 53 = .ok (.getfield 116, 3) := by decide +kernel
theorem d_Mo_cloth_56 : decode yMo_cloth.2.1 56 = .ok (.aload_n 0, 1) := by decide +kernel
theorem d_Mo_cloth_57 : decode yMo_cloth.2.1 57 = .ok (.getfield 465, 3) := by decide +kernel
theorem d_Mo_cloth_60 : decode yMo_cloth.2.1 60 = .ok (.iload_n 1, 1) := by decide +kernel
theorem d_Mo_cloth_61 : decode yMo_cloth.2.1 61 = .ok (.iastore, 1) := by decide +kernel
theorem d_Mo_cloth_62 : decode yMo_cloth.2.1 62 = .ok (.aload_n 0, 1) := by decide +kernel
theorem d_Mo_cloth_63 : decode yMo_cloth.2.1 63 = .ok (.getfield 119, 3) := by decide +kernel
theorem d_Mo_cloth_66 : decode yMo_cloth.2.1 66 = .ok (.aload_n 0, 1) := by decide +kernel
theorem d_Mo_cloth_67 : decode yMo_cloth.2.1 67 = .ok (.getfield 465, 3) := by decide +kernel
theorem d_Mo_cloth_70 : decode yMo_cloth.2.1 70 = .ok (.iload_n 2, 1) := by decide +kernel
theorem d_Mo_cloth_71 : decode yMo_cloth.2.1 71 = .ok (.iastore, 1) := by decide +kernel
theorem d_Mo_cloth_72 : decode yMo_cloth.2.1 72 = .ok (.aload_n 0, 1) := by decide +kernel
theorem d_Mo_cloth_73 : decode yMo_cloth.2.1 73 = .ok (.aload_n 0, 1) := by decide +kernel
theorem d_Mo_cloth_74 : decode yMo_cloth.2.1 74 = .ok (.getfield 465, 3) := by decide +kernel
theorem d_Mo_cloth_77 : decode yMo_cloth.2.1 77 = .ok (.iconst 1, 1) := by decide +kernel
theorem d_Mo_cloth_78 : decode yMo_cloth.2.1 78 = .ok (.iadd, 1) := by decide +kernel
theorem d_Mo_cloth_79 : decode yMo_cloth.2.1 79 = .ok (.putfield 465, 3) := by decide +kernel
theorem d_Mo_cloth_82 : decode yMo_cloth.2.1 82 = .ok (.aload_n 0, 1) := by decide +kernel
theorem d_Mo_cloth_83 : decode yMo_cloth.2.1 83 = .ok (.getfield 465, 3) := by decide +kernel
theorem d_Mo_cloth_86 : decode yMo_cloth.2.1 86 = .ok (.ireturn, 1) := by decide +kernel
def F_Mo_cloth (x1 x2 : Int32) (I : gb_Mem) : Option (Int32 × gb_Mem) :=
  fstf I 0 0 0 fun I1 =>
  if x1 = (-1) then
    fstf I1 0 58 0 fun I5 =>
    some (0, I5)
  else
    if (F_Mo_isIn x1 0 99 I1) = 0 then
      some ((-1), I1)
    else
      if (F_Mo_isIn x2 (x1 + 1) 100 I1) = 0 then
        some ((-1), I1)
      else
        if (I1 0 58) = 9 then
          some ((-1), I1)
        else
          fsto I1 35 9 (I1 0 58) x1 fun I2 =>
          fsto I2 36 9 (I2 0 58) x2 fun I3 =>
          fstf I3 0 58 ((I3 0 58) + 1) fun I4 =>
          some (I4 0 58, I4)
set_option maxRecDepth 4000 in
theorem c_Mo_cloth (l : Launch) (d0 : Nat) (x1 x2 : Int32) (I : gb_Mem) {rz : Int32} {Iz : gb_Mem} (h : F_Mo_cloth x1 x2 I = some (rz, Iz)) : gb_Cs l yMo_cloth (d0 + 1) [.inr (some 0), .inl x1, .inl x2] shM I (some (.inl rz)) Iz := by
  refine gb_Ct.of (lv := [(0, .inr (some 0)), (1, .inl x1), (2, .inl x2)]) rfl (Nat.le_of_ble_eq_true rfl) rfl ?_
  unfold F_Mo_cloth at h
  show gb_Go l yMo_cloth (d0 + 1) 0 0 0 [(0, .inr (some 0)), (1, .inl x1), (2, .inl x2)] [] shM I (gb_po shM (some (.inl rz)) Iz)
  refine go_aload_n (k := 0) d_Mo_cloth_0 rfl rfl ?_
  refine go_iconst (v := 0) d_Mo_cloth_1 (by decide) ?_
  obtain ⟨I1, eI1, h⟩ := fstf_e h
  refine go_putT (ci := 10) (k := 0) (I' := I1) d_Mo_cloth_2 a_M_0 rfl (by decide) f_Mo_137 rfl rfl rfl rfl rfl eI1 ?_
  refine go_iload_n (k := 1) d_Mo_cloth_5 rfl rfl ?_
  refine go_iconst (v := (-1)) d_Mo_cloth_6 (by decide) ?_
  refine go_cmp_ne (tgt := 17) d_Mo_cloth_7 (by decide) (fun hc => ?_) (fun hc => ?_)
  · rw [if_neg hc] at h
    refine go_aload_n (k := 0) d_Mo_cloth_17 rfl rfl ?_
    refine go_iload_n (k := 1) d_Mo_cloth_18 rfl rfl ?_
    refine go_iconst (v := 0) d_Mo_cloth_19 (by decide) ?_
    refine go_bipush (v := 99) d_Mo_cloth_20 (by decide) ?_
    refine go_callV (y := yMo_isIn) (asr := [.inl x1, .inl 0, .inl 99]) (v := some (.inl (F_Mo_isIn x1 0 99 I1))) (I' := I1) (st1 := [.inl (F_Mo_isIn x1 0 99 I1)]) d_Mo_cloth_22 s_yMo_isIn m_Mo_157 a_M_0 rfl rfl rfl (Nat.le_of_ble_eq_true rfl) rfl rfl (c_Mo_isIn l (d0 + 0) x1 0 99 I1) ?_
    refine go_if_eq (tgt := 50) d_Mo_cloth_25 (by decide) (fun hc => ?_) (fun hc => ?_)
    · rw [if_pos hc] at h
      refine go_iconst (v := (-1)) d_Mo_cloth_50 (by decide) ?_
      cases h
      exact go_ireturn d_Mo_cloth_51 rfl gb_po_i
    · rw [if_neg hc] at h
      refine go_aload_n (k := 0) d_Mo_cloth_28 rfl rfl ?_
      refine go_iload_n (k := 2) d_Mo_cloth_29 rfl rfl ?_
      refine go_iload_n (k := 1) d_Mo_cloth_30 rfl rfl ?_
      refine go_iconst (v := 1) d_Mo_cloth_31 (by decide) ?_
      refine go_iadd d_Mo_cloth_32 ?_
      refine go_bipush (v := 100) d_Mo_cloth_33 (by decide) ?_
      refine go_callV (y := yMo_isIn) (asr := [.inl x2, .inl (x1 + 1), .inl 100]) (v := some (.inl (F_Mo_isIn x2 (x1 + 1) 100 I1))) (I' := I1) (st1 := [.inl (F_Mo_isIn x2 (x1 + 1) 100 I1)]) d_Mo_cloth_35 s_yMo_isIn m_Mo_157 a_M_0 rfl rfl rfl (Nat.le_of_ble_eq_true rfl) rfl rfl (c_Mo_isIn l (d0 + 0) x2 (x1 + 1) 100 I1) ?_
      refine go_if_eq (tgt := 50) d_Mo_cloth_38 (by decide) (fun hc => ?_) (fun hc => ?_)
      · rw [if_pos hc] at h
        refine go_iconst (v := (-1)) d_Mo_cloth_50 (by decide) ?_
        cases h
        exact go_ireturn d_Mo_cloth_51 rfl gb_po_i
      · rw [if_neg hc] at h
        refine go_aload_n (k := 0) d_Mo_cloth_41 rfl rfl ?_
        refine go_geti (ci := 10) (k := 58) d_Mo_cloth_42 a_M_0 rfl (by decide) f_Mo_465 rfl ?_
        refine go_bipush (v := 9) d_Mo_cloth_45 (by decide) ?_
        refine go_cmp_ne (tgt := 52) d_Mo_cloth_47 (by decide) (fun hc => ?_) (fun hc => ?_)
        · rw [if_neg hc] at h
          refine go_aload_n (k := 0) d_Mo_cloth_52 rfl rfl ?_
          refine go_getr (ci := 10) (k := 59) (r := 35) d_Mo_cloth_53 a_M_0 rfl (by decide) f_Mo_116 rfl ?_
          refine go_aload_n (k := 0) d_Mo_cloth_56 rfl rfl ?_
          refine go_geti (ci := 10) (k := 58) d_Mo_cloth_57 a_M_0 rfl (by decide) f_Mo_465 rfl ?_
          refine go_iload_n (k := 1) d_Mo_cloth_60 rfl rfl ?_
          obtain ⟨hi, I2, eI2, h⟩ := fsto_e h
          refine go_iast (I' := I2) d_Mo_cloth_61 a_M_35 hi eI2 ?_
          refine go_aload_n (k := 0) d_Mo_cloth_62 rfl rfl ?_
          refine go_getr (ci := 10) (k := 60) (r := 36) d_Mo_cloth_63 a_M_0 rfl (by decide) f_Mo_119 rfl ?_
          refine go_aload_n (k := 0) d_Mo_cloth_66 rfl rfl ?_
          refine go_geti (ci := 10) (k := 58) d_Mo_cloth_67 a_M_0 rfl (by decide) f_Mo_465 rfl ?_
          refine go_iload_n (k := 2) d_Mo_cloth_70 rfl rfl ?_
          obtain ⟨hi, I3, eI3, h⟩ := fsto_e h
          refine go_iast (I' := I3) d_Mo_cloth_71 a_M_36 hi eI3 ?_
          refine go_aload_n (k := 0) d_Mo_cloth_72 rfl rfl ?_
          refine go_aload_n (k := 0) d_Mo_cloth_73 rfl rfl ?_
          refine go_geti (ci := 10) (k := 58) d_Mo_cloth_74 a_M_0 rfl (by decide) f_Mo_465 rfl ?_
          refine go_iconst (v := 1) d_Mo_cloth_77 (by decide) ?_
          refine go_iadd d_Mo_cloth_78 ?_
          obtain ⟨I4, eI4, h⟩ := fstf_e h
          refine go_putT (ci := 10) (k := 58) (I' := I4) d_Mo_cloth_79 a_M_0 rfl (by decide) f_Mo_465 rfl rfl rfl rfl rfl eI4 ?_
          refine go_aload_n (k := 0) d_Mo_cloth_82 rfl rfl ?_
          refine go_geti (ci := 10) (k := 58) d_Mo_cloth_83 a_M_0 rfl (by decide) f_Mo_465 rfl ?_
          cases h
          exact go_ireturn d_Mo_cloth_86 rfl gb_po_i
        · rw [if_pos hc] at h
          refine go_iconst (v := (-1)) d_Mo_cloth_50 (by decide) ?_
          cases h
          exact go_ireturn d_Mo_cloth_51 rfl gb_po_i
  · rw [if_pos hc] at h
    refine go_aload_n (k := 0) d_Mo_cloth_10 rfl rfl ?_
    refine go_iconst (v := 0) d_Mo_cloth_11 (by decide) ?_
    obtain ⟨I5, eI5, h⟩ := fstf_e h
    refine go_putT (ci := 10) (k := 58) (I' := I5) d_Mo_cloth_12 a_M_0 rfl (by decide) f_Mo_465 rfl rfl rfl rfl rfl eI5 ?_
    refine go_iconst (v := 0) d_Mo_cloth_15 (by decide) ?_
    cases h
    exact go_ireturn d_Mo_cloth_16 rfl gb_po_i
theorem d_Mo_comes_0 : decode yMo_comes.2.1 0 = .ok (.aload_n 0, 1) := by decide +kernel
theorem d_Mo_comes_1 : decode yMo_comes.2.1 1 = .ok (.getfield 144, 3) := by decide +kernel
theorem d_Mo_comes_4 : decode yMo_comes.2.1 4 = .ok (.ifCond .eq 20, 3) := by decide +kernel
theorem d_Mo_comes_7 : decode yMo_comes.2.1 7 = .ok (.iconst 2, 1) := by decide +kernel
theorem d_Mo_comes_8 : decode yMo_comes.2.1 8 = .ok (.iload_n 1, 1) := by decide +kernel
theorem d_Mo_comes_9 : decode yMo_comes.2.1 9 = .ok (.imul, 1) := by decide +kernel
theorem d_Mo_comes_10 : decode yMo_comes.2.1 10 = .ok (.sipush 1000, 3) := by decide +kernel
theorem d_Mo_comes_13 : decode yMo_comes.2.1 13 = .ok (.if_icmp .lt 7, 3) := by decide +kernel
theorem d_Mo_comes_16 : decode yMo_comes.2.1 16 = .ok (.iconst 1, 1) := by decide +kernel
theorem d_Mo_comes_17 : decode yMo_comes.2.1 17 = .ok (.goto 23, 3) := by decide +kernel
theorem d_Mo_comes_20 : decode yMo_comes.2.1 20 = .ok (.iconst 0, 1) := by decide +kernel
theorem d_Mo_comes_21 : decode yMo_comes.2.1 21 = .ok (.goto 19, 3) := by decide +kernel
theorem d_Mo_comes_24 : decode yMo_comes.2.1 24 = .ok (.aload_n 0, 1) := by decide +kernel
theorem d_Mo_comes_25 : decode yMo_comes.2.1 25 = .ok (.sipush 1000, 3) := by decide +kernel
theorem d_Mo_comes_28 : decode yMo_comes.2.1 28 = .ok (.invokevirtual 345, 3) := by decide +kernel
theorem d_Mo_comes_31 : decode yMo_comes.2.1 31 = .ok (.iload_n 1, 1) := by decide +kernel
theorem d_Mo_comes_32 : decode yMo_comes.2.1 32 = .ok (.if_icmp .ge 7, 3) := by decide +kernel
theorem d_Mo_comes_35 : decode yMo_comes.2.1 35 = .ok (.iconst 1, 1) := by decide +kernel
theorem d_Mo_comes_36 : decode yMo_comes.2.1 36 = .ok (.goto 4, 3) := by decide +kernel
theorem d_Mo_comes_39 : decode yMo_comes.2.1 39 = .ok (.iconst 0, 1) := by decide +kernel
theorem d_Mo_comes_40 : decode yMo_comes.2.1 40 = .ok (.ireturn, 1) := by decide +kernel
def F_Mo_comes (x1 : Int32) (I : gb_Mem) : Option (Int32 × gb_Mem) :=
  if (I 0 5) = 0 then
    fbd (F_Mo_draw 1000 I) fun (r2, I1) =>
    if x1 ≤ r2 then
      some (0, I1)
    else
      some (1, I1)
  else
    if (2 * x1) < 1000 then
      some (0, I)
    else
      some (1, I)
set_option maxRecDepth 4000 in
theorem c_Mo_comes (l : Launch) (d0 : Nat) (x1 : Int32) (I : gb_Mem) {rz : Int32} {Iz : gb_Mem} (h : F_Mo_comes x1 I = some (rz, Iz)) : gb_Cs l yMo_comes (d0 + 1) [.inr (some 0), .inl x1] shM I (some (.inl rz)) Iz := by
  refine gb_Ct.of (lv := [(0, .inr (some 0)), (1, .inl x1)]) rfl (Nat.le_of_ble_eq_true rfl) rfl ?_
  unfold F_Mo_comes at h
  show gb_Go l yMo_comes (d0 + 1) 0 0 0 [(0, .inr (some 0)), (1, .inl x1)] [] shM I (gb_po shM (some (.inl rz)) Iz)
  refine go_aload_n (k := 0) d_Mo_comes_0 rfl rfl ?_
  refine go_geti (ci := 10) (k := 5) d_Mo_comes_1 a_M_0 rfl (by decide) f_Mo_144 rfl ?_
  refine go_if_eq (tgt := 24) d_Mo_comes_4 (by decide) (fun hc => ?_) (fun hc => ?_)
  · rw [if_pos hc] at h
    refine go_aload_n (k := 0) d_Mo_comes_24 rfl rfl ?_
    refine go_sipush (v := 1000) d_Mo_comes_25 (by decide) ?_
    obtain ⟨⟨r2, I1⟩, w1, h⟩ := fbd_e h
    try dsimp only at h
    refine go_callV (y := yMo_draw) (asr := [.inl 1000]) (v := some (.inl r2)) (I' := I1) (st1 := [.inl r2]) d_Mo_comes_28 s_yMo_draw m_Mo_345 a_M_0 rfl rfl rfl (Nat.le_of_ble_eq_true rfl) rfl rfl (c_Mo_draw l (d0 + 0) 1000 I w1) ?_
    refine go_iload_n (k := 1) d_Mo_comes_31 rfl rfl ?_
    refine go_cmp_ge (tgt := 39) d_Mo_comes_32 (by decide) (fun hc => ?_) (fun hc => ?_)
    · rw [if_pos hc] at h
      refine go_iconst (v := 0) d_Mo_comes_39 (by decide) ?_
      cases h
      exact go_zreturn d_Mo_comes_40 rfl (Or.inl rfl) gb_po_i
    · rw [if_neg hc] at h
      refine go_iconst (v := 1) d_Mo_comes_35 (by decide) ?_
      refine go_goto (tgt := 40) d_Mo_comes_36 (by decide) ?_
      cases h
      exact go_zreturn d_Mo_comes_40 rfl (Or.inr rfl) gb_po_i
  · rw [if_neg hc] at h
    refine go_iconst (v := 2) d_Mo_comes_7 (by decide) ?_
    refine go_iload_n (k := 1) d_Mo_comes_8 rfl rfl ?_
    refine go_imul d_Mo_comes_9 ?_
    refine go_sipush (v := 1000) d_Mo_comes_10 (by decide) ?_
    refine go_cmp_lt (tgt := 20) d_Mo_comes_13 (by decide) (fun hc => ?_) (fun hc => ?_)
    · rw [if_pos hc] at h
      refine go_iconst (v := 0) d_Mo_comes_20 (by decide) ?_
      refine go_goto (tgt := 40) d_Mo_comes_21 (by decide) ?_
      cases h
      exact go_zreturn d_Mo_comes_40 rfl (Or.inl rfl) gb_po_i
    · rw [if_neg hc] at h
      refine go_iconst (v := 1) d_Mo_comes_16 (by decide) ?_
      refine go_goto (tgt := 40) d_Mo_comes_17 (by decide) ?_
      cases h
      exact go_zreturn d_Mo_comes_40 rfl (Or.inr rfl) gb_po_i
theorem d_Mo_convoy_0 : decode yMo_convoy.2.1 0 = .ok (.aload_n 0, 1) := by decide +kernel
theorem d_Mo_convoy_1 : decode yMo_convoy.2.1 1 = .ok (.iconst 0, 1) := by decide +kernel
theorem d_Mo_convoy_2 : decode yMo_convoy.2.1 2 = .ok (.putfield 137, 3) := by decide +kernel
theorem d_Mo_convoy_5 : decode yMo_convoy.2.1 5 = .ok (.iload_n 1, 1) := by decide +kernel
theorem d_Mo_convoy_6 : decode yMo_convoy.2.1 6 = .ok (.iconst (-1), 1) := by decide +kernel
theorem d_Mo_convoy_7 : decode yMo_convoy.2.1 7 = .ok (.if_icmp .ne 10, 3) := by decide +kernel
theorem d_Mo_convoy_10 : decode yMo_convoy.2.1 10 = .ok (.aload_n 0, 1) := by decide +kernel
theorem d_Mo_convoy_11 : decode yMo_convoy.2.1 11 = .ok (.iconst 0, 1) := by decide +kernel
theorem d_Mo_convoy_12 : decode yMo_convoy.2.1 12 = .ok (.putfield 441, 3) := by decide +kernel
theorem d_Mo_convoy_15 : decode yMo_convoy.2.1 15 = .ok (.iconst 0, 1) := by decide +kernel
theorem d_Mo_convoy_16 : decode yMo_convoy.2.1 16 = .ok (.ireturn, 1) := by decide +kernel
theorem d_Mo_convoy_17 : decode yMo_convoy.2.1 17 = .ok (.aload_n 0, 1) := by decide +kernel
theorem d_Mo_convoy_18 : decode yMo_convoy.2.1 18 = .ok (.iload_n 1, 1) := by decide +kernel
theorem d_Mo_convoy_19 : decode yMo_convoy.2.1 19 = .ok (.iconst 0, 1) := by decide +kernel
theorem d_Mo_convoy_20 : decode yMo_convoy.2.1 20 = .ok (.bipush 99, 2) := by decide +kernel
theorem d_Mo_convoy_22 : decode yMo_convoy.2.1 22 = .ok (.invokevirtual 157, 3) := by decide +kernel
theorem d_Mo_convoy_25 : decode yMo_convoy.2.1 25 = .ok (.ifCond .eq 22, 3) := by decide +kernel
theorem d_Mo_convoy_28 : decode yMo_convoy.2.1 28 = .ok (.aload_n 0, 1) := by decide +kernel
theorem d_Mo_convoy_29 : decode yMo_convoy.2.1 29 = .ok (.iload_n 2, 1) := by decide +kernel
theorem d_Mo_convoy_30 : decode yMo_convoy.2.1 30 = .ok (.iconst 0, 1) := by decide +kernel
theorem d_Mo_convoy_31 : decode yMo_convoy.2.1 31 = .ok (.iconst 1, 1) := by decide +kernel
theorem d_Mo_convoy_32 : decode yMo_convoy.2.1 32 = .ok (.invokevirtual 157, 3) := by decide +kernel
theorem d_Mo_convoy_35 : decode yMo_convoy.2.1 35 = .ok (.ifCond .eq 12, 3) := by decide +kernel
theorem d_Mo_convoy_38 : decode yMo_convoy.2.1 38 = .ok (.aload_n 0, 1) := by decide +kernel
theorem d_Mo_convoy_39 : decode yMo_convoy.2.1 39 = .ok (.getfield 441, 3) := by decide +kernel
theorem d_Mo_convoy_42 : decode yMo_convoy.2.1 42 = .ok (.bipush 8, 2) := by decide +kernel
theorem d_Mo_convoy_44 : decode yMo_convoy.2.1 44 = .ok (.if_icmp .ne 5, 3) := by decide +kernel
theorem d_Mo_convoy_47 : decode yMo_convoy.2.1 47 = .ok (.iconst (-1), 1) := by decide +kernel
theorem d_Mo_convoy_48 : decode yMo_convoy.2.1 48 = .ok (.ireturn, 1) := by decide +kernel
theorem d_Mo_convoy_49 : decode yMo_convoy.2.1 49 = .ok (.iconst 0, 1) := by decide +kernel
theorem d_Mo_convoy_50 : decode yMo_convoy.2.1 50 = .ok (.istore_n 3, 1) := by decide +kernel
theorem d_Mo_convoy_51 : decode yMo_convoy.2.1 51 = .ok (.iload_n 3, 1) := by decide +kernel
theorem d_Mo_convoy_52 : decode yMo_convoy.2.1 52 = .ok (.aload_n 0, 1) := by decide +kernel
theorem d_Mo_convoy_53 : decode yMo_convoy.2.1 53 = .ok (.getfield 441, 3) := by decide +kernel
theorem d_Mo_convoy_56 : decode yMo_convoy.2.1 56 = .ok (.if_icmp .ge 21, 3) := by decide +kernel
theorem d_Mo_convoy_59 : decode yMo_convoy.2.1 59 = .ok (.aload_n 0, 1) := by decide +kernel
theorem d_Mo_convoy_60 : decode yMo_convoy.2.1 60 = .ok (.getfield 101, 3) := by decide +kernel
theorem d_Mo_convoy_63 : decode yMo_convoy.2.1 63 = .ok (.iload_n 3, 1) := by decide +kernel
theorem d_Mo_convoy_64 : decode yMo_convoy.2.1 64 = .ok (.iaload, 1) := by decide +kernel
theorem d_Mo_convoy_65 : decode yMo_convoy.2.1 65 = .ok (.iload_n 1, 1) := by decide +kernel
theorem d_Mo_convoy_66 : decode yMo_convoy.2.1 66 = .ok (.if_icmp .ne 5, 3) := by decide +kernel
theorem d_Mo_convoy_69 : decode yMo_convoy.2.1 69 = .ok (.iconst (-1), 1) := by decide +kernel
theorem d_Mo_convoy_70 : decode yMo_convoy.2.1 70 = .ok (.ireturn, 1) := by decide +kernel
theorem d_Mo_convoy_71 : decode yMo_convoy.2.1 71 = .ok (.iinc 3 1, 3) := by decide +kernel
theorem d_Mo_convoy_74 : decode yMo_convoy.2.1 74 = .ok (.goto (-23), 3) := by decide +kernel
theorem d_Mo_convoy_77 : decode yMo_convoy.2.1 77 = .ok (.aload_n 0, 1) := by decide +kernel
theorem d_Mo_convoy_78 : decode yMo_convoy.2.1 78 = .ok (.getfield 101, 3) := by decide +kernel
theorem d_Mo_convoy_81 : decode yMo_convoy.2.1 81 = .ok (.aload_n 0, 1) := by decide +kernel
theorem d_Mo_convoy_82 : decode yMo_convoy.2.1 82 = .ok (.getfield 441, 3) := by decide +kernel
theorem d_Mo_convoy_85 : decode yMo_convoy.2.1 85 = .ok (.iload_n 1, 1) := by decide +kernel
theorem d_Mo_convoy_86 : decode yMo_convoy.2.1 86 = .ok (.iastore, 1) := by decide +kernel
theorem d_Mo_convoy_87 : decode yMo_convoy.2.1 87 = .ok (.aload_n 0, 1) := by decide +kernel
theorem d_Mo_convoy_88 : decode yMo_convoy.2.1 88 = .ok (.getfield 104, 3) := by decide +kernel
theorem d_Mo_convoy_91 : decode yMo_convoy.2.1 91 = .ok (.aload_n 0, 1) := by decide +kernel
theorem d_Mo_convoy_92 : decode yMo_convoy.2.1 92 = .ok (.getfield 441, 3) := by decide +kernel
theorem d_Mo_convoy_95 : decode yMo_convoy.2.1 95 = .ok (.iload_n 2, 1) := by decide +kernel
theorem d_Mo_convoy_96 : decode yMo_convoy.2.1 96 = .ok (.iastore, 1) := by decide +kernel
theorem d_Mo_convoy_97 : decode yMo_convoy.2.1 97 = .ok (.aload_n 0, 1) := by decide +kernel
theorem d_Mo_convoy_98 : decode yMo_convoy.2.1 98 = .ok (.aload_n 0, 1) := by decide +kernel
theorem d_Mo_convoy_99 : decode yMo_convoy.2.1 99 = .ok (.getfield 441, 3) := by decide +kernel
theorem d_Mo_convoy_102 : decode yMo_convoy.2.1 102 = .ok (.iconst 1, 1) := by decide +kernel
theorem d_Mo_convoy_103 : decode yMo_convoy.2.1 103 = .ok (.iadd, 1) := by decide +kernel
theorem d_Mo_convoy_104 : decode yMo_convoy.2.1 104 = .ok (.putfield 441, 3) := by decide +kernel
theorem d_Mo_convoy_107 : decode yMo_convoy.2.1 107 = .ok (.aload_n 0, 1) := by decide +kernel
theorem d_Mo_convoy_108 : decode yMo_convoy.2.1 108 = .ok (.getfield 441, 3) := by decide +kernel
theorem d_Mo_convoy_111 : decode yMo_convoy.2.1 111 = .ok (.ireturn, 1) := by decide +kernel
def L_Mo_convoy_51 (x1 x2 : Int32) (I : gb_Mem) : Nat → Int32 → Option ((Unit) ⊕ (Int32 × gb_Mem))
  | 0, _ => none
  | n + 1, x3 =>
    if (I 0 50) ≤ x3 then
      some (.inl ())
    else
      flod I 30 8 x3 fun v2 =>
      if v2 = x1 then
        some (.inr ((-1), I))
      else
        L_Mo_convoy_51 x1 x2 I n (x3 + 1)
set_option maxRecDepth 4000 in
theorem l_Mo_convoy_51 (l : Launch) (d0 : Nat) (x1 x2 : Int32) (I : gb_Mem) {post : Option gb_AV → List gb_Ce → gb_Mem → Prop} : ∀ (n : Nat) (x3 : Int32) {ρ : (Unit) ⊕ (Int32 × gb_Mem)} (h : L_Mo_convoy_51 x1 x2 I n x3 = some ρ) (hX : ρ = .inl () → gb_Go l yMo_convoy (d0 + 1) 0 0 77 [(0, .inr (some 0)), (1, .inl x1), (2, .inl x2)] [] shM I post) (hR : ∀ (v : Int32) (I3 : gb_Mem), ρ = .inr (v, I3) → post (some (.inl v)) shM I3) , gb_Go l yMo_convoy (d0 + 1) 0 0 51 [(0, .inr (some 0)), (1, .inl x1), (2, .inl x2), (3, .inl x3)] [] shM I post := by
  intro n
  induction n with
  | zero => intro x3 ρ h hX hR; cases h
  | succ n ih =>
    intro x3 ρ h hX hR
    rw [L_Mo_convoy_51] at h
    refine go_iload_n (k := 3) d_Mo_convoy_51 rfl rfl ?_
    refine go_aload_n (k := 0) d_Mo_convoy_52 rfl rfl ?_
    refine go_geti (ci := 10) (k := 50) d_Mo_convoy_53 a_M_0 rfl (by decide) f_Mo_441 rfl ?_
    refine go_cmp_ge (tgt := 77) d_Mo_convoy_56 (by decide) (fun hc => ?_) (fun hc => ?_)
    · rw [if_pos hc] at h
      exact go_lv [0, 1, 2] rfl (hX (Option.some.inj h).symm)
    · rw [if_neg hc] at h
      refine go_aload_n (k := 0) d_Mo_convoy_59 rfl rfl ?_
      refine go_getr (ci := 10) (k := 51) (r := 30) d_Mo_convoy_60 a_M_0 rfl (by decide) f_Mo_101 rfl ?_
      refine go_iload_n (k := 3) d_Mo_convoy_63 rfl rfl ?_
      obtain ⟨hi, v2, ev2, h⟩ := flod_e h
      refine go_iald2 d_Mo_convoy_64 a_M_30 hi ev2 ?_
      refine go_iload_n (k := 1) d_Mo_convoy_65 rfl rfl ?_
      refine go_cmp_ne (tgt := 71) d_Mo_convoy_66 (by decide) (fun hc => ?_) (fun hc => ?_)
      · rw [if_neg hc] at h
        refine go_iinc (k := 3) (v := x3 + 1) (lv' := [(3, .inl (x3 + 1)), (0, .inr (some 0)), (1, .inl x1), (2, .inl x2)]) d_Mo_convoy_71 rfl rfl (by decide) rfl ?_
        refine go_goto (tgt := 51) d_Mo_convoy_74 (by decide) ?_
        exact go_lv [1, 2, 3, 0] rfl (ih (x3 + 1) h hX hR)
      · rw [if_pos hc] at h
        refine go_iconst (v := (-1)) d_Mo_convoy_69 (by decide) ?_
        exact go_ireturn d_Mo_convoy_70 rfl (hR _ _ (Option.some.inj h).symm)
def F_Mo_convoy (x1 x2 : Int32) (I : gb_Mem) : Option (Int32 × gb_Mem) :=
  fstf I 0 0 0 fun I1 =>
  if x1 = (-1) then
    fstf I1 0 50 0 fun I8 =>
    some (0, I8)
  else
    if (F_Mo_isIn x1 0 99 I1) = 0 then
      some ((-1), I1)
    else
      if (F_Mo_isIn x2 0 1 I1) = 0 then
        some ((-1), I1)
      else
        if (I1 0 50) = 8 then
          some ((-1), I1)
        else
          fbr (L_Mo_convoy_51 x1 x2 I1 5000 0) (fun _ =>
            fsto I1 30 8 (I1 0 50) x1 fun I5 =>
            fsto I5 31 8 (I5 0 50) x2 fun I6 =>
            fstf I6 0 50 ((I6 0 50) + 1) fun I7 =>
            some (I7 0 50, I7))
            (fun (q3, I4) => some (q3, I4))
set_option maxRecDepth 4000 in
theorem c_Mo_convoy (l : Launch) (d0 : Nat) (x1 x2 : Int32) (I : gb_Mem) {rz : Int32} {Iz : gb_Mem} (h : F_Mo_convoy x1 x2 I = some (rz, Iz)) : gb_Cs l yMo_convoy (d0 + 1) [.inr (some 0), .inl x1, .inl x2] shM I (some (.inl rz)) Iz := by
  refine gb_Ct.of (lv := [(0, .inr (some 0)), (1, .inl x1), (2, .inl x2)]) rfl (Nat.le_of_ble_eq_true rfl) rfl ?_
  unfold F_Mo_convoy at h
  show gb_Go l yMo_convoy (d0 + 1) 0 0 0 [(0, .inr (some 0)), (1, .inl x1), (2, .inl x2)] [] shM I (gb_po shM (some (.inl rz)) Iz)
  refine go_aload_n (k := 0) d_Mo_convoy_0 rfl rfl ?_
  refine go_iconst (v := 0) d_Mo_convoy_1 (by decide) ?_
  obtain ⟨I1, eI1, h⟩ := fstf_e h
  refine go_putT (ci := 10) (k := 0) (I' := I1) d_Mo_convoy_2 a_M_0 rfl (by decide) f_Mo_137 rfl rfl rfl rfl rfl eI1 ?_
  refine go_iload_n (k := 1) d_Mo_convoy_5 rfl rfl ?_
  refine go_iconst (v := (-1)) d_Mo_convoy_6 (by decide) ?_
  refine go_cmp_ne (tgt := 17) d_Mo_convoy_7 (by decide) (fun hc => ?_) (fun hc => ?_)
  · rw [if_neg hc] at h
    refine go_aload_n (k := 0) d_Mo_convoy_17 rfl rfl ?_
    refine go_iload_n (k := 1) d_Mo_convoy_18 rfl rfl ?_
    refine go_iconst (v := 0) d_Mo_convoy_19 (by decide) ?_
    refine go_bipush (v := 99) d_Mo_convoy_20 (by decide) ?_
    refine go_callV (y := yMo_isIn) (asr := [.inl x1, .inl 0, .inl 99]) (v := some (.inl (F_Mo_isIn x1 0 99 I1))) (I' := I1) (st1 := [.inl (F_Mo_isIn x1 0 99 I1)]) d_Mo_convoy_22 s_yMo_isIn m_Mo_157 a_M_0 rfl rfl rfl (Nat.le_of_ble_eq_true rfl) rfl rfl (c_Mo_isIn l (d0 + 0) x1 0 99 I1) ?_
    refine go_if_eq (tgt := 47) d_Mo_convoy_25 (by decide) (fun hc => ?_) (fun hc => ?_)
    · rw [if_pos hc] at h
      refine go_iconst (v := (-1)) d_Mo_convoy_47 (by decide) ?_
      cases h
      exact go_ireturn d_Mo_convoy_48 rfl gb_po_i
    · rw [if_neg hc] at h
      refine go_aload_n (k := 0) d_Mo_convoy_28 rfl rfl ?_
      refine go_iload_n (k := 2) d_Mo_convoy_29 rfl rfl ?_
      refine go_iconst (v := 0) d_Mo_convoy_30 (by decide) ?_
      refine go_iconst (v := 1) d_Mo_convoy_31 (by decide) ?_
      refine go_callV (y := yMo_isIn) (asr := [.inl x2, .inl 0, .inl 1]) (v := some (.inl (F_Mo_isIn x2 0 1 I1))) (I' := I1) (st1 := [.inl (F_Mo_isIn x2 0 1 I1)]) d_Mo_convoy_32 s_yMo_isIn m_Mo_157 a_M_0 rfl rfl rfl (Nat.le_of_ble_eq_true rfl) rfl rfl (c_Mo_isIn l (d0 + 0) x2 0 1 I1) ?_
      refine go_if_eq (tgt := 47) d_Mo_convoy_35 (by decide) (fun hc => ?_) (fun hc => ?_)
      · rw [if_pos hc] at h
        refine go_iconst (v := (-1)) d_Mo_convoy_47 (by decide) ?_
        cases h
        exact go_ireturn d_Mo_convoy_48 rfl gb_po_i
      · rw [if_neg hc] at h
        refine go_aload_n (k := 0) d_Mo_convoy_38 rfl rfl ?_
        refine go_geti (ci := 10) (k := 50) d_Mo_convoy_39 a_M_0 rfl (by decide) f_Mo_441 rfl ?_
        refine go_bipush (v := 8) d_Mo_convoy_42 (by decide) ?_
        refine go_cmp_ne (tgt := 49) d_Mo_convoy_44 (by decide) (fun hc => ?_) (fun hc => ?_)
        · rw [if_neg hc] at h
          refine go_iconst (v := 0) d_Mo_convoy_49 (by decide) ?_
          refine go_istore_n (lv' := [(3, .inl 0), (0, .inr (some 0)), (1, .inl x1), (2, .inl x2)]) d_Mo_convoy_50 rfl (by decide) rfl ?_
          refine go_lv [1, 2, 3, 0] (lv' := [(0, .inr (some 0)), (1, .inl x1), (2, .inl x2), (3, .inl 0)]) rfl ?_
          obtain ⟨ρ, w1, w2, w3⟩ := fbr_e2 h
          refine l_Mo_convoy_51 l d0 x1 x2 I1 5000 0 w1 (fun  e => ?_) (fun q3 I4 e => ?_)
          · have h := w2 _ e
            try dsimp only at h
            refine go_aload_n (k := 0) d_Mo_convoy_77 rfl rfl ?_
            refine go_getr (ci := 10) (k := 51) (r := 30) d_Mo_convoy_78 a_M_0 rfl (by decide) f_Mo_101 rfl ?_
            refine go_aload_n (k := 0) d_Mo_convoy_81 rfl rfl ?_
            refine go_geti (ci := 10) (k := 50) d_Mo_convoy_82 a_M_0 rfl (by decide) f_Mo_441 rfl ?_
            refine go_iload_n (k := 1) d_Mo_convoy_85 rfl rfl ?_
            obtain ⟨hi, I5, eI5, h⟩ := fsto_e h
            refine go_iast (I' := I5) d_Mo_convoy_86 a_M_30 hi eI5 ?_
            refine go_aload_n (k := 0) d_Mo_convoy_87 rfl rfl ?_
            refine go_getr (ci := 10) (k := 52) (r := 31) d_Mo_convoy_88 a_M_0 rfl (by decide) f_Mo_104 rfl ?_
            refine go_aload_n (k := 0) d_Mo_convoy_91 rfl rfl ?_
            refine go_geti (ci := 10) (k := 50) d_Mo_convoy_92 a_M_0 rfl (by decide) f_Mo_441 rfl ?_
            refine go_iload_n (k := 2) d_Mo_convoy_95 rfl rfl ?_
            obtain ⟨hi, I6, eI6, h⟩ := fsto_e h
            refine go_iast (I' := I6) d_Mo_convoy_96 a_M_31 hi eI6 ?_
            refine go_aload_n (k := 0) d_Mo_convoy_97 rfl rfl ?_
            refine go_aload_n (k := 0) d_Mo_convoy_98 rfl rfl ?_
            refine go_geti (ci := 10) (k := 50) d_Mo_convoy_99 a_M_0 rfl (by decide) f_Mo_441 rfl ?_
            refine go_iconst (v := 1) d_Mo_convoy_102 (by decide) ?_
            refine go_iadd d_Mo_convoy_103 ?_
            obtain ⟨I7, eI7, h⟩ := fstf_e h
            refine go_putT (ci := 10) (k := 50) (I' := I7) d_Mo_convoy_104 a_M_0 rfl (by decide) f_Mo_441 rfl rfl rfl rfl rfl eI7 ?_
            refine go_aload_n (k := 0) d_Mo_convoy_107 rfl rfl ?_
            refine go_geti (ci := 10) (k := 50) d_Mo_convoy_108 a_M_0 rfl (by decide) f_Mo_441 rfl ?_
            cases h
            exact go_ireturn d_Mo_convoy_111 rfl gb_po_i
          · have h := w3 _ e
            try dsimp only at h
            cases h
            exact gb_po_i
        · rw [if_pos hc] at h
          refine go_iconst (v := (-1)) d_Mo_convoy_47 (by decide) ?_
          cases h
          exact go_ireturn d_Mo_convoy_48 rfl gb_po_i
  · rw [if_pos hc] at h
    refine go_aload_n (k := 0) d_Mo_convoy_10 rfl rfl ?_
    refine go_iconst (v := 0) d_Mo_convoy_11 (by decide) ?_
    obtain ⟨I8, eI8, h⟩ := fstf_e h
    refine go_putT (ci := 10) (k := 50) (I' := I8) d_Mo_convoy_12 a_M_0 rfl (by decide) f_Mo_441 rfl rfl rfl rfl rfl eI8 ?_
    refine go_iconst (v := 0) d_Mo_convoy_15 (by decide) ?_
    cases h
    exact go_ireturn d_Mo_convoy_16 rfl gb_po_i
theorem d_Mo_end_0 : decode yMo_end.2.1 0 = .ok (.aload_n 0, 1) := by decide +kernel
theorem d_Mo_end_1 : decode yMo_end.2.1 1 = .ok (.iconst 0, 1) := by decide +kernel
theorem d_Mo_end_2 : decode yMo_end.2.1 2 = .ok (.putfield 137, 3) := by decide +kernel
theorem d_Mo_end_5 : decode yMo_end.2.1 5 = .ok (.aload_n 0, 1) := by decide +kernel
theorem d_Mo_end_6 : decode yMo_end.2.1 6 = .ok (.iload_n 1, 1) := by decide +kernel
theorem d_Mo_end_7 : decode yMo_end.2.1 7 = .ok (.iconst 0, 1) := by decide +kernel
theorem d_Mo_end_8 : decode yMo_end.2.1 8 = .ok (.aload_n 0, 1) := by decide +kernel
theorem d_Mo_end_9 : decode yMo_end.2.1 9 = .ok (.getfield 171, 3) := by decide +kernel
theorem d_Mo_end_12 : decode yMo_end.2.1 12 = .ok (.invokevirtual 157, 3) := by decide +kernel
theorem d_Mo_end_15 : decode yMo_end.2.1 15 = .ok (.ifCond .ne 5, 3) := by decide +kernel
theorem d_Mo_end_18 : decode yMo_end.2.1 18 = .ok (.iconst 0, 1) := by decide +kernel
theorem d_Mo_end_19 : decode yMo_end.2.1 19 = .ok (.ireturn, 1) := by decide +kernel
theorem d_Mo_end_20 : decode yMo_end.2.1 20 = .ok (.aload_n 0, 1) := by decide +kernel
theorem d_Mo_end_21 : decode yMo_end.2.1 21 = .ok (.iload_n 1, 1) := by decide +kernel
theorem d_Mo_end_22 : decode yMo_end.2.1 22 = .ok (.putfield 171, 3) := by decide +kernel
theorem d_Mo_end_25 : decode yMo_end.2.1 25 = .ok (.iconst 1, 1) := by decide +kernel
theorem d_Mo_end_26 : decode yMo_end.2.1 26 = .ok (.ireturn, 1) := by decide +kernel
def F_Mo_end (x1 : Int32) (I : gb_Mem) : Option (Int32 × gb_Mem) :=
  fstf I 0 0 0 fun I1 =>
  if (F_Mo_isIn x1 0 (I1 0 13) I1) = 0 then
    some (0, I1)
  else
    fstf I1 0 13 x1 fun I2 =>
    some (1, I2)
set_option maxRecDepth 4000 in
theorem c_Mo_end (l : Launch) (d0 : Nat) (x1 : Int32) (I : gb_Mem) {rz : Int32} {Iz : gb_Mem} (h : F_Mo_end x1 I = some (rz, Iz)) : gb_Cs l yMo_end (d0 + 1) [.inr (some 0), .inl x1] shM I (some (.inl rz)) Iz := by
  refine gb_Ct.of (lv := [(0, .inr (some 0)), (1, .inl x1)]) rfl (Nat.le_of_ble_eq_true rfl) rfl ?_
  unfold F_Mo_end at h
  show gb_Go l yMo_end (d0 + 1) 0 0 0 [(0, .inr (some 0)), (1, .inl x1)] [] shM I (gb_po shM (some (.inl rz)) Iz)
  refine go_aload_n (k := 0) d_Mo_end_0 rfl rfl ?_
  refine go_iconst (v := 0) d_Mo_end_1 (by decide) ?_
  obtain ⟨I1, eI1, h⟩ := fstf_e h
  refine go_putT (ci := 10) (k := 0) (I' := I1) d_Mo_end_2 a_M_0 rfl (by decide) f_Mo_137 rfl rfl rfl rfl rfl eI1 ?_
  refine go_aload_n (k := 0) d_Mo_end_5 rfl rfl ?_
  refine go_iload_n (k := 1) d_Mo_end_6 rfl rfl ?_
  refine go_iconst (v := 0) d_Mo_end_7 (by decide) ?_
  refine go_aload_n (k := 0) d_Mo_end_8 rfl rfl ?_
  refine go_geti (ci := 10) (k := 13) d_Mo_end_9 a_M_0 rfl (by decide) f_Mo_171 rfl ?_
  refine go_callV (y := yMo_isIn) (asr := [.inl x1, .inl 0, .inl (I1 0 13)]) (v := some (.inl (F_Mo_isIn x1 0 (I1 0 13) I1))) (I' := I1) (st1 := [.inl (F_Mo_isIn x1 0 (I1 0 13) I1)]) d_Mo_end_12 s_yMo_isIn m_Mo_157 a_M_0 rfl rfl rfl (Nat.le_of_ble_eq_true rfl) rfl rfl (c_Mo_isIn l (d0 + 0) x1 0 (I1 0 13) I1) ?_
  refine go_if_ne (tgt := 20) d_Mo_end_15 (by decide) (fun hc => ?_) (fun hc => ?_)
  · rw [if_neg hc] at h
    refine go_aload_n (k := 0) d_Mo_end_20 rfl rfl ?_
    refine go_iload_n (k := 1) d_Mo_end_21 rfl rfl ?_
    obtain ⟨I2, eI2, h⟩ := fstf_e h
    refine go_putT (ci := 10) (k := 13) (I' := I2) d_Mo_end_22 a_M_0 rfl (by decide) f_Mo_171 rfl rfl rfl rfl rfl eI2 ?_
    refine go_iconst (v := 1) d_Mo_end_25 (by decide) ?_
    cases h
    exact go_zreturn d_Mo_end_26 rfl (Or.inr rfl) gb_po_i
  · rw [if_pos hc] at h
    refine go_iconst (v := 0) d_Mo_end_18 (by decide) ?_
    cases h
    exact go_zreturn d_Mo_end_19 rfl (Or.inl rfl) gb_po_i
theorem d_Mo_feed_0 : decode yMo_feed.2.1 0 = .ok (.aload_n 0, 1) := by decide +kernel
theorem d_Mo_feed_1 : decode yMo_feed.2.1 1 = .ok (.iconst 0, 1) := by decide +kernel
theorem d_Mo_feed_2 : decode yMo_feed.2.1 2 = .ok (.putfield 137, 3) := by decide +kernel
theorem d_Mo_feed_5 : decode yMo_feed.2.1 5 = .ok (.aload_n 0, 1) := by decide +kernel
theorem d_Mo_feed_6 : decode yMo_feed.2.1 6 = .ok (.getfield 171, 3) := by decide +kernel
theorem d_Mo_feed_9 : decode yMo_feed.2.1 9 = .ok (.sipush 380, 3) := by decide +kernel
theorem d_Mo_feed_12 : decode yMo_feed.2.1 12 = .ok (.if_icmp .le 5, 3) := by decide +kernel
theorem d_Mo_feed_15 : decode yMo_feed.2.1 15 = .ok (.iconst (-1), 1) := by decide +kernel
theorem d_Mo_feed_16 : decode yMo_feed.2.1 16 = .ok (.ireturn, 1) := by decide +kernel
theorem d_Mo_feed_17 : decode yMo_feed.2.1 17 = .ok (.aload_n 0, 1) := by decide +kernel
theorem d_Mo_feed_18 : decode yMo_feed.2.1 18 = .ok (.iload_n 1, 1) := by decide +kernel
theorem d_Mo_feed_19 : decode yMo_feed.2.1 19 = .ok (.invokevirtual 174, 3) := by decide +kernel
theorem d_Mo_feed_22 : decode yMo_feed.2.1 22 = .ok (.aload_n 0, 1) := by decide +kernel
theorem d_Mo_feed_23 : decode yMo_feed.2.1 23 = .ok (.iload_n 2, 1) := by decide +kernel
theorem d_Mo_feed_24 : decode yMo_feed.2.1 24 = .ok (.invokevirtual 174, 3) := by decide +kernel
theorem d_Mo_feed_27 : decode yMo_feed.2.1 27 = .ok (.aload_n 0, 1) := by decide +kernel
theorem d_Mo_feed_28 : decode yMo_feed.2.1 28 = .ok (.iload_n 3, 1) := by decide +kernel
theorem d_Mo_feed_29 : decode yMo_feed.2.1 29 = .ok (.invokevirtual 174, 3) := by decide +kernel
theorem d_Mo_feed_32 : decode yMo_feed.2.1 32 = .ok (.aload_n 0, 1) := by decide +kernel
theorem d_Mo_feed_33 : decode yMo_feed.2.1 33 = .ok (.iload 4, 2) := by decide +kernel
theorem d_Mo_feed_35 : decode yMo_feed.2.1 35 = .ok (.invokevirtual 174, 3) := by decide +kernel
theorem d_Mo_feed_38 : decode yMo_feed.2.1 38 = .ok (.aload_n 0, 1) := by decide +kernel
theorem d_Mo_feed_39 : decode yMo_feed.2.1 39 = .ok (.iload 5, 2) := by decide +kernel
theorem d_Mo_feed_41 : decode yMo_feed.2.1 41 = .ok (.invokevirtual 174, 3) := by decide +kernel
theorem d_Mo_feed_44 : decode yMo_feed.2.1 44 = .ok (.aload_n 0, 1) := by decide +kernel
theorem d_Mo_feed_45 : decode yMo_feed.2.1 45 = .ok (.getfield 171, 3) := by decide +kernel
theorem d_Mo_feed_48 : decode yMo_feed.2.1 48 = .ok (.ireturn, 1) := by decide +kernel
def F_Mo_feed (x1 x2 x3 x4 x5 : Int32) (I : gb_Mem) : Option (Int32 × gb_Mem) :=
  fstf I 0 0 0 fun I1 =>
  if (I1 0 13) ≤ 380 then
    fbd (F_Mo_types x1 I1) fun I2 =>
    fbd (F_Mo_types x2 I2) fun I3 =>
    fbd (F_Mo_types x3 I3) fun I4 =>
    fbd (F_Mo_types x4 I4) fun I5 =>
    fbd (F_Mo_types x5 I5) fun I6 =>
    some (I6 0 13, I6)
  else
    some ((-1), I1)
set_option maxRecDepth 4000 in
theorem c_Mo_feed (l : Launch) (d0 : Nat) (x1 x2 x3 x4 x5 : Int32) (I : gb_Mem) {rz : Int32} {Iz : gb_Mem} (h : F_Mo_feed x1 x2 x3 x4 x5 I = some (rz, Iz)) : gb_Cs l yMo_feed (d0 + 1) [.inr (some 0), .inl x1, .inl x2, .inl x3, .inl x4, .inl x5] shM I (some (.inl rz)) Iz := by
  refine gb_Ct.of (lv := [(0, .inr (some 0)), (1, .inl x1), (2, .inl x2), (3, .inl x3), (4, .inl x4), (5, .inl x5)]) rfl (Nat.le_of_ble_eq_true rfl) rfl ?_
  unfold F_Mo_feed at h
  show gb_Go l yMo_feed (d0 + 1) 0 0 0 [(0, .inr (some 0)), (1, .inl x1), (2, .inl x2), (3, .inl x3), (4, .inl x4), (5, .inl x5)] [] shM I (gb_po shM (some (.inl rz)) Iz)
  refine go_aload_n (k := 0) d_Mo_feed_0 rfl rfl ?_
  refine go_iconst (v := 0) d_Mo_feed_1 (by decide) ?_
  obtain ⟨I1, eI1, h⟩ := fstf_e h
  refine go_putT (ci := 10) (k := 0) (I' := I1) d_Mo_feed_2 a_M_0 rfl (by decide) f_Mo_137 rfl rfl rfl rfl rfl eI1 ?_
  refine go_aload_n (k := 0) d_Mo_feed_5 rfl rfl ?_
  refine go_geti (ci := 10) (k := 13) d_Mo_feed_6 a_M_0 rfl (by decide) f_Mo_171 rfl ?_
  refine go_sipush (v := 380) d_Mo_feed_9 (by decide) ?_
  refine go_cmp_le (tgt := 17) d_Mo_feed_12 (by decide) (fun hc => ?_) (fun hc => ?_)
  · rw [if_pos hc] at h
    refine go_aload_n (k := 0) d_Mo_feed_17 rfl rfl ?_
    refine go_iload_n (k := 1) d_Mo_feed_18 rfl rfl ?_
    obtain ⟨I2, w1, h⟩ := fbd_e h
    refine go_callV (y := yMo_types) (asr := [.inl x1]) (v := none) (I' := I2) (st1 := []) d_Mo_feed_19 s_yMo_types m_Mo_174 a_M_0 rfl rfl rfl (Nat.le_of_ble_eq_true rfl) rfl rfl (c_Mo_types l (d0 + 0) x1 I1 w1) ?_
    refine go_aload_n (k := 0) d_Mo_feed_22 rfl rfl ?_
    refine go_iload_n (k := 2) d_Mo_feed_23 rfl rfl ?_
    obtain ⟨I3, w1, h⟩ := fbd_e h
    refine go_callV (y := yMo_types) (asr := [.inl x2]) (v := none) (I' := I3) (st1 := []) d_Mo_feed_24 s_yMo_types m_Mo_174 a_M_0 rfl rfl rfl (Nat.le_of_ble_eq_true rfl) rfl rfl (c_Mo_types l (d0 + 0) x2 I2 w1) ?_
    refine go_aload_n (k := 0) d_Mo_feed_27 rfl rfl ?_
    refine go_iload_n (k := 3) d_Mo_feed_28 rfl rfl ?_
    obtain ⟨I4, w1, h⟩ := fbd_e h
    refine go_callV (y := yMo_types) (asr := [.inl x3]) (v := none) (I' := I4) (st1 := []) d_Mo_feed_29 s_yMo_types m_Mo_174 a_M_0 rfl rfl rfl (Nat.le_of_ble_eq_true rfl) rfl rfl (c_Mo_types l (d0 + 0) x3 I3 w1) ?_
    refine go_aload_n (k := 0) d_Mo_feed_32 rfl rfl ?_
    refine go_iload (k := 4) d_Mo_feed_33 rfl ?_
    obtain ⟨I5, w1, h⟩ := fbd_e h
    refine go_callV (y := yMo_types) (asr := [.inl x4]) (v := none) (I' := I5) (st1 := []) d_Mo_feed_35 s_yMo_types m_Mo_174 a_M_0 rfl rfl rfl (Nat.le_of_ble_eq_true rfl) rfl rfl (c_Mo_types l (d0 + 0) x4 I4 w1) ?_
    refine go_aload_n (k := 0) d_Mo_feed_38 rfl rfl ?_
    refine go_iload (k := 5) d_Mo_feed_39 rfl ?_
    obtain ⟨I6, w1, h⟩ := fbd_e h
    refine go_callV (y := yMo_types) (asr := [.inl x5]) (v := none) (I' := I6) (st1 := []) d_Mo_feed_41 s_yMo_types m_Mo_174 a_M_0 rfl rfl rfl (Nat.le_of_ble_eq_true rfl) rfl rfl (c_Mo_types l (d0 + 0) x5 I5 w1) ?_
    refine go_aload_n (k := 0) d_Mo_feed_44 rfl rfl ?_
    refine go_geti (ci := 10) (k := 13) d_Mo_feed_45 a_M_0 rfl (by decide) f_Mo_171 rfl ?_
    cases h
    exact go_ireturn d_Mo_feed_48 rfl gb_po_i
  · rw [if_neg hc] at h
    refine go_iconst (v := (-1)) d_Mo_feed_15 (by decide) ?_
    cases h
    exact go_ireturn d_Mo_feed_16 rfl gb_po_i
