theorem d_Gb_fault_0 : decode yGb_fault.2.1 0 = .ok (.iload_n 1, 1) := by decide +kernel
theorem d_Gb_fault_1 : decode yGb_fault.2.1 1 = .ok (.ifCond .ne 13, 3) := by decide +kernel
theorem d_Gb_fault_4 : decode yGb_fault.2.1 4 = .ok (.aload_n 0, 1) := by decide +kernel
theorem d_Gb_fault_5 : decode yGb_fault.2.1 5 = .ok (.getfield 73, 3) := by decide +kernel
theorem d_Gb_fault_8 : decode yGb_fault.2.1 8 = .ok (.getfield 153, 3) := by decide +kernel
theorem d_Gb_fault_11 : decode yGb_fault.2.1 11 = .ok (.goto 19, 3) := by decide +kernel
theorem d_Gb_fault_14 : decode yGb_fault.2.1 14 = .ok (.iload_n 1, 1) := by decide +kernel
theorem d_Gb_fault_15 : decode yGb_fault.2.1 15 = .ok (.iconst 1, 1) := by decide +kernel
theorem d_Gb_fault_16 : decode yGb_fault.2.1 16 = .ok (.if_icmp .ne 13, 3) := by decide +kernel
theorem d_Gb_fault_19 : decode yGb_fault.2.1 19 = .ok (.aload_n 0, 1) := by decide +kernel
theorem d_Gb_fault_20 : decode yGb_fault.2.1 20 = .ok (.getfield 73, 3) := by decide +kernel
theorem d_Gb_fault_23 : decode yGb_fault.2.1 23 = .ok (.getfield 159, 3) := by decide +kernel
theorem d_Gb_fault_26 : decode yGb_fault.2.1 26 = .ok (.goto 4, 3) := by decide +kernel
theorem d_Gb_fault_29 : decode yGb_fault.2.1 29 = .ok (.iconst (-1), 1) := by decide +kernel
theorem d_Gb_fault_30 : decode yGb_fault.2.1 30 = .ok (.ireturn, 1) := by decide +kernel
def F_Gb_fault (x1 : Int32) (I : gb_Mem) : Int32 :=
  if x1 = 0 then
    I 111 7
  else
    if x1 = 1 then
      I 111 8
    else
      (-1)
set_option maxRecDepth 4000 in
theorem c_Gb_fault (l : Launch) (d0 : Nat) (x1 : Int32) (I : gb_Mem)  : gb_Cs l yGb_fault (d0 + 0) [.inr (some 0), .inl x1] shX I (some (.inl (F_Gb_fault x1 I))) I := by
  refine gb_Ct.of (lv := [(0, .inr (some 0)), (1, .inl x1)]) rfl (Nat.le_of_ble_eq_true rfl) rfl ?_
  generalize h : F_Gb_fault x1 I = rz
  unfold F_Gb_fault at h
  show gb_Go l yGb_fault (d0 + 0) 0 0 0 [(0, .inr (some 0)), (1, .inl x1)] [] shX I (gb_po shX (some (.inl rz)) I)
  refine go_iload_n (k := 1) d_Gb_fault_0 rfl rfl ?_
  refine go_if_ne (tgt := 14) d_Gb_fault_1 (by decide) (fun hc => ?_) (fun hc => ?_)
  · rw [if_neg hc] at h
    refine go_iload_n (k := 1) d_Gb_fault_14 rfl rfl ?_
    refine go_iconst (v := 1) d_Gb_fault_15 (by decide) ?_
    refine go_cmp_ne (tgt := 29) d_Gb_fault_16 (by decide) (fun hc => ?_) (fun hc => ?_)
    · rw [if_neg hc] at h
      refine go_iconst (v := (-1)) d_Gb_fault_29 (by decide) ?_
      subst h
      exact go_ireturn d_Gb_fault_30 rfl gb_po_i
    · rw [if_pos hc] at h
      refine go_aload_n (k := 0) d_Gb_fault_19 rfl rfl ?_
      refine go_getr (ci := 0) (k := 11) (r := 111) d_Gb_fault_20 a_X_0 rfl (by decide) f_Gb_73 rfl ?_
      refine go_getiN (ci := 9) (k := 8) d_Gb_fault_23 a_X_111 rfl (by decide) f_Gb_159 rfl ?_
      refine go_goto (tgt := 30) d_Gb_fault_26 (by decide) ?_
      subst h
      exact go_ireturn d_Gb_fault_30 rfl gb_po_i
  · rw [if_pos hc] at h
    refine go_aload_n (k := 0) d_Gb_fault_4 rfl rfl ?_
    refine go_getr (ci := 0) (k := 11) (r := 111) d_Gb_fault_5 a_X_0 rfl (by decide) f_Gb_73 rfl ?_
    refine go_getiN (ci := 9) (k := 7) d_Gb_fault_8 a_X_111 rfl (by decide) f_Gb_153 rfl ?_
    refine go_goto (tgt := 30) d_Gb_fault_11 (by decide) ?_
    subst h
    exact go_ireturn d_Gb_fault_30 rfl gb_po_i
theorem d_Gb_look_0 : decode yGb_look.2.1 0 = .ok (.aload_n 0, 1) := by decide +kernel
theorem d_Gb_look_1 : decode yGb_look.2.1 1 = .ok (.getfield 12, 3) := by decide +kernel
theorem d_Gb_look_4 : decode yGb_look.2.1 4 = .ok (.getfield 35, 3) := by decide +kernel
theorem d_Gb_look_7 : decode yGb_look.2.1 7 = .ok (.astore_n 2, 1) := by decide +kernel
theorem d_Gb_look_8 : decode yGb_look.2.1 8 = .ok (.iload_n 1, 1) := by decide +kernel
theorem d_Gb_look_9 : decode yGb_look.2.1 9 = .ok (.tableswitch 156 0 11 #[63, 68, 73, 78, 83, 88, 99, 104, 115, 126, 137, 148], 63) := by decide +kernel
theorem d_Gb_look_72 : decode yGb_look.2.1 72 = .ok (.aload_n 2, 1) := by decide +kernel
theorem d_Gb_look_73 : decode yGb_look.2.1 73 = .ok (.getfield 95, 3) := by decide +kernel
theorem d_Gb_look_76 : decode yGb_look.2.1 76 = .ok (.ireturn, 1) := by decide +kernel
theorem d_Gb_look_77 : decode yGb_look.2.1 77 = .ok (.aload_n 2, 1) := by decide +kernel
theorem d_Gb_look_78 : decode yGb_look.2.1 78 = .ok (.getfield 311, 3) := by decide +kernel
theorem d_Gb_look_81 : decode yGb_look.2.1 81 = .ok (.ireturn, 1) := by decide +kernel
theorem d_Gb_look_82 : decode yGb_look.2.1 82 = .ok (.aload_n 2, 1) := by decide +kernel
theorem d_Gb_look_83 : decode yGb_look.2.1 83 = .ok (.getfield 128, 3) := by decide +kernel
theorem d_Gb_look_86 : decode yGb_look.2.1 86 = .ok (.ireturn, 1) := by decide +kernel
theorem d_Gb_look_87 : decode yGb_look.2.1 87 = .ok (.aload_n 2, 1) := by decide +kernel
theorem d_Gb_look_88 : decode yGb_look.2.1 88 = .ok (.getfield 105, 3) := by decide +kernel
theorem d_Gb_look_91 : decode yGb_look.2.1 91 = .ok (.ireturn, 1) := by decide +kernel
theorem d_Gb_look_92 : decode yGb_look.2.1 92 = .ok (.aload_n 2, 1) := by decide +kernel
theorem d_Gb_look_93 : decode yGb_look.2.1 93 = .ok (.getfield 131, 3) := by decide +kernel
theorem d_Gb_look_96 : decode yGb_look.2.1 96 = .ok (.ireturn, 1) := by decide +kernel
theorem d_Gb_look_97 : decode yGb_look.2.1 97 = .ok (.aload_n 0, 1) := by decide +kernel
theorem d_Gb_look_98 : decode yGb_look.2.1 98 = .ok (.getfield 12, 3) := by decide +kernel
theorem d_Gb_look_101 : decode yGb_look.2.1 101 = .ok (.getfield 185, 3) := by decide +kernel
theorem d_Gb_look_104 : decode yGb_look.2.1 104 = .ok (.getfield 189, 3) := by decide +kernel
theorem d_Gb_look_107 : decode yGb_look.2.1 107 = .ok (.ireturn, 1) := by decide +kernel
theorem d_Gb_look_108 : decode yGb_look.2.1 108 = .ok (.aload_n 2, 1) := by decide +kernel
theorem d_Gb_look_109 : decode yGb_look.2.1 109 = .ok (.getfield 77, 3) := by decide +kernel
theorem d_Gb_look_112 : decode yGb_look.2.1 112 = .ok (.ireturn, 1) := by decide +kernel
theorem d_Gb_look_113 : decode yGb_look.2.1 113 = .ok (.aload_n 0, 1) := by decide +kernel
theorem d_Gb_look_114 : decode yGb_look.2.1 114 = .ok (.getfield 12, 3) := by decide +kernel
theorem d_Gb_look_117 : decode yGb_look.2.1 117 = .ok (.getfield 166, 3) := by decide +kernel
theorem d_Gb_look_120 : decode yGb_look.2.1 120 = .ok (.getfield 314, 3) := by decide +kernel
theorem d_Gb_look_123 : decode yGb_look.2.1 123 = .ok (.ireturn, 1) := by decide +kernel
theorem d_Gb_look_124 : decode yGb_look.2.1 124 = .ok (.aload_n 0, 1) := by decide +kernel
theorem d_Gb_look_125 : decode yGb_look.2.1 125 = .ok (.getfield 12, 3) := by decide +kernel
theorem d_Gb_look_128 : decode yGb_look.2.1 128 = .ok (.getfield 317, 3) := by decide +kernel
theorem d_Gb_look_131 : decode yGb_look.2.1 131 = .ok (.getfield 189, 3) := by decide +kernel
theorem d_Gb_look_134 : decode yGb_look.2.1 134 = .ok (.ireturn, 1) := by decide +kernel
theorem d_Gb_look_135 : decode yGb_look.2.1 135 = .ok (.aload_n 0, 1) := by decide +kernel
theorem d_Gb_look_136 : decode yGb_look.2.1 136 = .ok (.getfield 12, 3) := by decide +kernel
theorem d_Gb_look_139 : decode yGb_look.2.1 139 = .ok (.getfield 320, 3) := by decide +kernel
theorem d_Gb_look_142 : decode yGb_look.2.1 142 = .ok (.getfield 189, 3) := by decide +kernel
theorem d_Gb_look_145 : decode yGb_look.2.1 145 = .ok (.ireturn, 1) := by decide +kernel
theorem d_Gb_look_146 : decode yGb_look.2.1 146 = .ok (.aload_n 0, 1) := by decide +kernel
theorem d_Gb_look_147 : decode yGb_look.2.1 147 = .ok (.getfield 12, 3) := by decide +kernel
theorem d_Gb_look_150 : decode yGb_look.2.1 150 = .ok (.getfield 323, 3) := by decide +kernel
theorem d_Gb_look_153 : decode yGb_look.2.1 153 = .ok (.getfield 189, 3) := by decide +kernel
theorem d_Gb_look_156 : decode yGb_look.2.1 156 = .ok (.ireturn, 1) := by decide +kernel
theorem d_Gb_look_157 : decode yGb_look.2.1 157 = .ok (.aload_n 0, 1) := by decide +kernel
theorem d_Gb_look_158 : decode yGb_look.2.1 158 = .ok (.getfield 22, 3) := by decide +kernel
theorem d_Gb_look_161 : decode yGb_look.2.1 161 = .ok (.getfield 326, 3) := by decide +kernel
theorem d_Gb_look_164 : decode yGb_look.2.1 164 = .ok (.ireturn, 1) := by decide +kernel
theorem d_Gb_look_165 : decode yGb_look.2.1 165 = .ok (.iconst (-1), 1) := by decide +kernel
theorem d_Gb_look_166 : decode yGb_look.2.1 166 = .ok (.ireturn, 1) := by decide +kernel
def F_Gb_look (x1 : Int32) (I : gb_Mem) : Int32 :=
  if x1 = 0 then
    I 2 5
  else
  if x1 = 1 then
    I 2 1
  else
  if x1 = 2 then
    I 2 2
  else
  if x1 = 3 then
    I 2 3
  else
  if x1 = 4 then
    I 2 4
  else
  if x1 = 5 then
    I 17 2
  else
  if x1 = 6 then
    I 2 0
  else
  if x1 = 7 then
    I 6 4
  else
  if x1 = 8 then
    I 11 2
  else
  if x1 = 9 then
    I 13 2
  else
  if x1 = 10 then
    I 15 2
  else
  if x1 = 11 then
    I 69 3
  else
  (-1)
set_option maxRecDepth 4000 in
theorem c_Gb_look (l : Launch) (d0 : Nat) (x1 : Int32) (I : gb_Mem)  : gb_Cs l yGb_look (d0 + 0) [.inr (some 0), .inl x1] shX I (some (.inl (F_Gb_look x1 I))) I := by
  refine gb_Ct.of (lv := [(0, .inr (some 0)), (1, .inl x1)]) rfl (Nat.le_of_ble_eq_true rfl) rfl ?_
  generalize h : F_Gb_look x1 I = rz
  unfold F_Gb_look at h
  show gb_Go l yGb_look (d0 + 0) 0 0 0 [(0, .inr (some 0)), (1, .inl x1)] [] shX I (gb_po shX (some (.inl rz)) I)
  refine go_aload_n (k := 0) d_Gb_look_0 rfl rfl ?_
  refine go_getr (ci := 0) (k := 0) (r := 1) d_Gb_look_1 a_X_0 rfl (by decide) f_Gb_12 rfl ?_
  refine go_getrN (ci := 1) (k := 0) (r := 2) d_Gb_look_4 a_X_1 rfl (by decide) f_Gb_35 rfl ?_
  refine go_astore_n (lv' := [(2, .inr (some 2)), (0, .inr (some 0)), (1, .inl x1)]) d_Gb_look_7 rfl (by decide) rfl ?_
  refine go_iload_n (k := 2) d_Gb_look_8 rfl rfl ?_
  by_cases hc0 : x1 = 0
  · rw [if_pos hc0] at h
    refine go_tsIn (tgt := 72) d_Gb_look_9 (by rw [hc0]; decide) (by rw [hc0]; decide) (by rw [hc0]; rfl) (by decide) ?_
    refine go_aload_n (k := 0) d_Gb_look_72 rfl rfl ?_
    refine go_getiN (ci := 2) (k := 5) d_Gb_look_73 a_X_2 rfl (by decide) f_Gb_95 rfl ?_
    subst h
    exact go_ireturn d_Gb_look_76 rfl gb_po_i
  · rw [if_neg hc0] at h
    by_cases hc1 : x1 = 1
    · rw [if_pos hc1] at h
      refine go_tsIn (tgt := 77) d_Gb_look_9 (by rw [hc1]; decide) (by rw [hc1]; decide) (by rw [hc1]; rfl) (by decide) ?_
      refine go_aload_n (k := 0) d_Gb_look_77 rfl rfl ?_
      refine go_getiN (ci := 2) (k := 1) d_Gb_look_78 a_X_2 rfl (by decide) f_Gb_311 rfl ?_
      subst h
      exact go_ireturn d_Gb_look_81 rfl gb_po_i
    · rw [if_neg hc1] at h
      by_cases hc2 : x1 = 2
      · rw [if_pos hc2] at h
        refine go_tsIn (tgt := 82) d_Gb_look_9 (by rw [hc2]; decide) (by rw [hc2]; decide) (by rw [hc2]; rfl) (by decide) ?_
        refine go_aload_n (k := 0) d_Gb_look_82 rfl rfl ?_
        refine go_getiN (ci := 2) (k := 2) d_Gb_look_83 a_X_2 rfl (by decide) f_Gb_128 rfl ?_
        subst h
        exact go_ireturn d_Gb_look_86 rfl gb_po_i
      · rw [if_neg hc2] at h
        by_cases hc3 : x1 = 3
        · rw [if_pos hc3] at h
          refine go_tsIn (tgt := 87) d_Gb_look_9 (by rw [hc3]; decide) (by rw [hc3]; decide) (by rw [hc3]; rfl) (by decide) ?_
          refine go_aload_n (k := 0) d_Gb_look_87 rfl rfl ?_
          refine go_getiN (ci := 2) (k := 3) d_Gb_look_88 a_X_2 rfl (by decide) f_Gb_105 rfl ?_
          subst h
          exact go_ireturn d_Gb_look_91 rfl gb_po_i
        · rw [if_neg hc3] at h
          by_cases hc4 : x1 = 4
          · rw [if_pos hc4] at h
            refine go_tsIn (tgt := 92) d_Gb_look_9 (by rw [hc4]; decide) (by rw [hc4]; decide) (by rw [hc4]; rfl) (by decide) ?_
            refine go_aload_n (k := 0) d_Gb_look_92 rfl rfl ?_
            refine go_getiN (ci := 2) (k := 4) d_Gb_look_93 a_X_2 rfl (by decide) f_Gb_131 rfl ?_
            subst h
            exact go_ireturn d_Gb_look_96 rfl gb_po_i
          · rw [if_neg hc4] at h
            by_cases hc5 : x1 = 5
            · rw [if_pos hc5] at h
              refine go_tsIn (tgt := 97) d_Gb_look_9 (by rw [hc5]; decide) (by rw [hc5]; decide) (by rw [hc5]; rfl) (by decide) ?_
              refine go_aload_n (k := 1) d_Gb_look_97 rfl rfl ?_
              refine go_getr (ci := 0) (k := 0) (r := 1) d_Gb_look_98 a_X_0 rfl (by decide) f_Gb_12 rfl ?_
              refine go_getrN (ci := 1) (k := 5) (r := 17) d_Gb_look_101 a_X_1 rfl (by decide) f_Gb_185 rfl ?_
              refine go_getiN (ci := 4) (k := 2) d_Gb_look_104 a_X_17 rfl (by decide) f_Gb_189 rfl ?_
              subst h
              exact go_ireturn d_Gb_look_107 rfl gb_po_i
            · rw [if_neg hc5] at h
              by_cases hc6 : x1 = 6
              · rw [if_pos hc6] at h
                refine go_tsIn (tgt := 108) d_Gb_look_9 (by rw [hc6]; decide) (by rw [hc6]; decide) (by rw [hc6]; rfl) (by decide) ?_
                refine go_aload_n (k := 0) d_Gb_look_108 rfl rfl ?_
                refine go_getiN (ci := 2) (k := 0) d_Gb_look_109 a_X_2 rfl (by decide) f_Gb_77 rfl ?_
                subst h
                exact go_ireturn d_Gb_look_112 rfl gb_po_i
              · rw [if_neg hc6] at h
                by_cases hc7 : x1 = 7
                · rw [if_pos hc7] at h
                  refine go_tsIn (tgt := 113) d_Gb_look_9 (by rw [hc7]; decide) (by rw [hc7]; decide) (by rw [hc7]; rfl) (by decide) ?_
                  refine go_aload_n (k := 1) d_Gb_look_113 rfl rfl ?_
                  refine go_getr (ci := 0) (k := 0) (r := 1) d_Gb_look_114 a_X_0 rfl (by decide) f_Gb_12 rfl ?_
                  refine go_getrN (ci := 1) (k := 1) (r := 6) d_Gb_look_117 a_X_1 rfl (by decide) f_Gb_166 rfl ?_
                  refine go_getiN (ci := 3) (k := 4) d_Gb_look_120 a_X_6 rfl (by decide) f_Gb_314 rfl ?_
                  subst h
                  exact go_ireturn d_Gb_look_123 rfl gb_po_i
                · rw [if_neg hc7] at h
                  by_cases hc8 : x1 = 8
                  · rw [if_pos hc8] at h
                    refine go_tsIn (tgt := 124) d_Gb_look_9 (by rw [hc8]; decide) (by rw [hc8]; decide) (by rw [hc8]; rfl) (by decide) ?_
                    refine go_aload_n (k := 1) d_Gb_look_124 rfl rfl ?_
                    refine go_getr (ci := 0) (k := 0) (r := 1) d_Gb_look_125 a_X_0 rfl (by decide) f_Gb_12 rfl ?_
                    refine go_getrN (ci := 1) (k := 2) (r := 11) d_Gb_look_128 a_X_1 rfl (by decide) f_Gb_317 rfl ?_
                    refine go_getiN (ci := 4) (k := 2) d_Gb_look_131 a_X_11 rfl (by decide) f_Gb_189 rfl ?_
                    subst h
                    exact go_ireturn d_Gb_look_134 rfl gb_po_i
                  · rw [if_neg hc8] at h
                    by_cases hc9 : x1 = 9
                    · rw [if_pos hc9] at h
                      refine go_tsIn (tgt := 135) d_Gb_look_9 (by rw [hc9]; decide) (by rw [hc9]; decide) (by rw [hc9]; rfl) (by decide) ?_
                      refine go_aload_n (k := 1) d_Gb_look_135 rfl rfl ?_
                      refine go_getr (ci := 0) (k := 0) (r := 1) d_Gb_look_136 a_X_0 rfl (by decide) f_Gb_12 rfl ?_
                      refine go_getrN (ci := 1) (k := 3) (r := 13) d_Gb_look_139 a_X_1 rfl (by decide) f_Gb_320 rfl ?_
                      refine go_getiN (ci := 4) (k := 2) d_Gb_look_142 a_X_13 rfl (by decide) f_Gb_189 rfl ?_
                      subst h
                      exact go_ireturn d_Gb_look_145 rfl gb_po_i
                    · rw [if_neg hc9] at h
                      by_cases hc10 : x1 = 10
                      · rw [if_pos hc10] at h
                        refine go_tsIn (tgt := 146) d_Gb_look_9 (by rw [hc10]; decide) (by rw [hc10]; decide) (by rw [hc10]; rfl) (by decide) ?_
                        refine go_aload_n (k := 1) d_Gb_look_146 rfl rfl ?_
                        refine go_getr (ci := 0) (k := 0) (r := 1) d_Gb_look_147 a_X_0 rfl (by decide) f_Gb_12 rfl ?_
                        refine go_getrN (ci := 1) (k := 4) (r := 15) d_Gb_look_150 a_X_1 rfl (by decide) f_Gb_323 rfl ?_
                        refine go_getiN (ci := 4) (k := 2) d_Gb_look_153 a_X_15 rfl (by decide) f_Gb_189 rfl ?_
                        subst h
                        exact go_ireturn d_Gb_look_156 rfl gb_po_i
                      · rw [if_neg hc10] at h
                        by_cases hc11 : x1 = 11
                        · rw [if_pos hc11] at h
                          refine go_tsIn (tgt := 157) d_Gb_look_9 (by rw [hc11]; decide) (by rw [hc11]; decide) (by rw [hc11]; rfl) (by decide) ?_
                          refine go_aload_n (k := 1) d_Gb_look_157 rfl rfl ?_
                          refine go_getr (ci := 0) (k := 3) (r := 69) d_Gb_look_158 a_X_0 rfl (by decide) f_Gb_22 rfl ?_
                          refine go_getiN (ci := 5) (k := 3) d_Gb_look_161 a_X_69 rfl (by decide) f_Gb_326 rfl ?_
                          subst h
                          exact go_ireturn d_Gb_look_164 rfl gb_po_i
                        · rw [if_neg hc11] at h
                          refine go_tsOut (tgt := 165) d_Gb_look_9 (by have ehc0 := lv_neT hc0 (a := 0) (by decide); have ehc1 := lv_neT hc1 (a := 1) (by decide); have ehc2 := lv_neT hc2 (a := 2) (by decide); have ehc3 := lv_neT hc3 (a := 3) (by decide); have ehc4 := lv_neT hc4 (a := 4) (by decide); have ehc5 := lv_neT hc5 (a := 5) (by decide); have ehc6 := lv_neT hc6 (a := 6) (by decide); have ehc7 := lv_neT hc7 (a := 7) (by decide); have ehc8 := lv_neT hc8 (a := 8) (by decide); have ehc9 := lv_neT hc9 (a := 9) (by decide); have ehc10 := lv_neT hc10 (a := 10) (by decide); have ehc11 := lv_neT hc11 (a := 11) (by decide); omega) (by decide) ?_
                          refine go_iconst (v := (-1)) d_Gb_look_165 (by decide) ?_
                          subst h
                          exact go_ireturn d_Gb_look_166 rfl gb_po_i
theorem d_Gb_shoreOf_0 : decode yGb_shoreOf.2.1 0 = .ok (.iload_n 0, 1) := by decide +kernel
theorem d_Gb_shoreOf_1 : decode yGb_shoreOf.2.1 1 = .ok (.iconst 1, 1) := by decide +kernel
theorem d_Gb_shoreOf_2 : decode yGb_shoreOf.2.1 2 = .ok (.if_icmp .ne 8, 3) := by decide +kernel
theorem d_Gb_shoreOf_5 : decode yGb_shoreOf.2.1 5 = .ok (.bipush 11, 2) := by decide +kernel
theorem d_Gb_shoreOf_7 : decode yGb_shoreOf.2.1 7 = .ok (.goto 4, 3) := by decide +kernel
theorem d_Gb_shoreOf_10 : decode yGb_shoreOf.2.1 10 = .ok (.iconst 0, 1) := by decide +kernel
theorem d_Gb_shoreOf_11 : decode yGb_shoreOf.2.1 11 = .ok (.ireturn, 1) := by decide +kernel
def F_Gb_shoreOf (x0 : Int32) (I : gb_Mem) : Int32 :=
  if x0 = 1 then
    11
  else
    0
set_option maxRecDepth 4000 in
theorem c_Gb_shoreOf (l : Launch) (d0 : Nat) (x0 : Int32) (I : gb_Mem)  : gb_Cs l yGb_shoreOf (d0 + 0) [.inl x0] shX I (some (.inl (F_Gb_shoreOf x0 I))) I := by
  refine gb_Ct.of (lv := [(0, .inl x0)]) rfl (Nat.le_of_ble_eq_true rfl) rfl ?_
  generalize h : F_Gb_shoreOf x0 I = rz
  unfold F_Gb_shoreOf at h
  show gb_Go l yGb_shoreOf (d0 + 0) 0 0 0 [(0, .inl x0)] [] shX I (gb_po shX (some (.inl rz)) I)
  refine go_iload_n (k := 0) d_Gb_shoreOf_0 rfl rfl ?_
  refine go_iconst (v := 1) d_Gb_shoreOf_1 (by decide) ?_
  refine go_cmp_ne (tgt := 10) d_Gb_shoreOf_2 (by decide) (fun hc => ?_) (fun hc => ?_)
  · rw [if_neg hc] at h
    refine go_iconst (v := 0) d_Gb_shoreOf_10 (by decide) ?_
    subst h
    exact go_ireturn d_Gb_shoreOf_11 rfl gb_po_i
  · rw [if_pos hc] at h
    refine go_bipush (v := 11) d_Gb_shoreOf_5 (by decide) ?_
    refine go_goto (tgt := 11) d_Gb_shoreOf_7 (by decide) ?_
    subst h
    exact go_ireturn d_Gb_shoreOf_11 rfl gb_po_i
theorem d_Gb_tapeNumber_0 : decode yGb_tapeNumber.2.1 0 = .ok (.bipush 24, 2) := by decide +kernel
theorem d_Gb_tapeNumber_2 : decode yGb_tapeNumber.2.1 2 = .ok (.istore_n 2, 1) := by decide +kernel
theorem d_Gb_tapeNumber_3 : decode yGb_tapeNumber.2.1 3 = .ok (.iload_n 2, 1) := by decide +kernel
theorem d_Gb_tapeNumber_4 : decode yGb_tapeNumber.2.1 4 = .ok (.ifCond .lt 45, 3) := by decide +kernel
theorem d_Gb_tapeNumber_7 : decode yGb_tapeNumber.2.1 7 = .ok (.aload_n 0, 1) := by decide +kernel
theorem d_Gb_tapeNumber_8 : decode yGb_tapeNumber.2.1 8 = .ok (.getfield 138, 3) := by decide +kernel
theorem d_Gb_tapeNumber_11 : decode yGb_tapeNumber.2.1 11 = .ok (.sipush 400, 3) := by decide +kernel
theorem d_Gb_tapeNumber_14 : decode yGb_tapeNumber.2.1 14 = .ok (.if_icmp .ge 29, 3) := by decide +kernel
theorem d_Gb_tapeNumber_17 : decode yGb_tapeNumber.2.1 17 = .ok (.aload_n 0, 1) := by decide +kernel
theorem d_Gb_tapeNumber_18 : decode yGb_tapeNumber.2.1 18 = .ok (.getfield 64, 3) := by decide +kernel
theorem d_Gb_tapeNumber_21 : decode yGb_tapeNumber.2.1 21 = .ok (.aload_n 0, 1) := by decide +kernel
theorem d_Gb_tapeNumber_22 : decode yGb_tapeNumber.2.1 22 = .ok (.getfield 138, 3) := by decide +kernel
theorem d_Gb_tapeNumber_25 : decode yGb_tapeNumber.2.1 25 = .ok (.iload_n 1, 1) := by decide +kernel
theorem d_Gb_tapeNumber_26 : decode yGb_tapeNumber.2.1 26 = .ok (.iload_n 2, 1) := by decide +kernel
theorem d_Gb_tapeNumber_27 : decode yGb_tapeNumber.2.1 27 = .ok (.iushr, 1) := by decide +kernel
theorem d_Gb_tapeNumber_28 : decode yGb_tapeNumber.2.1 28 = .ok (.sipush 255, 3) := by decide +kernel
theorem d_Gb_tapeNumber_31 : decode yGb_tapeNumber.2.1 31 = .ok (.iand, 1) := by decide +kernel
theorem d_Gb_tapeNumber_32 : decode yGb_tapeNumber.2.1 32 = .ok (.iastore, 1) := by decide +kernel
theorem d_Gb_tapeNumber_33 : decode yGb_tapeNumber.2.1 33 = .ok (.aload_n 0, 1) := by decide +kernel
theorem d_Gb_tapeNumber_34 : decode yGb_tapeNumber.2.1 34 = .ok (.dup, 1) := by decide +kernel
theorem d_Gb_tapeNumber_35 : decode yGb_tapeNumber.2.1 35 = .ok (.getfield 138, 3) := by decide +kernel
theorem d_Gb_tapeNumber_38 : decode yGb_tapeNumber.2.1 38 = .ok (.iconst 1, 1) := by decide +kernel
theorem d_Gb_tapeNumber_39 : decode yGb_tapeNumber.2.1 39 = .ok (.iadd, 1) := by decide +kernel
theorem d_Gb_tapeNumber_40 : decode yGb_tapeNumber.2.1 40 = .ok (.putfield 138, 3) := by decide +kernel
theorem d_Gb_tapeNumber_43 : decode yGb_tapeNumber.2.1 43 = .ok (.iinc 2 (-8), 3) := by decide +kernel
theorem d_Gb_tapeNumber_46 : decode yGb_tapeNumber.2.1 46 = .ok (.goto (-43), 3) := by decide +kernel
theorem d_Gb_tapeNumber_49 : decode yGb_tapeNumber.2.1 49 = .ok (.return_, 1) := by decide +kernel
def J_Gb_tapeNumber_43 (k : Int32 → gb_Mem → Option (gb_Mem)) (x1 x2 : Int32) (I : gb_Mem) : Option (gb_Mem) :=
  k (x2 + (-8)) I
set_option maxRecDepth 4000 in
theorem j_Gb_tapeNumber_43 (l : Launch) (d0 : Nat) {post : Option gb_AV → List gb_Ce → gb_Mem → Prop} (k : Int32 → gb_Mem → Option (gb_Mem)) (x1 x2 : Int32) (I : gb_Mem) {ρ : gb_Mem} (h : J_Gb_tapeNumber_43 k x1 x2 I = some ρ) (hk : ∀ (z2 : Int32) (Iw : gb_Mem), k z2 Iw = some ρ → gb_Go l yGb_tapeNumber (d0 + 0) 0 0 3 [(0, .inr (some 0)), (1, .inl x1), (2, .inl z2)] [] shX Iw post) (hX : ∀ (I2 : gb_Mem), ρ = I2 → gb_Go l yGb_tapeNumber (d0 + 0) 0 0 49 [] [] shX I2 post) : gb_Go l yGb_tapeNumber (d0 + 0) 0 0 43 [(0, .inr (some 0)), (1, .inl x1), (2, .inl x2)] [] shX I post := by
  unfold J_Gb_tapeNumber_43 at h
  refine go_iinc (k := 2) (v := x2 + (-8)) (lv' := [(2, .inl (x2 + (-8))), (0, .inr (some 0)), (1, .inl x1)]) d_Gb_tapeNumber_43 rfl rfl (by decide) rfl ?_
  refine go_goto (tgt := 3) d_Gb_tapeNumber_46 (by decide) ?_
  exact go_lv [1, 2, 0] rfl (hk _ _ h)
def L_Gb_tapeNumber_3 (x1 : Int32) : Nat → Int32 → gb_Mem → Option (gb_Mem)
  | 0, _, _ => none
  | n + 1, x2, I =>
    if x2 < 0 then
      some I
    else
      if 400 ≤ (I 0 10) then
        J_Gb_tapeNumber_43 (L_Gb_tapeNumber_3 x1 n) x1 x2 I
      else
        fsto I 110 400 (I 0 10) ((((x1).toUInt32 >>> (Int32.toUInt32 x2 &&& Int32.toUInt32 31)).toInt32) &&& 255) fun I1 =>
        fstf I1 0 10 ((I1 0 10) + 1) fun I2 =>
        J_Gb_tapeNumber_43 (L_Gb_tapeNumber_3 x1 n) x1 x2 I2
set_option maxRecDepth 4000 in
theorem l_Gb_tapeNumber_3 (l : Launch) (d0 : Nat) (x1 : Int32) {post : Option gb_AV → List gb_Ce → gb_Mem → Prop} : ∀ (n : Nat) (x2 : Int32) (I : gb_Mem) {ρ : gb_Mem} (h : L_Gb_tapeNumber_3 x1 n x2 I = some ρ) (hX : ∀ (I2 : gb_Mem), ρ = I2 → gb_Go l yGb_tapeNumber (d0 + 0) 0 0 49 [] [] shX I2 post) , gb_Go l yGb_tapeNumber (d0 + 0) 0 0 3 [(0, .inr (some 0)), (1, .inl x1), (2, .inl x2)] [] shX I post := by
  intro n
  induction n with
  | zero => intro x2 I ρ h hX; cases h
  | succ n ih =>
    intro x2 I ρ h hX
    rw [L_Gb_tapeNumber_3] at h
    refine go_iload_n (k := 2) d_Gb_tapeNumber_3 rfl rfl ?_
    refine go_if_lt (tgt := 49) d_Gb_tapeNumber_4 (by decide) (fun hc => ?_) (fun hc => ?_)
    · rw [if_pos hc] at h
      exact go_lv [] rfl (hX _ (Option.some.inj h).symm)
    · rw [if_neg hc] at h
      refine go_aload_n (k := 0) d_Gb_tapeNumber_7 rfl rfl ?_
      refine go_geti (ci := 0) (k := 10) d_Gb_tapeNumber_8 a_X_0 rfl (by decide) f_Gb_138 rfl ?_
      refine go_sipush (v := 400) d_Gb_tapeNumber_11 (by decide) ?_
      refine go_cmp_ge (tgt := 43) d_Gb_tapeNumber_14 (by decide) (fun hc => ?_) (fun hc => ?_)
      · rw [if_pos hc] at h
        exact go_lv [0, 1, 2] rfl (j_Gb_tapeNumber_43 l d0 (L_Gb_tapeNumber_3 x1 n) x1 x2 I h (fun z2 Iw hh => ih z2 Iw hh hX) hX)
      · rw [if_neg hc] at h
        refine go_aload_n (k := 0) d_Gb_tapeNumber_17 rfl rfl ?_
        refine go_getr (ci := 0) (k := 9) (r := 110) d_Gb_tapeNumber_18 a_X_0 rfl (by decide) f_Gb_64 rfl ?_
        refine go_aload_n (k := 0) d_Gb_tapeNumber_21 rfl rfl ?_
        refine go_geti (ci := 0) (k := 10) d_Gb_tapeNumber_22 a_X_0 rfl (by decide) f_Gb_138 rfl ?_
        refine go_iload_n (k := 1) d_Gb_tapeNumber_25 rfl rfl ?_
        refine go_iload_n (k := 2) d_Gb_tapeNumber_26 rfl rfl ?_
        refine go_iushr d_Gb_tapeNumber_27 ?_
        refine go_sipush (v := 255) d_Gb_tapeNumber_28 (by decide) ?_
        refine go_iand d_Gb_tapeNumber_31 ?_
        obtain ⟨hi, I1, eI1, h⟩ := fsto_e h
        refine go_iast (I' := I1) d_Gb_tapeNumber_32 a_X_110 hi eI1 ?_
        refine go_aload_n (k := 0) d_Gb_tapeNumber_33 rfl rfl ?_
        refine go_dup d_Gb_tapeNumber_34 ?_
        refine go_geti (ci := 0) (k := 10) d_Gb_tapeNumber_35 a_X_0 rfl (by decide) f_Gb_138 rfl ?_
        refine go_iconst (v := 1) d_Gb_tapeNumber_38 (by decide) ?_
        refine go_iadd d_Gb_tapeNumber_39 ?_
        obtain ⟨I2, eI2, h⟩ := fstf_e h
        refine go_putT (ci := 0) (k := 10) (I' := I2) d_Gb_tapeNumber_40 a_X_0 rfl (by decide) f_Gb_138 rfl rfl rfl rfl rfl eI2 ?_
        exact go_lv [0, 1, 2] rfl (j_Gb_tapeNumber_43 l d0 (L_Gb_tapeNumber_3 x1 n) x1 x2 I2 h (fun z2 Iw hh => ih z2 Iw hh hX) hX)
def F_Gb_tapeNumber (x1 : Int32) (I : gb_Mem) : Option (gb_Mem) :=
  fbd (L_Gb_tapeNumber_3 x1 5000 24 I) fun I3 =>
  some I3
set_option maxRecDepth 4000 in
theorem c_Gb_tapeNumber (l : Launch) (d0 : Nat) (x1 : Int32) (I : gb_Mem) {Iz : gb_Mem} (h : F_Gb_tapeNumber x1 I = some Iz) : gb_Cs l yGb_tapeNumber (d0 + 0) [.inr (some 0), .inl x1] shX I none Iz := by
  refine gb_Ct.of (lv := [(0, .inr (some 0)), (1, .inl x1)]) rfl (Nat.le_of_ble_eq_true rfl) rfl ?_
  unfold F_Gb_tapeNumber at h
  show gb_Go l yGb_tapeNumber (d0 + 0) 0 0 0 [(0, .inr (some 0)), (1, .inl x1)] [] shX I (gb_po shX none Iz)
  refine go_bipush (v := 24) d_Gb_tapeNumber_0 (by decide) ?_
  refine go_istore_n (lv' := [(2, .inl 24), (0, .inr (some 0)), (1, .inl x1)]) d_Gb_tapeNumber_2 rfl (by decide) rfl ?_
  refine go_lv [1, 2, 0] (lv' := [(0, .inr (some 0)), (1, .inl x1), (2, .inl 24)]) rfl ?_
  obtain ⟨I3, w1, h⟩ := fbd_e h
  refine l_Gb_tapeNumber_3 l d0 x1 5000 24 I w1 (fun I3_ e => ?_)
  cases e
  cases h
  exact go_return d_Gb_tapeNumber_49 rfl gb_po_i
theorem d_Gb_within_0 : decode yGb_within.2.1 0 = .ok (.iload_n 0, 1) := by decide +kernel
theorem d_Gb_within_1 : decode yGb_within.2.1 1 = .ok (.iload_n 1, 1) := by decide +kernel
theorem d_Gb_within_2 : decode yGb_within.2.1 2 = .ok (.if_icmp .lt 12, 3) := by decide +kernel
theorem d_Gb_within_5 : decode yGb_within.2.1 5 = .ok (.iload_n 0, 1) := by decide +kernel
theorem d_Gb_within_6 : decode yGb_within.2.1 6 = .ok (.iload_n 2, 1) := by decide +kernel
theorem d_Gb_within_7 : decode yGb_within.2.1 7 = .ok (.if_icmp .gt 7, 3) := by decide +kernel
theorem d_Gb_within_10 : decode yGb_within.2.1 10 = .ok (.iconst 1, 1) := by decide +kernel
theorem d_Gb_within_11 : decode yGb_within.2.1 11 = .ok (.goto 4, 3) := by decide +kernel
theorem d_Gb_within_14 : decode yGb_within.2.1 14 = .ok (.iconst 0, 1) := by decide +kernel
theorem d_Gb_within_15 : decode yGb_within.2.1 15 = .ok (.ireturn, 1) := by decide +kernel
def F_Gb_within (x0 x1 x2 : Int32) (I : gb_Mem) : Int32 :=
  if x0 < x1 then
    0
  else
    if x2 < x0 then
      0
    else
      1
set_option maxRecDepth 4000 in
theorem c_Gb_within (l : Launch) (d0 : Nat) (x0 x1 x2 : Int32) (I : gb_Mem)  : gb_Cs l yGb_within (d0 + 0) [.inl x0, .inl x1, .inl x2] shX I (some (.inl (F_Gb_within x0 x1 x2 I))) I := by
  refine gb_Ct.of (lv := [(0, .inl x0), (1, .inl x1), (2, .inl x2)]) rfl (Nat.le_of_ble_eq_true rfl) rfl ?_
  generalize h : F_Gb_within x0 x1 x2 I = rz
  unfold F_Gb_within at h
  show gb_Go l yGb_within (d0 + 0) 0 0 0 [(0, .inl x0), (1, .inl x1), (2, .inl x2)] [] shX I (gb_po shX (some (.inl rz)) I)
  refine go_iload_n (k := 0) d_Gb_within_0 rfl rfl ?_
  refine go_iload_n (k := 1) d_Gb_within_1 rfl rfl ?_
  refine go_cmp_lt (tgt := 14) d_Gb_within_2 (by decide) (fun hc => ?_) (fun hc => ?_)
  · rw [if_pos hc] at h
    refine go_iconst (v := 0) d_Gb_within_14 (by decide) ?_
    subst h
    exact go_zreturn d_Gb_within_15 rfl (Or.inl rfl) gb_po_i
  · rw [if_neg hc] at h
    refine go_iload_n (k := 0) d_Gb_within_5 rfl rfl ?_
    refine go_iload_n (k := 2) d_Gb_within_6 rfl rfl ?_
    refine go_cmp_gt (tgt := 14) d_Gb_within_7 (by decide) (fun hc => ?_) (fun hc => ?_)
    · rw [if_pos hc] at h
      refine go_iconst (v := 0) d_Gb_within_14 (by decide) ?_
      subst h
      exact go_zreturn d_Gb_within_15 rfl (Or.inl rfl) gb_po_i
    · rw [if_neg hc] at h
      refine go_iconst (v := 1) d_Gb_within_10 (by decide) ?_
      refine go_goto (tgt := 15) d_Gb_within_11 (by decide) ?_
      subst h
      exact go_zreturn d_Gb_within_15 rfl (Or.inr rfl) gb_po_i
theorem zb_Gb_within (x0 x1 x2 : Int32) (I : gb_Mem) : F_Gb_within x0 x1 x2 I = 0 ∨ F_Gb_within x0 x1 x2 I = 1 := by
  unfold F_Gb_within
  repeat' split
  all_goals first | exact Or.inl rfl | exact Or.inr rfl
theorem d_Ji_bitCount_0 : decode yJi_bitCount.2.1 0 = .ok (.iload_n 0, 1) := by decide +kernel
theorem d_Ji_bitCount_1 : decode yJi_bitCount.2.1 1 = .ok (.iload_n 0, 1) := by decide +kernel
theorem d_Ji_bitCount_2 : decode yJi_bitCount.2.1 2 = .ok (.iconst 1, 1) := by decide +kernel
theorem d_Ji_bitCount_3 : decode yJi_bitCount.2.1 3 = .ok (.iushr, 1) := by decide +kernel
theorem d_Ji_bitCount_4 : decode yJi_bitCount.2.1 4 = .ok (.ldc_w 265, 3) := by decide +kernel
theorem d_Ji_bitCount_7 : decode yJi_bitCount.2.1 7 = .ok (.iand, 1) := by decide +kernel
theorem d_Ji_bitCount_8 : decode yJi_bitCount.2.1 8 = .ok (.isub, 1) := by decide +kernel
theorem d_Ji_bitCount_9 : decode yJi_bitCount.2.1 9 = .ok (.istore_n 0, 1) := by decide +kernel
theorem d_Ji_bitCount_10 : decode yJi_bitCount.2.1 10 = .ok (.iload_n 0, 1) := by decide +kernel
theorem d_Ji_bitCount_11 : decode yJi_bitCount.2.1 11 = .ok (.ldc_w 266, 3) := by decide +kernel
theorem d_Ji_bitCount_14 : decode yJi_bitCount.2.1 14 = .ok (.iand, 1) := by decide +kernel
theorem d_Ji_bitCount_15 : decode yJi_bitCount.2.1 15 = .ok (.iload_n 0, 1) := by decide +kernel
theorem d_Ji_bitCount_16 : decode yJi_bitCount.2.1 16 = .ok (.iconst 2, 1) := by decide +kernel
theorem d_Ji_bitCount_17 : decode yJi_bitCount.2.1 17 = .ok (.iushr, 1) := by decide +kernel
theorem d_Ji_bitCount_18 : decode yJi_bitCount.2.1 18 = .ok (.ldc_w 266, 3) := by decide +kernel
theorem d_Ji_bitCount_21 : decode yJi_bitCount.2.1 21 = .ok (.iand, 1) := by decide +kernel
theorem d_Ji_bitCount_22 : decode yJi_bitCount.2.1 22 = .ok (.iadd, 1) := by decide +kernel
theorem d_Ji_bitCount_23 : decode yJi_bitCount.2.1 23 = .ok (.istore_n 0, 1) := by decide +kernel
theorem d_Ji_bitCount_24 : decode yJi_bitCount.2.1 24 = .ok (.iload_n 0, 1) := by decide +kernel
theorem d_Ji_bitCount_25 : decode yJi_bitCount.2.1 25 = .ok (.iload_n 0, 1) := by decide +kernel
theorem d_Ji_bitCount_26 : decode yJi_bitCount.2.1 26 = .ok (.iconst 4, 1) := by decide +kernel
theorem d_Ji_bitCount_27 : decode yJi_bitCount.2.1 27 = .ok (.iushr, 1) := by decide +kernel
theorem d_Ji_bitCount_28 : decode yJi_bitCount.2.1 28 = .ok (.iadd, 1) := by decide +kernel
theorem d_Ji_bitCount_29 : decode yJi_bitCount.2.1 29 = .ok (.ldc_w 267, 3) := by decide +kernel
theorem d_Ji_bitCount_32 : decode yJi_bitCount.2.1 32 = .ok (.iand, 1) := by decide +kernel
theorem d_Ji_bitCount_33 : decode yJi_bitCount.2.1 33 = .ok (.istore_n 0, 1) := by decide +kernel
theorem d_Ji_bitCount_34 : decode yJi_bitCount.2.1 34 = .ok (.iload_n 0, 1) := by decide +kernel
theorem d_Ji_bitCount_35 : decode yJi_bitCount.2.1 35 = .ok (.iload_n 0, 1) := by decide +kernel
theorem d_Ji_bitCount_36 : decode yJi_bitCount.2.1 36 = .ok (.bipush 8, 2) := by decide +kernel
theorem d_Ji_bitCount_38 : decode yJi_bitCount.2.1 38 = .ok (.iushr, 1) := by decide +kernel
theorem d_Ji_bitCount_39 : decode yJi_bitCount.2.1 39 = .ok (.iadd, 1) := by decide +kernel
theorem d_Ji_bitCount_40 : decode yJi_bitCount.2.1 40 = .ok (.istore_n 0, 1) := by decide +kernel
theorem d_Ji_bitCount_41 : decode yJi_bitCount.2.1 41 = .ok (.iload_n 0, 1) := by decide +kernel
theorem d_Ji_bitCount_42 : decode yJi_bitCount.2.1 42 = .ok (.iload_n 0, 1) := by decide +kernel
theorem d_Ji_bitCount_43 : decode yJi_bitCount.2.1 43 = .ok (.bipush 16, 2) := by decide +kernel
theorem d_Ji_bitCount_45 : decode yJi_bitCount.2.1 45 = .ok (.iushr, 1) := by decide +kernel
theorem d_Ji_bitCount_46 : decode yJi_bitCount.2.1 46 = .ok (.iadd, 1) := by decide +kernel
theorem d_Ji_bitCount_47 : decode yJi_bitCount.2.1 47 = .ok (.istore_n 0, 1) := by decide +kernel
theorem d_Ji_bitCount_48 : decode yJi_bitCount.2.1 48 = .ok (.iload_n 0, 1) := by decide +kernel
theorem d_Ji_bitCount_49 : decode yJi_bitCount.2.1 49 = .ok (.bipush 63, 2) := by decide +kernel
theorem d_Ji_bitCount_51 : decode yJi_bitCount.2.1 51 = .ok (.iand, 1) := by decide +kernel
theorem d_Ji_bitCount_52 : decode yJi_bitCount.2.1 52 = .ok (.ireturn, 1) := by decide +kernel
def F_Ji_bitCount (x0 : Int32) (I : gb_Mem) : Int32 :=
  (((((((x0 - ((((x0).toUInt32 >>> (Int32.toUInt32 1 &&& Int32.toUInt32 31)).toInt32) &&& 1431655765)) &&& 858993459) + (((((x0 - ((((x0).toUInt32 >>> (Int32.toUInt32 1 &&& Int32.toUInt32 31)).toInt32) &&& 1431655765))).toUInt32 >>> (Int32.toUInt32 2 &&& Int32.toUInt32 31)).toInt32) &&& 858993459)) + ((((((x0 - ((((x0).toUInt32 >>> (Int32.toUInt32 1 &&& Int32.toUInt32 31)).toInt32) &&& 1431655765)) &&& 858993459) + (((((x0 - ((((x0).toUInt32 >>> (Int32.toUInt32 1 &&& Int32.toUInt32 31)).toInt32) &&& 1431655765))).toUInt32 >>> (Int32.toUInt32 2 &&& Int32.toUInt32 31)).toInt32) &&& 858993459))).toUInt32 >>> (Int32.toUInt32 4 &&& Int32.toUInt32 31)).toInt32)) &&& 252645135) + ((((((((x0 - ((((x0).toUInt32 >>> (Int32.toUInt32 1 &&& Int32.toUInt32 31)).toInt32) &&& 1431655765)) &&& 858993459) + (((((x0 - ((((x0).toUInt32 >>> (Int32.toUInt32 1 &&& Int32.toUInt32 31)).toInt32) &&& 1431655765))).toUInt32 >>> (Int32.toUInt32 2 &&& Int32.toUInt32 31)).toInt32) &&& 858993459)) + ((((((x0 - ((((x0).toUInt32 >>> (Int32.toUInt32 1 &&& Int32.toUInt32 31)).toInt32) &&& 1431655765)) &&& 858993459) + (((((x0 - ((((x0).toUInt32 >>> (Int32.toUInt32 1 &&& Int32.toUInt32 31)).toInt32) &&& 1431655765))).toUInt32 >>> (Int32.toUInt32 2 &&& Int32.toUInt32 31)).toInt32) &&& 858993459))).toUInt32 >>> (Int32.toUInt32 4 &&& Int32.toUInt32 31)).toInt32)) &&& 252645135)).toUInt32 >>> (Int32.toUInt32 8 &&& Int32.toUInt32 31)).toInt32)) + (((((((((x0 - ((((x0).toUInt32 >>> (Int32.toUInt32 1 &&& Int32.toUInt32 31)).toInt32) &&& 1431655765)) &&& 858993459) + (((((x0 - ((((x0).toUInt32 >>> (Int32.toUInt32 1 &&& Int32.toUInt32 31)).toInt32) &&& 1431655765))).toUInt32 >>> (Int32.toUInt32 2 &&& Int32.toUInt32 31)).toInt32) &&& 858993459)) + ((((((x0 - ((((x0).toUInt32 >>> (Int32.toUInt32 1 &&& Int32.toUInt32 31)).toInt32) &&& 1431655765)) &&& 858993459) + (((((x0 - ((((x0).toUInt32 >>> (Int32.toUInt32 1 &&& Int32.toUInt32 31)).toInt32) &&& 1431655765))).toUInt32 >>> (Int32.toUInt32 2 &&& Int32.toUInt32 31)).toInt32) &&& 858993459))).toUInt32 >>> (Int32.toUInt32 4 &&& Int32.toUInt32 31)).toInt32)) &&& 252645135) + ((((((((x0 - ((((x0).toUInt32 >>> (Int32.toUInt32 1 &&& Int32.toUInt32 31)).toInt32) &&& 1431655765)) &&& 858993459) + (((((x0 - ((((x0).toUInt32 >>> (Int32.toUInt32 1 &&& Int32.toUInt32 31)).toInt32) &&& 1431655765))).toUInt32 >>> (Int32.toUInt32 2 &&& Int32.toUInt32 31)).toInt32) &&& 858993459)) + ((((((x0 - ((((x0).toUInt32 >>> (Int32.toUInt32 1 &&& Int32.toUInt32 31)).toInt32) &&& 1431655765)) &&& 858993459) + (((((x0 - ((((x0).toUInt32 >>> (Int32.toUInt32 1 &&& Int32.toUInt32 31)).toInt32) &&& 1431655765))).toUInt32 >>> (Int32.toUInt32 2 &&& Int32.toUInt32 31)).toInt32) &&& 858993459))).toUInt32 >>> (Int32.toUInt32 4 &&& Int32.toUInt32 31)).toInt32)) &&& 252645135)).toUInt32 >>> (Int32.toUInt32 8 &&& Int32.toUInt32 31)).toInt32))).toUInt32 >>> (Int32.toUInt32 16 &&& Int32.toUInt32 31)).toInt32)) &&& 63
set_option maxRecDepth 4000 in
theorem c_Ji_bitCount (l : Launch) (d0 : Nat) (x0 : Int32) (I : gb_Mem)  : gb_Cs l yJi_bitCount (d0 + 0) [.inl x0] shX I (some (.inl (F_Ji_bitCount x0 I))) I := by
  refine gb_Ct.of (lv := [(0, .inl x0)]) rfl (Nat.le_of_ble_eq_true rfl) rfl ?_
  generalize h : F_Ji_bitCount x0 I = rz
  unfold F_Ji_bitCount at h
  show gb_Go l yJi_bitCount (d0 + 0) 0 0 0 [(0, .inl x0)] [] shX I (gb_po shX (some (.inl rz)) I)
  refine go_iload_n (k := 0) d_Ji_bitCount_0 rfl rfl ?_
  refine go_iload_n (k := 0) d_Ji_bitCount_1 rfl rfl ?_
  refine go_iconst (v := 1) d_Ji_bitCount_2 (by decide) ?_
  refine go_iushr d_Ji_bitCount_3 ?_
  refine go_ldcw (v := 1431655765) d_Ji_bitCount_4 k_Ji_265 ?_
  refine go_iand d_Ji_bitCount_7 ?_
  refine go_isub d_Ji_bitCount_8 ?_
  refine go_istore_n (lv' := [(0, .inl (x0 - ((((x0).toUInt32 >>> (Int32.toUInt32 1 &&& Int32.toUInt32 31)).toInt32) &&& 1431655765)))]) d_Ji_bitCount_9 rfl (by decide) rfl ?_
  refine go_iload_n (k := 0) d_Ji_bitCount_10 rfl rfl ?_
  refine go_ldcw (v := 858993459) d_Ji_bitCount_11 k_Ji_266 ?_
  refine go_iand d_Ji_bitCount_14 ?_
  refine go_iload_n (k := 0) d_Ji_bitCount_15 rfl rfl ?_
  refine go_iconst (v := 2) d_Ji_bitCount_16 (by decide) ?_
  refine go_iushr d_Ji_bitCount_17 ?_
  refine go_ldcw (v := 858993459) d_Ji_bitCount_18 k_Ji_266 ?_
  refine go_iand d_Ji_bitCount_21 ?_
  refine go_iadd d_Ji_bitCount_22 ?_
  refine go_istore_n (lv' := [(0, .inl (((x0 - ((((x0).toUInt32 >>> (Int32.toUInt32 1 &&& Int32.toUInt32 31)).toInt32) &&& 1431655765)) &&& 858993459) + (((((x0 - ((((x0).toUInt32 >>> (Int32.toUInt32 1 &&& Int32.toUInt32 31)).toInt32) &&& 1431655765))).toUInt32 >>> (Int32.toUInt32 2 &&& Int32.toUInt32 31)).toInt32) &&& 858993459)))]) d_Ji_bitCount_23 rfl (by decide) rfl ?_
  refine go_iload_n (k := 0) d_Ji_bitCount_24 rfl rfl ?_
  refine go_iload_n (k := 0) d_Ji_bitCount_25 rfl rfl ?_
  refine go_iconst (v := 4) d_Ji_bitCount_26 (by decide) ?_
  refine go_iushr d_Ji_bitCount_27 ?_
  refine go_iadd d_Ji_bitCount_28 ?_
  refine go_ldcw (v := 252645135) d_Ji_bitCount_29 k_Ji_267 ?_
  refine go_iand d_Ji_bitCount_32 ?_
  refine go_istore_n (lv' := [(0, .inl (((((x0 - ((((x0).toUInt32 >>> (Int32.toUInt32 1 &&& Int32.toUInt32 31)).toInt32) &&& 1431655765)) &&& 858993459) + (((((x0 - ((((x0).toUInt32 >>> (Int32.toUInt32 1 &&& Int32.toUInt32 31)).toInt32) &&& 1431655765))).toUInt32 >>> (Int32.toUInt32 2 &&& Int32.toUInt32 31)).toInt32) &&& 858993459)) + ((((((x0 - ((((x0).toUInt32 >>> (Int32.toUInt32 1 &&& Int32.toUInt32 31)).toInt32) &&& 1431655765)) &&& 858993459) + (((((x0 - ((((x0).toUInt32 >>> (Int32.toUInt32 1 &&& Int32.toUInt32 31)).toInt32) &&& 1431655765))).toUInt32 >>> (Int32.toUInt32 2 &&& Int32.toUInt32 31)).toInt32) &&& 858993459))).toUInt32 >>> (Int32.toUInt32 4 &&& Int32.toUInt32 31)).toInt32)) &&& 252645135))]) d_Ji_bitCount_33 rfl (by decide) rfl ?_
  refine go_iload_n (k := 0) d_Ji_bitCount_34 rfl rfl ?_
  refine go_iload_n (k := 0) d_Ji_bitCount_35 rfl rfl ?_
  refine go_bipush (v := 8) d_Ji_bitCount_36 (by decide) ?_
  refine go_iushr d_Ji_bitCount_38 ?_
  refine go_iadd d_Ji_bitCount_39 ?_
  refine go_istore_n (lv' := [(0, .inl ((((((x0 - ((((x0).toUInt32 >>> (Int32.toUInt32 1 &&& Int32.toUInt32 31)).toInt32) &&& 1431655765)) &&& 858993459) + (((((x0 - ((((x0).toUInt32 >>> (Int32.toUInt32 1 &&& Int32.toUInt32 31)).toInt32) &&& 1431655765))).toUInt32 >>> (Int32.toUInt32 2 &&& Int32.toUInt32 31)).toInt32) &&& 858993459)) + ((((((x0 - ((((x0).toUInt32 >>> (Int32.toUInt32 1 &&& Int32.toUInt32 31)).toInt32) &&& 1431655765)) &&& 858993459) + (((((x0 - ((((x0).toUInt32 >>> (Int32.toUInt32 1 &&& Int32.toUInt32 31)).toInt32) &&& 1431655765))).toUInt32 >>> (Int32.toUInt32 2 &&& Int32.toUInt32 31)).toInt32) &&& 858993459))).toUInt32 >>> (Int32.toUInt32 4 &&& Int32.toUInt32 31)).toInt32)) &&& 252645135) + ((((((((x0 - ((((x0).toUInt32 >>> (Int32.toUInt32 1 &&& Int32.toUInt32 31)).toInt32) &&& 1431655765)) &&& 858993459) + (((((x0 - ((((x0).toUInt32 >>> (Int32.toUInt32 1 &&& Int32.toUInt32 31)).toInt32) &&& 1431655765))).toUInt32 >>> (Int32.toUInt32 2 &&& Int32.toUInt32 31)).toInt32) &&& 858993459)) + ((((((x0 - ((((x0).toUInt32 >>> (Int32.toUInt32 1 &&& Int32.toUInt32 31)).toInt32) &&& 1431655765)) &&& 858993459) + (((((x0 - ((((x0).toUInt32 >>> (Int32.toUInt32 1 &&& Int32.toUInt32 31)).toInt32) &&& 1431655765))).toUInt32 >>> (Int32.toUInt32 2 &&& Int32.toUInt32 31)).toInt32) &&& 858993459))).toUInt32 >>> (Int32.toUInt32 4 &&& Int32.toUInt32 31)).toInt32)) &&& 252645135)).toUInt32 >>> (Int32.toUInt32 8 &&& Int32.toUInt32 31)).toInt32)))]) d_Ji_bitCount_40 rfl (by decide) rfl ?_
  refine go_iload_n (k := 0) d_Ji_bitCount_41 rfl rfl ?_
  refine go_iload_n (k := 0) d_Ji_bitCount_42 rfl rfl ?_
  refine go_bipush (v := 16) d_Ji_bitCount_43 (by decide) ?_
  refine go_iushr d_Ji_bitCount_45 ?_
  refine go_iadd d_Ji_bitCount_46 ?_
  refine go_istore_n (lv' := [(0, .inl (((((((x0 - ((((x0).toUInt32 >>> (Int32.toUInt32 1 &&& Int32.toUInt32 31)).toInt32) &&& 1431655765)) &&& 858993459) + (((((x0 - ((((x0).toUInt32 >>> (Int32.toUInt32 1 &&& Int32.toUInt32 31)).toInt32) &&& 1431655765))).toUInt32 >>> (Int32.toUInt32 2 &&& Int32.toUInt32 31)).toInt32) &&& 858993459)) + ((((((x0 - ((((x0).toUInt32 >>> (Int32.toUInt32 1 &&& Int32.toUInt32 31)).toInt32) &&& 1431655765)) &&& 858993459) + (((((x0 - ((((x0).toUInt32 >>> (Int32.toUInt32 1 &&& Int32.toUInt32 31)).toInt32) &&& 1431655765))).toUInt32 >>> (Int32.toUInt32 2 &&& Int32.toUInt32 31)).toInt32) &&& 858993459))).toUInt32 >>> (Int32.toUInt32 4 &&& Int32.toUInt32 31)).toInt32)) &&& 252645135) + ((((((((x0 - ((((x0).toUInt32 >>> (Int32.toUInt32 1 &&& Int32.toUInt32 31)).toInt32) &&& 1431655765)) &&& 858993459) + (((((x0 - ((((x0).toUInt32 >>> (Int32.toUInt32 1 &&& Int32.toUInt32 31)).toInt32) &&& 1431655765))).toUInt32 >>> (Int32.toUInt32 2 &&& Int32.toUInt32 31)).toInt32) &&& 858993459)) + ((((((x0 - ((((x0).toUInt32 >>> (Int32.toUInt32 1 &&& Int32.toUInt32 31)).toInt32) &&& 1431655765)) &&& 858993459) + (((((x0 - ((((x0).toUInt32 >>> (Int32.toUInt32 1 &&& Int32.toUInt32 31)).toInt32) &&& 1431655765))).toUInt32 >>> (Int32.toUInt32 2 &&& Int32.toUInt32 31)).toInt32) &&& 858993459))).toUInt32 >>> (Int32.toUInt32 4 &&& Int32.toUInt32 31)).toInt32)) &&& 252645135)).toUInt32 >>> (Int32.toUInt32 8 &&& Int32.toUInt32 31)).toInt32)) + (((((((((x0 - ((((x0).toUInt32 >>> (Int32.toUInt32 1 &&& Int32.toUInt32 31)).toInt32) &&& 1431655765)) &&& 858993459) + (((((x0 - ((((x0).toUInt32 >>> (Int32.toUInt32 1 &&& Int32.toUInt32 31)).toInt32) &&& 1431655765))).toUInt32 >>> (Int32.toUInt32 2 &&& Int32.toUInt32 31)).toInt32) &&& 858993459)) + ((((((x0 - ((((x0).toUInt32 >>> (Int32.toUInt32 1 &&& Int32.toUInt32 31)).toInt32) &&& 1431655765)) &&& 858993459) + (((((x0 - ((((x0).toUInt32 >>> (Int32.toUInt32 1 &&& Int32.toUInt32 31)).toInt32) &&& 1431655765))).toUInt32 >>> (Int32.toUInt32 2 &&& Int32.toUInt32 31)).toInt32) &&& 858993459))).toUInt32 >>> (Int32.toUInt32 4 &&& Int32.toUInt32 31)).toInt32)) &&& 252645135) + ((((((((x0 - ((((x0).toUInt32 >>> (Int32.toUInt32 1 &&& Int32.toUInt32 31)).toInt32) &&& 1431655765)) &&& 858993459) + (((((x0 - ((((x0).toUInt32 >>> (Int32.toUInt32 1 &&& Int32.toUInt32 31)).toInt32) &&& 1431655765))).toUInt32 >>> (Int32.toUInt32 2 &&& Int32.toUInt32 31)).toInt32) &&& 858993459)) + ((((((x0 - ((((x0).toUInt32 >>> (Int32.toUInt32 1 &&& Int32.toUInt32 31)).toInt32) &&& 1431655765)) &&& 858993459) + (((((x0 - ((((x0).toUInt32 >>> (Int32.toUInt32 1 &&& Int32.toUInt32 31)).toInt32) &&& 1431655765))).toUInt32 >>> (Int32.toUInt32 2 &&& Int32.toUInt32 31)).toInt32) &&& 858993459))).toUInt32 >>> (Int32.toUInt32 4 &&& Int32.toUInt32 31)).toInt32)) &&& 252645135)).toUInt32 >>> (Int32.toUInt32 8 &&& Int32.toUInt32 31)).toInt32))).toUInt32 >>> (Int32.toUInt32 16 &&& Int32.toUInt32 31)).toInt32)))]) d_Ji_bitCount_47 rfl (by decide) rfl ?_
  refine go_iload_n (k := 0) d_Ji_bitCount_48 rfl rfl ?_
  refine go_bipush (v := 63) d_Ji_bitCount_49 (by decide) ?_
  refine go_iand d_Ji_bitCount_51 ?_
  subst h
  exact go_ireturn d_Ji_bitCount_52 rfl gb_po_i
theorem d_La_clear_0 : decode yLa_clear.2.1 0 = .ok (.aload_n 0, 1) := by decide +kernel
theorem d_La_clear_1 : decode yLa_clear.2.1 1 = .ok (.iconst 0, 1) := by decide +kernel
theorem d_La_clear_2 : decode yLa_clear.2.1 2 = .ok (.putfield 24, 3) := by decide +kernel
theorem d_La_clear_5 : decode yLa_clear.2.1 5 = .ok (.aload_n 0, 1) := by decide +kernel
theorem d_La_clear_6 : decode yLa_clear.2.1 6 = .ok (.iconst 0, 1) := by decide +kernel
theorem d_La_clear_7 : decode yLa_clear.2.1 7 = .ok (.putfield 28, 3) := by decide +kernel
theorem d_La_clear_10 : decode yLa_clear.2.1 10 = .ok (.return_, 1) := by decide +kernel
def F_La_clear (h0 : Nat) (I : gb_Mem) : Option (gb_Mem) :=
  fstf I h0 1 0 fun I1 =>
  fstf I1 h0 4 0 fun I2 =>
  some I2
set_option maxRecDepth 4000 in
theorem c_La_clear (l : Launch) (d0 : Nat) (h0 : Nat) (H0 : isLa h0) (I : gb_Mem) {Iz : gb_Mem} (h : F_La_clear h0 I = some Iz) : gb_Cs l yLa_clear (d0 + 0) [.inr (some h0)] shX I none Iz := by
  refine gb_Ct.of (lv := [(0, .inr (some h0))]) rfl (Nat.le_of_ble_eq_true rfl) rfl ?_
  unfold F_La_clear at h
  show gb_Go l yLa_clear (d0 + 0) 0 0 0 [(0, .inr (some h0))] [] shX I (gb_po shX none Iz)
  refine go_aload_n (k := 0) d_La_clear_0 rfl rfl ?_
  refine go_iconst (v := 0) d_La_clear_1 (by decide) ?_
  obtain ⟨I1, eI1, h⟩ := fstf_e h
  refine go_putT (ci := 3) (k := 1) (I' := I1) d_La_clear_2 H0.1 rfl (by decide) f_La_24 rfl rfl rfl rfl rfl eI1 ?_
  refine go_aload_n (k := 0) d_La_clear_5 rfl rfl ?_
  refine go_iconst (v := 0) d_La_clear_6 (by decide) ?_
  obtain ⟨I2, eI2, h⟩ := fstf_e h
  refine go_putT (ci := 3) (k := 4) (I' := I2) d_La_clear_7 H0.1 rfl (by decide) f_La_28 rfl rfl rfl rfl rfl eI2 ?_
  cases h
  exact go_return d_La_clear_10 rfl gb_po_i
theorem d_La_emit_0 : decode yLa_emit.2.1 0 = .ok (.aload_n 0, 1) := by decide +kernel
theorem d_La_emit_1 : decode yLa_emit.2.1 1 = .ok (.getfield 24, 3) := by decide +kernel
theorem d_La_emit_4 : decode yLa_emit.2.1 4 = .ok (.ifCond .lt 40, 3) := by decide +kernel
theorem d_La_emit_7 : decode yLa_emit.2.1 7 = .ok (.aload_n 0, 1) := by decide +kernel
theorem d_La_emit_8 : decode yLa_emit.2.1 8 = .ok (.getfield 24, 3) := by decide +kernel
theorem d_La_emit_11 : decode yLa_emit.2.1 11 = .ok (.aload_n 0, 1) := by decide +kernel
theorem d_La_emit_12 : decode yLa_emit.2.1 12 = .ok (.getfield 9, 3) := by decide +kernel
theorem d_La_emit_15 : decode yLa_emit.2.1 15 = .ok (.arraylength, 1) := by decide +kernel
theorem d_La_emit_16 : decode yLa_emit.2.1 16 = .ok (.if_icmp .ge 28, 3) := by decide +kernel
theorem d_La_emit_19 : decode yLa_emit.2.1 19 = .ok (.aload_n 0, 1) := by decide +kernel
theorem d_La_emit_20 : decode yLa_emit.2.1 20 = .ok (.getfield 9, 3) := by decide +kernel
theorem d_La_emit_23 : decode yLa_emit.2.1 23 = .ok (.aload_n 0, 1) := by decide +kernel
theorem d_La_emit_24 : decode yLa_emit.2.1 24 = .ok (.getfield 24, 3) := by decide +kernel
theorem d_La_emit_27 : decode yLa_emit.2.1 27 = .ok (.iload_n 1, 1) := by decide +kernel
theorem d_La_emit_28 : decode yLa_emit.2.1 28 = .ok (.bipush 14, 2) := by decide +kernel
theorem d_La_emit_30 : decode yLa_emit.2.1 30 = .ok (.ishl, 1) := by decide +kernel
theorem d_La_emit_31 : decode yLa_emit.2.1 31 = .ok (.iload_n 2, 1) := by decide +kernel
theorem d_La_emit_32 : decode yLa_emit.2.1 32 = .ok (.ior, 1) := by decide +kernel
theorem d_La_emit_33 : decode yLa_emit.2.1 33 = .ok (.iastore, 1) := by decide +kernel
theorem d_La_emit_34 : decode yLa_emit.2.1 34 = .ok (.aload_n 0, 1) := by decide +kernel
theorem d_La_emit_35 : decode yLa_emit.2.1 35 = .ok (.dup, 1) := by decide +kernel
theorem d_La_emit_36 : decode yLa_emit.2.1 36 = .ok (.getfield 24, 3) := by decide +kernel
theorem d_La_emit_39 : decode yLa_emit.2.1 39 = .ok (.iconst 1, 1) := by decide +kernel
theorem d_La_emit_40 : decode yLa_emit.2.1 40 = .ok (.iadd, 1) := by decide +kernel
theorem d_La_emit_41 : decode yLa_emit.2.1 41 = .ok (.putfield 24, 3) := by decide +kernel
theorem d_La_emit_44 : decode yLa_emit.2.1 44 = .ok (.return_, 1) := by decide +kernel
def F_La_emit (h0 : Nat) (x1 x2 : Int32) (I : gb_Mem) : Option (gb_Mem) :=
  if (I h0 1) < 0 then
    some I
  else
    if 400 ≤ (I h0 1) then
      some I
    else
      fsto I (h0 + 1) 400 (I h0 1) ((x1 <<< (14 &&& 31)) ||| x2) fun I1 =>
      fstf I1 h0 1 ((I1 h0 1) + 1) fun I2 =>
      some I2
set_option maxRecDepth 4000 in
theorem c_La_emit (l : Launch) (d0 : Nat) (h0 : Nat) (H0 : isLa h0) (x1 x2 : Int32) (I : gb_Mem) {Iz : gb_Mem} (h : F_La_emit h0 x1 x2 I = some Iz) : gb_Cs l yLa_emit (d0 + 0) [.inr (some h0), .inl x1, .inl x2] shX I none Iz := by
  refine gb_Ct.of (lv := [(0, .inr (some h0)), (1, .inl x1), (2, .inl x2)]) rfl (Nat.le_of_ble_eq_true rfl) rfl ?_
  unfold F_La_emit at h
  show gb_Go l yLa_emit (d0 + 0) 0 0 0 [(0, .inr (some h0)), (1, .inl x1), (2, .inl x2)] [] shX I (gb_po shX none Iz)
  refine go_aload_n (k := 0) d_La_emit_0 rfl rfl ?_
  refine go_geti (ci := 3) (k := 1) d_La_emit_1 H0.1 rfl (by decide) f_La_24 rfl ?_
  refine go_if_lt (tgt := 44) d_La_emit_4 (by decide) (fun hc => ?_) (fun hc => ?_)
  · rw [if_pos hc] at h
    cases h
    exact go_return d_La_emit_44 rfl gb_po_i
  · rw [if_neg hc] at h
    refine go_aload_n (k := 0) d_La_emit_7 rfl rfl ?_
    refine go_geti (ci := 3) (k := 1) d_La_emit_8 H0.1 rfl (by decide) f_La_24 rfl ?_
    refine go_aload_n (k := 0) d_La_emit_11 rfl rfl ?_
    refine go_getr (ci := 3) (k := 0) (r := (h0 + 1)) d_La_emit_12 H0.1 rfl (by decide) f_La_9 rfl ?_
    refine go_alen d_La_emit_15 H0.2.1 ?_
    refine go_top (v := 400) rfl ?_
    refine go_cmp_ge (tgt := 44) d_La_emit_16 (by decide) (fun hc => ?_) (fun hc => ?_)
    · rw [if_pos hc] at h
      cases h
      exact go_return d_La_emit_44 rfl gb_po_i
    · rw [if_neg hc] at h
      refine go_aload_n (k := 0) d_La_emit_19 rfl rfl ?_
      refine go_getr (ci := 3) (k := 0) (r := (h0 + 1)) d_La_emit_20 H0.1 rfl (by decide) f_La_9 rfl ?_
      refine go_aload_n (k := 0) d_La_emit_23 rfl rfl ?_
      refine go_geti (ci := 3) (k := 1) d_La_emit_24 H0.1 rfl (by decide) f_La_24 rfl ?_
      refine go_iload_n (k := 1) d_La_emit_27 rfl rfl ?_
      refine go_bipush (v := 14) d_La_emit_28 (by decide) ?_
      refine go_ishl d_La_emit_30 ?_
      refine go_iload_n (k := 2) d_La_emit_31 rfl rfl ?_
      refine go_ior d_La_emit_32 ?_
      obtain ⟨hi, I1, eI1, h⟩ := fsto_e h
      refine go_iast (I' := I1) d_La_emit_33 H0.2.1 hi eI1 ?_
      refine go_aload_n (k := 0) d_La_emit_34 rfl rfl ?_
      refine go_dup d_La_emit_35 ?_
      refine go_geti (ci := 3) (k := 1) d_La_emit_36 H0.1 rfl (by decide) f_La_24 rfl ?_
      refine go_iconst (v := 1) d_La_emit_39 (by decide) ?_
      refine go_iadd d_La_emit_40 ?_
      obtain ⟨I2, eI2, h⟩ := fstf_e h
      refine go_putT (ci := 3) (k := 1) (I' := I2) d_La_emit_41 H0.1 rfl (by decide) f_La_24 rfl rfl rfl rfl rfl eI2 ?_
      cases h
      exact go_return d_La_emit_44 rfl gb_po_i
theorem d_La_joined_0 : decode yLa_joined.2.1 0 = .ok (.iload_n 0, 1) := by decide +kernel
theorem d_La_joined_1 : decode yLa_joined.2.1 1 = .ok (.tableswitch 92 4 10 #[43, 47, 51, 55, 66, 77, 88], 43) := by decide +kernel
theorem d_La_joined_44 : decode yLa_joined.2.1 44 = .ok (.iload_n 1, 1) := by decide +kernel
theorem d_La_joined_45 : decode yLa_joined.2.1 45 = .ok (.iload_n 2, 1) := by decide +kernel
theorem d_La_joined_46 : decode yLa_joined.2.1 46 = .ok (.iadd, 1) := by decide +kernel
theorem d_La_joined_47 : decode yLa_joined.2.1 47 = .ok (.ireturn, 1) := by decide +kernel
theorem d_La_joined_48 : decode yLa_joined.2.1 48 = .ok (.iload_n 1, 1) := by decide +kernel
theorem d_La_joined_49 : decode yLa_joined.2.1 49 = .ok (.iload_n 2, 1) := by decide +kernel
theorem d_La_joined_50 : decode yLa_joined.2.1 50 = .ok (.isub, 1) := by decide +kernel
theorem d_La_joined_51 : decode yLa_joined.2.1 51 = .ok (.ireturn, 1) := by decide +kernel
theorem d_La_joined_52 : decode yLa_joined.2.1 52 = .ok (.iload_n 1, 1) := by decide +kernel
theorem d_La_joined_53 : decode yLa_joined.2.1 53 = .ok (.iload_n 2, 1) := by decide +kernel
theorem d_La_joined_54 : decode yLa_joined.2.1 54 = .ok (.imul, 1) := by decide +kernel
theorem d_La_joined_55 : decode yLa_joined.2.1 55 = .ok (.ireturn, 1) := by decide +kernel
theorem d_La_joined_56 : decode yLa_joined.2.1 56 = .ok (.iload_n 1, 1) := by decide +kernel
theorem d_La_joined_57 : decode yLa_joined.2.1 57 = .ok (.iload_n 2, 1) := by decide +kernel
theorem d_La_joined_58 : decode yLa_joined.2.1 58 = .ok (.if_icmp .ge 7, 3) := by decide +kernel
theorem d_La_joined_61 : decode yLa_joined.2.1 61 = .ok (.iconst 1, 1) := by decide +kernel
theorem d_La_joined_62 : decode yLa_joined.2.1 62 = .ok (.goto 4, 3) := by decide +kernel
theorem d_La_joined_65 : decode yLa_joined.2.1 65 = .ok (.iconst 0, 1) := by decide +kernel
theorem d_La_joined_66 : decode yLa_joined.2.1 66 = .ok (.ireturn, 1) := by decide +kernel
theorem d_La_joined_67 : decode yLa_joined.2.1 67 = .ok (.iload_n 1, 1) := by decide +kernel
theorem d_La_joined_68 : decode yLa_joined.2.1 68 = .ok (.iload_n 2, 1) := by decide +kernel
theorem d_La_joined_69 : decode yLa_joined.2.1 69 = .ok (.if_icmp .ne 7, 3) := by decide +kernel
theorem d_La_joined_72 : decode yLa_joined.2.1 72 = .ok (.iconst 1, 1) := by decide +kernel
theorem d_La_joined_73 : decode yLa_joined.2.1 73 = .ok (.goto 4, 3) := by decide +kernel
theorem d_La_joined_76 : decode yLa_joined.2.1 76 = .ok (.iconst 0, 1) := by decide +kernel
theorem d_La_joined_77 : decode yLa_joined.2.1 77 = .ok (.ireturn, 1) := by decide +kernel
theorem d_La_joined_78 : decode yLa_joined.2.1 78 = .ok (.iload_n 1, 1) := by decide +kernel
theorem d_La_joined_79 : decode yLa_joined.2.1 79 = .ok (.iload_n 2, 1) := by decide +kernel
theorem d_La_joined_80 : decode yLa_joined.2.1 80 = .ok (.if_icmp .le 7, 3) := by decide +kernel
theorem d_La_joined_83 : decode yLa_joined.2.1 83 = .ok (.iconst 1, 1) := by decide +kernel
theorem d_La_joined_84 : decode yLa_joined.2.1 84 = .ok (.goto 4, 3) := by decide +kernel
theorem d_La_joined_87 : decode yLa_joined.2.1 87 = .ok (.iconst 0, 1) := by decide +kernel
theorem d_La_joined_88 : decode yLa_joined.2.1 88 = .ok (.ireturn, 1) := by decide +kernel
theorem d_La_joined_89 : decode yLa_joined.2.1 89 = .ok (.iload_n 1, 1) := by decide +kernel
theorem d_La_joined_90 : decode yLa_joined.2.1 90 = .ok (.iload_n 2, 1) := by decide +kernel
theorem d_La_joined_91 : decode yLa_joined.2.1 91 = .ok (.iand, 1) := by decide +kernel
theorem d_La_joined_92 : decode yLa_joined.2.1 92 = .ok (.ireturn, 1) := by decide +kernel
theorem d_La_joined_93 : decode yLa_joined.2.1 93 = .ok (.iload_n 1, 1) := by decide +kernel
theorem d_La_joined_94 : decode yLa_joined.2.1 94 = .ok (.iload_n 2, 1) := by decide +kernel
theorem d_La_joined_95 : decode yLa_joined.2.1 95 = .ok (.ior, 1) := by decide +kernel
theorem d_La_joined_96 : decode yLa_joined.2.1 96 = .ok (.ireturn, 1) := by decide +kernel
def F_La_joined (x0 x1 x2 : Int32) (I : gb_Mem) : Int32 :=
  if x0 = 4 then
    x1 + x2
  else
  if x0 = 5 then
    x1 - x2
  else
  if x0 = 6 then
    x1 * x2
  else
  if x0 = 7 then
    if x2 ≤ x1 then
      0
    else
      1
  else
  if x0 = 8 then
    if x1 = x2 then
      1
    else
      0
  else
  if x0 = 9 then
    if x1 ≤ x2 then
      0
    else
      1
  else
  if x0 = 10 then
    x1 &&& x2
  else
  x1 ||| x2
set_option maxRecDepth 4000 in
theorem c_La_joined (l : Launch) (d0 : Nat) (x0 x1 x2 : Int32) (I : gb_Mem)  : gb_Cs l yLa_joined (d0 + 0) [.inl x0, .inl x1, .inl x2] shX I (some (.inl (F_La_joined x0 x1 x2 I))) I := by
  refine gb_Ct.of (lv := [(0, .inl x0), (1, .inl x1), (2, .inl x2)]) rfl (Nat.le_of_ble_eq_true rfl) rfl ?_
  generalize h : F_La_joined x0 x1 x2 I = rz
  unfold F_La_joined at h
  show gb_Go l yLa_joined (d0 + 0) 0 0 0 [(0, .inl x0), (1, .inl x1), (2, .inl x2)] [] shX I (gb_po shX (some (.inl rz)) I)
  refine go_iload_n (k := 0) d_La_joined_0 rfl rfl ?_
  by_cases hc4 : x0 = 4
  · rw [if_pos hc4] at h
    refine go_tsIn (tgt := 44) d_La_joined_1 (by rw [hc4]; decide) (by rw [hc4]; decide) (by rw [hc4]; rfl) (by decide) ?_
    refine go_iload_n (k := 1) d_La_joined_44 rfl rfl ?_
    refine go_iload_n (k := 2) d_La_joined_45 rfl rfl ?_
    refine go_iadd d_La_joined_46 ?_
    subst h
    exact go_ireturn d_La_joined_47 rfl gb_po_i
  · rw [if_neg hc4] at h
    by_cases hc5 : x0 = 5
    · rw [if_pos hc5] at h
      refine go_tsIn (tgt := 48) d_La_joined_1 (by rw [hc5]; decide) (by rw [hc5]; decide) (by rw [hc5]; rfl) (by decide) ?_
      refine go_iload_n (k := 1) d_La_joined_48 rfl rfl ?_
      refine go_iload_n (k := 2) d_La_joined_49 rfl rfl ?_
      refine go_isub d_La_joined_50 ?_
      subst h
      exact go_ireturn d_La_joined_51 rfl gb_po_i
    · rw [if_neg hc5] at h
      by_cases hc6 : x0 = 6
      · rw [if_pos hc6] at h
        refine go_tsIn (tgt := 52) d_La_joined_1 (by rw [hc6]; decide) (by rw [hc6]; decide) (by rw [hc6]; rfl) (by decide) ?_
        refine go_iload_n (k := 1) d_La_joined_52 rfl rfl ?_
        refine go_iload_n (k := 2) d_La_joined_53 rfl rfl ?_
        refine go_imul d_La_joined_54 ?_
        subst h
        exact go_ireturn d_La_joined_55 rfl gb_po_i
      · rw [if_neg hc6] at h
        by_cases hc7 : x0 = 7
        · rw [if_pos hc7] at h
          refine go_tsIn (tgt := 56) d_La_joined_1 (by rw [hc7]; decide) (by rw [hc7]; decide) (by rw [hc7]; rfl) (by decide) ?_
          refine go_iload_n (k := 1) d_La_joined_56 rfl rfl ?_
          refine go_iload_n (k := 2) d_La_joined_57 rfl rfl ?_
          refine go_cmp_ge (tgt := 65) d_La_joined_58 (by decide) (fun hc => ?_) (fun hc => ?_)
          · rw [if_pos hc] at h
            refine go_iconst (v := 0) d_La_joined_65 (by decide) ?_
            subst h
            exact go_ireturn d_La_joined_66 rfl gb_po_i
          · rw [if_neg hc] at h
            refine go_iconst (v := 1) d_La_joined_61 (by decide) ?_
            refine go_goto (tgt := 66) d_La_joined_62 (by decide) ?_
            subst h
            exact go_ireturn d_La_joined_66 rfl gb_po_i
        · rw [if_neg hc7] at h
          by_cases hc8 : x0 = 8
          · rw [if_pos hc8] at h
            refine go_tsIn (tgt := 67) d_La_joined_1 (by rw [hc8]; decide) (by rw [hc8]; decide) (by rw [hc8]; rfl) (by decide) ?_
            refine go_iload_n (k := 1) d_La_joined_67 rfl rfl ?_
            refine go_iload_n (k := 2) d_La_joined_68 rfl rfl ?_
            refine go_cmp_ne (tgt := 76) d_La_joined_69 (by decide) (fun hc => ?_) (fun hc => ?_)
            · rw [if_neg hc] at h
              refine go_iconst (v := 0) d_La_joined_76 (by decide) ?_
              subst h
              exact go_ireturn d_La_joined_77 rfl gb_po_i
            · rw [if_pos hc] at h
              refine go_iconst (v := 1) d_La_joined_72 (by decide) ?_
              refine go_goto (tgt := 77) d_La_joined_73 (by decide) ?_
              subst h
              exact go_ireturn d_La_joined_77 rfl gb_po_i
          · rw [if_neg hc8] at h
            by_cases hc9 : x0 = 9
            · rw [if_pos hc9] at h
              refine go_tsIn (tgt := 78) d_La_joined_1 (by rw [hc9]; decide) (by rw [hc9]; decide) (by rw [hc9]; rfl) (by decide) ?_
              refine go_iload_n (k := 1) d_La_joined_78 rfl rfl ?_
              refine go_iload_n (k := 2) d_La_joined_79 rfl rfl ?_
              refine go_cmp_le (tgt := 87) d_La_joined_80 (by decide) (fun hc => ?_) (fun hc => ?_)
              · rw [if_pos hc] at h
                refine go_iconst (v := 0) d_La_joined_87 (by decide) ?_
                subst h
                exact go_ireturn d_La_joined_88 rfl gb_po_i
              · rw [if_neg hc] at h
                refine go_iconst (v := 1) d_La_joined_83 (by decide) ?_
                refine go_goto (tgt := 88) d_La_joined_84 (by decide) ?_
                subst h
                exact go_ireturn d_La_joined_88 rfl gb_po_i
            · rw [if_neg hc9] at h
              by_cases hc10 : x0 = 10
              · rw [if_pos hc10] at h
                refine go_tsIn (tgt := 89) d_La_joined_1 (by rw [hc10]; decide) (by rw [hc10]; decide) (by rw [hc10]; rfl) (by decide) ?_
                refine go_iload_n (k := 1) d_La_joined_89 rfl rfl ?_
                refine go_iload_n (k := 2) d_La_joined_90 rfl rfl ?_
                refine go_iand d_La_joined_91 ?_
                subst h
                exact go_ireturn d_La_joined_92 rfl gb_po_i
              · rw [if_neg hc10] at h
                refine go_tsOut (tgt := 93) d_La_joined_1 (by have ehc4 := lv_neT hc4 (a := 4) (by decide); have ehc5 := lv_neT hc5 (a := 5) (by decide); have ehc6 := lv_neT hc6 (a := 6) (by decide); have ehc7 := lv_neT hc7 (a := 7) (by decide); have ehc8 := lv_neT hc8 (a := 8) (by decide); have ehc9 := lv_neT hc9 (a := 9) (by decide); have ehc10 := lv_neT hc10 (a := 10) (by decide); omega) (by decide) ?_
                refine go_iload_n (k := 1) d_La_joined_93 rfl rfl ?_
                refine go_iload_n (k := 2) d_La_joined_94 rfl rfl ?_
                refine go_ior d_La_joined_95 ?_
                subst h
                exact go_ireturn d_La_joined_96 rfl gb_po_i
theorem d_Pa_forget_0 : decode yPa_forget.2.1 0 = .ok (.aload_n 0, 1) := by decide +kernel
theorem d_Pa_forget_1 : decode yPa_forget.2.1 1 = .ok (.iconst 0, 1) := by decide +kernel
theorem d_Pa_forget_2 : decode yPa_forget.2.1 2 = .ok (.putfield 22, 3) := by decide +kernel
theorem d_Pa_forget_5 : decode yPa_forget.2.1 5 = .ok (.return_, 1) := by decide +kernel
def F_Pa_forget (I : gb_Mem) : Option (gb_Mem) :=
  fstf I 69 3 0 fun I1 =>
  some I1
set_option maxRecDepth 4000 in
theorem c_Pa_forget (l : Launch) (d0 : Nat) (I : gb_Mem) {Iz : gb_Mem} (h : F_Pa_forget I = some Iz) : gb_Cs l yPa_forget (d0 + 0) [.inr (some 69)] shX I none Iz := by
  refine gb_Ct.of (lv := [(0, .inr (some 69))]) rfl (Nat.le_of_ble_eq_true rfl) rfl ?_
  unfold F_Pa_forget at h
  show gb_Go l yPa_forget (d0 + 0) 0 0 0 [(0, .inr (some 69))] [] shX I (gb_po shX none Iz)
  refine go_aload_n (k := 0) d_Pa_forget_0 rfl rfl ?_
  refine go_iconst (v := 0) d_Pa_forget_1 (by decide) ?_
  obtain ⟨I1, eI1, h⟩ := fstf_e h
  refine go_putT (ci := 5) (k := 3) (I' := I1) d_Pa_forget_2 a_X_69 rfl (by decide) f_Pa_22 rfl rfl rfl rfl rfl eI1 ?_
  cases h
  exact go_return d_Pa_forget_5 rfl gb_po_i
theorem d_Rd_now_0 : decode yRd_now.2.1 0 = .ok (.aload_n 0, 1) := by decide +kernel
theorem d_Rd_now_1 : decode yRd_now.2.1 1 = .ok (.getfield 80, 3) := by decide +kernel
theorem d_Rd_now_4 : decode yRd_now.2.1 4 = .ok (.ifCond .lt 26, 3) := by decide +kernel
theorem d_Rd_now_7 : decode yRd_now.2.1 7 = .ok (.aload_n 0, 1) := by decide +kernel
theorem d_Rd_now_8 : decode yRd_now.2.1 8 = .ok (.getfield 80, 3) := by decide +kernel
theorem d_Rd_now_11 : decode yRd_now.2.1 11 = .ok (.aload_n 0, 1) := by decide +kernel
theorem d_Rd_now_12 : decode yRd_now.2.1 12 = .ok (.getfield 131, 3) := by decide +kernel
theorem d_Rd_now_15 : decode yRd_now.2.1 15 = .ok (.if_icmp .ge 15, 3) := by decide +kernel
theorem d_Rd_now_18 : decode yRd_now.2.1 18 = .ok (.aload_n 0, 1) := by decide +kernel
theorem d_Rd_now_19 : decode yRd_now.2.1 19 = .ok (.getfield 9, 3) := by decide +kernel
theorem d_Rd_now_22 : decode yRd_now.2.1 22 = .ok (.aload_n 0, 1) := by decide +kernel
theorem d_Rd_now_23 : decode yRd_now.2.1 23 = .ok (.getfield 80, 3) := by decide +kernel
theorem d_Rd_now_26 : decode yRd_now.2.1 26 = .ok (.iaload, 1) := by decide +kernel
theorem d_Rd_now_27 : decode yRd_now.2.1 27 = .ok (.goto 4, 3) := by decide +kernel
theorem d_Rd_now_30 : decode yRd_now.2.1 30 = .ok (.iconst 0, 1) := by decide +kernel
theorem d_Rd_now_31 : decode yRd_now.2.1 31 = .ok (.ireturn, 1) := by decide +kernel
def F_Rd_now (I : gb_Mem) : Option (Int32) :=
  if (I 111 6) < 0 then
    some 0
  else
    if (I 111 5) ≤ (I 111 6) then
      some 0
    else
      flod I 112 401 (I 111 6) fun v1 =>
      some v1
set_option maxRecDepth 4000 in
theorem c_Rd_now (l : Launch) (d0 : Nat) (I : gb_Mem) {rz : Int32} (h : F_Rd_now I = some rz) : gb_Cs l yRd_now (d0 + 0) [.inr (some 111)] shX I (some (.inl rz)) I := by
  refine gb_Ct.of (lv := [(0, .inr (some 111))]) rfl (Nat.le_of_ble_eq_true rfl) rfl ?_
  unfold F_Rd_now at h
  show gb_Go l yRd_now (d0 + 0) 0 0 0 [(0, .inr (some 111))] [] shX I (gb_po shX (some (.inl rz)) I)
  refine go_aload_n (k := 0) d_Rd_now_0 rfl rfl ?_
  refine go_geti (ci := 9) (k := 6) d_Rd_now_1 a_X_111 rfl (by decide) f_Rd_80 rfl ?_
  refine go_if_lt (tgt := 30) d_Rd_now_4 (by decide) (fun hc => ?_) (fun hc => ?_)
  · rw [if_pos hc] at h
    refine go_iconst (v := 0) d_Rd_now_30 (by decide) ?_
    cases h
    exact go_ireturn d_Rd_now_31 rfl gb_po_i
  · rw [if_neg hc] at h
    refine go_aload_n (k := 0) d_Rd_now_7 rfl rfl ?_
    refine go_geti (ci := 9) (k := 6) d_Rd_now_8 a_X_111 rfl (by decide) f_Rd_80 rfl ?_
    refine go_aload_n (k := 0) d_Rd_now_11 rfl rfl ?_
    refine go_geti (ci := 9) (k := 5) d_Rd_now_12 a_X_111 rfl (by decide) f_Rd_131 rfl ?_
    refine go_cmp_ge (tgt := 30) d_Rd_now_15 (by decide) (fun hc => ?_) (fun hc => ?_)
    · rw [if_pos hc] at h
      refine go_iconst (v := 0) d_Rd_now_30 (by decide) ?_
      cases h
      exact go_ireturn d_Rd_now_31 rfl gb_po_i
    · rw [if_neg hc] at h
      refine go_aload_n (k := 0) d_Rd_now_18 rfl rfl ?_
      refine go_getr (ci := 9) (k := 3) (r := 112) d_Rd_now_19 a_X_111 rfl (by decide) f_Rd_9 rfl ?_
      refine go_aload_n (k := 0) d_Rd_now_22 rfl rfl ?_
      refine go_geti (ci := 9) (k := 6) d_Rd_now_23 a_X_111 rfl (by decide) f_Rd_80 rfl ?_
      obtain ⟨hi, v1, ev1, h⟩ := flod_e h
      refine go_iald2 d_Rd_now_26 a_X_112 hi ev1 ?_
      refine go_goto (tgt := 31) d_Rd_now_27 (by decide) ?_
      cases h
      exact go_ireturn d_Rd_now_31 rfl gb_po_i
theorem d_Rd_refuse_0 : decode yRd_refuse.2.1 0 = .ok (.aload_n 0, 1) := by decide +kernel
theorem d_Rd_refuse_1 : decode yRd_refuse.2.1 1 = .ok (.getfield 53, 3) := by decide +kernel
theorem d_Rd_refuse_4 : decode yRd_refuse.2.1 4 = .ok (.ifCond .ne 46, 3) := by decide +kernel
theorem d_Rd_refuse_7 : decode yRd_refuse.2.1 7 = .ok (.aload_n 0, 1) := by decide +kernel
theorem d_Rd_refuse_8 : decode yRd_refuse.2.1 8 = .ok (.iload_n 1, 1) := by decide +kernel
theorem d_Rd_refuse_9 : decode yRd_refuse.2.1 9 = .ok (.putfield 53, 3) := by decide +kernel
theorem d_Rd_refuse_12 : decode yRd_refuse.2.1 12 = .ok (.aload_n 0, 1) := by decide +kernel
theorem d_Rd_refuse_13 : decode yRd_refuse.2.1 13 = .ok (.aload_n 0, 1) := by decide +kernel
theorem d_Rd_refuse_14 : decode yRd_refuse.2.1 14 = .ok (.getfield 80, 3) := by decide +kernel
theorem d_Rd_refuse_17 : decode yRd_refuse.2.1 17 = .ok (.ifCond .lt 26, 3) := by decide +kernel
theorem d_Rd_refuse_20 : decode yRd_refuse.2.1 20 = .ok (.aload_n 0, 1) := by decide +kernel
theorem d_Rd_refuse_21 : decode yRd_refuse.2.1 21 = .ok (.getfield 80, 3) := by decide +kernel
theorem d_Rd_refuse_24 : decode yRd_refuse.2.1 24 = .ok (.aload_n 0, 1) := by decide +kernel
theorem d_Rd_refuse_25 : decode yRd_refuse.2.1 25 = .ok (.getfield 131, 3) := by decide +kernel
theorem d_Rd_refuse_28 : decode yRd_refuse.2.1 28 = .ok (.if_icmp .ge 15, 3) := by decide +kernel
theorem d_Rd_refuse_31 : decode yRd_refuse.2.1 31 = .ok (.aload_n 0, 1) := by decide +kernel
theorem d_Rd_refuse_32 : decode yRd_refuse.2.1 32 = .ok (.getfield 15, 3) := by decide +kernel
theorem d_Rd_refuse_35 : decode yRd_refuse.2.1 35 = .ok (.aload_n 0, 1) := by decide +kernel
theorem d_Rd_refuse_36 : decode yRd_refuse.2.1 36 = .ok (.getfield 80, 3) := by decide +kernel
theorem d_Rd_refuse_39 : decode yRd_refuse.2.1 39 = .ok (.iaload, 1) := by decide +kernel
theorem d_Rd_refuse_40 : decode yRd_refuse.2.1 40 = .ok (.goto 7, 3) := by decide +kernel
theorem d_Rd_refuse_43 : decode yRd_refuse.2.1 43 = .ok (.aload_n 0, 1) := by decide +kernel
theorem d_Rd_refuse_44 : decode yRd_refuse.2.1 44 = .ok (.getfield 47, 3) := by decide +kernel
theorem d_Rd_refuse_47 : decode yRd_refuse.2.1 47 = .ok (.putfield 18, 3) := by decide +kernel
theorem d_Rd_refuse_50 : decode yRd_refuse.2.1 50 = .ok (.return_, 1) := by decide +kernel
def J_Rd_refuse_47 (s0 : Int32) (I : gb_Mem) : Option (gb_Mem) :=
  fstf I 111 8 s0 fun I2 =>
  some I2
set_option maxRecDepth 4000 in
theorem j_Rd_refuse_47 (l : Launch) (d0 : Nat) (s0 : Int32) (I : gb_Mem) {Iz : gb_Mem} (h : J_Rd_refuse_47 s0 I = some Iz) : gb_Go l yRd_refuse (d0 + 0) 0 0 47 [] [.inl s0, .inr (some 111)] shX I (gb_po shX none Iz) := by
  unfold J_Rd_refuse_47 at h
  obtain ⟨I2, eI2, h⟩ := fstf_e h
  refine go_putT (ci := 9) (k := 8) (I' := I2) d_Rd_refuse_47 a_X_111 rfl (by decide) f_Rd_18 rfl rfl rfl rfl rfl eI2 ?_
  cases h
  exact go_return d_Rd_refuse_50 rfl gb_po_i
def J_Rd_refuse_43 (I : gb_Mem) : Option (gb_Mem) :=
  J_Rd_refuse_47 (I 111 1) I
set_option maxRecDepth 4000 in
theorem j_Rd_refuse_43 (l : Launch) (d0 : Nat) (I : gb_Mem) {Iz : gb_Mem} (h : J_Rd_refuse_43 I = some Iz) : gb_Go l yRd_refuse (d0 + 0) 0 0 43 [(0, .inr (some 111))] [.inr (some 111)] shX I (gb_po shX none Iz) := by
  unfold J_Rd_refuse_43 at h
  refine go_aload_n (k := 0) d_Rd_refuse_43 rfl rfl ?_
  refine go_geti (ci := 9) (k := 1) d_Rd_refuse_44 a_X_111 rfl (by decide) f_Rd_47 rfl ?_
  exact go_lv [] rfl (j_Rd_refuse_47 l d0 (I 111 1) I h)
def F_Rd_refuse (x1 : Int32) (I : gb_Mem) : Option (gb_Mem) :=
  if (I 111 7) = 0 then
    fstf I 111 7 x1 fun I1 =>
    if (I1 111 6) < 0 then
      J_Rd_refuse_43 I1
    else
      if (I1 111 5) ≤ (I1 111 6) then
        J_Rd_refuse_43 I1
      else
        flod I1 113 401 (I1 111 6) fun v3 =>
        J_Rd_refuse_47 v3 I1
  else
    some I
set_option maxRecDepth 4000 in
theorem c_Rd_refuse (l : Launch) (d0 : Nat) (x1 : Int32) (I : gb_Mem) {Iz : gb_Mem} (h : F_Rd_refuse x1 I = some Iz) : gb_Cs l yRd_refuse (d0 + 0) [.inr (some 111), .inl x1] shX I none Iz := by
  refine gb_Ct.of (lv := [(0, .inr (some 111)), (1, .inl x1)]) rfl (Nat.le_of_ble_eq_true rfl) rfl ?_
  unfold F_Rd_refuse at h
  show gb_Go l yRd_refuse (d0 + 0) 0 0 0 [(0, .inr (some 111)), (1, .inl x1)] [] shX I (gb_po shX none Iz)
  refine go_aload_n (k := 0) d_Rd_refuse_0 rfl rfl ?_
  refine go_geti (ci := 9) (k := 7) d_Rd_refuse_1 a_X_111 rfl (by decide) f_Rd_53 rfl ?_
  refine go_if_ne (tgt := 50) d_Rd_refuse_4 (by decide) (fun hc => ?_) (fun hc => ?_)
  · rw [if_neg hc] at h
    cases h
    exact go_return d_Rd_refuse_50 rfl gb_po_i
  · rw [if_pos hc] at h
    refine go_aload_n (k := 0) d_Rd_refuse_7 rfl rfl ?_
    refine go_iload_n (k := 1) d_Rd_refuse_8 rfl rfl ?_
    obtain ⟨I1, eI1, h⟩ := fstf_e h
    refine go_putT (ci := 9) (k := 7) (I' := I1) d_Rd_refuse_9 a_X_111 rfl (by decide) f_Rd_53 rfl rfl rfl rfl rfl eI1 ?_
    refine go_aload_n (k := 0) d_Rd_refuse_12 rfl rfl ?_
    refine go_aload_n (k := 0) d_Rd_refuse_13 rfl rfl ?_
    refine go_geti (ci := 9) (k := 6) d_Rd_refuse_14 a_X_111 rfl (by decide) f_Rd_80 rfl ?_
    refine go_if_lt (tgt := 43) d_Rd_refuse_17 (by decide) (fun hc => ?_) (fun hc => ?_)
    · rw [if_pos hc] at h
      exact go_lv [0] rfl (j_Rd_refuse_43 l d0 I1 h)
    · rw [if_neg hc] at h
      refine go_aload_n (k := 0) d_Rd_refuse_20 rfl rfl ?_
      refine go_geti (ci := 9) (k := 6) d_Rd_refuse_21 a_X_111 rfl (by decide) f_Rd_80 rfl ?_
      refine go_aload_n (k := 0) d_Rd_refuse_24 rfl rfl ?_
      refine go_geti (ci := 9) (k := 5) d_Rd_refuse_25 a_X_111 rfl (by decide) f_Rd_131 rfl ?_
      refine go_cmp_ge (tgt := 43) d_Rd_refuse_28 (by decide) (fun hc => ?_) (fun hc => ?_)
      · rw [if_pos hc] at h
        exact go_lv [0] rfl (j_Rd_refuse_43 l d0 I1 h)
      · rw [if_neg hc] at h
        refine go_aload_n (k := 0) d_Rd_refuse_31 rfl rfl ?_
        refine go_getr (ci := 9) (k := 4) (r := 113) d_Rd_refuse_32 a_X_111 rfl (by decide) f_Rd_15 rfl ?_
        refine go_aload_n (k := 0) d_Rd_refuse_35 rfl rfl ?_
        refine go_geti (ci := 9) (k := 6) d_Rd_refuse_36 a_X_111 rfl (by decide) f_Rd_80 rfl ?_
        obtain ⟨hi, v3, ev3, h⟩ := flod_e h
        refine go_iald2 d_Rd_refuse_39 a_X_113 hi ev3 ?_
        refine go_goto (tgt := 47) d_Rd_refuse_40 (by decide) ?_
        exact go_lv [] rfl (j_Rd_refuse_47 l d0 v3 I1 h)
theorem d_Re_wrongRows_0 : decode yRe_wrongRows.2.1 0 = .ok (.iconst 0, 1) := by decide +kernel
theorem d_Re_wrongRows_1 : decode yRe_wrongRows.2.1 1 = .ok (.istore_n 2, 1) := by decide +kernel
theorem d_Re_wrongRows_2 : decode yRe_wrongRows.2.1 2 = .ok (.iconst 0, 1) := by decide +kernel
theorem d_Re_wrongRows_3 : decode yRe_wrongRows.2.1 3 = .ok (.istore_n 3, 1) := by decide +kernel
theorem d_Re_wrongRows_4 : decode yRe_wrongRows.2.1 4 = .ok (.iload_n 3, 1) := by decide +kernel
theorem d_Re_wrongRows_5 : decode yRe_wrongRows.2.1 5 = .ok (.iconst 4, 1) := by decide +kernel
theorem d_Re_wrongRows_6 : decode yRe_wrongRows.2.1 6 = .ok (.if_icmp .ge 39, 3) := by decide +kernel
theorem d_Re_wrongRows_9 : decode yRe_wrongRows.2.1 9 = .ok (.iload_n 1, 1) := by decide +kernel
theorem d_Re_wrongRows_10 : decode yRe_wrongRows.2.1 10 = .ok (.iconst 3, 1) := by decide +kernel
theorem d_Re_wrongRows_11 : decode yRe_wrongRows.2.1 11 = .ok (.iload_n 3, 1) := by decide +kernel
theorem d_Re_wrongRows_12 : decode yRe_wrongRows.2.1 12 = .ok (.imul, 1) := by decide +kernel
theorem d_Re_wrongRows_13 : decode yRe_wrongRows.2.1 13 = .ok (.ishr, 1) := by decide +kernel
theorem d_Re_wrongRows_14 : decode yRe_wrongRows.2.1 14 = .ok (.bipush 7, 2) := by decide +kernel
theorem d_Re_wrongRows_16 : decode yRe_wrongRows.2.1 16 = .ok (.iand, 1) := by decide +kernel
theorem d_Re_wrongRows_17 : decode yRe_wrongRows.2.1 17 = .ok (.istore 4, 2) := by decide +kernel
theorem d_Re_wrongRows_19 : decode yRe_wrongRows.2.1 19 = .ok (.iload_n 2, 1) := by decide +kernel
theorem d_Re_wrongRows_20 : decode yRe_wrongRows.2.1 20 = .ok (.iload 4, 2) := by decide +kernel
theorem d_Re_wrongRows_22 : decode yRe_wrongRows.2.1 22 = .ok (.ifCond .eq 10, 3) := by decide +kernel
theorem d_Re_wrongRows_25 : decode yRe_wrongRows.2.1 25 = .ok (.iload 4, 2) := by decide +kernel
theorem d_Re_wrongRows_27 : decode yRe_wrongRows.2.1 27 = .ok (.bipush 7, 2) := by decide +kernel
theorem d_Re_wrongRows_29 : decode yRe_wrongRows.2.1 29 = .ok (.if_icmp .ne 7, 3) := by decide +kernel
theorem d_Re_wrongRows_32 : decode yRe_wrongRows.2.1 32 = .ok (.iconst 0, 1) := by decide +kernel
theorem d_Re_wrongRows_33 : decode yRe_wrongRows.2.1 33 = .ok (.goto 4, 3) := by decide +kernel
theorem d_Re_wrongRows_36 : decode yRe_wrongRows.2.1 36 = .ok (.iconst 1, 1) := by decide +kernel
theorem d_Re_wrongRows_37 : decode yRe_wrongRows.2.1 37 = .ok (.iadd, 1) := by decide +kernel
theorem d_Re_wrongRows_38 : decode yRe_wrongRows.2.1 38 = .ok (.istore_n 2, 1) := by decide +kernel
theorem d_Re_wrongRows_39 : decode yRe_wrongRows.2.1 39 = .ok (.iinc 3 1, 3) := by decide +kernel
theorem d_Re_wrongRows_42 : decode yRe_wrongRows.2.1 42 = .ok (.goto (-38), 3) := by decide +kernel
theorem d_Re_wrongRows_45 : decode yRe_wrongRows.2.1 45 = .ok (.iload_n 2, 1) := by decide +kernel
theorem d_Re_wrongRows_46 : decode yRe_wrongRows.2.1 46 = .ok (.ireturn, 1) := by decide +kernel
def J_Re_wrongRows_37 (k : Int32 → Int32 → Option (Int32)) (x1 x3 s0 s1 : Int32) (I : gb_Mem) : Option (Int32) :=
  k (s1 + s0) (x3 + 1)
set_option maxRecDepth 4000 in
theorem j_Re_wrongRows_37 (l : Launch) (d0 : Nat) {post : Option gb_AV → List gb_Ce → gb_Mem → Prop} (k : Int32 → Int32 → Option (Int32)) (x1 x3 s0 s1 : Int32) (I : gb_Mem) {ρ : Int32} (h : J_Re_wrongRows_37 k x1 x3 s0 s1 I = some ρ) (hk : ∀ (z2 z3 : Int32), k z2 z3 = some ρ → gb_Go l yRe_wrongRows (d0 + 0) 0 0 4 [(1, .inl x1), (2, .inl z2), (3, .inl z3)] [] shX I post) (hX : ∀ (o2 : Int32), ρ = o2 → gb_Go l yRe_wrongRows (d0 + 0) 0 0 45 [(2, .inl o2)] [] shX I post) : gb_Go l yRe_wrongRows (d0 + 0) 0 0 37 [(1, .inl x1), (3, .inl x3)] [.inl s0, .inl s1] shX I post := by
  unfold J_Re_wrongRows_37 at h
  refine go_iadd d_Re_wrongRows_37 ?_
  refine go_istore_n (lv' := [(2, .inl (s1 + s0)), (1, .inl x1), (3, .inl x3)]) d_Re_wrongRows_38 rfl (by decide) rfl ?_
  refine go_iinc (k := 2) (v := x3 + 1) (lv' := [(3, .inl (x3 + 1)), (2, .inl (s1 + s0)), (1, .inl x1)]) d_Re_wrongRows_39 rfl rfl (by decide) rfl ?_
  refine go_goto (tgt := 4) d_Re_wrongRows_42 (by decide) ?_
  exact go_lv [2, 1, 0] rfl (hk _ _ h)
def J_Re_wrongRows_32 (k : Int32 → Int32 → Option (Int32)) (x1 x3 s0 : Int32) (I : gb_Mem) : Option (Int32) :=
  J_Re_wrongRows_37 k x1 x3 0 s0 I
set_option maxRecDepth 4000 in
theorem j_Re_wrongRows_32 (l : Launch) (d0 : Nat) {post : Option gb_AV → List gb_Ce → gb_Mem → Prop} (k : Int32 → Int32 → Option (Int32)) (x1 x3 s0 : Int32) (I : gb_Mem) {ρ : Int32} (h : J_Re_wrongRows_32 k x1 x3 s0 I = some ρ) (hk : ∀ (z2 z3 : Int32), k z2 z3 = some ρ → gb_Go l yRe_wrongRows (d0 + 0) 0 0 4 [(1, .inl x1), (2, .inl z2), (3, .inl z3)] [] shX I post) (hX : ∀ (o2 : Int32), ρ = o2 → gb_Go l yRe_wrongRows (d0 + 0) 0 0 45 [(2, .inl o2)] [] shX I post) : gb_Go l yRe_wrongRows (d0 + 0) 0 0 32 [(1, .inl x1), (3, .inl x3)] [.inl s0] shX I post := by
  unfold J_Re_wrongRows_32 at h
  refine go_iconst (v := 0) d_Re_wrongRows_32 (by decide) ?_
  refine go_goto (tgt := 37) d_Re_wrongRows_33 (by decide) ?_
  exact go_lv [0, 1] rfl (j_Re_wrongRows_37 l d0 k x1 x3 0 s0 I h hk hX)
def L_Re_wrongRows_4 (x1 : Int32) (I : gb_Mem) : Nat → Int32 → Int32 → Option (Int32)
  | 0, _, _ => none
  | n + 1, x2, x3 =>
    if 4 ≤ x3 then
      some x2
    else
      flt ((x1 >>> ((3 * x3) &&& 31)) &&& 7) fun y1 =>
      if y1 = 0 then
        J_Re_wrongRows_32 (L_Re_wrongRows_4 x1 I n) x1 x3 x2 I
      else
        if y1 = 7 then
          J_Re_wrongRows_32 (L_Re_wrongRows_4 x1 I n) x1 x3 x2 I
        else
          J_Re_wrongRows_37 (L_Re_wrongRows_4 x1 I n) x1 x3 1 x2 I
set_option maxRecDepth 4000 in
theorem l_Re_wrongRows_4 (l : Launch) (d0 : Nat) (x1 : Int32) (I : gb_Mem) {post : Option gb_AV → List gb_Ce → gb_Mem → Prop} : ∀ (n : Nat) (x2 x3 : Int32) {ρ : Int32} (h : L_Re_wrongRows_4 x1 I n x2 x3 = some ρ) (hX : ∀ (o2 : Int32), ρ = o2 → gb_Go l yRe_wrongRows (d0 + 0) 0 0 45 [(2, .inl o2)] [] shX I post) , gb_Go l yRe_wrongRows (d0 + 0) 0 0 4 [(1, .inl x1), (2, .inl x2), (3, .inl x3)] [] shX I post := by
  intro n
  induction n with
  | zero => intro x2 x3 ρ h hX; cases h
  | succ n ih =>
    intro x2 x3 ρ h hX
    rw [L_Re_wrongRows_4] at h
    refine go_iload_n (k := 2) d_Re_wrongRows_4 rfl rfl ?_
    refine go_iconst (v := 4) d_Re_wrongRows_5 (by decide) ?_
    refine go_cmp_ge (tgt := 45) d_Re_wrongRows_6 (by decide) (fun hc => ?_) (fun hc => ?_)
    · rw [if_pos hc] at h
      exact go_lv [1] rfl (hX _ (Option.some.inj h).symm)
    · rw [if_neg hc] at h
      refine go_iload_n (k := 0) d_Re_wrongRows_9 rfl rfl ?_
      refine go_iconst (v := 3) d_Re_wrongRows_10 (by decide) ?_
      refine go_iload_n (k := 2) d_Re_wrongRows_11 rfl rfl ?_
      refine go_imul d_Re_wrongRows_12 ?_
      refine go_ishr d_Re_wrongRows_13 ?_
      refine go_bipush (v := 7) d_Re_wrongRows_14 (by decide) ?_
      refine go_iand d_Re_wrongRows_16 ?_
      obtain ⟨y1, ey1, h⟩ := flt_e h
      refine go_top ey1 ?_
      refine go_istore (lv' := [(4, .inl y1), (1, .inl x1), (2, .inl x2), (3, .inl x3)]) d_Re_wrongRows_17 (by decide) rfl ?_
      refine go_iload_n (k := 2) d_Re_wrongRows_19 rfl rfl ?_
      refine go_iload (k := 0) d_Re_wrongRows_20 rfl ?_
      refine go_if_eq (tgt := 32) d_Re_wrongRows_22 (by decide) (fun hc => ?_) (fun hc => ?_)
      · rw [if_pos hc] at h
        exact go_lv [1, 3] rfl (j_Re_wrongRows_32 l d0 (L_Re_wrongRows_4 x1 I n) x1 x3 x2 I h (fun z2 z3 hh => ih z2 z3 hh hX) hX)
      · rw [if_neg hc] at h
        refine go_iload (k := 0) d_Re_wrongRows_25 rfl ?_
        refine go_bipush (v := 7) d_Re_wrongRows_27 (by decide) ?_
        refine go_cmp_ne (tgt := 36) d_Re_wrongRows_29 (by decide) (fun hc => ?_) (fun hc => ?_)
        · rw [if_neg hc] at h
          refine go_iconst (v := 1) d_Re_wrongRows_36 (by decide) ?_
          exact go_lv [1, 3] rfl (j_Re_wrongRows_37 l d0 (L_Re_wrongRows_4 x1 I n) x1 x3 1 x2 I h (fun z2 z3 hh => ih z2 z3 hh hX) hX)
        · rw [if_pos hc] at h
          exact go_lv [1, 3] rfl (j_Re_wrongRows_32 l d0 (L_Re_wrongRows_4 x1 I n) x1 x3 x2 I h (fun z2 z3 hh => ih z2 z3 hh hX) hX)
def F_Re_wrongRows (x1 : Int32) (I : gb_Mem) : Option (Int32) :=
  fbd (L_Re_wrongRows_4 x1 I 5000 0 0) fun o2 =>
  some o2
set_option maxRecDepth 4000 in
theorem c_Re_wrongRows (l : Launch) (d0 : Nat) (x1 : Int32) (I : gb_Mem) {rz : Int32} (h : F_Re_wrongRows x1 I = some rz) : gb_Cs l yRe_wrongRows (d0 + 0) [.inr (some 106), .inl x1] shX I (some (.inl rz)) I := by
  refine gb_Ct.of (lv := [(0, .inr (some 106)), (1, .inl x1)]) rfl (Nat.le_of_ble_eq_true rfl) rfl ?_
  unfold F_Re_wrongRows at h
  show gb_Go l yRe_wrongRows (d0 + 0) 0 0 0 [(0, .inr (some 106)), (1, .inl x1)] [] shX I (gb_po shX (some (.inl rz)) I)
  refine go_iconst (v := 0) d_Re_wrongRows_0 (by decide) ?_
  refine go_istore_n (lv' := [(2, .inl 0), (0, .inr (some 106)), (1, .inl x1)]) d_Re_wrongRows_1 rfl (by decide) rfl ?_
  refine go_iconst (v := 0) d_Re_wrongRows_2 (by decide) ?_
  refine go_istore_n (lv' := [(3, .inl 0), (2, .inl 0), (0, .inr (some 106)), (1, .inl x1)]) d_Re_wrongRows_3 rfl (by decide) rfl ?_
  refine go_lv [3, 1, 0] (lv' := [(1, .inl x1), (2, .inl 0), (3, .inl 0)]) rfl ?_
  obtain ⟨o2, w1, h⟩ := fbd_e h
  refine l_Re_wrongRows_4 l d0 x1 I 5000 0 0 w1 (fun o2_ e => ?_)
  cases e
  refine go_iload_n (k := 0) d_Re_wrongRows_45 rfl rfl ?_
  cases h
  exact go_ireturn d_Re_wrongRows_46 rfl gb_po_i
theorem d_Ro_add_0 : decode yRo_add.2.1 0 = .ok (.iconst 4, 1) := by decide +kernel
theorem d_Ro_add_1 : decode yRo_add.2.1 1 = .ok (.aload_n 0, 1) := by decide +kernel
theorem d_Ro_add_2 : decode yRo_add.2.1 2 = .ok (.getfield 25, 3) := by decide +kernel
theorem d_Ro_add_5 : decode yRo_add.2.1 5 = .ok (.imul, 1) := by decide +kernel
theorem d_Ro_add_6 : decode yRo_add.2.1 6 = .ok (.istore 5, 2) := by decide +kernel
theorem d_Ro_add_8 : decode yRo_add.2.1 8 = .ok (.aload_n 0, 1) := by decide +kernel
theorem d_Ro_add_9 : decode yRo_add.2.1 9 = .ok (.getfield 25, 3) := by decide +kernel
theorem d_Ro_add_12 : decode yRo_add.2.1 12 = .ok (.aload_n 0, 1) := by decide +kernel
theorem d_Ro_add_13 : decode yRo_add.2.1 13 = .ok (.getfield 15, 3) := by decide +kernel
theorem d_Ro_add_16 : decode yRo_add.2.1 16 = .ok (.if_icmp .ge 20, 3) := by decide +kernel
theorem d_Ro_add_19 : decode yRo_add.2.1 19 = .ok (.iload 5, 2) := by decide +kernel
theorem d_Ro_add_21 : decode yRo_add.2.1 21 = .ok (.ifCond .lt 15, 3) := by decide +kernel
theorem d_Ro_add_24 : decode yRo_add.2.1 24 = .ok (.iload 5, 2) := by decide +kernel
theorem d_Ro_add_26 : decode yRo_add.2.1 26 = .ok (.iconst 4, 1) := by decide +kernel
theorem d_Ro_add_27 : decode yRo_add.2.1 27 = .ok (.iadd, 1) := by decide +kernel
theorem d_Ro_add_28 : decode yRo_add.2.1 28 = .ok (.aload_n 0, 1) := by decide +kernel
theorem d_Ro_add_29 : decode yRo_add.2.1 29 = .ok (.getfield 21, 3) := by decide +kernel
theorem d_Ro_add_32 : decode yRo_add.2.1 32 = .ok (.arraylength, 1) := by decide +kernel
theorem d_Ro_add_33 : decode yRo_add.2.1 33 = .ok (.if_icmp .le 5, 3) := by decide +kernel
theorem d_Ro_add_36 : decode yRo_add.2.1 36 = .ok (.iconst (-1), 1) := by decide +kernel
theorem d_Ro_add_37 : decode yRo_add.2.1 37 = .ok (.ireturn, 1) := by decide +kernel
theorem d_Ro_add_38 : decode yRo_add.2.1 38 = .ok (.aload_n 0, 1) := by decide +kernel
theorem d_Ro_add_39 : decode yRo_add.2.1 39 = .ok (.getfield 21, 3) := by decide +kernel
theorem d_Ro_add_42 : decode yRo_add.2.1 42 = .ok (.iload 5, 2) := by decide +kernel
theorem d_Ro_add_44 : decode yRo_add.2.1 44 = .ok (.iload_n 1, 1) := by decide +kernel
theorem d_Ro_add_45 : decode yRo_add.2.1 45 = .ok (.iastore, 1) := by decide +kernel
theorem d_Ro_add_46 : decode yRo_add.2.1 46 = .ok (.aload_n 0, 1) := by decide +kernel
theorem d_Ro_add_47 : decode yRo_add.2.1 47 = .ok (.getfield 21, 3) := by decide +kernel
theorem d_Ro_add_50 : decode yRo_add.2.1 50 = .ok (.iload 5, 2) := by decide +kernel
theorem d_Ro_add_52 : decode yRo_add.2.1 52 = .ok (.iconst 1, 1) := by decide +kernel
theorem d_Ro_add_53 : decode yRo_add.2.1 53 = .ok (.iadd, 1) := by decide +kernel
theorem d_Ro_add_54 : decode yRo_add.2.1 54 = .ok (.iload_n 2, 1) := by decide +kernel
theorem d_Ro_add_55 : decode yRo_add.2.1 55 = .ok (.iastore, 1) := by decide +kernel
theorem d_Ro_add_56 : decode yRo_add.2.1 56 = .ok (.aload_n 0, 1) := by decide +kernel
theorem d_Ro_add_57 : decode yRo_add.2.1 57 = .ok (.getfield 21, 3) := by decide +kernel
theorem d_Ro_add_60 : decode yRo_add.2.1 60 = .ok (.iload 5, 2) := by decide +kernel
theorem d_Ro_add_62 : decode yRo_add.2.1 62 = .ok (.iconst 2, 1) := by decide +kernel
theorem d_Ro_add_63 : decode yRo_add.2.1 63 = .ok (.iadd, 1) := by decide +kernel
theorem d_Ro_add_64 : decode yRo_add.2.1 64 = .ok (.iload_n 3, 1) := by decide +kernel
theorem d_Ro_add_65 : decode yRo_add.2.1 65 = .ok (.iastore, 1) := by decide +kernel
theorem d_Ro_add_66 : decode yRo_add.2.1 66 = .ok (.aload_n 0, 1) := by decide +kernel
theorem d_Ro_add_67 : decode yRo_add.2.1 67 = .ok (.getfield 21, 3) := by decide +kernel
theorem d_Ro_add_70 : decode yRo_add.2.1 70 = .ok (.iload 5, 2) := by decide +kernel
theorem d_Ro_add_72 : decode yRo_add.2.1 72 = .ok (.iconst 3, 1) := by decide +kernel
theorem d_Ro_add_73 : decode yRo_add.2.1 73 = .ok (.iadd, 1) := by decide +kernel
theorem d_Ro_add_74 : decode yRo_add.2.1 74 = .ok (.iload 4, 2) := by decide +kernel
theorem d_Ro_add_76 : decode yRo_add.2.1 76 = .ok (.iastore, 1) := by decide +kernel
theorem d_Ro_add_77 : decode yRo_add.2.1 77 = .ok (.aload_n 0, 1) := by decide +kernel
theorem d_Ro_add_78 : decode yRo_add.2.1 78 = .ok (.dup, 1) := by decide +kernel
theorem d_Ro_add_79 : decode yRo_add.2.1 79 = .ok (.getfield 25, 3) := by decide +kernel
theorem d_Ro_add_82 : decode yRo_add.2.1 82 = .ok (.iconst 1, 1) := by decide +kernel
theorem d_Ro_add_83 : decode yRo_add.2.1 83 = .ok (.iadd, 1) := by decide +kernel
theorem d_Ro_add_84 : decode yRo_add.2.1 84 = .ok (.putfield 25, 3) := by decide +kernel
theorem d_Ro_add_87 : decode yRo_add.2.1 87 = .ok (.aload_n 0, 1) := by decide +kernel
theorem d_Ro_add_88 : decode yRo_add.2.1 88 = .ok (.getfield 25, 3) := by decide +kernel
theorem d_Ro_add_91 : decode yRo_add.2.1 91 = .ok (.ireturn, 1) := by decide +kernel
def F_Ro_add (h0 n0 : Nat) (x1 x2 x3 x4 : Int32) (I : gb_Mem) : Option (Int32 × gb_Mem) :=
  if (I h0 0) ≤ (I h0 2) then
    some ((-1), I)
  else
    if (4 * (I h0 2)) < 0 then
      some ((-1), I)
    else
      if ((4 * (I h0 2)) + 4) ≤ (nI n0) then
        fsto I (h0 + 1) n0 (4 * (I h0 2)) x1 fun I1 =>
        fsto I1 (h0 + 1) n0 ((4 * (I h0 2)) + 1) x2 fun I2 =>
        fsto I2 (h0 + 1) n0 ((4 * (I h0 2)) + 2) x3 fun I3 =>
        fsto I3 (h0 + 1) n0 ((4 * (I h0 2)) + 3) x4 fun I4 =>
        fstf I4 h0 2 ((I4 h0 2) + 1) fun I5 =>
        some (I5 h0 2, I5)
      else
        some ((-1), I)
set_option maxRecDepth 4000 in
theorem c_Ro_add (l : Launch) (d0 : Nat) (h0 n0 : Nat) (H0 : isRo h0 n0) (x1 x2 x3 x4 : Int32) (I : gb_Mem) {rz : Int32} {Iz : gb_Mem} (h : F_Ro_add h0 n0 x1 x2 x3 x4 I = some (rz, Iz)) : gb_Cs l yRo_add (d0 + 0) [.inr (some h0), .inl x1, .inl x2, .inl x3, .inl x4] shX I (some (.inl rz)) Iz := by
  refine gb_Ct.of (lv := [(0, .inr (some h0)), (1, .inl x1), (2, .inl x2), (3, .inl x3), (4, .inl x4)]) rfl (Nat.le_of_ble_eq_true rfl) rfl ?_
  unfold F_Ro_add at h
  show gb_Go l yRo_add (d0 + 0) 0 0 0 [(0, .inr (some h0)), (1, .inl x1), (2, .inl x2), (3, .inl x3), (4, .inl x4)] [] shX I (gb_po shX (some (.inl rz)) Iz)
  refine go_iconst (v := 4) d_Ro_add_0 (by decide) ?_
  refine go_aload_n (k := 0) d_Ro_add_1 rfl rfl ?_
  refine go_geti (ci := 4) (k := 2) d_Ro_add_2 H0.1 rfl (by decide) f_Ro_25 rfl ?_
  refine go_imul d_Ro_add_5 ?_
  refine go_istore (lv' := [(5, .inl (4 * (I h0 2))), (0, .inr (some h0)), (1, .inl x1), (2, .inl x2), (3, .inl x3), (4, .inl x4)]) d_Ro_add_6 (by decide) rfl ?_
  refine go_aload_n (k := 1) d_Ro_add_8 rfl rfl ?_
  refine go_geti (ci := 4) (k := 2) d_Ro_add_9 H0.1 rfl (by decide) f_Ro_25 rfl ?_
  refine go_aload_n (k := 1) d_Ro_add_12 rfl rfl ?_
  refine go_geti (ci := 4) (k := 0) d_Ro_add_13 H0.1 rfl (by decide) f_Ro_15 rfl ?_
  refine go_cmp_ge (tgt := 36) d_Ro_add_16 (by decide) (fun hc => ?_) (fun hc => ?_)
  · rw [if_pos hc] at h
    refine go_iconst (v := (-1)) d_Ro_add_36 (by decide) ?_
    cases h
    exact go_ireturn d_Ro_add_37 rfl gb_po_i
  · rw [if_neg hc] at h
    refine go_iload (k := 0) d_Ro_add_19 rfl ?_
    refine go_if_lt (tgt := 36) d_Ro_add_21 (by decide) (fun hc => ?_) (fun hc => ?_)
    · rw [if_pos hc] at h
      refine go_iconst (v := (-1)) d_Ro_add_36 (by decide) ?_
      cases h
      exact go_ireturn d_Ro_add_37 rfl gb_po_i
    · rw [if_neg hc] at h
      refine go_iload (k := 0) d_Ro_add_24 rfl ?_
      refine go_iconst (v := 4) d_Ro_add_26 (by decide) ?_
      refine go_iadd d_Ro_add_27 ?_
      refine go_aload_n (k := 1) d_Ro_add_28 rfl rfl ?_
      refine go_getr (ci := 4) (k := 1) (r := (h0 + 1)) d_Ro_add_29 H0.1 rfl (by decide) f_Ro_21 rfl ?_
      refine go_alen d_Ro_add_32 H0.2 ?_
      refine go_cmp_le (tgt := 38) d_Ro_add_33 (by decide) (fun hc => ?_) (fun hc => ?_)
      · rw [if_pos hc] at h
        refine go_aload_n (k := 1) d_Ro_add_38 rfl rfl ?_
        refine go_getr (ci := 4) (k := 1) (r := (h0 + 1)) d_Ro_add_39 H0.1 rfl (by decide) f_Ro_21 rfl ?_
        refine go_iload (k := 0) d_Ro_add_42 rfl ?_
        refine go_iload_n (k := 2) d_Ro_add_44 rfl rfl ?_
        obtain ⟨hi, I1, eI1, h⟩ := fsto_e h
        refine go_iast (I' := I1) d_Ro_add_45 H0.2 hi eI1 ?_
        refine go_aload_n (k := 1) d_Ro_add_46 rfl rfl ?_
        refine go_getr (ci := 4) (k := 1) (r := (h0 + 1)) d_Ro_add_47 H0.1 rfl (by decide) f_Ro_21 rfl ?_
        refine go_iload (k := 0) d_Ro_add_50 rfl ?_
        refine go_iconst (v := 1) d_Ro_add_52 (by decide) ?_
        refine go_iadd d_Ro_add_53 ?_
        refine go_iload_n (k := 3) d_Ro_add_54 rfl rfl ?_
        obtain ⟨hi, I2, eI2, h⟩ := fsto_e h
        refine go_iast (I' := I2) d_Ro_add_55 H0.2 hi eI2 ?_
        refine go_aload_n (k := 1) d_Ro_add_56 rfl rfl ?_
        refine go_getr (ci := 4) (k := 1) (r := (h0 + 1)) d_Ro_add_57 H0.1 rfl (by decide) f_Ro_21 rfl ?_
        refine go_iload (k := 0) d_Ro_add_60 rfl ?_
        refine go_iconst (v := 2) d_Ro_add_62 (by decide) ?_
        refine go_iadd d_Ro_add_63 ?_
        refine go_iload_n (k := 4) d_Ro_add_64 rfl rfl ?_
        obtain ⟨hi, I3, eI3, h⟩ := fsto_e h
        refine go_iast (I' := I3) d_Ro_add_65 H0.2 hi eI3 ?_
        refine go_aload_n (k := 1) d_Ro_add_66 rfl rfl ?_
        refine go_getr (ci := 4) (k := 1) (r := (h0 + 1)) d_Ro_add_67 H0.1 rfl (by decide) f_Ro_21 rfl ?_
        refine go_iload (k := 0) d_Ro_add_70 rfl ?_
        refine go_iconst (v := 3) d_Ro_add_72 (by decide) ?_
        refine go_iadd d_Ro_add_73 ?_
        refine go_iload (k := 5) d_Ro_add_74 rfl ?_
        obtain ⟨hi, I4, eI4, h⟩ := fsto_e h
        refine go_iast (I' := I4) d_Ro_add_76 H0.2 hi eI4 ?_
        refine go_aload_n (k := 1) d_Ro_add_77 rfl rfl ?_
        refine go_dup d_Ro_add_78 ?_
        refine go_geti (ci := 4) (k := 2) d_Ro_add_79 H0.1 rfl (by decide) f_Ro_25 rfl ?_
        refine go_iconst (v := 1) d_Ro_add_82 (by decide) ?_
        refine go_iadd d_Ro_add_83 ?_
        obtain ⟨I5, eI5, h⟩ := fstf_e h
        refine go_putT (ci := 4) (k := 2) (I' := I5) d_Ro_add_84 H0.1 rfl (by decide) f_Ro_25 rfl rfl rfl rfl rfl eI5 ?_
        refine go_aload_n (k := 1) d_Ro_add_87 rfl rfl ?_
        refine go_geti (ci := 4) (k := 2) d_Ro_add_88 H0.1 rfl (by decide) f_Ro_25 rfl ?_
        cases h
        exact go_ireturn d_Ro_add_91 rfl gb_po_i
      · rw [if_neg hc] at h
        refine go_iconst (v := (-1)) d_Ro_add_36 (by decide) ?_
        cases h
        exact go_ireturn d_Ro_add_37 rfl gb_po_i
theorem d_Se_nimberOf_0 : decode ySe_nimberOf.2.1 0 = .ok (.iload_n 0, 1) := by decide +kernel
theorem d_Se_nimberOf_1 : decode ySe_nimberOf.2.1 1 = .ok (.ifCond .gt 7, 3) := by decide +kernel
theorem d_Se_nimberOf_4 : decode ySe_nimberOf.2.1 4 = .ok (.iconst 0, 1) := by decide +kernel
theorem d_Se_nimberOf_5 : decode ySe_nimberOf.2.1 5 = .ok (.goto 15, 3) := by decide +kernel
theorem d_Se_nimberOf_8 : decode ySe_nimberOf.2.1 8 = .ok (.iload_n 0, 1) := by decide +kernel
theorem d_Se_nimberOf_9 : decode ySe_nimberOf.2.1 9 = .ok (.iconst 1, 1) := by decide +kernel
theorem d_Se_nimberOf_10 : decode ySe_nimberOf.2.1 10 = .ok (.iand, 1) := by decide +kernel
theorem d_Se_nimberOf_11 : decode ySe_nimberOf.2.1 11 = .ok (.iconst 1, 1) := by decide +kernel
theorem d_Se_nimberOf_12 : decode ySe_nimberOf.2.1 12 = .ok (.if_icmp .ne 7, 3) := by decide +kernel
theorem d_Se_nimberOf_15 : decode ySe_nimberOf.2.1 15 = .ok (.iconst 1, 1) := by decide +kernel
theorem d_Se_nimberOf_16 : decode ySe_nimberOf.2.1 16 = .ok (.goto 4, 3) := by decide +kernel
theorem d_Se_nimberOf_19 : decode ySe_nimberOf.2.1 19 = .ok (.iconst 2, 1) := by decide +kernel
theorem d_Se_nimberOf_20 : decode ySe_nimberOf.2.1 20 = .ok (.ireturn, 1) := by decide +kernel
def F_Se_nimberOf (x0 : Int32) (I : gb_Mem) : Int32 :=
  if 0 < x0 then
    if (x0 &&& 1) = 1 then
      1
    else
      2
  else
    0
set_option maxRecDepth 4000 in
theorem c_Se_nimberOf (l : Launch) (d0 : Nat) (x0 : Int32) (I : gb_Mem)  : gb_Cs l ySe_nimberOf (d0 + 0) [.inl x0] shX I (some (.inl (F_Se_nimberOf x0 I))) I := by
  refine gb_Ct.of (lv := [(0, .inl x0)]) rfl (Nat.le_of_ble_eq_true rfl) rfl ?_
  generalize h : F_Se_nimberOf x0 I = rz
  unfold F_Se_nimberOf at h
  show gb_Go l ySe_nimberOf (d0 + 0) 0 0 0 [(0, .inl x0)] [] shX I (gb_po shX (some (.inl rz)) I)
  refine go_iload_n (k := 0) d_Se_nimberOf_0 rfl rfl ?_
  refine go_if_gt (tgt := 8) d_Se_nimberOf_1 (by decide) (fun hc => ?_) (fun hc => ?_)
  · rw [if_pos hc] at h
    refine go_iload_n (k := 0) d_Se_nimberOf_8 rfl rfl ?_
    refine go_iconst (v := 1) d_Se_nimberOf_9 (by decide) ?_
    refine go_iand d_Se_nimberOf_10 ?_
    refine go_iconst (v := 1) d_Se_nimberOf_11 (by decide) ?_
    refine go_cmp_ne (tgt := 19) d_Se_nimberOf_12 (by decide) (fun hc => ?_) (fun hc => ?_)
    · rw [if_neg hc] at h
      refine go_iconst (v := 2) d_Se_nimberOf_19 (by decide) ?_
      subst h
      exact go_ireturn d_Se_nimberOf_20 rfl gb_po_i
    · rw [if_pos hc] at h
      refine go_iconst (v := 1) d_Se_nimberOf_15 (by decide) ?_
      refine go_goto (tgt := 20) d_Se_nimberOf_16 (by decide) ?_
      subst h
      exact go_ireturn d_Se_nimberOf_20 rfl gb_po_i
  · rw [if_neg hc] at h
    refine go_iconst (v := 0) d_Se_nimberOf_4 (by decide) ?_
    refine go_goto (tgt := 20) d_Se_nimberOf_5 (by decide) ?_
    subst h
    exact go_ireturn d_Se_nimberOf_20 rfl gb_po_i
theorem d_Ta_draw_0 : decode yTa_draw.2.1 0 = .ok (.aload_n 0, 1) := by decide +kernel
theorem d_Ta_draw_1 : decode yTa_draw.2.1 1 = .ok (.ldc 46, 2) := by decide +kernel
theorem d_Ta_draw_3 : decode yTa_draw.2.1 3 = .ok (.aload_n 0, 1) := by decide +kernel
theorem d_Ta_draw_4 : decode yTa_draw.2.1 4 = .ok (.getfield 21, 3) := by decide +kernel
theorem d_Ta_draw_7 : decode yTa_draw.2.1 7 = .ok (.imul, 1) := by decide +kernel
theorem d_Ta_draw_8 : decode yTa_draw.2.1 8 = .ok (.ldc 47, 2) := by decide +kernel
theorem d_Ta_draw_10 : decode yTa_draw.2.1 10 = .ok (.iadd, 1) := by decide +kernel
theorem d_Ta_draw_11 : decode yTa_draw.2.1 11 = .ok (.putfield 21, 3) := by decide +kernel
theorem d_Ta_draw_14 : decode yTa_draw.2.1 14 = .ok (.iload_n 1, 1) := by decide +kernel
theorem d_Ta_draw_15 : decode yTa_draw.2.1 15 = .ok (.ifCond .le 15, 3) := by decide +kernel
theorem d_Ta_draw_18 : decode yTa_draw.2.1 18 = .ok (.aload_n 0, 1) := by decide +kernel
theorem d_Ta_draw_19 : decode yTa_draw.2.1 19 = .ok (.getfield 21, 3) := by decide +kernel
theorem d_Ta_draw_22 : decode yTa_draw.2.1 22 = .ok (.bipush 8, 2) := by decide +kernel
theorem d_Ta_draw_24 : decode yTa_draw.2.1 24 = .ok (.iushr, 1) := by decide +kernel
theorem d_Ta_draw_25 : decode yTa_draw.2.1 25 = .ok (.iload_n 1, 1) := by decide +kernel
theorem d_Ta_draw_26 : decode yTa_draw.2.1 26 = .ok (.irem, 1) := by decide +kernel
theorem d_Ta_draw_27 : decode yTa_draw.2.1 27 = .ok (.goto 4, 3) := by decide +kernel
theorem d_Ta_draw_30 : decode yTa_draw.2.1 30 = .ok (.iconst 0, 1) := by decide +kernel
theorem d_Ta_draw_31 : decode yTa_draw.2.1 31 = .ok (.ireturn, 1) := by decide +kernel
def F_Ta_draw (h0 : Nat) (x1 : Int32) (I : gb_Mem) : Option (Int32 × gb_Mem) :=
  fstf I h0 0 ((1664525 * (I h0 0)) + 1013904223) fun I1 =>
  if x1 ≤ 0 then
    some (0, I1)
  else
    fgd (decide (¬ x1 = 0)) <|
    some (((((I1 h0 0)).toUInt32 >>> (Int32.toUInt32 8 &&& Int32.toUInt32 31)).toInt32) - ((((I1 h0 0)).toUInt32 >>> (Int32.toUInt32 8 &&& Int32.toUInt32 31)).toInt32) / x1 * x1, I1)
set_option maxRecDepth 4000 in
theorem c_Ta_draw (l : Launch) (d0 : Nat) (h0 : Nat) (H0 : isTa h0) (x1 : Int32) (I : gb_Mem) {rz : Int32} {Iz : gb_Mem} (h : F_Ta_draw h0 x1 I = some (rz, Iz)) : gb_Cs l yTa_draw (d0 + 0) [.inr (some h0), .inl x1] shX I (some (.inl rz)) Iz := by
  refine gb_Ct.of (lv := [(0, .inr (some h0)), (1, .inl x1)]) rfl (Nat.le_of_ble_eq_true rfl) rfl ?_
  unfold F_Ta_draw at h
  show gb_Go l yTa_draw (d0 + 0) 0 0 0 [(0, .inr (some h0)), (1, .inl x1)] [] shX I (gb_po shX (some (.inl rz)) Iz)
  refine go_aload_n (k := 0) d_Ta_draw_0 rfl rfl ?_
  refine go_ldc (v := 1664525) d_Ta_draw_1 k_Ta_46 ?_
  refine go_aload_n (k := 0) d_Ta_draw_3 rfl rfl ?_
  refine go_geti (ci := 2) (k := 0) d_Ta_draw_4 H0.1 rfl (by decide) f_Ta_21 rfl ?_
  refine go_imul d_Ta_draw_7 ?_
  refine go_ldc (v := 1013904223) d_Ta_draw_8 k_Ta_47 ?_
  refine go_iadd d_Ta_draw_10 ?_
  obtain ⟨I1, eI1, h⟩ := fstf_e h
  refine go_putT (ci := 2) (k := 0) (I' := I1) d_Ta_draw_11 H0.1 rfl (by decide) f_Ta_21 rfl rfl rfl rfl rfl eI1 ?_
  refine go_iload_n (k := 1) d_Ta_draw_14 rfl rfl ?_
  refine go_if_le (tgt := 30) d_Ta_draw_15 (by decide) (fun hc => ?_) (fun hc => ?_)
  · rw [if_pos hc] at h
    refine go_iconst (v := 0) d_Ta_draw_30 (by decide) ?_
    cases h
    exact go_ireturn d_Ta_draw_31 rfl gb_po_i
  · rw [if_neg hc] at h
    refine go_aload_n (k := 0) d_Ta_draw_18 rfl rfl ?_
    refine go_geti (ci := 2) (k := 0) d_Ta_draw_19 H0.1 rfl (by decide) f_Ta_21 rfl ?_
    refine go_bipush (v := 8) d_Ta_draw_22 (by decide) ?_
    refine go_iushr d_Ta_draw_24 ?_
    refine go_iload_n (k := 1) d_Ta_draw_25 rfl rfl ?_
    obtain ⟨hz, h⟩ := fgd_e h
    refine go_irem d_Ta_draw_26 (of_decide_eq_true hz) ?_
    refine go_goto (tgt := 31) d_Ta_draw_27 (by decide) ?_
    cases h
    exact go_ireturn d_Ta_draw_31 rfl gb_po_i
theorem d_Co_broughtBy_0 : decode yCo_broughtBy.2.1 0 = .ok (.iload_n 1, 1) := by decide +kernel
theorem d_Co_broughtBy_1 : decode yCo_broughtBy.2.1 1 = .ok (.iconst 0, 1) := by decide +kernel
theorem d_Co_broughtBy_2 : decode yCo_broughtBy.2.1 2 = .ok (.bipush 7, 2) := by decide +kernel
theorem d_Co_broughtBy_4 : decode yCo_broughtBy.2.1 4 = .ok (.invokestatic 27, 3) := by decide +kernel
theorem d_Co_broughtBy_7 : decode yCo_broughtBy.2.1 7 = .ok (.ifCond .eq 12, 3) := by decide +kernel
theorem d_Co_broughtBy_10 : decode yCo_broughtBy.2.1 10 = .ok (.aload_n 0, 1) := by decide +kernel
theorem d_Co_broughtBy_11 : decode yCo_broughtBy.2.1 11 = .ok (.getfield 9, 3) := by decide +kernel
theorem d_Co_broughtBy_14 : decode yCo_broughtBy.2.1 14 = .ok (.iload_n 1, 1) := by decide +kernel
theorem d_Co_broughtBy_15 : decode yCo_broughtBy.2.1 15 = .ok (.iaload, 1) := by decide +kernel
theorem d_Co_broughtBy_16 : decode yCo_broughtBy.2.1 16 = .ok (.goto 4, 3) := by decide +kernel
theorem d_Co_broughtBy_19 : decode yCo_broughtBy.2.1 19 = .ok (.iconst 0, 1) := by decide +kernel
theorem d_Co_broughtBy_20 : decode yCo_broughtBy.2.1 20 = .ok (.ireturn, 1) := by decide +kernel
def F_Co_broughtBy (h0 t0 : Nat) (x1 : Int32) (I : gb_Mem) : Option (Int32) :=
  if (F_Gb_within x1 0 7 I) = 0 then
    some 0
  else
    flod I (h0 + 1) 8 x1 fun v1 =>
    some v1
set_option maxRecDepth 4000 in
theorem c_Co_broughtBy (l : Launch) (d0 : Nat) (h0 t0 : Nat) (H0 : isCo h0 t0) (x1 : Int32) (I : gb_Mem) {rz : Int32} (h : F_Co_broughtBy h0 t0 x1 I = some rz) : gb_Cs l yCo_broughtBy (d0 + 1) [.inr (some h0), .inl x1] shX I (some (.inl rz)) I := by
  refine gb_Ct.of (lv := [(0, .inr (some h0)), (1, .inl x1)]) rfl (Nat.le_of_ble_eq_true rfl) rfl ?_
  unfold F_Co_broughtBy at h
  show gb_Go l yCo_broughtBy (d0 + 1) 0 0 0 [(0, .inr (some h0)), (1, .inl x1)] [] shX I (gb_po shX (some (.inl rz)) I)
  refine go_iload_n (k := 1) d_Co_broughtBy_0 rfl rfl ?_
  refine go_iconst (v := 0) d_Co_broughtBy_1 (by decide) ?_
  refine go_bipush (v := 7) d_Co_broughtBy_2 (by decide) ?_
  refine go_callSN (y := yGb_within) (asr := [.inl x1, .inl 0, .inl 7]) (v := some (.inl (F_Gb_within x1 0 7 I))) (I' := I) (st1 := [.inl (F_Gb_within x1 0 7 I)]) d_Co_broughtBy_4 s_yGb_within m_Co_27 rfl (Nat.le_of_ble_eq_true rfl) rfl rfl (c_Gb_within l (d0 + 0) x1 0 7 I) ?_
  refine go_if_eq (tgt := 19) d_Co_broughtBy_7 (by decide) (fun hc => ?_) (fun hc => ?_)
  · rw [if_pos hc] at h
    refine go_iconst (v := 0) d_Co_broughtBy_19 (by decide) ?_
    cases h
    exact go_ireturn d_Co_broughtBy_20 rfl gb_po_i
  · rw [if_neg hc] at h
    refine go_aload_n (k := 0) d_Co_broughtBy_10 rfl rfl ?_
    refine go_getr (ci := 6) (k := 3) (r := (h0 + 1)) d_Co_broughtBy_11 H0.1 rfl (by decide) f_Co_9 rfl ?_
    refine go_iload_n (k := 1) d_Co_broughtBy_14 rfl rfl ?_
    obtain ⟨hi, v1, ev1, h⟩ := flod_e h
    refine go_iald2 d_Co_broughtBy_15 H0.2.1 hi ev1 ?_
    refine go_goto (tgt := 20) d_Co_broughtBy_16 (by decide) ?_
    cases h
    exact go_ireturn d_Co_broughtBy_20 rfl gb_po_i
theorem d_Co_happens_0 : decode yCo_happens.2.1 0 = .ok (.aload_n 0, 1) := by decide +kernel
theorem d_Co_happens_1 : decode yCo_happens.2.1 1 = .ok (.getfield 23, 3) := by decide +kernel
theorem d_Co_happens_4 : decode yCo_happens.2.1 4 = .ok (.ifCond .eq 18, 3) := by decide +kernel
theorem d_Co_happens_7 : decode yCo_happens.2.1 7 = .ok (.iload_n 1, 1) := by decide +kernel
theorem d_Co_happens_8 : decode yCo_happens.2.1 8 = .ok (.sipush 500, 3) := by decide +kernel
theorem d_Co_happens_11 : decode yCo_happens.2.1 11 = .ok (.if_icmp .lt 7, 3) := by decide +kernel
theorem d_Co_happens_14 : decode yCo_happens.2.1 14 = .ok (.iconst 1, 1) := by decide +kernel
theorem d_Co_happens_15 : decode yCo_happens.2.1 15 = .ok (.goto 26, 3) := by decide +kernel
theorem d_Co_happens_18 : decode yCo_happens.2.1 18 = .ok (.iconst 0, 1) := by decide +kernel
theorem d_Co_happens_19 : decode yCo_happens.2.1 19 = .ok (.goto 22, 3) := by decide +kernel
theorem d_Co_happens_22 : decode yCo_happens.2.1 22 = .ok (.aload_n 0, 1) := by decide +kernel
theorem d_Co_happens_23 : decode yCo_happens.2.1 23 = .ok (.getfield 19, 3) := by decide +kernel
theorem d_Co_happens_26 : decode yCo_happens.2.1 26 = .ok (.sipush 1000, 3) := by decide +kernel
theorem d_Co_happens_29 : decode yCo_happens.2.1 29 = .ok (.invokevirtual 130, 3) := by decide +kernel
theorem d_Co_happens_32 : decode yCo_happens.2.1 32 = .ok (.iload_n 1, 1) := by decide +kernel
theorem d_Co_happens_33 : decode yCo_happens.2.1 33 = .ok (.if_icmp .ge 7, 3) := by decide +kernel
theorem d_Co_happens_36 : decode yCo_happens.2.1 36 = .ok (.iconst 1, 1) := by decide +kernel
theorem d_Co_happens_37 : decode yCo_happens.2.1 37 = .ok (.goto 4, 3) := by decide +kernel
theorem d_Co_happens_40 : decode yCo_happens.2.1 40 = .ok (.iconst 0, 1) := by decide +kernel
theorem d_Co_happens_41 : decode yCo_happens.2.1 41 = .ok (.ireturn, 1) := by decide +kernel
def F_Co_happens (h0 t0 : Nat) (x1 : Int32) (I : gb_Mem) : Option (Int32 × gb_Mem) :=
  if (I h0 2) = 0 then
    fbd (F_Ta_draw t0 1000 I) fun (r2, I1) =>
    if x1 ≤ r2 then
      some (0, I1)
    else
      some (1, I1)
  else
    if x1 < 500 then
      some (0, I)
    else
      some (1, I)
set_option maxRecDepth 4000 in
theorem c_Co_happens (l : Launch) (d0 : Nat) (h0 t0 : Nat) (H0 : isCo h0 t0) (x1 : Int32) (I : gb_Mem) {rz : Int32} {Iz : gb_Mem} (h : F_Co_happens h0 t0 x1 I = some (rz, Iz)) : gb_Cs l yCo_happens (d0 + 1) [.inr (some h0), .inl x1] shX I (some (.inl rz)) Iz := by
  refine gb_Ct.of (lv := [(0, .inr (some h0)), (1, .inl x1)]) rfl (Nat.le_of_ble_eq_true rfl) rfl ?_
  unfold F_Co_happens at h
  show gb_Go l yCo_happens (d0 + 1) 0 0 0 [(0, .inr (some h0)), (1, .inl x1)] [] shX I (gb_po shX (some (.inl rz)) Iz)
  refine go_aload_n (k := 0) d_Co_happens_0 rfl rfl ?_
  refine go_geti (ci := 6) (k := 2) d_Co_happens_1 H0.1 rfl (by decide) f_Co_23 rfl ?_
  refine go_if_eq (tgt := 22) d_Co_happens_4 (by decide) (fun hc => ?_) (fun hc => ?_)
  · rw [if_pos hc] at h
    refine go_aload_n (k := 0) d_Co_happens_22 rfl rfl ?_
    refine go_getr (ci := 6) (k := 1) (r := t0) d_Co_happens_23 H0.1 rfl (by decide) f_Co_19 rfl ?_
    refine go_sipush (v := 1000) d_Co_happens_26 (by decide) ?_
    obtain ⟨⟨r2, I1⟩, w1, h⟩ := fbd_e h
    try dsimp only at h
    refine go_callV (y := yTa_draw) (asr := [.inl 1000]) (v := some (.inl r2)) (I' := I1) (st1 := [.inl r2]) d_Co_happens_29 s_yTa_draw m_Co_130 H0.2.2.1 rfl rfl rfl (Nat.le_of_ble_eq_true rfl) rfl rfl (c_Ta_draw l (d0 + 0) t0 H0.2.2 1000 I w1) ?_
    refine go_iload_n (k := 1) d_Co_happens_32 rfl rfl ?_
    refine go_cmp_ge (tgt := 40) d_Co_happens_33 (by decide) (fun hc => ?_) (fun hc => ?_)
    · rw [if_pos hc] at h
      refine go_iconst (v := 0) d_Co_happens_40 (by decide) ?_
      cases h
      exact go_zreturn d_Co_happens_41 rfl (Or.inl rfl) gb_po_i
    · rw [if_neg hc] at h
      refine go_iconst (v := 1) d_Co_happens_36 (by decide) ?_
      refine go_goto (tgt := 41) d_Co_happens_37 (by decide) ?_
      cases h
      exact go_zreturn d_Co_happens_41 rfl (Or.inr rfl) gb_po_i
  · rw [if_neg hc] at h
    refine go_iload_n (k := 1) d_Co_happens_7 rfl rfl ?_
    refine go_sipush (v := 500) d_Co_happens_8 (by decide) ?_
    refine go_cmp_lt (tgt := 18) d_Co_happens_11 (by decide) (fun hc => ?_) (fun hc => ?_)
    · rw [if_pos hc] at h
      refine go_iconst (v := 0) d_Co_happens_18 (by decide) ?_
      refine go_goto (tgt := 41) d_Co_happens_19 (by decide) ?_
      cases h
      exact go_zreturn d_Co_happens_41 rfl (Or.inl rfl) gb_po_i
    · rw [if_neg hc] at h
      refine go_iconst (v := 1) d_Co_happens_14 (by decide) ?_
      refine go_goto (tgt := 41) d_Co_happens_15 (by decide) ?_
      cases h
      exact go_zreturn d_Co_happens_41 rfl (Or.inr rfl) gb_po_i
theorem d_Co_write_0 : decode yCo_write.2.1 0 = .ok (.aload_n 0, 1) := by decide +kernel
theorem d_Co_write_1 : decode yCo_write.2.1 1 = .ok (.getfield 23, 3) := by decide +kernel
theorem d_Co_write_4 : decode yCo_write.2.1 4 = .ok (.ifCond .ne 24, 3) := by decide +kernel
theorem d_Co_write_7 : decode yCo_write.2.1 7 = .ok (.aload_n 0, 1) := by decide +kernel
theorem d_Co_write_8 : decode yCo_write.2.1 8 = .ok (.getfield 15, 3) := by decide +kernel
theorem d_Co_write_11 : decode yCo_write.2.1 11 = .ok (.getfield 153, 3) := by decide +kernel
theorem d_Co_write_14 : decode yCo_write.2.1 14 = .ok (.aload_n 0, 1) := by decide +kernel
theorem d_Co_write_15 : decode yCo_write.2.1 15 = .ok (.getfield 19, 3) := by decide +kernel
theorem d_Co_write_18 : decode yCo_write.2.1 18 = .ok (.getfield 54, 3) := by decide +kernel
theorem d_Co_write_21 : decode yCo_write.2.1 21 = .ok (.iload_n 1, 1) := by decide +kernel
theorem d_Co_write_22 : decode yCo_write.2.1 22 = .ok (.iload_n 2, 1) := by decide +kernel
theorem d_Co_write_23 : decode yCo_write.2.1 23 = .ok (.iload_n 3, 1) := by decide +kernel
theorem d_Co_write_24 : decode yCo_write.2.1 24 = .ok (.invokevirtual 156, 3) := by decide +kernel
theorem d_Co_write_27 : decode yCo_write.2.1 27 = .ok (.pop, 1) := by decide +kernel
theorem d_Co_write_28 : decode yCo_write.2.1 28 = .ok (.return_, 1) := by decide +kernel
def F_Co_write (h0 t0 : Nat) (x1 x2 x3 : Int32) (I : gb_Mem) : Option (gb_Mem) :=
  if (I h0 2) = 0 then
    fbd (F_Ro_add 17 600 (I t0 4) x1 x2 x3 I) fun (r2, I1) =>
    some I1
  else
    some I
set_option maxRecDepth 4000 in
theorem c_Co_write (l : Launch) (d0 : Nat) (h0 t0 : Nat) (H0 : isCo h0 t0) (x1 x2 x3 : Int32) (I : gb_Mem) {Iz : gb_Mem} (h : F_Co_write h0 t0 x1 x2 x3 I = some Iz) : gb_Cs l yCo_write (d0 + 1) [.inr (some h0), .inl x1, .inl x2, .inl x3] shX I none Iz := by
  refine gb_Ct.of (lv := [(0, .inr (some h0)), (1, .inl x1), (2, .inl x2), (3, .inl x3)]) rfl (Nat.le_of_ble_eq_true rfl) rfl ?_
  unfold F_Co_write at h
  show gb_Go l yCo_write (d0 + 1) 0 0 0 [(0, .inr (some h0)), (1, .inl x1), (2, .inl x2), (3, .inl x3)] [] shX I (gb_po shX none Iz)
  refine go_aload_n (k := 0) d_Co_write_0 rfl rfl ?_
  refine go_geti (ci := 6) (k := 2) d_Co_write_1 H0.1 rfl (by decide) f_Co_23 rfl ?_
  refine go_if_ne (tgt := 28) d_Co_write_4 (by decide) (fun hc => ?_) (fun hc => ?_)
  · rw [if_neg hc] at h
    cases h
    exact go_return d_Co_write_28 rfl gb_po_i
  · rw [if_pos hc] at h
    refine go_aload_n (k := 0) d_Co_write_7 rfl rfl ?_
    refine go_getr (ci := 6) (k := 0) (r := 1) d_Co_write_8 H0.1 rfl (by decide) f_Co_15 rfl ?_
    refine go_getrN (ci := 1) (k := 5) (r := 17) d_Co_write_11 a_X_1 rfl (by decide) f_Co_153 rfl ?_
    refine go_aload_n (k := 0) d_Co_write_14 rfl rfl ?_
    refine go_getr (ci := 6) (k := 1) (r := t0) d_Co_write_15 H0.1 rfl (by decide) f_Co_19 rfl ?_
    refine go_getiN (ci := 2) (k := 4) d_Co_write_18 H0.2.2.1 rfl (by decide) f_Co_54 rfl ?_
    refine go_iload_n (k := 1) d_Co_write_21 rfl rfl ?_
    refine go_iload_n (k := 2) d_Co_write_22 rfl rfl ?_
    refine go_iload_n (k := 3) d_Co_write_23 rfl rfl ?_
    obtain ⟨⟨r2, I1⟩, w1, h⟩ := fbd_e h
    try dsimp only at h
    refine go_callV (y := yRo_add) (asr := [.inl (I t0 4), .inl x1, .inl x2, .inl x3]) (v := some (.inl r2)) (I' := I1) (st1 := [.inl r2]) d_Co_write_24 s_yRo_add m_Co_156 a_X_17 rfl rfl rfl (Nat.le_of_ble_eq_true rfl) rfl rfl (c_Ro_add l (d0 + 0) 17 600 isRo_17 (I t0 4) x1 x2 x3 I w1) ?_
    refine go_pop d_Co_write_27 ?_
    cases h
    exact go_return d_Co_write_28 rfl gb_po_i
theorem d_Gb_canSet_0 : decode yGb_canSet.2.1 0 = .ok (.iload_n 1, 1) := by decide +kernel
theorem d_Gb_canSet_1 : decode yGb_canSet.2.1 1 = .ok (.iconst 0, 1) := by decide +kernel
theorem d_Gb_canSet_2 : decode yGb_canSet.2.1 2 = .ok (.bipush 7, 2) := by decide +kernel
theorem d_Gb_canSet_4 : decode yGb_canSet.2.1 4 = .ok (.invokestatic 84, 3) := by decide +kernel
theorem d_Gb_canSet_7 : decode yGb_canSet.2.1 7 = .ok (.ifCond .eq 11, 3) := by decide +kernel
theorem d_Gb_canSet_10 : decode yGb_canSet.2.1 10 = .ok (.iload_n 1, 1) := by decide +kernel
theorem d_Gb_canSet_11 : decode yGb_canSet.2.1 11 = .ok (.getstatic 88, 3) := by decide +kernel
theorem d_Gb_canSet_14 : decode yGb_canSet.2.1 14 = .ok (.arraylength, 1) := by decide +kernel
theorem d_Gb_canSet_15 : decode yGb_canSet.2.1 15 = .ok (.if_icmp .lt 5, 3) := by decide +kernel
theorem d_Gb_canSet_18 : decode yGb_canSet.2.1 18 = .ok (.iconst 0, 1) := by decide +kernel
theorem d_Gb_canSet_19 : decode yGb_canSet.2.1 19 = .ok (.ireturn, 1) := by decide +kernel
theorem d_Gb_canSet_20 : decode yGb_canSet.2.1 20 = .ok (.iload_n 1, 1) := by decide +kernel
theorem d_Gb_canSet_21 : decode yGb_canSet.2.1 21 = .ok (.iconst 2, 1) := by decide +kernel
theorem d_Gb_canSet_22 : decode yGb_canSet.2.1 22 = .ok (.if_icmp .ne 12, 3) := by decide +kernel
theorem d_Gb_canSet_25 : decode yGb_canSet.2.1 25 = .ok (.getstatic 88, 3) := by decide +kernel
theorem d_Gb_canSet_28 : decode yGb_canSet.2.1 28 = .ok (.iconst 2, 1) := by decide +kernel
theorem d_Gb_canSet_29 : decode yGb_canSet.2.1 29 = .ok (.iaload, 1) := by decide +kernel
theorem d_Gb_canSet_30 : decode yGb_canSet.2.1 30 = .ok (.ineg, 1) := by decide +kernel
theorem d_Gb_canSet_31 : decode yGb_canSet.2.1 31 = .ok (.goto 4, 3) := by decide +kernel
theorem d_Gb_canSet_34 : decode yGb_canSet.2.1 34 = .ok (.iconst 0, 1) := by decide +kernel
theorem d_Gb_canSet_35 : decode yGb_canSet.2.1 35 = .ok (.istore 4, 2) := by decide +kernel
theorem d_Gb_canSet_37 : decode yGb_canSet.2.1 37 = .ok (.iload_n 3, 1) := by decide +kernel
theorem d_Gb_canSet_38 : decode yGb_canSet.2.1 38 = .ok (.iload 4, 2) := by decide +kernel
theorem d_Gb_canSet_40 : decode yGb_canSet.2.1 40 = .ok (.getstatic 88, 3) := by decide +kernel
theorem d_Gb_canSet_43 : decode yGb_canSet.2.1 43 = .ok (.iload_n 1, 1) := by decide +kernel
theorem d_Gb_canSet_44 : decode yGb_canSet.2.1 44 = .ok (.iaload, 1) := by decide +kernel
theorem d_Gb_canSet_45 : decode yGb_canSet.2.1 45 = .ok (.invokestatic 84, 3) := by decide +kernel
theorem d_Gb_canSet_48 : decode yGb_canSet.2.1 48 = .ok (.ifCond .ne 5, 3) := by decide +kernel
theorem d_Gb_canSet_51 : decode yGb_canSet.2.1 51 = .ok (.iconst 0, 1) := by decide +kernel
theorem d_Gb_canSet_52 : decode yGb_canSet.2.1 52 = .ok (.ireturn, 1) := by decide +kernel
theorem d_Gb_canSet_53 : decode yGb_canSet.2.1 53 = .ok (.iload_n 1, 1) := by decide +kernel
theorem d_Gb_canSet_54 : decode yGb_canSet.2.1 54 = .ok (.bipush 7, 2) := by decide +kernel
theorem d_Gb_canSet_56 : decode yGb_canSet.2.1 56 = .ok (.if_icmp .ne 5, 3) := by decide +kernel
theorem d_Gb_canSet_59 : decode yGb_canSet.2.1 59 = .ok (.iconst 1, 1) := by decide +kernel
theorem d_Gb_canSet_60 : decode yGb_canSet.2.1 60 = .ok (.ireturn, 1) := by decide +kernel
theorem d_Gb_canSet_61 : decode yGb_canSet.2.1 61 = .ok (.iload_n 1, 1) := by decide +kernel
theorem d_Gb_canSet_62 : decode yGb_canSet.2.1 62 = .ok (.iconst 5, 1) := by decide +kernel
theorem d_Gb_canSet_63 : decode yGb_canSet.2.1 63 = .ok (.if_icmp .ge 13, 3) := by decide +kernel
theorem d_Gb_canSet_66 : decode yGb_canSet.2.1 66 = .ok (.iload_n 2, 1) := by decide +kernel
theorem d_Gb_canSet_67 : decode yGb_canSet.2.1 67 = .ok (.iconst 0, 1) := by decide +kernel
theorem d_Gb_canSet_68 : decode yGb_canSet.2.1 68 = .ok (.bipush 11, 2) := by decide +kernel
theorem d_Gb_canSet_70 : decode yGb_canSet.2.1 70 = .ok (.invokestatic 84, 3) := by decide +kernel
theorem d_Gb_canSet_73 : decode yGb_canSet.2.1 73 = .ok (.goto 20, 3) := by decide +kernel
theorem d_Gb_canSet_76 : decode yGb_canSet.2.1 76 = .ok (.iload_n 2, 1) := by decide +kernel
theorem d_Gb_canSet_77 : decode yGb_canSet.2.1 77 = .ok (.iconst 0, 1) := by decide +kernel
theorem d_Gb_canSet_78 : decode yGb_canSet.2.1 78 = .ok (.aload_n 0, 1) := by decide +kernel
theorem d_Gb_canSet_79 : decode yGb_canSet.2.1 79 = .ok (.getfield 12, 3) := by decide +kernel
theorem d_Gb_canSet_82 : decode yGb_canSet.2.1 82 = .ok (.getfield 35, 3) := by decide +kernel
theorem d_Gb_canSet_85 : decode yGb_canSet.2.1 85 = .ok (.getfield 95, 3) := by decide +kernel
theorem d_Gb_canSet_88 : decode yGb_canSet.2.1 88 = .ok (.iconst 1, 1) := by decide +kernel
theorem d_Gb_canSet_89 : decode yGb_canSet.2.1 89 = .ok (.isub, 1) := by decide +kernel
theorem d_Gb_canSet_90 : decode yGb_canSet.2.1 90 = .ok (.invokestatic 84, 3) := by decide +kernel
theorem d_Gb_canSet_93 : decode yGb_canSet.2.1 93 = .ok (.ireturn, 1) := by decide +kernel
def J_Gb_canSet_35 (x1 x2 x3 s0 : Int32) (I : gb_Mem) : Option (Int32) :=
  fgr x1 fun v1 =>
  if (F_Gb_within x3 s0 v1 I) = 0 then
    some 0
  else
    if x1 = 7 then
      some 1
    else
      if 5 ≤ x1 then
        some (F_Gb_within x2 0 ((I 2 5) - 1) I)
      else
        some (F_Gb_within x2 0 11 I)
set_option maxRecDepth 4000 in
theorem j_Gb_canSet_35 (l : Launch) (d0 : Nat) (x1 x2 x3 s0 : Int32) (I : gb_Mem) {rz : Int32} (h : J_Gb_canSet_35 x1 x2 x3 s0 I = some rz) : gb_Go l yGb_canSet (d0 + 1) 0 0 35 [(0, .inr (some 0)), (1, .inl x1), (2, .inl x2), (3, .inl x3)] [.inl s0] shX I (gb_po shX (some (.inl rz)) I) := by
  unfold J_Gb_canSet_35 at h
  refine go_istore (lv' := [(4, .inl s0), (0, .inr (some 0)), (1, .inl x1), (2, .inl x2), (3, .inl x3)]) d_Gb_canSet_35 (by decide) rfl ?_
  refine go_iload_n (k := 4) d_Gb_canSet_37 rfl rfl ?_
  refine go_iload (k := 0) d_Gb_canSet_38 rfl ?_
  refine go_getG d_Gb_canSet_40 f_Gb_88 ?_
  refine go_iload_n (k := 2) d_Gb_canSet_43 rfl rfl ?_
  obtain ⟨hi, v1, ev1, h⟩ := fgr_e h
  refine go_ialdG2 d_Gb_canSet_44 hi ev1 ?_
  refine go_callS (y := yGb_within) (asr := [.inl x3, .inl s0, .inl v1]) (v := some (.inl (F_Gb_within x3 s0 v1 I))) (I' := I) (st1 := [.inl (F_Gb_within x3 s0 v1 I)]) d_Gb_canSet_45 s_yGb_within m_Gb_84 rfl (Nat.le_of_ble_eq_true rfl) rfl rfl (c_Gb_within l (d0 + 0) x3 s0 v1 I) ?_
  refine go_if_ne (tgt := 53) d_Gb_canSet_48 (by decide) (fun hc => ?_) (fun hc => ?_)
  · rw [if_neg hc] at h
    refine go_iload_n (k := 2) d_Gb_canSet_53 rfl rfl ?_
    refine go_bipush (v := 7) d_Gb_canSet_54 (by decide) ?_
    refine go_cmp_ne (tgt := 61) d_Gb_canSet_56 (by decide) (fun hc => ?_) (fun hc => ?_)
    · rw [if_neg hc] at h
      refine go_iload_n (k := 2) d_Gb_canSet_61 rfl rfl ?_
      refine go_iconst (v := 5) d_Gb_canSet_62 (by decide) ?_
      refine go_cmp_ge (tgt := 76) d_Gb_canSet_63 (by decide) (fun hc => ?_) (fun hc => ?_)
      · rw [if_pos hc] at h
        refine go_iload_n (k := 3) d_Gb_canSet_76 rfl rfl ?_
        refine go_iconst (v := 0) d_Gb_canSet_77 (by decide) ?_
        refine go_aload_n (k := 1) d_Gb_canSet_78 rfl rfl ?_
        refine go_getr (ci := 0) (k := 0) (r := 1) d_Gb_canSet_79 a_X_0 rfl (by decide) f_Gb_12 rfl ?_
        refine go_getrN (ci := 1) (k := 0) (r := 2) d_Gb_canSet_82 a_X_1 rfl (by decide) f_Gb_35 rfl ?_
        refine go_getiN (ci := 2) (k := 5) d_Gb_canSet_85 a_X_2 rfl (by decide) f_Gb_95 rfl ?_
        refine go_iconst (v := 1) d_Gb_canSet_88 (by decide) ?_
        refine go_isub d_Gb_canSet_89 ?_
        refine go_callS (y := yGb_within) (asr := [.inl x2, .inl 0, .inl ((I 2 5) - 1)]) (v := some (.inl (F_Gb_within x2 0 ((I 2 5) - 1) I))) (I' := I) (st1 := [.inl (F_Gb_within x2 0 ((I 2 5) - 1) I)]) d_Gb_canSet_90 s_yGb_within m_Gb_84 rfl (Nat.le_of_ble_eq_true rfl) rfl rfl (c_Gb_within l (d0 + 0) x2 0 ((I 2 5) - 1) I) ?_
        cases h
        exact go_zreturn d_Gb_canSet_93 rfl (zb_Gb_within x2 0 ((I 2 5) - 1) I) gb_po_i
      · rw [if_neg hc] at h
        refine go_iload_n (k := 3) d_Gb_canSet_66 rfl rfl ?_
        refine go_iconst (v := 0) d_Gb_canSet_67 (by decide) ?_
        refine go_bipush (v := 11) d_Gb_canSet_68 (by decide) ?_
        refine go_callS (y := yGb_within) (asr := [.inl x2, .inl 0, .inl 11]) (v := some (.inl (F_Gb_within x2 0 11 I))) (I' := I) (st1 := [.inl (F_Gb_within x2 0 11 I)]) d_Gb_canSet_70 s_yGb_within m_Gb_84 rfl (Nat.le_of_ble_eq_true rfl) rfl rfl (c_Gb_within l (d0 + 0) x2 0 11 I) ?_
        refine go_goto (tgt := 93) d_Gb_canSet_73 (by decide) ?_
        cases h
        exact go_zreturn d_Gb_canSet_93 rfl (zb_Gb_within x2 0 11 I) gb_po_i
    · rw [if_pos hc] at h
      refine go_iconst (v := 1) d_Gb_canSet_59 (by decide) ?_
      cases h
      exact go_zreturn d_Gb_canSet_60 rfl (Or.inr rfl) gb_po_i
  · rw [if_pos hc] at h
    refine go_iconst (v := 0) d_Gb_canSet_51 (by decide) ?_
    cases h
    exact go_zreturn d_Gb_canSet_52 rfl (Or.inl rfl) gb_po_i
def F_Gb_canSet (x1 x2 x3 : Int32) (I : gb_Mem) : Option (Int32) :=
  if (F_Gb_within x1 0 7 I) = 0 then
    some 0
  else
    if x1 < 8 then
      if x1 = 2 then
        J_Gb_canSet_35 x1 x2 x3 (-9) I
      else
        J_Gb_canSet_35 x1 x2 x3 0 I
    else
      some 0
set_option maxRecDepth 4000 in
theorem c_Gb_canSet (l : Launch) (d0 : Nat) (x1 x2 x3 : Int32) (I : gb_Mem) {rz : Int32} (h : F_Gb_canSet x1 x2 x3 I = some rz) : gb_Cs l yGb_canSet (d0 + 1) [.inr (some 0), .inl x1, .inl x2, .inl x3] shX I (some (.inl rz)) I := by
  refine gb_Ct.of (lv := [(0, .inr (some 0)), (1, .inl x1), (2, .inl x2), (3, .inl x3)]) rfl (Nat.le_of_ble_eq_true rfl) rfl ?_
  unfold F_Gb_canSet at h
  show gb_Go l yGb_canSet (d0 + 1) 0 0 0 [(0, .inr (some 0)), (1, .inl x1), (2, .inl x2), (3, .inl x3)] [] shX I (gb_po shX (some (.inl rz)) I)
  refine go_iload_n (k := 1) d_Gb_canSet_0 rfl rfl ?_
  refine go_iconst (v := 0) d_Gb_canSet_1 (by decide) ?_
  refine go_bipush (v := 7) d_Gb_canSet_2 (by decide) ?_
  refine go_callS (y := yGb_within) (asr := [.inl x1, .inl 0, .inl 7]) (v := some (.inl (F_Gb_within x1 0 7 I))) (I' := I) (st1 := [.inl (F_Gb_within x1 0 7 I)]) d_Gb_canSet_4 s_yGb_within m_Gb_84 rfl (Nat.le_of_ble_eq_true rfl) rfl rfl (c_Gb_within l (d0 + 0) x1 0 7 I) ?_
  refine go_if_eq (tgt := 18) d_Gb_canSet_7 (by decide) (fun hc => ?_) (fun hc => ?_)
  · rw [if_pos hc] at h
    refine go_iconst (v := 0) d_Gb_canSet_18 (by decide) ?_
    cases h
    exact go_zreturn d_Gb_canSet_19 rfl (Or.inl rfl) gb_po_i
  · rw [if_neg hc] at h
    refine go_iload_n (k := 1) d_Gb_canSet_10 rfl rfl ?_
    refine go_getG d_Gb_canSet_11 f_Gb_88 ?_
    refine go_alenG d_Gb_canSet_14 ?_
    refine go_cmp_lt (tgt := 20) d_Gb_canSet_15 (by decide) (fun hc => ?_) (fun hc => ?_)
    · rw [if_pos hc] at h
      refine go_iload_n (k := 1) d_Gb_canSet_20 rfl rfl ?_
      refine go_iconst (v := 2) d_Gb_canSet_21 (by decide) ?_
      refine go_cmp_ne (tgt := 34) d_Gb_canSet_22 (by decide) (fun hc => ?_) (fun hc => ?_)
      · rw [if_neg hc] at h
        refine go_iconst (v := 0) d_Gb_canSet_34 (by decide) ?_
        exact go_lv [0, 1, 2, 3] rfl (j_Gb_canSet_35 l d0 x1 x2 x3 0 I h)
      · rw [if_pos hc] at h
        refine go_getG d_Gb_canSet_25 f_Gb_88 ?_
        refine go_iconst (v := 2) d_Gb_canSet_28 (by decide) ?_
        refine go_ialdG2 (v := 9) d_Gb_canSet_29 (inb_iff.mp (by decide)) (by decide) ?_
        refine go_ineg d_Gb_canSet_30 ?_
        refine go_goto (tgt := 35) d_Gb_canSet_31 (by decide) ?_
        exact go_lv [0, 1, 2, 3] rfl (j_Gb_canSet_35 l d0 x1 x2 x3 (-9) I h)
    · rw [if_neg hc] at h
      refine go_iconst (v := 0) d_Gb_canSet_18 (by decide) ?_
      cases h
      exact go_zreturn d_Gb_canSet_19 rfl (Or.inl rfl) gb_po_i
theorem d_Gb_end_0 : decode yGb_end.2.1 0 = .ok (.iload_n 1, 1) := by decide +kernel
theorem d_Gb_end_1 : decode yGb_end.2.1 1 = .ok (.iconst 0, 1) := by decide +kernel
theorem d_Gb_end_2 : decode yGb_end.2.1 2 = .ok (.aload_n 0, 1) := by decide +kernel
theorem d_Gb_end_3 : decode yGb_end.2.1 3 = .ok (.getfield 138, 3) := by decide +kernel
theorem d_Gb_end_6 : decode yGb_end.2.1 6 = .ok (.invokestatic 84, 3) := by decide +kernel
theorem d_Gb_end_9 : decode yGb_end.2.1 9 = .ok (.ifCond .ne 5, 3) := by decide +kernel
theorem d_Gb_end_12 : decode yGb_end.2.1 12 = .ok (.iconst 0, 1) := by decide +kernel
theorem d_Gb_end_13 : decode yGb_end.2.1 13 = .ok (.ireturn, 1) := by decide +kernel
theorem d_Gb_end_14 : decode yGb_end.2.1 14 = .ok (.aload_n 0, 1) := by decide +kernel
theorem d_Gb_end_15 : decode yGb_end.2.1 15 = .ok (.iload_n 1, 1) := by decide +kernel
theorem d_Gb_end_16 : decode yGb_end.2.1 16 = .ok (.putfield 138, 3) := by decide +kernel
theorem d_Gb_end_19 : decode yGb_end.2.1 19 = .ok (.iconst 1, 1) := by decide +kernel
theorem d_Gb_end_20 : decode yGb_end.2.1 20 = .ok (.ireturn, 1) := by decide +kernel
def F_Gb_end (x1 : Int32) (I : gb_Mem) : Option (Int32 × gb_Mem) :=
  if (F_Gb_within x1 0 (I 0 10) I) = 0 then
    some (0, I)
  else
    fstf I 0 10 x1 fun I1 =>
    some (1, I1)
set_option maxRecDepth 4000 in
theorem c_Gb_end (l : Launch) (d0 : Nat) (x1 : Int32) (I : gb_Mem) {rz : Int32} {Iz : gb_Mem} (h : F_Gb_end x1 I = some (rz, Iz)) : gb_Cs l yGb_end (d0 + 1) [.inr (some 0), .inl x1] shX I (some (.inl rz)) Iz := by
  refine gb_Ct.of (lv := [(0, .inr (some 0)), (1, .inl x1)]) rfl (Nat.le_of_ble_eq_true rfl) rfl ?_
  unfold F_Gb_end at h
  show gb_Go l yGb_end (d0 + 1) 0 0 0 [(0, .inr (some 0)), (1, .inl x1)] [] shX I (gb_po shX (some (.inl rz)) Iz)
  refine go_iload_n (k := 1) d_Gb_end_0 rfl rfl ?_
  refine go_iconst (v := 0) d_Gb_end_1 (by decide) ?_
  refine go_aload_n (k := 0) d_Gb_end_2 rfl rfl ?_
  refine go_geti (ci := 0) (k := 10) d_Gb_end_3 a_X_0 rfl (by decide) f_Gb_138 rfl ?_
  refine go_callS (y := yGb_within) (asr := [.inl x1, .inl 0, .inl (I 0 10)]) (v := some (.inl (F_Gb_within x1 0 (I 0 10) I))) (I' := I) (st1 := [.inl (F_Gb_within x1 0 (I 0 10) I)]) d_Gb_end_6 s_yGb_within m_Gb_84 rfl (Nat.le_of_ble_eq_true rfl) rfl rfl (c_Gb_within l (d0 + 0) x1 0 (I 0 10) I) ?_
  refine go_if_ne (tgt := 14) d_Gb_end_9 (by decide) (fun hc => ?_) (fun hc => ?_)
  · rw [if_neg hc] at h
    refine go_aload_n (k := 0) d_Gb_end_14 rfl rfl ?_
    refine go_iload_n (k := 1) d_Gb_end_15 rfl rfl ?_
    obtain ⟨I1, eI1, h⟩ := fstf_e h
    refine go_putT (ci := 0) (k := 10) (I' := I1) d_Gb_end_16 a_X_0 rfl (by decide) f_Gb_138 rfl rfl rfl rfl rfl eI1 ?_
    refine go_iconst (v := 1) d_Gb_end_19 (by decide) ?_
    cases h
    exact go_zreturn d_Gb_end_20 rfl (Or.inr rfl) gb_po_i
  · rw [if_pos hc] at h
    refine go_iconst (v := 0) d_Gb_end_12 (by decide) ?_
    cases h
    exact go_zreturn d_Gb_end_13 rfl (Or.inl rfl) gb_po_i
theorem d_Gb_feed_0 : decode yGb_feed.2.1 0 = .ok (.aload_n 0, 1) := by decide +kernel
theorem d_Gb_feed_1 : decode yGb_feed.2.1 1 = .ok (.getfield 138, 3) := by decide +kernel
theorem d_Gb_feed_4 : decode yGb_feed.2.1 4 = .ok (.bipush 20, 2) := by decide +kernel
theorem d_Gb_feed_6 : decode yGb_feed.2.1 6 = .ok (.iadd, 1) := by decide +kernel
theorem d_Gb_feed_7 : decode yGb_feed.2.1 7 = .ok (.sipush 400, 3) := by decide +kernel
theorem d_Gb_feed_10 : decode yGb_feed.2.1 10 = .ok (.if_icmp .le 5, 3) := by decide +kernel
theorem d_Gb_feed_13 : decode yGb_feed.2.1 13 = .ok (.iconst (-1), 1) := by decide +kernel
theorem d_Gb_feed_14 : decode yGb_feed.2.1 14 = .ok (.ireturn, 1) := by decide +kernel
theorem d_Gb_feed_15 : decode yGb_feed.2.1 15 = .ok (.aload_n 0, 1) := by decide +kernel
theorem d_Gb_feed_16 : decode yGb_feed.2.1 16 = .ok (.iload_n 1, 1) := by decide +kernel
theorem d_Gb_feed_17 : decode yGb_feed.2.1 17 = .ok (.invokevirtual 141, 3) := by decide +kernel
theorem d_Gb_feed_20 : decode yGb_feed.2.1 20 = .ok (.aload_n 0, 1) := by decide +kernel
theorem d_Gb_feed_21 : decode yGb_feed.2.1 21 = .ok (.iload_n 2, 1) := by decide +kernel
theorem d_Gb_feed_22 : decode yGb_feed.2.1 22 = .ok (.invokevirtual 141, 3) := by decide +kernel
theorem d_Gb_feed_25 : decode yGb_feed.2.1 25 = .ok (.aload_n 0, 1) := by decide +kernel
theorem d_Gb_feed_26 : decode yGb_feed.2.1 26 = .ok (.iload_n 3, 1) := by decide +kernel
theorem d_Gb_feed_27 : decode yGb_feed.2.1 27 = .ok (.invokevirtual 141, 3) := by decide +kernel
theorem d_Gb_feed_30 : decode yGb_feed.2.1 30 = .ok (.aload_n 0, 1) := by decide +kernel
theorem d_Gb_feed_31 : decode yGb_feed.2.1 31 = .ok (.iload 4, 2) := by decide +kernel
theorem d_Gb_feed_33 : decode yGb_feed.2.1 33 = .ok (.invokevirtual 141, 3) := by decide +kernel
theorem d_Gb_feed_36 : decode yGb_feed.2.1 36 = .ok (.aload_n 0, 1) := by decide +kernel
theorem d_Gb_feed_37 : decode yGb_feed.2.1 37 = .ok (.iload 5, 2) := by decide +kernel
theorem d_Gb_feed_39 : decode yGb_feed.2.1 39 = .ok (.invokevirtual 141, 3) := by decide +kernel
theorem d_Gb_feed_42 : decode yGb_feed.2.1 42 = .ok (.aload_n 0, 1) := by decide +kernel
theorem d_Gb_feed_43 : decode yGb_feed.2.1 43 = .ok (.getfield 138, 3) := by decide +kernel
theorem d_Gb_feed_46 : decode yGb_feed.2.1 46 = .ok (.ireturn, 1) := by decide +kernel
def F_Gb_feed (x1 x2 x3 x4 x5 : Int32) (I : gb_Mem) : Option (Int32 × gb_Mem) :=
  if ((I 0 10) + 20) ≤ 400 then
    fbd (F_Gb_tapeNumber x1 I) fun I1 =>
    fbd (F_Gb_tapeNumber x2 I1) fun I2 =>
    fbd (F_Gb_tapeNumber x3 I2) fun I3 =>
    fbd (F_Gb_tapeNumber x4 I3) fun I4 =>
    fbd (F_Gb_tapeNumber x5 I4) fun I5 =>
    some (I5 0 10, I5)
  else
    some ((-1), I)
set_option maxRecDepth 4000 in
theorem c_Gb_feed (l : Launch) (d0 : Nat) (x1 x2 x3 x4 x5 : Int32) (I : gb_Mem) {rz : Int32} {Iz : gb_Mem} (h : F_Gb_feed x1 x2 x3 x4 x5 I = some (rz, Iz)) : gb_Cs l yGb_feed (d0 + 1) [.inr (some 0), .inl x1, .inl x2, .inl x3, .inl x4, .inl x5] shX I (some (.inl rz)) Iz := by
  refine gb_Ct.of (lv := [(0, .inr (some 0)), (1, .inl x1), (2, .inl x2), (3, .inl x3), (4, .inl x4), (5, .inl x5)]) rfl (Nat.le_of_ble_eq_true rfl) rfl ?_
  unfold F_Gb_feed at h
  show gb_Go l yGb_feed (d0 + 1) 0 0 0 [(0, .inr (some 0)), (1, .inl x1), (2, .inl x2), (3, .inl x3), (4, .inl x4), (5, .inl x5)] [] shX I (gb_po shX (some (.inl rz)) Iz)
  refine go_aload_n (k := 0) d_Gb_feed_0 rfl rfl ?_
  refine go_geti (ci := 0) (k := 10) d_Gb_feed_1 a_X_0 rfl (by decide) f_Gb_138 rfl ?_
  refine go_bipush (v := 20) d_Gb_feed_4 (by decide) ?_
  refine go_iadd d_Gb_feed_6 ?_
  refine go_sipush (v := 400) d_Gb_feed_7 (by decide) ?_
  refine go_cmp_le (tgt := 15) d_Gb_feed_10 (by decide) (fun hc => ?_) (fun hc => ?_)
  · rw [if_pos hc] at h
    refine go_aload_n (k := 0) d_Gb_feed_15 rfl rfl ?_
    refine go_iload_n (k := 1) d_Gb_feed_16 rfl rfl ?_
    obtain ⟨I1, w1, h⟩ := fbd_e h
    refine go_callV (y := yGb_tapeNumber) (asr := [.inl x1]) (v := none) (I' := I1) (st1 := []) d_Gb_feed_17 s_yGb_tapeNumber m_Gb_141 a_X_0 rfl rfl rfl (Nat.le_of_ble_eq_true rfl) rfl rfl (c_Gb_tapeNumber l (d0 + 0) x1 I w1) ?_
    refine go_aload_n (k := 0) d_Gb_feed_20 rfl rfl ?_
    refine go_iload_n (k := 2) d_Gb_feed_21 rfl rfl ?_
    obtain ⟨I2, w1, h⟩ := fbd_e h
    refine go_callV (y := yGb_tapeNumber) (asr := [.inl x2]) (v := none) (I' := I2) (st1 := []) d_Gb_feed_22 s_yGb_tapeNumber m_Gb_141 a_X_0 rfl rfl rfl (Nat.le_of_ble_eq_true rfl) rfl rfl (c_Gb_tapeNumber l (d0 + 0) x2 I1 w1) ?_
    refine go_aload_n (k := 0) d_Gb_feed_25 rfl rfl ?_
    refine go_iload_n (k := 3) d_Gb_feed_26 rfl rfl ?_
    obtain ⟨I3, w1, h⟩ := fbd_e h
    refine go_callV (y := yGb_tapeNumber) (asr := [.inl x3]) (v := none) (I' := I3) (st1 := []) d_Gb_feed_27 s_yGb_tapeNumber m_Gb_141 a_X_0 rfl rfl rfl (Nat.le_of_ble_eq_true rfl) rfl rfl (c_Gb_tapeNumber l (d0 + 0) x3 I2 w1) ?_
    refine go_aload_n (k := 0) d_Gb_feed_30 rfl rfl ?_
    refine go_iload (k := 4) d_Gb_feed_31 rfl ?_
    obtain ⟨I4, w1, h⟩ := fbd_e h
    refine go_callV (y := yGb_tapeNumber) (asr := [.inl x4]) (v := none) (I' := I4) (st1 := []) d_Gb_feed_33 s_yGb_tapeNumber m_Gb_141 a_X_0 rfl rfl rfl (Nat.le_of_ble_eq_true rfl) rfl rfl (c_Gb_tapeNumber l (d0 + 0) x4 I3 w1) ?_
    refine go_aload_n (k := 0) d_Gb_feed_36 rfl rfl ?_
    refine go_iload (k := 5) d_Gb_feed_37 rfl ?_
    obtain ⟨I5, w1, h⟩ := fbd_e h
    refine go_callV (y := yGb_tapeNumber) (asr := [.inl x5]) (v := none) (I' := I5) (st1 := []) d_Gb_feed_39 s_yGb_tapeNumber m_Gb_141 a_X_0 rfl rfl rfl (Nat.le_of_ble_eq_true rfl) rfl rfl (c_Gb_tapeNumber l (d0 + 0) x5 I4 w1) ?_
    refine go_aload_n (k := 0) d_Gb_feed_42 rfl rfl ?_
    refine go_geti (ci := 0) (k := 10) d_Gb_feed_43 a_X_0 rfl (by decide) f_Gb_138 rfl ?_
    cases h
    exact go_ireturn d_Gb_feed_46 rfl gb_po_i
  · rw [if_neg hc] at h
    refine go_iconst (v := (-1)) d_Gb_feed_13 (by decide) ?_
    cases h
    exact go_ireturn d_Gb_feed_14 rfl gb_po_i
theorem d_Gb_held_0 : decode yGb_held.2.1 0 = .ok (.iload_n 1, 1) := by decide +kernel
theorem d_Gb_held_1 : decode yGb_held.2.1 1 = .ok (.iload_n 2, 1) := by decide +kernel
theorem d_Gb_held_2 : decode yGb_held.2.1 2 = .ok (.iload_n 0, 1) := by decide +kernel
theorem d_Gb_held_3 : decode yGb_held.2.1 3 = .ok (.invokestatic 343, 3) := by decide +kernel
theorem d_Gb_held_6 : decode yGb_held.2.1 6 = .ok (.invokestatic 348, 3) := by decide +kernel
theorem d_Gb_held_9 : decode yGb_held.2.1 9 = .ok (.ireturn, 1) := by decide +kernel
def F_Gb_held (x0 x1 x2 : Int32) (I : gb_Mem) : Int32 :=
  mx x1 (mn x2 x0)
set_option maxRecDepth 4000 in
theorem c_Gb_held (l : Launch) (d0 : Nat) (x0 x1 x2 : Int32) (I : gb_Mem)  : gb_Cs l yGb_held (d0 + 1) [.inl x0, .inl x1, .inl x2] shX I (some (.inl (F_Gb_held x0 x1 x2 I))) I := by
  refine gb_Ct.of (lv := [(0, .inl x0), (1, .inl x1), (2, .inl x2)]) rfl (Nat.le_of_ble_eq_true rfl) rfl ?_
  generalize h : F_Gb_held x0 x1 x2 I = rz
  unfold F_Gb_held at h
  show gb_Go l yGb_held (d0 + 1) 0 0 0 [(0, .inl x0), (1, .inl x1), (2, .inl x2)] [] shX I (gb_po shX (some (.inl rz)) I)
  refine go_iload_n (k := 1) d_Gb_held_0 rfl rfl ?_
  refine go_iload_n (k := 2) d_Gb_held_1 rfl rfl ?_
  refine go_iload_n (k := 0) d_Gb_held_2 rfl rfl ?_
  refine go_mmin d_Gb_held_3 m_Gb_343 (Nat.le_of_ble_eq_true rfl) ?_
  refine go_mmax d_Gb_held_6 m_Gb_348 (Nat.le_of_ble_eq_true rfl) ?_
  subst h
  exact go_ireturn d_Gb_held_9 rfl gb_po_i
theorem d_Gb_state_0 : decode yGb_state.2.1 0 = .ok (.aload_n 0, 1) := by decide +kernel
theorem d_Gb_state_1 : decode yGb_state.2.1 1 = .ok (.getfield 12, 3) := by decide +kernel
theorem d_Gb_state_4 : decode yGb_state.2.1 4 = .ok (.getfield 35, 3) := by decide +kernel
theorem d_Gb_state_7 : decode yGb_state.2.1 7 = .ok (.getfield 77, 3) := by decide +kernel
theorem d_Gb_state_10 : decode yGb_state.2.1 10 = .ok (.istore_n 2, 1) := by decide +kernel
theorem d_Gb_state_11 : decode yGb_state.2.1 11 = .ok (.aload_n 0, 1) := by decide +kernel
theorem d_Gb_state_12 : decode yGb_state.2.1 12 = .ok (.getfield 12, 3) := by decide +kernel
theorem d_Gb_state_15 : decode yGb_state.2.1 15 = .ok (.getfield 35, 3) := by decide +kernel
theorem d_Gb_state_18 : decode yGb_state.2.1 18 = .ok (.iload_n 1, 1) := by decide +kernel
theorem d_Gb_state_19 : decode yGb_state.2.1 19 = .ok (.putfield 77, 3) := by decide +kernel
theorem d_Gb_state_22 : decode yGb_state.2.1 22 = .ok (.aload_n 0, 1) := by decide +kernel
theorem d_Gb_state_23 : decode yGb_state.2.1 23 = .ok (.getfield 22, 3) := by decide +kernel
theorem d_Gb_state_26 : decode yGb_state.2.1 26 = .ok (.invokevirtual 81, 3) := by decide +kernel
theorem d_Gb_state_29 : decode yGb_state.2.1 29 = .ok (.iload_n 2, 1) := by decide +kernel
theorem d_Gb_state_30 : decode yGb_state.2.1 30 = .ok (.ireturn, 1) := by decide +kernel
def F_Gb_state (x1 : Int32) (I : gb_Mem) : Option (Int32 × gb_Mem) :=
  fstf I 2 0 x1 fun I1 =>
  fbd (F_Pa_forget  I1) fun I2 =>
  some (I 2 0, I2)
set_option maxRecDepth 4000 in
theorem c_Gb_state (l : Launch) (d0 : Nat) (x1 : Int32) (I : gb_Mem) {rz : Int32} {Iz : gb_Mem} (h : F_Gb_state x1 I = some (rz, Iz)) : gb_Cs l yGb_state (d0 + 1) [.inr (some 0), .inl x1] shX I (some (.inl rz)) Iz := by
  refine gb_Ct.of (lv := [(0, .inr (some 0)), (1, .inl x1)]) rfl (Nat.le_of_ble_eq_true rfl) rfl ?_
  unfold F_Gb_state at h
  show gb_Go l yGb_state (d0 + 1) 0 0 0 [(0, .inr (some 0)), (1, .inl x1)] [] shX I (gb_po shX (some (.inl rz)) Iz)
  refine go_aload_n (k := 0) d_Gb_state_0 rfl rfl ?_
  refine go_getr (ci := 0) (k := 0) (r := 1) d_Gb_state_1 a_X_0 rfl (by decide) f_Gb_12 rfl ?_
  refine go_getrN (ci := 1) (k := 0) (r := 2) d_Gb_state_4 a_X_1 rfl (by decide) f_Gb_35 rfl ?_
  refine go_getiN (ci := 2) (k := 0) d_Gb_state_7 a_X_2 rfl (by decide) f_Gb_77 rfl ?_
  refine go_istore_n (lv' := [(2, .inl (I 2 0)), (0, .inr (some 0)), (1, .inl x1)]) d_Gb_state_10 rfl (by decide) rfl ?_
  refine go_aload_n (k := 1) d_Gb_state_11 rfl rfl ?_
  refine go_getr (ci := 0) (k := 0) (r := 1) d_Gb_state_12 a_X_0 rfl (by decide) f_Gb_12 rfl ?_
  refine go_getrN (ci := 1) (k := 0) (r := 2) d_Gb_state_15 a_X_1 rfl (by decide) f_Gb_35 rfl ?_
  refine go_iload_n (k := 2) d_Gb_state_18 rfl rfl ?_
  obtain ⟨I1, eI1, h⟩ := fstf_e h
  refine go_putTN (ci := 2) (k := 0) (I' := I1) d_Gb_state_19 a_X_2 rfl (by decide) f_Gb_77 rfl rfl rfl rfl rfl eI1 ?_
  refine go_aload_n (k := 1) d_Gb_state_22 rfl rfl ?_
  refine go_getr (ci := 0) (k := 3) (r := 69) d_Gb_state_23 a_X_0 rfl (by decide) f_Gb_22 rfl ?_
  obtain ⟨I2, w1, h⟩ := fbd_e h
  refine go_callV (y := yPa_forget) (asr := []) (v := none) (I' := I2) (st1 := []) d_Gb_state_26 s_yPa_forget m_Gb_81 a_X_69 rfl rfl rfl (Nat.le_of_ble_eq_true rfl) rfl rfl (c_Pa_forget l (d0 + 0)  I1 w1) ?_
  refine go_iload_n (k := 0) d_Gb_state_29 rfl rfl ?_
  cases h
  exact go_ireturn d_Gb_state_30 rfl gb_po_i
theorem d_Gb_tell_0 : decode yGb_tell.2.1 0 = .ok (.iload_n 1, 1) := by decide +kernel
theorem d_Gb_tell_1 : decode yGb_tell.2.1 1 = .ok (.iconst (-1), 1) := by decide +kernel
theorem d_Gb_tell_2 : decode yGb_tell.2.1 2 = .ok (.if_icmp .ne 10, 3) := by decide +kernel
theorem d_Gb_tell_5 : decode yGb_tell.2.1 5 = .ok (.aload_n 0, 1) := by decide +kernel
theorem d_Gb_tell_6 : decode yGb_tell.2.1 6 = .ok (.iconst 0, 1) := by decide +kernel
theorem d_Gb_tell_7 : decode yGb_tell.2.1 7 = .ok (.putfield 189, 3) := by decide +kernel
theorem d_Gb_tell_10 : decode yGb_tell.2.1 10 = .ok (.iconst 0, 1) := by decide +kernel
theorem d_Gb_tell_11 : decode yGb_tell.2.1 11 = .ok (.ireturn, 1) := by decide +kernel
theorem d_Gb_tell_12 : decode yGb_tell.2.1 12 = .ok (.iload_n 3, 1) := by decide +kernel
theorem d_Gb_tell_13 : decode yGb_tell.2.1 13 = .ok (.ifCond .eq 14, 3) := by decide +kernel
theorem d_Gb_tell_16 : decode yGb_tell.2.1 16 = .ok (.aload_n 0, 1) := by decide +kernel
theorem d_Gb_tell_17 : decode yGb_tell.2.1 17 = .ok (.iload_n 1, 1) := by decide +kernel
theorem d_Gb_tell_18 : decode yGb_tell.2.1 18 = .ok (.iload_n 2, 1) := by decide +kernel
theorem d_Gb_tell_19 : decode yGb_tell.2.1 19 = .ok (.iconst 0, 1) := by decide +kernel
theorem d_Gb_tell_20 : decode yGb_tell.2.1 20 = .ok (.iconst 0, 1) := by decide +kernel
theorem d_Gb_tell_21 : decode yGb_tell.2.1 21 = .ok (.invokevirtual 339, 3) := by decide +kernel
theorem d_Gb_tell_24 : decode yGb_tell.2.1 24 = .ok (.goto 4, 3) := by decide +kernel
theorem d_Gb_tell_27 : decode yGb_tell.2.1 27 = .ok (.iconst (-1), 1) := by decide +kernel
theorem d_Gb_tell_28 : decode yGb_tell.2.1 28 = .ok (.ireturn, 1) := by decide +kernel
def F_Gb_tell (h0 n0 : Nat) (x1 x2 x3 : Int32) (I : gb_Mem) : Option (Int32 × gb_Mem) :=
  if x1 = (-1) then
    fstf I h0 2 0 fun I3 =>
    some (0, I3)
  else
    if x3 = 0 then
      some ((-1), I)
    else
      fbd (F_Ro_add h0 n0 x1 x2 0 0 I) fun (r2, I1) =>
      some (r2, I1)
set_option maxRecDepth 4000 in
theorem c_Gb_tell (l : Launch) (d0 : Nat) (h0 n0 : Nat) (H0 : isRo h0 n0) (x1 x2 x3 : Int32) (I : gb_Mem) {rz : Int32} {Iz : gb_Mem} (h : F_Gb_tell h0 n0 x1 x2 x3 I = some (rz, Iz)) : gb_Cs l yGb_tell (d0 + 1) [.inr (some h0), .inl x1, .inl x2, .inl x3] shX I (some (.inl rz)) Iz := by
  refine gb_Ct.of (lv := [(0, .inr (some h0)), (1, .inl x1), (2, .inl x2), (3, .inl x3)]) rfl (Nat.le_of_ble_eq_true rfl) rfl ?_
  unfold F_Gb_tell at h
  show gb_Go l yGb_tell (d0 + 1) 0 0 0 [(0, .inr (some h0)), (1, .inl x1), (2, .inl x2), (3, .inl x3)] [] shX I (gb_po shX (some (.inl rz)) Iz)
  refine go_iload_n (k := 1) d_Gb_tell_0 rfl rfl ?_
  refine go_iconst (v := (-1)) d_Gb_tell_1 (by decide) ?_
  refine go_cmp_ne (tgt := 12) d_Gb_tell_2 (by decide) (fun hc => ?_) (fun hc => ?_)
  · rw [if_neg hc] at h
    refine go_iload_n (k := 3) d_Gb_tell_12 rfl rfl ?_
    refine go_if_eq (tgt := 27) d_Gb_tell_13 (by decide) (fun hc => ?_) (fun hc => ?_)
    · rw [if_pos hc] at h
      refine go_iconst (v := (-1)) d_Gb_tell_27 (by decide) ?_
      cases h
      exact go_ireturn d_Gb_tell_28 rfl gb_po_i
    · rw [if_neg hc] at h
      refine go_aload_n (k := 0) d_Gb_tell_16 rfl rfl ?_
      refine go_iload_n (k := 1) d_Gb_tell_17 rfl rfl ?_
      refine go_iload_n (k := 2) d_Gb_tell_18 rfl rfl ?_
      refine go_iconst (v := 0) d_Gb_tell_19 (by decide) ?_
      refine go_iconst (v := 0) d_Gb_tell_20 (by decide) ?_
      obtain ⟨⟨r2, I1⟩, w1, h⟩ := fbd_e h
      try dsimp only at h
      refine go_callV (y := yRo_add) (asr := [.inl x1, .inl x2, .inl 0, .inl 0]) (v := some (.inl r2)) (I' := I1) (st1 := [.inl r2]) d_Gb_tell_21 s_yRo_add m_Gb_339 H0.1 rfl rfl rfl (Nat.le_of_ble_eq_true rfl) rfl rfl (c_Ro_add l (d0 + 0) h0 n0 H0 x1 x2 0 0 I w1) ?_
      refine go_goto (tgt := 28) d_Gb_tell_24 (by decide) ?_
      cases h
      exact go_ireturn d_Gb_tell_28 rfl gb_po_i
  · rw [if_pos hc] at h
    refine go_aload_n (k := 0) d_Gb_tell_5 rfl rfl ?_
    refine go_iconst (v := 0) d_Gb_tell_6 (by decide) ?_
    obtain ⟨I3, eI3, h⟩ := fstf_e h
    refine go_putTN (ci := 4) (k := 2) (I' := I3) d_Gb_tell_7 H0.1 rfl (by decide) f_Gb_189 rfl rfl rfl rfl rfl eI3 ?_
    refine go_iconst (v := 0) d_Gb_tell_10 (by decide) ?_
    cases h
    exact go_ireturn d_Gb_tell_11 rfl gb_po_i
theorem d_La_addLine_0 : decode yLa_addLine.2.1 0 = .ok (.aload_n 0, 1) := by decide +kernel
theorem d_La_addLine_1 : decode yLa_addLine.2.1 1 = .ok (.getfield 28, 3) := by decide +kernel
theorem d_La_addLine_4 : decode yLa_addLine.2.1 4 = .ok (.iconst 0, 1) := by decide +kernel
theorem d_La_addLine_5 : decode yLa_addLine.2.1 5 = .ok (.bipush 15, 2) := by decide +kernel
theorem d_La_addLine_7 : decode yLa_addLine.2.1 7 = .ok (.invokestatic 37, 3) := by decide +kernel
theorem d_La_addLine_10 : decode yLa_addLine.2.1 10 = .ok (.ifCond .eq 54, 3) := by decide +kernel
theorem d_La_addLine_13 : decode yLa_addLine.2.1 13 = .ok (.aload_n 0, 1) := by decide +kernel
theorem d_La_addLine_14 : decode yLa_addLine.2.1 14 = .ok (.getfield 15, 3) := by decide +kernel
theorem d_La_addLine_17 : decode yLa_addLine.2.1 17 = .ok (.aload_n 0, 1) := by decide +kernel
theorem d_La_addLine_18 : decode yLa_addLine.2.1 18 = .ok (.getfield 28, 3) := by decide +kernel
theorem d_La_addLine_21 : decode yLa_addLine.2.1 21 = .ok (.iload_n 1, 1) := by decide +kernel
theorem d_La_addLine_22 : decode yLa_addLine.2.1 22 = .ok (.iastore, 1) := by decide +kernel
theorem d_La_addLine_23 : decode yLa_addLine.2.1 23 = .ok (.aload_n 0, 1) := by decide +kernel
theorem d_La_addLine_24 : decode yLa_addLine.2.1 24 = .ok (.getfield 18, 3) := by decide +kernel
theorem d_La_addLine_27 : decode yLa_addLine.2.1 27 = .ok (.iconst 2, 1) := by decide +kernel
theorem d_La_addLine_28 : decode yLa_addLine.2.1 28 = .ok (.aload_n 0, 1) := by decide +kernel
theorem d_La_addLine_29 : decode yLa_addLine.2.1 29 = .ok (.getfield 28, 3) := by decide +kernel
theorem d_La_addLine_32 : decode yLa_addLine.2.1 32 = .ok (.imul, 1) := by decide +kernel
theorem d_La_addLine_33 : decode yLa_addLine.2.1 33 = .ok (.iconst 1, 1) := by decide +kernel
theorem d_La_addLine_34 : decode yLa_addLine.2.1 34 = .ok (.iadd, 1) := by decide +kernel
theorem d_La_addLine_35 : decode yLa_addLine.2.1 35 = .ok (.iload_n 2, 1) := by decide +kernel
theorem d_La_addLine_36 : decode yLa_addLine.2.1 36 = .ok (.iastore, 1) := by decide +kernel
theorem d_La_addLine_37 : decode yLa_addLine.2.1 37 = .ok (.aload_n 0, 1) := by decide +kernel
theorem d_La_addLine_38 : decode yLa_addLine.2.1 38 = .ok (.getfield 18, 3) := by decide +kernel
theorem d_La_addLine_41 : decode yLa_addLine.2.1 41 = .ok (.iconst 2, 1) := by decide +kernel
theorem d_La_addLine_42 : decode yLa_addLine.2.1 42 = .ok (.aload_n 0, 1) := by decide +kernel
theorem d_La_addLine_43 : decode yLa_addLine.2.1 43 = .ok (.getfield 28, 3) := by decide +kernel
theorem d_La_addLine_46 : decode yLa_addLine.2.1 46 = .ok (.imul, 1) := by decide +kernel
theorem d_La_addLine_47 : decode yLa_addLine.2.1 47 = .ok (.iconst 2, 1) := by decide +kernel
theorem d_La_addLine_48 : decode yLa_addLine.2.1 48 = .ok (.iadd, 1) := by decide +kernel
theorem d_La_addLine_49 : decode yLa_addLine.2.1 49 = .ok (.aload_n 0, 1) := by decide +kernel
theorem d_La_addLine_50 : decode yLa_addLine.2.1 50 = .ok (.getfield 24, 3) := by decide +kernel
theorem d_La_addLine_53 : decode yLa_addLine.2.1 53 = .ok (.iastore, 1) := by decide +kernel
theorem d_La_addLine_54 : decode yLa_addLine.2.1 54 = .ok (.aload_n 0, 1) := by decide +kernel
theorem d_La_addLine_55 : decode yLa_addLine.2.1 55 = .ok (.dup, 1) := by decide +kernel
theorem d_La_addLine_56 : decode yLa_addLine.2.1 56 = .ok (.getfield 28, 3) := by decide +kernel
theorem d_La_addLine_59 : decode yLa_addLine.2.1 59 = .ok (.iconst 1, 1) := by decide +kernel
theorem d_La_addLine_60 : decode yLa_addLine.2.1 60 = .ok (.iadd, 1) := by decide +kernel
theorem d_La_addLine_61 : decode yLa_addLine.2.1 61 = .ok (.putfield 28, 3) := by decide +kernel
theorem d_La_addLine_64 : decode yLa_addLine.2.1 64 = .ok (.return_, 1) := by decide +kernel
def F_La_addLine (h0 : Nat) (x1 x2 : Int32) (I : gb_Mem) : Option (gb_Mem) :=
  if (F_Gb_within (I h0 4) 0 15 I) = 0 then
    some I
  else
    fsto I (h0 + 2) 16 (I h0 4) x1 fun I1 =>
    fsto I1 (h0 + 3) 33 ((2 * (I1 h0 4)) + 1) x2 fun I2 =>
    fsto I2 (h0 + 3) 33 ((2 * (I2 h0 4)) + 2) (I2 h0 1) fun I3 =>
    fstf I3 h0 4 ((I3 h0 4) + 1) fun I4 =>
    some I4
set_option maxRecDepth 4000 in
theorem c_La_addLine (l : Launch) (d0 : Nat) (h0 : Nat) (H0 : isLa h0) (x1 x2 : Int32) (I : gb_Mem) {Iz : gb_Mem} (h : F_La_addLine h0 x1 x2 I = some Iz) : gb_Cs l yLa_addLine (d0 + 1) [.inr (some h0), .inl x1, .inl x2] shX I none Iz := by
  refine gb_Ct.of (lv := [(0, .inr (some h0)), (1, .inl x1), (2, .inl x2)]) rfl (Nat.le_of_ble_eq_true rfl) rfl ?_
  unfold F_La_addLine at h
  show gb_Go l yLa_addLine (d0 + 1) 0 0 0 [(0, .inr (some h0)), (1, .inl x1), (2, .inl x2)] [] shX I (gb_po shX none Iz)
  refine go_aload_n (k := 0) d_La_addLine_0 rfl rfl ?_
  refine go_geti (ci := 3) (k := 4) d_La_addLine_1 H0.1 rfl (by decide) f_La_28 rfl ?_
  refine go_iconst (v := 0) d_La_addLine_4 (by decide) ?_
  refine go_bipush (v := 15) d_La_addLine_5 (by decide) ?_
  refine go_callSN (y := yGb_within) (asr := [.inl (I h0 4), .inl 0, .inl 15]) (v := some (.inl (F_Gb_within (I h0 4) 0 15 I))) (I' := I) (st1 := [.inl (F_Gb_within (I h0 4) 0 15 I)]) d_La_addLine_7 s_yGb_within m_La_37 rfl (Nat.le_of_ble_eq_true rfl) rfl rfl (c_Gb_within l (d0 + 0) (I h0 4) 0 15 I) ?_
  refine go_if_eq (tgt := 64) d_La_addLine_10 (by decide) (fun hc => ?_) (fun hc => ?_)
  · rw [if_pos hc] at h
    cases h
    exact go_return d_La_addLine_64 rfl gb_po_i
  · rw [if_neg hc] at h
    refine go_aload_n (k := 0) d_La_addLine_13 rfl rfl ?_
    refine go_getr (ci := 3) (k := 2) (r := (h0 + 2)) d_La_addLine_14 H0.1 rfl (by decide) f_La_15 rfl ?_
    refine go_aload_n (k := 0) d_La_addLine_17 rfl rfl ?_
    refine go_geti (ci := 3) (k := 4) d_La_addLine_18 H0.1 rfl (by decide) f_La_28 rfl ?_
    refine go_iload_n (k := 1) d_La_addLine_21 rfl rfl ?_
    obtain ⟨hi, I1, eI1, h⟩ := fsto_e h
    refine go_iast (I' := I1) d_La_addLine_22 H0.2.2.1 hi eI1 ?_
    refine go_aload_n (k := 0) d_La_addLine_23 rfl rfl ?_
    refine go_getr (ci := 3) (k := 3) (r := (h0 + 3)) d_La_addLine_24 H0.1 rfl (by decide) f_La_18 rfl ?_
    refine go_iconst (v := 2) d_La_addLine_27 (by decide) ?_
    refine go_aload_n (k := 0) d_La_addLine_28 rfl rfl ?_
    refine go_geti (ci := 3) (k := 4) d_La_addLine_29 H0.1 rfl (by decide) f_La_28 rfl ?_
    refine go_imul d_La_addLine_32 ?_
    refine go_iconst (v := 1) d_La_addLine_33 (by decide) ?_
    refine go_iadd d_La_addLine_34 ?_
    refine go_iload_n (k := 2) d_La_addLine_35 rfl rfl ?_
    obtain ⟨hi, I2, eI2, h⟩ := fsto_e h
    refine go_iast (I' := I2) d_La_addLine_36 H0.2.2.2.1 hi eI2 ?_
    refine go_aload_n (k := 0) d_La_addLine_37 rfl rfl ?_
    refine go_getr (ci := 3) (k := 3) (r := (h0 + 3)) d_La_addLine_38 H0.1 rfl (by decide) f_La_18 rfl ?_
    refine go_iconst (v := 2) d_La_addLine_41 (by decide) ?_
    refine go_aload_n (k := 0) d_La_addLine_42 rfl rfl ?_
    refine go_geti (ci := 3) (k := 4) d_La_addLine_43 H0.1 rfl (by decide) f_La_28 rfl ?_
    refine go_imul d_La_addLine_46 ?_
    refine go_iconst (v := 2) d_La_addLine_47 (by decide) ?_
    refine go_iadd d_La_addLine_48 ?_
    refine go_aload_n (k := 0) d_La_addLine_49 rfl rfl ?_
    refine go_geti (ci := 3) (k := 1) d_La_addLine_50 H0.1 rfl (by decide) f_La_24 rfl ?_
    obtain ⟨hi, I3, eI3, h⟩ := fsto_e h
    refine go_iast (I' := I3) d_La_addLine_53 H0.2.2.2.1 hi eI3 ?_
    refine go_aload_n (k := 0) d_La_addLine_54 rfl rfl ?_
    refine go_dup d_La_addLine_55 ?_
    refine go_geti (ci := 3) (k := 4) d_La_addLine_56 H0.1 rfl (by decide) f_La_28 rfl ?_
    refine go_iconst (v := 1) d_La_addLine_59 (by decide) ?_
    refine go_iadd d_La_addLine_60 ?_
    obtain ⟨I4, eI4, h⟩ := fstf_e h
    refine go_putT (ci := 3) (k := 4) (I' := I4) d_La_addLine_61 H0.1 rfl (by decide) f_La_28 rfl rfl rfl rfl rfl eI4 ?_
    cases h
    exact go_return d_La_addLine_64 rfl gb_po_i
theorem d_La_copyFrom_0 : decode yLa_copyFrom.2.1 0 = .ok (.aload_n 0, 1) := by decide +kernel
theorem d_La_copyFrom_1 : decode yLa_copyFrom.2.1 1 = .ok (.aload_n 1, 1) := by decide +kernel
theorem d_La_copyFrom_2 : decode yLa_copyFrom.2.1 2 = .ok (.getfield 24, 3) := by decide +kernel
theorem d_La_copyFrom_5 : decode yLa_copyFrom.2.1 5 = .ok (.putfield 24, 3) := by decide +kernel
theorem d_La_copyFrom_8 : decode yLa_copyFrom.2.1 8 = .ok (.aload_n 0, 1) := by decide +kernel
theorem d_La_copyFrom_9 : decode yLa_copyFrom.2.1 9 = .ok (.aload_n 1, 1) := by decide +kernel
theorem d_La_copyFrom_10 : decode yLa_copyFrom.2.1 10 = .ok (.getfield 28, 3) := by decide +kernel
theorem d_La_copyFrom_13 : decode yLa_copyFrom.2.1 13 = .ok (.putfield 28, 3) := by decide +kernel
theorem d_La_copyFrom_16 : decode yLa_copyFrom.2.1 16 = .ok (.aload_n 1, 1) := by decide +kernel
theorem d_La_copyFrom_17 : decode yLa_copyFrom.2.1 17 = .ok (.getfield 9, 3) := by decide +kernel
theorem d_La_copyFrom_20 : decode yLa_copyFrom.2.1 20 = .ok (.iconst 0, 1) := by decide +kernel
theorem d_La_copyFrom_21 : decode yLa_copyFrom.2.1 21 = .ok (.aload_n 0, 1) := by decide +kernel
theorem d_La_copyFrom_22 : decode yLa_copyFrom.2.1 22 = .ok (.getfield 9, 3) := by decide +kernel
theorem d_La_copyFrom_25 : decode yLa_copyFrom.2.1 25 = .ok (.iconst 0, 1) := by decide +kernel
theorem d_La_copyFrom_26 : decode yLa_copyFrom.2.1 26 = .ok (.aload_n 0, 1) := by decide +kernel
theorem d_La_copyFrom_27 : decode yLa_copyFrom.2.1 27 = .ok (.getfield 9, 3) := by decide +kernel
theorem d_La_copyFrom_30 : decode yLa_copyFrom.2.1 30 = .ok (.arraylength, 1) := by decide +kernel
theorem d_La_copyFrom_31 : decode yLa_copyFrom.2.1 31 = .ok (.invokestatic 31, 3) := by decide +kernel
theorem d_La_copyFrom_34 : decode yLa_copyFrom.2.1 34 = .ok (.aload_n 1, 1) := by decide +kernel
theorem d_La_copyFrom_35 : decode yLa_copyFrom.2.1 35 = .ok (.getfield 15, 3) := by decide +kernel
theorem d_La_copyFrom_38 : decode yLa_copyFrom.2.1 38 = .ok (.iconst 0, 1) := by decide +kernel
theorem d_La_copyFrom_39 : decode yLa_copyFrom.2.1 39 = .ok (.aload_n 0, 1) := by decide +kernel
theorem d_La_copyFrom_40 : decode yLa_copyFrom.2.1 40 = .ok (.getfield 15, 3) := by decide +kernel
theorem d_La_copyFrom_43 : decode yLa_copyFrom.2.1 43 = .ok (.iconst 0, 1) := by decide +kernel
theorem d_La_copyFrom_44 : decode yLa_copyFrom.2.1 44 = .ok (.aload_n 0, 1) := by decide +kernel
theorem d_La_copyFrom_45 : decode yLa_copyFrom.2.1 45 = .ok (.getfield 15, 3) := by decide +kernel
theorem d_La_copyFrom_48 : decode yLa_copyFrom.2.1 48 = .ok (.arraylength, 1) := by decide +kernel
theorem d_La_copyFrom_49 : decode yLa_copyFrom.2.1 49 = .ok (.invokestatic 31, 3) := by decide +kernel
theorem d_La_copyFrom_52 : decode yLa_copyFrom.2.1 52 = .ok (.aload_n 1, 1) := by decide +kernel
theorem d_La_copyFrom_53 : decode yLa_copyFrom.2.1 53 = .ok (.getfield 18, 3) := by decide +kernel
theorem d_La_copyFrom_56 : decode yLa_copyFrom.2.1 56 = .ok (.iconst 0, 1) := by decide +kernel
theorem d_La_copyFrom_57 : decode yLa_copyFrom.2.1 57 = .ok (.aload_n 0, 1) := by decide +kernel
theorem d_La_copyFrom_58 : decode yLa_copyFrom.2.1 58 = .ok (.getfield 18, 3) := by decide +kernel
theorem d_La_copyFrom_61 : decode yLa_copyFrom.2.1 61 = .ok (.iconst 0, 1) := by decide +kernel
theorem d_La_copyFrom_62 : decode yLa_copyFrom.2.1 62 = .ok (.aload_n 0, 1) := by decide +kernel
theorem d_La_copyFrom_63 : decode yLa_copyFrom.2.1 63 = .ok (.getfield 18, 3) := by decide +kernel
theorem d_La_copyFrom_66 : decode yLa_copyFrom.2.1 66 = .ok (.arraylength, 1) := by decide +kernel
theorem d_La_copyFrom_67 : decode yLa_copyFrom.2.1 67 = .ok (.invokestatic 31, 3) := by decide +kernel
theorem d_La_copyFrom_70 : decode yLa_copyFrom.2.1 70 = .ok (.return_, 1) := by decide +kernel
def F_La_copyFrom (h0 h1 : Nat) (I : gb_Mem) : Option (gb_Mem) :=
  fstf I h0 1 (I h1 1) fun I1 =>
  fstf I1 h0 4 (I1 h1 4) fun I2 =>
  fcpy I2 (h1 + 1) 400 (h0 + 1) 400 0 0 400 fun I3 =>
  fcpy I3 (h1 + 2) 16 (h0 + 2) 16 0 0 16 fun I4 =>
  fcpy I4 (h1 + 3) 33 (h0 + 3) 33 0 0 33 fun I5 =>
  some I5
set_option maxRecDepth 4000 in
theorem c_La_copyFrom (l : Launch) (d0 : Nat) (h0 h1 : Nat) (H0 : isLa h0) (H1 : isLa h1) (I : gb_Mem) {Iz : gb_Mem} (h : F_La_copyFrom h0 h1 I = some Iz) : gb_Cs l yLa_copyFrom (d0 + 1) [.inr (some h0), .inr (some h1)] shX I none Iz := by
  refine gb_Ct.of (lv := [(0, .inr (some h0)), (1, .inr (some h1))]) rfl (Nat.le_of_ble_eq_true rfl) rfl ?_
  unfold F_La_copyFrom at h
  show gb_Go l yLa_copyFrom (d0 + 1) 0 0 0 [(0, .inr (some h0)), (1, .inr (some h1))] [] shX I (gb_po shX none Iz)
  refine go_aload_n (k := 0) d_La_copyFrom_0 rfl rfl ?_
  refine go_aload_n (k := 1) d_La_copyFrom_1 rfl rfl ?_
  refine go_geti (ci := 3) (k := 1) d_La_copyFrom_2 H1.1 rfl (by decide) f_La_24 rfl ?_
  obtain ⟨I1, eI1, h⟩ := fstf_e h
  refine go_putT (ci := 3) (k := 1) (I' := I1) d_La_copyFrom_5 H0.1 rfl (by decide) f_La_24 rfl rfl rfl rfl rfl eI1 ?_
  refine go_aload_n (k := 0) d_La_copyFrom_8 rfl rfl ?_
  refine go_aload_n (k := 1) d_La_copyFrom_9 rfl rfl ?_
  refine go_geti (ci := 3) (k := 4) d_La_copyFrom_10 H1.1 rfl (by decide) f_La_28 rfl ?_
  obtain ⟨I2, eI2, h⟩ := fstf_e h
  refine go_putT (ci := 3) (k := 4) (I' := I2) d_La_copyFrom_13 H0.1 rfl (by decide) f_La_28 rfl rfl rfl rfl rfl eI2 ?_
  refine go_aload_n (k := 1) d_La_copyFrom_16 rfl rfl ?_
  refine go_getr (ci := 3) (k := 0) (r := (h1 + 1)) d_La_copyFrom_17 H1.1 rfl (by decide) f_La_9 rfl ?_
  refine go_iconst (v := 0) d_La_copyFrom_20 (by decide) ?_
  refine go_aload_n (k := 0) d_La_copyFrom_21 rfl rfl ?_
  refine go_getr (ci := 3) (k := 0) (r := (h0 + 1)) d_La_copyFrom_22 H0.1 rfl (by decide) f_La_9 rfl ?_
  refine go_iconst (v := 0) d_La_copyFrom_25 (by decide) ?_
  refine go_aload_n (k := 0) d_La_copyFrom_26 rfl rfl ?_
  refine go_getr (ci := 3) (k := 0) (r := (h0 + 1)) d_La_copyFrom_27 H0.1 rfl (by decide) f_La_9 rfl ?_
  refine go_alen d_La_copyFrom_30 H0.2.1 ?_
  refine go_top (v := 400) rfl ?_
  obtain ⟨⟨p1, p2, p3, p4, p5⟩, I3, eI3, h⟩ := fcpy_e h
  refine go_copy (I' := I3) d_La_copyFrom_31 m_La_31 H1.2.1 H0.2.1 (Nat.le_of_ble_eq_true rfl) p1 p2 p3 p4 p5 eI3 ?_
  refine go_aload_n (k := 1) d_La_copyFrom_34 rfl rfl ?_
  refine go_getr (ci := 3) (k := 2) (r := (h1 + 2)) d_La_copyFrom_35 H1.1 rfl (by decide) f_La_15 rfl ?_
  refine go_iconst (v := 0) d_La_copyFrom_38 (by decide) ?_
  refine go_aload_n (k := 0) d_La_copyFrom_39 rfl rfl ?_
  refine go_getr (ci := 3) (k := 2) (r := (h0 + 2)) d_La_copyFrom_40 H0.1 rfl (by decide) f_La_15 rfl ?_
  refine go_iconst (v := 0) d_La_copyFrom_43 (by decide) ?_
  refine go_aload_n (k := 0) d_La_copyFrom_44 rfl rfl ?_
  refine go_getr (ci := 3) (k := 2) (r := (h0 + 2)) d_La_copyFrom_45 H0.1 rfl (by decide) f_La_15 rfl ?_
  refine go_alen d_La_copyFrom_48 H0.2.2.1 ?_
  refine go_top (v := 16) rfl ?_
  obtain ⟨⟨p1, p2, p3, p4, p5⟩, I4, eI4, h⟩ := fcpy_e h
  refine go_copy (I' := I4) d_La_copyFrom_49 m_La_31 H1.2.2.1 H0.2.2.1 (Nat.le_of_ble_eq_true rfl) p1 p2 p3 p4 p5 eI4 ?_
  refine go_aload_n (k := 1) d_La_copyFrom_52 rfl rfl ?_
  refine go_getr (ci := 3) (k := 3) (r := (h1 + 3)) d_La_copyFrom_53 H1.1 rfl (by decide) f_La_18 rfl ?_
  refine go_iconst (v := 0) d_La_copyFrom_56 (by decide) ?_
  refine go_aload_n (k := 0) d_La_copyFrom_57 rfl rfl ?_
  refine go_getr (ci := 3) (k := 3) (r := (h0 + 3)) d_La_copyFrom_58 H0.1 rfl (by decide) f_La_18 rfl ?_
  refine go_iconst (v := 0) d_La_copyFrom_61 (by decide) ?_
  refine go_aload_n (k := 0) d_La_copyFrom_62 rfl rfl ?_
  refine go_getr (ci := 3) (k := 3) (r := (h0 + 3)) d_La_copyFrom_63 H0.1 rfl (by decide) f_La_18 rfl ?_
  refine go_alen d_La_copyFrom_66 H0.2.2.2.1 ?_
  refine go_top (v := 33) rfl ?_
  obtain ⟨⟨p1, p2, p3, p4, p5⟩, I5, eI5, h⟩ := fcpy_e h
  refine go_copy (I' := I5) d_La_copyFrom_67 m_La_31 H1.2.2.2.1 H0.2.2.2.1 (Nat.le_of_ble_eq_true rfl) p1 p2 p3 p4 p5 eI5 ?_
  cases h
  exact go_return d_La_copyFrom_70 rfl gb_po_i
theorem d_La_pop_0 : decode yLa_pop.2.1 0 = .ok (.aload_n 0, 1) := by decide +kernel
theorem d_La_pop_1 : decode yLa_pop.2.1 1 = .ok (.getfield 65, 3) := by decide +kernel
theorem d_La_pop_4 : decode yLa_pop.2.1 4 = .ok (.iconst 1, 1) := by decide +kernel
theorem d_La_pop_5 : decode yLa_pop.2.1 5 = .ok (.aload_n 0, 1) := by decide +kernel
theorem d_La_pop_6 : decode yLa_pop.2.1 6 = .ok (.getfield 21, 3) := by decide +kernel
theorem d_La_pop_9 : decode yLa_pop.2.1 9 = .ok (.arraylength, 1) := by decide +kernel
theorem d_La_pop_10 : decode yLa_pop.2.1 10 = .ok (.invokestatic 37, 3) := by decide +kernel
theorem d_La_pop_13 : decode yLa_pop.2.1 13 = .ok (.ifCond .ne 5, 3) := by decide +kernel
theorem d_La_pop_16 : decode yLa_pop.2.1 16 = .ok (.iconst 0, 1) := by decide +kernel
theorem d_La_pop_17 : decode yLa_pop.2.1 17 = .ok (.ireturn, 1) := by decide +kernel
theorem d_La_pop_18 : decode yLa_pop.2.1 18 = .ok (.aload_n 0, 1) := by decide +kernel
theorem d_La_pop_19 : decode yLa_pop.2.1 19 = .ok (.dup, 1) := by decide +kernel
theorem d_La_pop_20 : decode yLa_pop.2.1 20 = .ok (.getfield 65, 3) := by decide +kernel
theorem d_La_pop_23 : decode yLa_pop.2.1 23 = .ok (.iconst 1, 1) := by decide +kernel
theorem d_La_pop_24 : decode yLa_pop.2.1 24 = .ok (.isub, 1) := by decide +kernel
theorem d_La_pop_25 : decode yLa_pop.2.1 25 = .ok (.putfield 65, 3) := by decide +kernel
theorem d_La_pop_28 : decode yLa_pop.2.1 28 = .ok (.aload_n 0, 1) := by decide +kernel
theorem d_La_pop_29 : decode yLa_pop.2.1 29 = .ok (.getfield 21, 3) := by decide +kernel
theorem d_La_pop_32 : decode yLa_pop.2.1 32 = .ok (.aload_n 0, 1) := by decide +kernel
theorem d_La_pop_33 : decode yLa_pop.2.1 33 = .ok (.getfield 65, 3) := by decide +kernel
theorem d_La_pop_36 : decode yLa_pop.2.1 36 = .ok (.iaload, 1) := by decide +kernel
theorem d_La_pop_37 : decode yLa_pop.2.1 37 = .ok (.ireturn, 1) := by decide +kernel
def F_La_pop (h0 : Nat) (I : gb_Mem) : Option (Int32 × gb_Mem) :=
  if (F_Gb_within (I h0 6) 1 64 I) = 0 then
    some (0, I)
  else
    fstf I h0 6 ((I h0 6) - 1) fun I1 =>
    flod I1 (h0 + 4) 64 (I1 h0 6) fun v2 =>
    some (v2, I1)
set_option maxRecDepth 4000 in
theorem c_La_pop (l : Launch) (d0 : Nat) (h0 : Nat) (H0 : isLa h0) (I : gb_Mem) {rz : Int32} {Iz : gb_Mem} (h : F_La_pop h0 I = some (rz, Iz)) : gb_Cs l yLa_pop (d0 + 1) [.inr (some h0)] shX I (some (.inl rz)) Iz := by
  refine gb_Ct.of (lv := [(0, .inr (some h0))]) rfl (Nat.le_of_ble_eq_true rfl) rfl ?_
  unfold F_La_pop at h
  show gb_Go l yLa_pop (d0 + 1) 0 0 0 [(0, .inr (some h0))] [] shX I (gb_po shX (some (.inl rz)) Iz)
  refine go_aload_n (k := 0) d_La_pop_0 rfl rfl ?_
  refine go_geti (ci := 3) (k := 6) d_La_pop_1 H0.1 rfl (by decide) f_La_65 rfl ?_
  refine go_iconst (v := 1) d_La_pop_4 (by decide) ?_
  refine go_aload_n (k := 0) d_La_pop_5 rfl rfl ?_
  refine go_getr (ci := 3) (k := 5) (r := (h0 + 4)) d_La_pop_6 H0.1 rfl (by decide) f_La_21 rfl ?_
  refine go_alen d_La_pop_9 H0.2.2.2.2 ?_
  refine go_top (v := 64) rfl ?_
  refine go_callSN (y := yGb_within) (asr := [.inl (I h0 6), .inl 1, .inl 64]) (v := some (.inl (F_Gb_within (I h0 6) 1 64 I))) (I' := I) (st1 := [.inl (F_Gb_within (I h0 6) 1 64 I)]) d_La_pop_10 s_yGb_within m_La_37 rfl (Nat.le_of_ble_eq_true rfl) rfl rfl (c_Gb_within l (d0 + 0) (I h0 6) 1 64 I) ?_
  refine go_if_ne (tgt := 18) d_La_pop_13 (by decide) (fun hc => ?_) (fun hc => ?_)
  · rw [if_neg hc] at h
    refine go_aload_n (k := 0) d_La_pop_18 rfl rfl ?_
    refine go_dup d_La_pop_19 ?_
    refine go_geti (ci := 3) (k := 6) d_La_pop_20 H0.1 rfl (by decide) f_La_65 rfl ?_
    refine go_iconst (v := 1) d_La_pop_23 (by decide) ?_
    refine go_isub d_La_pop_24 ?_
    obtain ⟨I1, eI1, h⟩ := fstf_e h
    refine go_putT (ci := 3) (k := 6) (I' := I1) d_La_pop_25 H0.1 rfl (by decide) f_La_65 rfl rfl rfl rfl rfl eI1 ?_
    refine go_aload_n (k := 0) d_La_pop_28 rfl rfl ?_
    refine go_getr (ci := 3) (k := 5) (r := (h0 + 4)) d_La_pop_29 H0.1 rfl (by decide) f_La_21 rfl ?_
    refine go_aload_n (k := 0) d_La_pop_32 rfl rfl ?_
    refine go_geti (ci := 3) (k := 6) d_La_pop_33 H0.1 rfl (by decide) f_La_65 rfl ?_
    obtain ⟨hi, v2, ev2, h⟩ := flod_e h
    refine go_iald2 d_La_pop_36 H0.2.2.2.2 hi ev2 ?_
    cases h
    exact go_ireturn d_La_pop_37 rfl gb_po_i
  · rw [if_pos hc] at h
    refine go_iconst (v := 0) d_La_pop_16 (by decide) ?_
    cases h
    exact go_ireturn d_La_pop_17 rfl gb_po_i
theorem d_La_push_0 : decode yLa_push.2.1 0 = .ok (.aload_n 0, 1) := by decide +kernel
theorem d_La_push_1 : decode yLa_push.2.1 1 = .ok (.getfield 65, 3) := by decide +kernel
theorem d_La_push_4 : decode yLa_push.2.1 4 = .ok (.iconst 0, 1) := by decide +kernel
theorem d_La_push_5 : decode yLa_push.2.1 5 = .ok (.aload_n 0, 1) := by decide +kernel
theorem d_La_push_6 : decode yLa_push.2.1 6 = .ok (.getfield 21, 3) := by decide +kernel
theorem d_La_push_9 : decode yLa_push.2.1 9 = .ok (.arraylength, 1) := by decide +kernel
theorem d_La_push_10 : decode yLa_push.2.1 10 = .ok (.iconst 1, 1) := by decide +kernel
theorem d_La_push_11 : decode yLa_push.2.1 11 = .ok (.isub, 1) := by decide +kernel
theorem d_La_push_12 : decode yLa_push.2.1 12 = .ok (.invokestatic 37, 3) := by decide +kernel
theorem d_La_push_15 : decode yLa_push.2.1 15 = .ok (.ifCond .eq 23, 3) := by decide +kernel
theorem d_La_push_18 : decode yLa_push.2.1 18 = .ok (.aload_n 0, 1) := by decide +kernel
theorem d_La_push_19 : decode yLa_push.2.1 19 = .ok (.getfield 21, 3) := by decide +kernel
theorem d_La_push_22 : decode yLa_push.2.1 22 = .ok (.aload_n 0, 1) := by decide +kernel
theorem d_La_push_23 : decode yLa_push.2.1 23 = .ok (.getfield 65, 3) := by decide +kernel
theorem d_La_push_26 : decode yLa_push.2.1 26 = .ok (.iload_n 1, 1) := by decide +kernel
theorem d_La_push_27 : decode yLa_push.2.1 27 = .ok (.iastore, 1) := by decide +kernel
theorem d_La_push_28 : decode yLa_push.2.1 28 = .ok (.aload_n 0, 1) := by decide +kernel
theorem d_La_push_29 : decode yLa_push.2.1 29 = .ok (.dup, 1) := by decide +kernel
theorem d_La_push_30 : decode yLa_push.2.1 30 = .ok (.getfield 65, 3) := by decide +kernel
theorem d_La_push_33 : decode yLa_push.2.1 33 = .ok (.iconst 1, 1) := by decide +kernel
theorem d_La_push_34 : decode yLa_push.2.1 34 = .ok (.iadd, 1) := by decide +kernel
theorem d_La_push_35 : decode yLa_push.2.1 35 = .ok (.putfield 65, 3) := by decide +kernel
theorem d_La_push_38 : decode yLa_push.2.1 38 = .ok (.return_, 1) := by decide +kernel
def F_La_push (h0 : Nat) (x1 : Int32) (I : gb_Mem) : Option (gb_Mem) :=
  if (F_Gb_within (I h0 6) 0 (64 - 1) I) = 0 then
    some I
  else
    fsto I (h0 + 4) 64 (I h0 6) x1 fun I1 =>
    fstf I1 h0 6 ((I1 h0 6) + 1) fun I2 =>
    some I2
set_option maxRecDepth 4000 in
theorem c_La_push (l : Launch) (d0 : Nat) (h0 : Nat) (H0 : isLa h0) (x1 : Int32) (I : gb_Mem) {Iz : gb_Mem} (h : F_La_push h0 x1 I = some Iz) : gb_Cs l yLa_push (d0 + 1) [.inr (some h0), .inl x1] shX I none Iz := by
  refine gb_Ct.of (lv := [(0, .inr (some h0)), (1, .inl x1)]) rfl (Nat.le_of_ble_eq_true rfl) rfl ?_
  unfold F_La_push at h
  show gb_Go l yLa_push (d0 + 1) 0 0 0 [(0, .inr (some h0)), (1, .inl x1)] [] shX I (gb_po shX none Iz)
  refine go_aload_n (k := 0) d_La_push_0 rfl rfl ?_
  refine go_geti (ci := 3) (k := 6) d_La_push_1 H0.1 rfl (by decide) f_La_65 rfl ?_
  refine go_iconst (v := 0) d_La_push_4 (by decide) ?_
  refine go_aload_n (k := 0) d_La_push_5 rfl rfl ?_
  refine go_getr (ci := 3) (k := 5) (r := (h0 + 4)) d_La_push_6 H0.1 rfl (by decide) f_La_21 rfl ?_
  refine go_alen d_La_push_9 H0.2.2.2.2 ?_
  refine go_top (v := 64) rfl ?_
  refine go_iconst (v := 1) d_La_push_10 (by decide) ?_
  refine go_isub d_La_push_11 ?_
  refine go_callSN (y := yGb_within) (asr := [.inl (I h0 6), .inl 0, .inl (64 - 1)]) (v := some (.inl (F_Gb_within (I h0 6) 0 (64 - 1) I))) (I' := I) (st1 := [.inl (F_Gb_within (I h0 6) 0 (64 - 1) I)]) d_La_push_12 s_yGb_within m_La_37 rfl (Nat.le_of_ble_eq_true rfl) rfl rfl (c_Gb_within l (d0 + 0) (I h0 6) 0 (64 - 1) I) ?_
  refine go_if_eq (tgt := 38) d_La_push_15 (by decide) (fun hc => ?_) (fun hc => ?_)
  · rw [if_pos hc] at h
    cases h
    exact go_return d_La_push_38 rfl gb_po_i
  · rw [if_neg hc] at h
    refine go_aload_n (k := 0) d_La_push_18 rfl rfl ?_
    refine go_getr (ci := 3) (k := 5) (r := (h0 + 4)) d_La_push_19 H0.1 rfl (by decide) f_La_21 rfl ?_
    refine go_aload_n (k := 0) d_La_push_22 rfl rfl ?_
    refine go_geti (ci := 3) (k := 6) d_La_push_23 H0.1 rfl (by decide) f_La_65 rfl ?_
    refine go_iload_n (k := 1) d_La_push_26 rfl rfl ?_
    obtain ⟨hi, I1, eI1, h⟩ := fsto_e h
    refine go_iast (I' := I1) d_La_push_27 H0.2.2.2.2 hi eI1 ?_
    refine go_aload_n (k := 0) d_La_push_28 rfl rfl ?_
    refine go_dup d_La_push_29 ?_
    refine go_geti (ci := 3) (k := 6) d_La_push_30 H0.1 rfl (by decide) f_La_65 rfl ?_
    refine go_iconst (v := 1) d_La_push_33 (by decide) ?_
    refine go_iadd d_La_push_34 ?_
    obtain ⟨I2, eI2, h⟩ := fstf_e h
    refine go_putT (ci := 3) (k := 6) (I' := I2) d_La_push_35 H0.1 rfl (by decide) f_La_65 rfl rfl rfl rfl rfl eI2 ?_
    cases h
    exact go_return d_La_push_38 rfl gb_po_i
theorem d_Rd_charAt_0 : decode yRd_charAt.2.1 0 = .ok (.iload_n 1, 1) := by decide +kernel
theorem d_Rd_charAt_1 : decode yRd_charAt.2.1 1 = .ok (.iconst 0, 1) := by decide +kernel
theorem d_Rd_charAt_2 : decode yRd_charAt.2.1 2 = .ok (.aload_n 0, 1) := by decide +kernel
theorem d_Rd_charAt_3 : decode yRd_charAt.2.1 3 = .ok (.getfield 47, 3) := by decide +kernel
theorem d_Rd_charAt_6 : decode yRd_charAt.2.1 6 = .ok (.iconst 1, 1) := by decide +kernel
theorem d_Rd_charAt_7 : decode yRd_charAt.2.1 7 = .ok (.isub, 1) := by decide +kernel
theorem d_Rd_charAt_8 : decode yRd_charAt.2.1 8 = .ok (.invokestatic 66, 3) := by decide +kernel
theorem d_Rd_charAt_11 : decode yRd_charAt.2.1 11 = .ok (.ifCond .eq 21, 3) := by decide +kernel
theorem d_Rd_charAt_14 : decode yRd_charAt.2.1 14 = .ok (.iload_n 1, 1) := by decide +kernel
theorem d_Rd_charAt_15 : decode yRd_charAt.2.1 15 = .ok (.aload_n 0, 1) := by decide +kernel
theorem d_Rd_charAt_16 : decode yRd_charAt.2.1 16 = .ok (.getfield 38, 3) := by decide +kernel
theorem d_Rd_charAt_19 : decode yRd_charAt.2.1 19 = .ok (.arraylength, 1) := by decide +kernel
theorem d_Rd_charAt_20 : decode yRd_charAt.2.1 20 = .ok (.if_icmp .ge 12, 3) := by decide +kernel
theorem d_Rd_charAt_23 : decode yRd_charAt.2.1 23 = .ok (.aload_n 0, 1) := by decide +kernel
theorem d_Rd_charAt_24 : decode yRd_charAt.2.1 24 = .ok (.getfield 38, 3) := by decide +kernel
theorem d_Rd_charAt_27 : decode yRd_charAt.2.1 27 = .ok (.iload_n 1, 1) := by decide +kernel
theorem d_Rd_charAt_28 : decode yRd_charAt.2.1 28 = .ok (.iaload, 1) := by decide +kernel
theorem d_Rd_charAt_29 : decode yRd_charAt.2.1 29 = .ok (.goto 4, 3) := by decide +kernel
theorem d_Rd_charAt_32 : decode yRd_charAt.2.1 32 = .ok (.iconst 0, 1) := by decide +kernel
theorem d_Rd_charAt_33 : decode yRd_charAt.2.1 33 = .ok (.ireturn, 1) := by decide +kernel
def F_Rd_charAt (x1 : Int32) (I : gb_Mem) : Option (Int32) :=
  if (F_Gb_within x1 0 ((I 111 1) - 1) I) = 0 then
    some 0
  else
    if 400 ≤ x1 then
      some 0
    else
      flod I 110 400 x1 fun v1 =>
      some v1
set_option maxRecDepth 4000 in
theorem c_Rd_charAt (l : Launch) (d0 : Nat) (x1 : Int32) (I : gb_Mem) {rz : Int32} (h : F_Rd_charAt x1 I = some rz) : gb_Cs l yRd_charAt (d0 + 1) [.inr (some 111), .inl x1] shX I (some (.inl rz)) I := by
  refine gb_Ct.of (lv := [(0, .inr (some 111)), (1, .inl x1)]) rfl (Nat.le_of_ble_eq_true rfl) rfl ?_
  unfold F_Rd_charAt at h
  show gb_Go l yRd_charAt (d0 + 1) 0 0 0 [(0, .inr (some 111)), (1, .inl x1)] [] shX I (gb_po shX (some (.inl rz)) I)
  refine go_iload_n (k := 1) d_Rd_charAt_0 rfl rfl ?_
  refine go_iconst (v := 0) d_Rd_charAt_1 (by decide) ?_
  refine go_aload_n (k := 0) d_Rd_charAt_2 rfl rfl ?_
  refine go_geti (ci := 9) (k := 1) d_Rd_charAt_3 a_X_111 rfl (by decide) f_Rd_47 rfl ?_
  refine go_iconst (v := 1) d_Rd_charAt_6 (by decide) ?_
  refine go_isub d_Rd_charAt_7 ?_
  refine go_callSN (y := yGb_within) (asr := [.inl x1, .inl 0, .inl ((I 111 1) - 1)]) (v := some (.inl (F_Gb_within x1 0 ((I 111 1) - 1) I))) (I' := I) (st1 := [.inl (F_Gb_within x1 0 ((I 111 1) - 1) I)]) d_Rd_charAt_8 s_yGb_within m_Rd_66 rfl (Nat.le_of_ble_eq_true rfl) rfl rfl (c_Gb_within l (d0 + 0) x1 0 ((I 111 1) - 1) I) ?_
  refine go_if_eq (tgt := 32) d_Rd_charAt_11 (by decide) (fun hc => ?_) (fun hc => ?_)
  · rw [if_pos hc] at h
    refine go_iconst (v := 0) d_Rd_charAt_32 (by decide) ?_
    cases h
    exact go_ireturn d_Rd_charAt_33 rfl gb_po_i
  · rw [if_neg hc] at h
    refine go_iload_n (k := 1) d_Rd_charAt_14 rfl rfl ?_
    refine go_aload_n (k := 0) d_Rd_charAt_15 rfl rfl ?_
    refine go_getr (ci := 9) (k := 0) (r := 110) d_Rd_charAt_16 a_X_111 rfl (by decide) f_Rd_38 rfl ?_
    refine go_alen d_Rd_charAt_19 a_X_110 ?_
    refine go_top (v := 400) rfl ?_
    refine go_cmp_ge (tgt := 32) d_Rd_charAt_20 (by decide) (fun hc => ?_) (fun hc => ?_)
    · rw [if_pos hc] at h
      refine go_iconst (v := 0) d_Rd_charAt_32 (by decide) ?_
      cases h
      exact go_ireturn d_Rd_charAt_33 rfl gb_po_i
    · rw [if_neg hc] at h
      refine go_aload_n (k := 0) d_Rd_charAt_23 rfl rfl ?_
      refine go_getr (ci := 9) (k := 0) (r := 110) d_Rd_charAt_24 a_X_111 rfl (by decide) f_Rd_38 rfl ?_
      refine go_iload_n (k := 1) d_Rd_charAt_27 rfl rfl ?_
      obtain ⟨hi, v1, ev1, h⟩ := flod_e h
      refine go_iald2 d_Rd_charAt_28 a_X_110 hi ev1 ?_
      refine go_goto (tgt := 33) d_Rd_charAt_29 (by decide) ?_
      cases h
      exact go_ireturn d_Rd_charAt_33 rfl gb_po_i
theorem d_Rd_isDigit_0 : decode yRd_isDigit.2.1 0 = .ok (.iload_n 0, 1) := by decide +kernel
theorem d_Rd_isDigit_1 : decode yRd_isDigit.2.1 1 = .ok (.bipush 48, 2) := by decide +kernel
theorem d_Rd_isDigit_3 : decode yRd_isDigit.2.1 3 = .ok (.bipush 57, 2) := by decide +kernel
theorem d_Rd_isDigit_5 : decode yRd_isDigit.2.1 5 = .ok (.invokestatic 66, 3) := by decide +kernel
theorem d_Rd_isDigit_8 : decode yRd_isDigit.2.1 8 = .ok (.ireturn, 1) := by decide +kernel
def F_Rd_isDigit (x0 : Int32) (I : gb_Mem) : Int32 :=
  F_Gb_within x0 48 57 I
set_option maxRecDepth 4000 in
theorem c_Rd_isDigit (l : Launch) (d0 : Nat) (x0 : Int32) (I : gb_Mem)  : gb_Cs l yRd_isDigit (d0 + 1) [.inl x0] shX I (some (.inl (F_Rd_isDigit x0 I))) I := by
  refine gb_Ct.of (lv := [(0, .inl x0)]) rfl (Nat.le_of_ble_eq_true rfl) rfl ?_
  generalize h : F_Rd_isDigit x0 I = rz
  unfold F_Rd_isDigit at h
  show gb_Go l yRd_isDigit (d0 + 1) 0 0 0 [(0, .inl x0)] [] shX I (gb_po shX (some (.inl rz)) I)
  refine go_iload_n (k := 0) d_Rd_isDigit_0 rfl rfl ?_
  refine go_bipush (v := 48) d_Rd_isDigit_1 (by decide) ?_
  refine go_bipush (v := 57) d_Rd_isDigit_3 (by decide) ?_
  refine go_callSN (y := yGb_within) (asr := [.inl x0, .inl 48, .inl 57]) (v := some (.inl (F_Gb_within x0 48 57 I))) (I' := I) (st1 := [.inl (F_Gb_within x0 48 57 I)]) d_Rd_isDigit_5 s_yGb_within m_Rd_66 rfl (Nat.le_of_ble_eq_true rfl) rfl rfl (c_Gb_within l (d0 + 0) x0 48 57 I) ?_
  subst h
  exact go_zreturn d_Rd_isDigit_8 rfl (zb_Gb_within x0 48 57 I) gb_po_i
theorem zb_Rd_isDigit (x0 : Int32) (I : gb_Mem) : F_Rd_isDigit x0 I = 0 ∨ F_Rd_isDigit x0 I = 1 := by
  unfold F_Rd_isDigit
  repeat' split
  all_goals first | exact Or.inl rfl | exact Or.inr rfl | exact zb_Gb_within _ _ _ _
theorem d_Rd_isLetter_0 : decode yRd_isLetter.2.1 0 = .ok (.iload_n 0, 1) := by decide +kernel
theorem d_Rd_isLetter_1 : decode yRd_isLetter.2.1 1 = .ok (.bipush 97, 2) := by decide +kernel
theorem d_Rd_isLetter_3 : decode yRd_isLetter.2.1 3 = .ok (.bipush 122, 2) := by decide +kernel
theorem d_Rd_isLetter_5 : decode yRd_isLetter.2.1 5 = .ok (.invokestatic 66, 3) := by decide +kernel
theorem d_Rd_isLetter_8 : decode yRd_isLetter.2.1 8 = .ok (.ifCond .ne 14, 3) := by decide +kernel
theorem d_Rd_isLetter_11 : decode yRd_isLetter.2.1 11 = .ok (.iload_n 0, 1) := by decide +kernel
theorem d_Rd_isLetter_12 : decode yRd_isLetter.2.1 12 = .ok (.bipush 65, 2) := by decide +kernel
theorem d_Rd_isLetter_14 : decode yRd_isLetter.2.1 14 = .ok (.bipush 90, 2) := by decide +kernel
theorem d_Rd_isLetter_16 : decode yRd_isLetter.2.1 16 = .ok (.invokestatic 66, 3) := by decide +kernel
theorem d_Rd_isLetter_19 : decode yRd_isLetter.2.1 19 = .ok (.ifCond .eq 7, 3) := by decide +kernel
theorem d_Rd_isLetter_22 : decode yRd_isLetter.2.1 22 = .ok (.iconst 1, 1) := by decide +kernel
theorem d_Rd_isLetter_23 : decode yRd_isLetter.2.1 23 = .ok (.goto 4, 3) := by decide +kernel
theorem d_Rd_isLetter_26 : decode yRd_isLetter.2.1 26 = .ok (.iconst 0, 1) := by decide +kernel
theorem d_Rd_isLetter_27 : decode yRd_isLetter.2.1 27 = .ok (.ireturn, 1) := by decide +kernel
def J_Rd_isLetter_22 (I : gb_Mem) : Int32 :=
  1
set_option maxRecDepth 4000 in
theorem j_Rd_isLetter_22 (l : Launch) (d0 : Nat) (I : gb_Mem) {rz : Int32} (h : J_Rd_isLetter_22 I = rz) : gb_Go l yRd_isLetter (d0 + 1) 0 0 22 [] [] shX I (gb_po shX (some (.inl rz)) I) := by
  unfold J_Rd_isLetter_22 at h
  refine go_iconst (v := 1) d_Rd_isLetter_22 (by decide) ?_
  refine go_goto (tgt := 27) d_Rd_isLetter_23 (by decide) ?_
  subst h
  exact go_zreturn d_Rd_isLetter_27 rfl (Or.inr rfl) gb_po_i
def F_Rd_isLetter (x0 : Int32) (I : gb_Mem) : Int32 :=
  if (F_Gb_within x0 97 122 I) = 0 then
    if (F_Gb_within x0 65 90 I) = 0 then
      0
    else
      J_Rd_isLetter_22 I
  else
    J_Rd_isLetter_22 I
set_option maxRecDepth 4000 in
theorem c_Rd_isLetter (l : Launch) (d0 : Nat) (x0 : Int32) (I : gb_Mem)  : gb_Cs l yRd_isLetter (d0 + 1) [.inl x0] shX I (some (.inl (F_Rd_isLetter x0 I))) I := by
  refine gb_Ct.of (lv := [(0, .inl x0)]) rfl (Nat.le_of_ble_eq_true rfl) rfl ?_
  generalize h : F_Rd_isLetter x0 I = rz
  unfold F_Rd_isLetter at h
  show gb_Go l yRd_isLetter (d0 + 1) 0 0 0 [(0, .inl x0)] [] shX I (gb_po shX (some (.inl rz)) I)
  refine go_iload_n (k := 0) d_Rd_isLetter_0 rfl rfl ?_
  refine go_bipush (v := 97) d_Rd_isLetter_1 (by decide) ?_
  refine go_bipush (v := 122) d_Rd_isLetter_3 (by decide) ?_
  refine go_callSN (y := yGb_within) (asr := [.inl x0, .inl 97, .inl 122]) (v := some (.inl (F_Gb_within x0 97 122 I))) (I' := I) (st1 := [.inl (F_Gb_within x0 97 122 I)]) d_Rd_isLetter_5 s_yGb_within m_Rd_66 rfl (Nat.le_of_ble_eq_true rfl) rfl rfl (c_Gb_within l (d0 + 0) x0 97 122 I) ?_
  refine go_if_ne (tgt := 22) d_Rd_isLetter_8 (by decide) (fun hc => ?_) (fun hc => ?_)
  · rw [if_neg hc] at h
    exact go_lv [] rfl (j_Rd_isLetter_22 l d0 I h)
  · rw [if_pos hc] at h
    refine go_iload_n (k := 0) d_Rd_isLetter_11 rfl rfl ?_
    refine go_bipush (v := 65) d_Rd_isLetter_12 (by decide) ?_
    refine go_bipush (v := 90) d_Rd_isLetter_14 (by decide) ?_
    refine go_callSN (y := yGb_within) (asr := [.inl x0, .inl 65, .inl 90]) (v := some (.inl (F_Gb_within x0 65 90 I))) (I' := I) (st1 := [.inl (F_Gb_within x0 65 90 I)]) d_Rd_isLetter_16 s_yGb_within m_Rd_66 rfl (Nat.le_of_ble_eq_true rfl) rfl rfl (c_Gb_within l (d0 + 0) x0 65 90 I) ?_
    refine go_if_eq (tgt := 26) d_Rd_isLetter_19 (by decide) (fun hc => ?_) (fun hc => ?_)
    · rw [if_pos hc] at h
      refine go_iconst (v := 0) d_Rd_isLetter_26 (by decide) ?_
      subst h
      exact go_zreturn d_Rd_isLetter_27 rfl (Or.inl rfl) gb_po_i
    · rw [if_neg hc] at h
      exact go_lv [] rfl (j_Rd_isLetter_22 l d0 I h)
theorem zbj_Rd_isLetter_22 (I : gb_Mem) : J_Rd_isLetter_22 I = 0 ∨ J_Rd_isLetter_22 I = 1 := by
  unfold J_Rd_isLetter_22
  repeat' split
  all_goals first | exact Or.inl rfl | exact Or.inr rfl
theorem zb_Rd_isLetter (x0 : Int32) (I : gb_Mem) : F_Rd_isLetter x0 I = 0 ∨ F_Rd_isLetter x0 I = 1 := by
  unfold F_Rd_isLetter
  repeat' split
  all_goals first | exact Or.inl rfl | exact Or.inr rfl | exact zbj_Rd_isLetter_22 _
theorem d_Rd_openLine_0 : decode yRd_openLine.2.1 0 = .ok (.iload_n 2, 1) := by decide +kernel
theorem d_Rd_openLine_1 : decode yRd_openLine.2.1 1 = .ok (.ifCond .ne 11, 3) := by decide +kernel
theorem d_Rd_openLine_4 : decode yRd_openLine.2.1 4 = .ok (.aload_n 0, 1) := by decide +kernel
theorem d_Rd_openLine_5 : decode yRd_openLine.2.1 5 = .ok (.iconst 1, 1) := by decide +kernel
theorem d_Rd_openLine_6 : decode yRd_openLine.2.1 6 = .ok (.invokevirtual 112, 3) := by decide +kernel
theorem d_Rd_openLine_9 : decode yRd_openLine.2.1 9 = .ok (.goto 27, 3) := by decide +kernel
theorem d_Rd_openLine_12 : decode yRd_openLine.2.1 12 = .ok (.iload_n 1, 1) := by decide +kernel
theorem d_Rd_openLine_13 : decode yRd_openLine.2.1 13 = .ok (.bipush 16, 2) := by decide +kernel
theorem d_Rd_openLine_15 : decode yRd_openLine.2.1 15 = .ok (.if_icmp .lt 11, 3) := by decide +kernel
theorem d_Rd_openLine_18 : decode yRd_openLine.2.1 18 = .ok (.aload_n 0, 1) := by decide +kernel
theorem d_Rd_openLine_19 : decode yRd_openLine.2.1 19 = .ok (.iconst 3, 1) := by decide +kernel
theorem d_Rd_openLine_20 : decode yRd_openLine.2.1 20 = .ok (.invokevirtual 112, 3) := by decide +kernel
theorem d_Rd_openLine_23 : decode yRd_openLine.2.1 23 = .ok (.goto 13, 3) := by decide +kernel
theorem d_Rd_openLine_26 : decode yRd_openLine.2.1 26 = .ok (.aload_n 0, 1) := by decide +kernel
theorem d_Rd_openLine_27 : decode yRd_openLine.2.1 27 = .ok (.dup, 1) := by decide +kernel
theorem d_Rd_openLine_28 : decode yRd_openLine.2.1 28 = .ok (.getfield 80, 3) := by decide +kernel
theorem d_Rd_openLine_31 : decode yRd_openLine.2.1 31 = .ok (.iconst 1, 1) := by decide +kernel
theorem d_Rd_openLine_32 : decode yRd_openLine.2.1 32 = .ok (.iadd, 1) := by decide +kernel
theorem d_Rd_openLine_33 : decode yRd_openLine.2.1 33 = .ok (.putfield 80, 3) := by decide +kernel
theorem d_Rd_openLine_36 : decode yRd_openLine.2.1 36 = .ok (.return_, 1) := by decide +kernel
def F_Rd_openLine (x1 x2 : Int32) (I : gb_Mem) : Option (gb_Mem) :=
  if x2 = 0 then
    fbd (F_Rd_refuse 1 I) fun I3 =>
    some I3
  else
    if x1 < 16 then
      fstf I 111 6 ((I 111 6) + 1) fun I1 =>
      some I1
    else
      fbd (F_Rd_refuse 3 I) fun I2 =>
      some I2
set_option maxRecDepth 4000 in
theorem c_Rd_openLine (l : Launch) (d0 : Nat) (x1 x2 : Int32) (I : gb_Mem) {Iz : gb_Mem} (h : F_Rd_openLine x1 x2 I = some Iz) : gb_Cs l yRd_openLine (d0 + 1) [.inr (some 111), .inl x1, .inl x2] shX I none Iz := by
  refine gb_Ct.of (lv := [(0, .inr (some 111)), (1, .inl x1), (2, .inl x2)]) rfl (Nat.le_of_ble_eq_true rfl) rfl ?_
  unfold F_Rd_openLine at h
  show gb_Go l yRd_openLine (d0 + 1) 0 0 0 [(0, .inr (some 111)), (1, .inl x1), (2, .inl x2)] [] shX I (gb_po shX none Iz)
  refine go_iload_n (k := 2) d_Rd_openLine_0 rfl rfl ?_
  refine go_if_ne (tgt := 12) d_Rd_openLine_1 (by decide) (fun hc => ?_) (fun hc => ?_)
  · rw [if_neg hc] at h
    refine go_iload_n (k := 1) d_Rd_openLine_12 rfl rfl ?_
    refine go_bipush (v := 16) d_Rd_openLine_13 (by decide) ?_
    refine go_cmp_lt (tgt := 26) d_Rd_openLine_15 (by decide) (fun hc => ?_) (fun hc => ?_)
    · rw [if_pos hc] at h
      refine go_aload_n (k := 0) d_Rd_openLine_26 rfl rfl ?_
      refine go_dup d_Rd_openLine_27 ?_
      refine go_geti (ci := 9) (k := 6) d_Rd_openLine_28 a_X_111 rfl (by decide) f_Rd_80 rfl ?_
      refine go_iconst (v := 1) d_Rd_openLine_31 (by decide) ?_
      refine go_iadd d_Rd_openLine_32 ?_
      obtain ⟨I1, eI1, h⟩ := fstf_e h
      refine go_putT (ci := 9) (k := 6) (I' := I1) d_Rd_openLine_33 a_X_111 rfl (by decide) f_Rd_80 rfl rfl rfl rfl rfl eI1 ?_
      cases h
      exact go_return d_Rd_openLine_36 rfl gb_po_i
    · rw [if_neg hc] at h
      refine go_aload_n (k := 0) d_Rd_openLine_18 rfl rfl ?_
      refine go_iconst (v := 3) d_Rd_openLine_19 (by decide) ?_
      obtain ⟨I2, w1, h⟩ := fbd_e h
      refine go_callV (y := yRd_refuse) (asr := [.inl 3]) (v := none) (I' := I2) (st1 := []) d_Rd_openLine_20 s_yRd_refuse m_Rd_112 a_X_111 rfl rfl rfl (Nat.le_of_ble_eq_true rfl) rfl rfl (c_Rd_refuse l (d0 + 0) 3 I w1) ?_
      refine go_goto (tgt := 36) d_Rd_openLine_23 (by decide) ?_
      cases h
      exact go_return d_Rd_openLine_36 rfl gb_po_i
  · rw [if_pos hc] at h
    refine go_aload_n (k := 0) d_Rd_openLine_4 rfl rfl ?_
    refine go_iconst (v := 1) d_Rd_openLine_5 (by decide) ?_
    obtain ⟨I3, w1, h⟩ := fbd_e h
    refine go_callV (y := yRd_refuse) (asr := [.inl 1]) (v := none) (I' := I3) (st1 := []) d_Rd_openLine_6 s_yRd_refuse m_Rd_112 a_X_111 rfl rfl rfl (Nat.le_of_ble_eq_true rfl) rfl rfl (c_Rd_refuse l (d0 + 0) 1 I w1) ?_
    refine go_goto (tgt := 36) d_Rd_openLine_9 (by decide) ?_
    cases h
    exact go_return d_Rd_openLine_36 rfl gb_po_i
theorem d_Rd_readUnit_0 : decode yRd_readUnit.2.1 0 = .ok (.aload_n 0, 1) := by decide +kernel
theorem d_Rd_readUnit_1 : decode yRd_readUnit.2.1 1 = .ok (.invokevirtual 62, 3) := by decide +kernel
theorem d_Rd_readUnit_4 : decode yRd_readUnit.2.1 4 = .ok (.istore_n 1, 1) := by decide +kernel
theorem d_Rd_readUnit_5 : decode yRd_readUnit.2.1 5 = .ok (.aload_n 0, 1) := by decide +kernel
theorem d_Rd_readUnit_6 : decode yRd_readUnit.2.1 6 = .ok (.getfield 53, 3) := by decide +kernel
theorem d_Rd_readUnit_9 : decode yRd_readUnit.2.1 9 = .ok (.ifCond .eq 4, 3) := by decide +kernel
theorem d_Rd_readUnit_12 : decode yRd_readUnit.2.1 12 = .ok (.return_, 1) := by decide +kernel
theorem d_Rd_readUnit_13 : decode yRd_readUnit.2.1 13 = .ok (.iload_n 1, 1) := by decide +kernel
theorem d_Rd_readUnit_14 : decode yRd_readUnit.2.1 14 = .ok (.sipush 1000, 3) := by decide +kernel
theorem d_Rd_readUnit_17 : decode yRd_readUnit.2.1 17 = .ok (.if_icmp .lt 19, 3) := by decide +kernel
theorem d_Rd_readUnit_20 : decode yRd_readUnit.2.1 20 = .ok (.aload_n 0, 1) := by decide +kernel
theorem d_Rd_readUnit_21 : decode yRd_readUnit.2.1 21 = .ok (.getfield 25, 3) := by decide +kernel
theorem d_Rd_readUnit_24 : decode yRd_readUnit.2.1 24 = .ok (.iconst 0, 1) := by decide +kernel
theorem d_Rd_readUnit_25 : decode yRd_readUnit.2.1 25 = .ok (.iload_n 1, 1) := by decide +kernel
theorem d_Rd_readUnit_26 : decode yRd_readUnit.2.1 26 = .ok (.sipush 1000, 3) := by decide +kernel
theorem d_Rd_readUnit_29 : decode yRd_readUnit.2.1 29 = .ok (.isub, 1) := by decide +kernel
theorem d_Rd_readUnit_30 : decode yRd_readUnit.2.1 30 = .ok (.invokevirtual 122, 3) := by decide +kernel
theorem d_Rd_readUnit_33 : decode yRd_readUnit.2.1 33 = .ok (.goto 38, 3) := by decide +kernel
theorem d_Rd_readUnit_36 : decode yRd_readUnit.2.1 36 = .ok (.iload_n 1, 1) := by decide +kernel
theorem d_Rd_readUnit_37 : decode yRd_readUnit.2.1 37 = .ok (.sipush 203, 3) := by decide +kernel
theorem d_Rd_readUnit_40 : decode yRd_readUnit.2.1 40 = .ok (.sipush 214, 3) := by decide +kernel
theorem d_Rd_readUnit_43 : decode yRd_readUnit.2.1 43 = .ok (.invokestatic 66, 3) := by decide +kernel
theorem d_Rd_readUnit_46 : decode yRd_readUnit.2.1 46 = .ok (.ifCond .eq 19, 3) := by decide +kernel
theorem d_Rd_readUnit_49 : decode yRd_readUnit.2.1 49 = .ok (.aload_n 0, 1) := by decide +kernel
theorem d_Rd_readUnit_50 : decode yRd_readUnit.2.1 50 = .ok (.getfield 25, 3) := by decide +kernel
theorem d_Rd_readUnit_53 : decode yRd_readUnit.2.1 53 = .ok (.iconst 1, 1) := by decide +kernel
theorem d_Rd_readUnit_54 : decode yRd_readUnit.2.1 54 = .ok (.iload_n 1, 1) := by decide +kernel
theorem d_Rd_readUnit_55 : decode yRd_readUnit.2.1 55 = .ok (.sipush 203, 3) := by decide +kernel
theorem d_Rd_readUnit_58 : decode yRd_readUnit.2.1 58 = .ok (.isub, 1) := by decide +kernel
theorem d_Rd_readUnit_59 : decode yRd_readUnit.2.1 59 = .ok (.invokevirtual 122, 3) := by decide +kernel
theorem d_Rd_readUnit_62 : decode yRd_readUnit.2.1 62 = .ok (.goto 9, 3) := by decide +kernel
theorem d_Rd_readUnit_65 : decode yRd_readUnit.2.1 65 = .ok (.aload_n 0, 1) := by decide +kernel
theorem d_Rd_readUnit_66 : decode yRd_readUnit.2.1 66 = .ok (.iconst 1, 1) := by decide +kernel
theorem d_Rd_readUnit_67 : decode yRd_readUnit.2.1 67 = .ok (.invokevirtual 112, 3) := by decide +kernel
theorem d_Rd_readUnit_70 : decode yRd_readUnit.2.1 70 = .ok (.return_, 1) := by decide +kernel
theorem d_Rd_readUnit_71 : decode yRd_readUnit.2.1 71 = .ok (.aload_n 0, 1) := by decide +kernel
theorem d_Rd_readUnit_72 : decode yRd_readUnit.2.1 72 = .ok (.dup, 1) := by decide +kernel
theorem d_Rd_readUnit_73 : decode yRd_readUnit.2.1 73 = .ok (.getfield 80, 3) := by decide +kernel
theorem d_Rd_readUnit_76 : decode yRd_readUnit.2.1 76 = .ok (.iconst 1, 1) := by decide +kernel
theorem d_Rd_readUnit_77 : decode yRd_readUnit.2.1 77 = .ok (.iadd, 1) := by decide +kernel
theorem d_Rd_readUnit_78 : decode yRd_readUnit.2.1 78 = .ok (.putfield 80, 3) := by decide +kernel
theorem d_Rd_readUnit_81 : decode yRd_readUnit.2.1 81 = .ok (.return_, 1) := by decide +kernel
def J_Rd_readUnit_71 (I : gb_Mem) : Option (gb_Mem) :=
  fstf I 111 6 ((I 111 6) + 1) fun I4 =>
  some I4
set_option maxRecDepth 4000 in
theorem j_Rd_readUnit_71 (l : Launch) (d0 : Nat) (I : gb_Mem) {Iz : gb_Mem} (h : J_Rd_readUnit_71 I = some Iz) : gb_Go l yRd_readUnit (d0 + 1) 0 0 71 [(0, .inr (some 111))] [] shX I (gb_po shX none Iz) := by
  unfold J_Rd_readUnit_71 at h
  refine go_aload_n (k := 0) d_Rd_readUnit_71 rfl rfl ?_
  refine go_dup d_Rd_readUnit_72 ?_
  refine go_geti (ci := 9) (k := 6) d_Rd_readUnit_73 a_X_111 rfl (by decide) f_Rd_80 rfl ?_
  refine go_iconst (v := 1) d_Rd_readUnit_76 (by decide) ?_
  refine go_iadd d_Rd_readUnit_77 ?_
  obtain ⟨I4, eI4, h⟩ := fstf_e h
  refine go_putT (ci := 9) (k := 6) (I' := I4) d_Rd_readUnit_78 a_X_111 rfl (by decide) f_Rd_80 rfl rfl rfl rfl rfl eI4 ?_
  cases h
  exact go_return d_Rd_readUnit_81 rfl gb_po_i
def F_Rd_readUnit (I : gb_Mem) : Option (gb_Mem) :=
  fbd (F_Rd_now  I) fun r1 =>
  if (I 111 7) = 0 then
    if r1 < 1000 then
      if (F_Gb_within r1 203 214 I) = 0 then
        fbd (F_Rd_refuse 1 I) fun I2 =>
        some I2
      else
        fbd (F_La_emit 114 1 (r1 - 203) I) fun I3 =>
        J_Rd_readUnit_71 I3
    else
      fbd (F_La_emit 114 0 (r1 - 1000) I) fun I5 =>
      J_Rd_readUnit_71 I5
  else
    some I
set_option maxRecDepth 4000 in
theorem c_Rd_readUnit (l : Launch) (d0 : Nat) (I : gb_Mem) {Iz : gb_Mem} (h : F_Rd_readUnit I = some Iz) : gb_Cs l yRd_readUnit (d0 + 1) [.inr (some 111)] shX I none Iz := by
  refine gb_Ct.of (lv := [(0, .inr (some 111))]) rfl (Nat.le_of_ble_eq_true rfl) rfl ?_
  unfold F_Rd_readUnit at h
  show gb_Go l yRd_readUnit (d0 + 1) 0 0 0 [(0, .inr (some 111))] [] shX I (gb_po shX none Iz)
  refine go_aload_n (k := 0) d_Rd_readUnit_0 rfl rfl ?_
  obtain ⟨r1, w1, h⟩ := fbd_e h
  refine go_callV (y := yRd_now) (asr := []) (v := some (.inl r1)) (I' := I) (st1 := [.inl r1]) d_Rd_readUnit_1 s_yRd_now m_Rd_62 a_X_111 rfl rfl rfl (Nat.le_of_ble_eq_true rfl) rfl rfl (c_Rd_now l (d0 + 0)  I w1) ?_
  refine go_istore_n (lv' := [(1, .inl r1), (0, .inr (some 111))]) d_Rd_readUnit_4 rfl (by decide) rfl ?_
  refine go_aload_n (k := 1) d_Rd_readUnit_5 rfl rfl ?_
  refine go_geti (ci := 9) (k := 7) d_Rd_readUnit_6 a_X_111 rfl (by decide) f_Rd_53 rfl ?_
  refine go_if_eq (tgt := 13) d_Rd_readUnit_9 (by decide) (fun hc => ?_) (fun hc => ?_)
  · rw [if_pos hc] at h
    refine go_iload_n (k := 0) d_Rd_readUnit_13 rfl rfl ?_
    refine go_sipush (v := 1000) d_Rd_readUnit_14 (by decide) ?_
    refine go_cmp_lt (tgt := 36) d_Rd_readUnit_17 (by decide) (fun hc => ?_) (fun hc => ?_)
    · rw [if_pos hc] at h
      refine go_iload_n (k := 0) d_Rd_readUnit_36 rfl rfl ?_
      refine go_sipush (v := 203) d_Rd_readUnit_37 (by decide) ?_
      refine go_sipush (v := 214) d_Rd_readUnit_40 (by decide) ?_
      refine go_callSN (y := yGb_within) (asr := [.inl r1, .inl 203, .inl 214]) (v := some (.inl (F_Gb_within r1 203 214 I))) (I' := I) (st1 := [.inl (F_Gb_within r1 203 214 I)]) d_Rd_readUnit_43 s_yGb_within m_Rd_66 rfl (Nat.le_of_ble_eq_true rfl) rfl rfl (c_Gb_within l (d0 + 0) r1 203 214 I) ?_
      refine go_if_eq (tgt := 65) d_Rd_readUnit_46 (by decide) (fun hc => ?_) (fun hc => ?_)
      · rw [if_pos hc] at h
        refine go_aload_n (k := 1) d_Rd_readUnit_65 rfl rfl ?_
        refine go_iconst (v := 1) d_Rd_readUnit_66 (by decide) ?_
        obtain ⟨I2, w1, h⟩ := fbd_e h
        refine go_callV (y := yRd_refuse) (asr := [.inl 1]) (v := none) (I' := I2) (st1 := []) d_Rd_readUnit_67 s_yRd_refuse m_Rd_112 a_X_111 rfl rfl rfl (Nat.le_of_ble_eq_true rfl) rfl rfl (c_Rd_refuse l (d0 + 0) 1 I w1) ?_
        cases h
        exact go_return d_Rd_readUnit_70 rfl gb_po_i
      · rw [if_neg hc] at h
        refine go_aload_n (k := 1) d_Rd_readUnit_49 rfl rfl ?_
        refine go_getr (ci := 9) (k := 9) (r := 114) d_Rd_readUnit_50 a_X_111 rfl (by decide) f_Rd_25 rfl ?_
        refine go_iconst (v := 1) d_Rd_readUnit_53 (by decide) ?_
        refine go_iload_n (k := 0) d_Rd_readUnit_54 rfl rfl ?_
        refine go_sipush (v := 203) d_Rd_readUnit_55 (by decide) ?_
        refine go_isub d_Rd_readUnit_58 ?_
        obtain ⟨I3, w1, h⟩ := fbd_e h
        refine go_callV (y := yLa_emit) (asr := [.inl 1, .inl (r1 - 203)]) (v := none) (I' := I3) (st1 := []) d_Rd_readUnit_59 s_yLa_emit m_Rd_122 a_X_114 rfl rfl rfl (Nat.le_of_ble_eq_true rfl) rfl rfl (c_La_emit l (d0 + 0) 114 isLa_114 1 (r1 - 203) I w1) ?_
        refine go_goto (tgt := 71) d_Rd_readUnit_62 (by decide) ?_
        exact go_lv [1] rfl (j_Rd_readUnit_71 l d0 I3 h)
    · rw [if_neg hc] at h
      refine go_aload_n (k := 1) d_Rd_readUnit_20 rfl rfl ?_
      refine go_getr (ci := 9) (k := 9) (r := 114) d_Rd_readUnit_21 a_X_111 rfl (by decide) f_Rd_25 rfl ?_
      refine go_iconst (v := 0) d_Rd_readUnit_24 (by decide) ?_
      refine go_iload_n (k := 0) d_Rd_readUnit_25 rfl rfl ?_
      refine go_sipush (v := 1000) d_Rd_readUnit_26 (by decide) ?_
      refine go_isub d_Rd_readUnit_29 ?_
      obtain ⟨I5, w1, h⟩ := fbd_e h
      refine go_callV (y := yLa_emit) (asr := [.inl 0, .inl (r1 - 1000)]) (v := none) (I' := I5) (st1 := []) d_Rd_readUnit_30 s_yLa_emit m_Rd_122 a_X_114 rfl rfl rfl (Nat.le_of_ble_eq_true rfl) rfl rfl (c_La_emit l (d0 + 0) 114 isLa_114 0 (r1 - 1000) I w1) ?_
      refine go_goto (tgt := 71) d_Rd_readUnit_33 (by decide) ?_
      exact go_lv [1] rfl (j_Rd_readUnit_71 l d0 I5 h)
  · rw [if_neg hc] at h
    cases h
    exact go_return d_Rd_readUnit_12 rfl gb_po_i
theorem d_Rd_start_0 : decode yRd_start.2.1 0 = .ok (.aload_n 0, 1) := by decide +kernel
theorem d_Rd_start_1 : decode yRd_start.2.1 1 = .ok (.iload_n 1, 1) := by decide +kernel
theorem d_Rd_start_2 : decode yRd_start.2.1 2 = .ok (.aload_n 0, 1) := by decide +kernel
theorem d_Rd_start_3 : decode yRd_start.2.1 3 = .ok (.getfield 38, 3) := by decide +kernel
theorem d_Rd_start_6 : decode yRd_start.2.1 6 = .ok (.arraylength, 1) := by decide +kernel
theorem d_Rd_start_7 : decode yRd_start.2.1 7 = .ok (.invokestatic 41, 3) := by decide +kernel
theorem d_Rd_start_10 : decode yRd_start.2.1 10 = .ok (.putfield 47, 3) := by decide +kernel
theorem d_Rd_start_13 : decode yRd_start.2.1 13 = .ok (.aload_n 0, 1) := by decide +kernel
theorem d_Rd_start_14 : decode yRd_start.2.1 14 = .ok (.iload_n 2, 1) := by decide +kernel
theorem d_Rd_start_15 : decode yRd_start.2.1 15 = .ok (.putfield 50, 3) := by decide +kernel
theorem d_Rd_start_18 : decode yRd_start.2.1 18 = .ok (.aload_n 0, 1) := by decide +kernel
theorem d_Rd_start_19 : decode yRd_start.2.1 19 = .ok (.iconst 0, 1) := by decide +kernel
theorem d_Rd_start_20 : decode yRd_start.2.1 20 = .ok (.putfield 53, 3) := by decide +kernel
theorem d_Rd_start_23 : decode yRd_start.2.1 23 = .ok (.aload_n 0, 1) := by decide +kernel
theorem d_Rd_start_24 : decode yRd_start.2.1 24 = .ok (.iconst (-1), 1) := by decide +kernel
theorem d_Rd_start_25 : decode yRd_start.2.1 25 = .ok (.putfield 18, 3) := by decide +kernel
theorem d_Rd_start_28 : decode yRd_start.2.1 28 = .ok (.return_, 1) := by decide +kernel
def F_Rd_start (x1 x2 : Int32) (I : gb_Mem) : Option (gb_Mem) :=
  fstf I 111 1 (mn x1 400) fun I1 =>
  fstf I1 111 2 x2 fun I2 =>
  fstf I2 111 7 0 fun I3 =>
  fstf I3 111 8 (-1) fun I4 =>
  some I4
set_option maxRecDepth 4000 in
theorem c_Rd_start (l : Launch) (d0 : Nat) (x1 x2 : Int32) (I : gb_Mem) {Iz : gb_Mem} (h : F_Rd_start x1 x2 I = some Iz) : gb_Cs l yRd_start (d0 + 1) [.inr (some 111), .inl x1, .inl x2] shX I none Iz := by
  refine gb_Ct.of (lv := [(0, .inr (some 111)), (1, .inl x1), (2, .inl x2)]) rfl (Nat.le_of_ble_eq_true rfl) rfl ?_
  unfold F_Rd_start at h
  show gb_Go l yRd_start (d0 + 1) 0 0 0 [(0, .inr (some 111)), (1, .inl x1), (2, .inl x2)] [] shX I (gb_po shX none Iz)
  refine go_aload_n (k := 0) d_Rd_start_0 rfl rfl ?_
  refine go_iload_n (k := 1) d_Rd_start_1 rfl rfl ?_
  refine go_aload_n (k := 0) d_Rd_start_2 rfl rfl ?_
  refine go_getr (ci := 9) (k := 0) (r := 110) d_Rd_start_3 a_X_111 rfl (by decide) f_Rd_38 rfl ?_
  refine go_alen d_Rd_start_6 a_X_110 ?_
  refine go_top (v := 400) rfl ?_
  refine go_mmin d_Rd_start_7 m_Rd_41 (Nat.le_of_ble_eq_true rfl) ?_
  obtain ⟨I1, eI1, h⟩ := fstf_e h
  refine go_putT (ci := 9) (k := 1) (I' := I1) d_Rd_start_10 a_X_111 rfl (by decide) f_Rd_47 rfl rfl rfl rfl rfl eI1 ?_
  refine go_aload_n (k := 0) d_Rd_start_13 rfl rfl ?_
  refine go_iload_n (k := 2) d_Rd_start_14 rfl rfl ?_
  obtain ⟨I2, eI2, h⟩ := fstf_e h
  refine go_putT (ci := 9) (k := 2) (I' := I2) d_Rd_start_15 a_X_111 rfl (by decide) f_Rd_50 rfl rfl rfl rfl rfl eI2 ?_
  refine go_aload_n (k := 0) d_Rd_start_18 rfl rfl ?_
  refine go_iconst (v := 0) d_Rd_start_19 (by decide) ?_
  obtain ⟨I3, eI3, h⟩ := fstf_e h
  refine go_putT (ci := 9) (k := 7) (I' := I3) d_Rd_start_20 a_X_111 rfl (by decide) f_Rd_53 rfl rfl rfl rfl rfl eI3 ?_
  refine go_aload_n (k := 0) d_Rd_start_23 rfl rfl ?_
  refine go_iconst (v := (-1)) d_Rd_start_24 (by decide) ?_
  obtain ⟨I4, eI4, h⟩ := fstf_e h
  refine go_putT (ci := 9) (k := 8) (I' := I4) d_Rd_start_25 a_X_111 rfl (by decide) f_Rd_18 rfl rfl rfl rfl rfl eI4 ?_
  cases h
  exact go_return d_Rd_start_28 rfl gb_po_i
theorem d_Rd_take_0 : decode yRd_take.2.1 0 = .ok (.aload_n 0, 1) := by decide +kernel
theorem d_Rd_take_1 : decode yRd_take.2.1 1 = .ok (.invokevirtual 62, 3) := by decide +kernel
theorem d_Rd_take_4 : decode yRd_take.2.1 4 = .ok (.iload_n 1, 1) := by decide +kernel
theorem d_Rd_take_5 : decode yRd_take.2.1 5 = .ok (.if_icmp .ne 23, 3) := by decide +kernel
theorem d_Rd_take_8 : decode yRd_take.2.1 8 = .ok (.aload_n 0, 1) := by decide +kernel
theorem d_Rd_take_9 : decode yRd_take.2.1 9 = .ok (.getfield 53, 3) := by decide +kernel
theorem d_Rd_take_12 : decode yRd_take.2.1 12 = .ok (.ifCond .ne 16, 3) := by decide +kernel
theorem d_Rd_take_15 : decode yRd_take.2.1 15 = .ok (.aload_n 0, 1) := by decide +kernel
theorem d_Rd_take_16 : decode yRd_take.2.1 16 = .ok (.dup, 1) := by decide +kernel
theorem d_Rd_take_17 : decode yRd_take.2.1 17 = .ok (.getfield 80, 3) := by decide +kernel
theorem d_Rd_take_20 : decode yRd_take.2.1 20 = .ok (.iconst 1, 1) := by decide +kernel
theorem d_Rd_take_21 : decode yRd_take.2.1 21 = .ok (.iadd, 1) := by decide +kernel
theorem d_Rd_take_22 : decode yRd_take.2.1 22 = .ok (.putfield 80, 3) := by decide +kernel
theorem d_Rd_take_25 : decode yRd_take.2.1 25 = .ok (.goto 8, 3) := by decide +kernel
theorem d_Rd_take_28 : decode yRd_take.2.1 28 = .ok (.aload_n 0, 1) := by decide +kernel
theorem d_Rd_take_29 : decode yRd_take.2.1 29 = .ok (.iconst 1, 1) := by decide +kernel
theorem d_Rd_take_30 : decode yRd_take.2.1 30 = .ok (.invokevirtual 112, 3) := by decide +kernel
theorem d_Rd_take_33 : decode yRd_take.2.1 33 = .ok (.return_, 1) := by decide +kernel
def J_Rd_take_28 (I : gb_Mem) : Option (gb_Mem) :=
  fbd (F_Rd_refuse 1 I) fun I2 =>
  some I2
set_option maxRecDepth 4000 in
theorem j_Rd_take_28 (l : Launch) (d0 : Nat) (I : gb_Mem) {Iz : gb_Mem} (h : J_Rd_take_28 I = some Iz) : gb_Go l yRd_take (d0 + 1) 0 0 28 [(0, .inr (some 111))] [] shX I (gb_po shX none Iz) := by
  unfold J_Rd_take_28 at h
  refine go_aload_n (k := 0) d_Rd_take_28 rfl rfl ?_
  refine go_iconst (v := 1) d_Rd_take_29 (by decide) ?_
  obtain ⟨I2, w1, h⟩ := fbd_e h
  refine go_callV (y := yRd_refuse) (asr := [.inl 1]) (v := none) (I' := I2) (st1 := []) d_Rd_take_30 s_yRd_refuse m_Rd_112 a_X_111 rfl rfl rfl (Nat.le_of_ble_eq_true rfl) rfl rfl (c_Rd_refuse l (d0 + 0) 1 I w1) ?_
  cases h
  exact go_return d_Rd_take_33 rfl gb_po_i
def F_Rd_take (x1 : Int32) (I : gb_Mem) : Option (gb_Mem) :=
  fbd (F_Rd_now  I) fun r1 =>
  if r1 = x1 then
    if (I 111 7) = 0 then
      fstf I 111 6 ((I 111 6) + 1) fun I3 =>
      some I3
    else
      J_Rd_take_28 I
  else
    J_Rd_take_28 I
set_option maxRecDepth 4000 in
theorem c_Rd_take (l : Launch) (d0 : Nat) (x1 : Int32) (I : gb_Mem) {Iz : gb_Mem} (h : F_Rd_take x1 I = some Iz) : gb_Cs l yRd_take (d0 + 1) [.inr (some 111), .inl x1] shX I none Iz := by
  refine gb_Ct.of (lv := [(0, .inr (some 111)), (1, .inl x1)]) rfl (Nat.le_of_ble_eq_true rfl) rfl ?_
  unfold F_Rd_take at h
  show gb_Go l yRd_take (d0 + 1) 0 0 0 [(0, .inr (some 111)), (1, .inl x1)] [] shX I (gb_po shX none Iz)
  refine go_aload_n (k := 0) d_Rd_take_0 rfl rfl ?_
  obtain ⟨r1, w1, h⟩ := fbd_e h
  refine go_callV (y := yRd_now) (asr := []) (v := some (.inl r1)) (I' := I) (st1 := [.inl r1]) d_Rd_take_1 s_yRd_now m_Rd_62 a_X_111 rfl rfl rfl (Nat.le_of_ble_eq_true rfl) rfl rfl (c_Rd_now l (d0 + 0)  I w1) ?_
  refine go_iload_n (k := 1) d_Rd_take_4 rfl rfl ?_
  refine go_cmp_ne (tgt := 28) d_Rd_take_5 (by decide) (fun hc => ?_) (fun hc => ?_)
  · rw [if_neg hc] at h
    exact go_lv [0] rfl (j_Rd_take_28 l d0 I h)
  · rw [if_pos hc] at h
    refine go_aload_n (k := 0) d_Rd_take_8 rfl rfl ?_
    refine go_geti (ci := 9) (k := 7) d_Rd_take_9 a_X_111 rfl (by decide) f_Rd_53 rfl ?_
    refine go_if_ne (tgt := 28) d_Rd_take_12 (by decide) (fun hc => ?_) (fun hc => ?_)
    · rw [if_neg hc] at h
      exact go_lv [0] rfl (j_Rd_take_28 l d0 I h)
    · rw [if_pos hc] at h
      refine go_aload_n (k := 0) d_Rd_take_15 rfl rfl ?_
      refine go_dup d_Rd_take_16 ?_
      refine go_geti (ci := 9) (k := 6) d_Rd_take_17 a_X_111 rfl (by decide) f_Rd_80 rfl ?_
      refine go_iconst (v := 1) d_Rd_take_20 (by decide) ?_
      refine go_iadd d_Rd_take_21 ?_
      obtain ⟨I3, eI3, h⟩ := fstf_e h
      refine go_putT (ci := 9) (k := 6) (I' := I3) d_Rd_take_22 a_X_111 rfl (by decide) f_Rd_80 rfl rfl rfl rfl rfl eI3 ?_
      refine go_goto (tgt := 33) d_Rd_take_25 (by decide) ?_
      cases h
      exact go_return d_Rd_take_33 rfl gb_po_i
theorem d_Rd_takeNumber_0 : decode yRd_takeNumber.2.1 0 = .ok (.aload_n 0, 1) := by decide +kernel
theorem d_Rd_takeNumber_1 : decode yRd_takeNumber.2.1 1 = .ok (.invokevirtual 62, 3) := by decide +kernel
theorem d_Rd_takeNumber_4 : decode yRd_takeNumber.2.1 4 = .ok (.sipush 1000, 3) := by decide +kernel
theorem d_Rd_takeNumber_7 : decode yRd_takeNumber.2.1 7 = .ok (.isub, 1) := by decide +kernel
theorem d_Rd_takeNumber_8 : decode yRd_takeNumber.2.1 8 = .ok (.istore_n 3, 1) := by decide +kernel
theorem d_Rd_takeNumber_9 : decode yRd_takeNumber.2.1 9 = .ok (.iload_n 3, 1) := by decide +kernel
theorem d_Rd_takeNumber_10 : decode yRd_takeNumber.2.1 10 = .ok (.ifCond .ge 10, 3) := by decide +kernel
theorem d_Rd_takeNumber_13 : decode yRd_takeNumber.2.1 13 = .ok (.aload_n 0, 1) := by decide +kernel
theorem d_Rd_takeNumber_14 : decode yRd_takeNumber.2.1 14 = .ok (.iconst 1, 1) := by decide +kernel
theorem d_Rd_takeNumber_15 : decode yRd_takeNumber.2.1 15 = .ok (.invokevirtual 112, 3) := by decide +kernel
theorem d_Rd_takeNumber_18 : decode yRd_takeNumber.2.1 18 = .ok (.iconst 0, 1) := by decide +kernel
theorem d_Rd_takeNumber_19 : decode yRd_takeNumber.2.1 19 = .ok (.ireturn, 1) := by decide +kernel
theorem d_Rd_takeNumber_20 : decode yRd_takeNumber.2.1 20 = .ok (.iload_n 3, 1) := by decide +kernel
theorem d_Rd_takeNumber_21 : decode yRd_takeNumber.2.1 21 = .ok (.iload_n 1, 1) := by decide +kernel
theorem d_Rd_takeNumber_22 : decode yRd_takeNumber.2.1 22 = .ok (.iload_n 2, 1) := by decide +kernel
theorem d_Rd_takeNumber_23 : decode yRd_takeNumber.2.1 23 = .ok (.invokestatic 66, 3) := by decide +kernel
theorem d_Rd_takeNumber_26 : decode yRd_takeNumber.2.1 26 = .ok (.ifCond .ne 8, 3) := by decide +kernel
theorem d_Rd_takeNumber_29 : decode yRd_takeNumber.2.1 29 = .ok (.aload_n 0, 1) := by decide +kernel
theorem d_Rd_takeNumber_30 : decode yRd_takeNumber.2.1 30 = .ok (.iconst 2, 1) := by decide +kernel
theorem d_Rd_takeNumber_31 : decode yRd_takeNumber.2.1 31 = .ok (.invokevirtual 112, 3) := by decide +kernel
theorem d_Rd_takeNumber_34 : decode yRd_takeNumber.2.1 34 = .ok (.aload_n 0, 1) := by decide +kernel
theorem d_Rd_takeNumber_35 : decode yRd_takeNumber.2.1 35 = .ok (.getfield 53, 3) := by decide +kernel
theorem d_Rd_takeNumber_38 : decode yRd_takeNumber.2.1 38 = .ok (.ifCond .ne 13, 3) := by decide +kernel
theorem d_Rd_takeNumber_41 : decode yRd_takeNumber.2.1 41 = .ok (.aload_n 0, 1) := by decide +kernel
theorem d_Rd_takeNumber_42 : decode yRd_takeNumber.2.1 42 = .ok (.dup, 1) := by decide +kernel
theorem d_Rd_takeNumber_43 : decode yRd_takeNumber.2.1 43 = .ok (.getfield 80, 3) := by decide +kernel
theorem d_Rd_takeNumber_46 : decode yRd_takeNumber.2.1 46 = .ok (.iconst 1, 1) := by decide +kernel
theorem d_Rd_takeNumber_47 : decode yRd_takeNumber.2.1 47 = .ok (.iadd, 1) := by decide +kernel
theorem d_Rd_takeNumber_48 : decode yRd_takeNumber.2.1 48 = .ok (.putfield 80, 3) := by decide +kernel
theorem d_Rd_takeNumber_51 : decode yRd_takeNumber.2.1 51 = .ok (.iload_n 3, 1) := by decide +kernel
theorem d_Rd_takeNumber_52 : decode yRd_takeNumber.2.1 52 = .ok (.ireturn, 1) := by decide +kernel
def J_Rd_takeNumber_34 (x3 : Int32) (I : gb_Mem) : Option (Int32 × gb_Mem) :=
  if (I 111 7) = 0 then
    fstf I 111 6 ((I 111 6) + 1) fun I2 =>
    some (x3, I2)
  else
    some (x3, I)
set_option maxRecDepth 4000 in
theorem j_Rd_takeNumber_34 (l : Launch) (d0 : Nat) (x3 : Int32) (I : gb_Mem) {rz : Int32} {Iz : gb_Mem} (h : J_Rd_takeNumber_34 x3 I = some (rz, Iz)) : gb_Go l yRd_takeNumber (d0 + 1) 0 0 34 [(0, .inr (some 111)), (3, .inl x3)] [] shX I (gb_po shX (some (.inl rz)) Iz) := by
  unfold J_Rd_takeNumber_34 at h
  refine go_aload_n (k := 0) d_Rd_takeNumber_34 rfl rfl ?_
  refine go_geti (ci := 9) (k := 7) d_Rd_takeNumber_35 a_X_111 rfl (by decide) f_Rd_53 rfl ?_
  refine go_if_ne (tgt := 51) d_Rd_takeNumber_38 (by decide) (fun hc => ?_) (fun hc => ?_)
  · rw [if_neg hc] at h
    refine go_iload_n (k := 1) d_Rd_takeNumber_51 rfl rfl ?_
    cases h
    exact go_ireturn d_Rd_takeNumber_52 rfl gb_po_i
  · rw [if_pos hc] at h
    refine go_aload_n (k := 0) d_Rd_takeNumber_41 rfl rfl ?_
    refine go_dup d_Rd_takeNumber_42 ?_
    refine go_geti (ci := 9) (k := 6) d_Rd_takeNumber_43 a_X_111 rfl (by decide) f_Rd_80 rfl ?_
    refine go_iconst (v := 1) d_Rd_takeNumber_46 (by decide) ?_
    refine go_iadd d_Rd_takeNumber_47 ?_
    obtain ⟨I2, eI2, h⟩ := fstf_e h
    refine go_putT (ci := 9) (k := 6) (I' := I2) d_Rd_takeNumber_48 a_X_111 rfl (by decide) f_Rd_80 rfl rfl rfl rfl rfl eI2 ?_
    refine go_iload_n (k := 1) d_Rd_takeNumber_51 rfl rfl ?_
    cases h
    exact go_ireturn d_Rd_takeNumber_52 rfl gb_po_i
def F_Rd_takeNumber (x1 x2 : Int32) (I : gb_Mem) : Option (Int32 × gb_Mem) :=
  fbd (F_Rd_now  I) fun r1 =>
  if 0 ≤ (r1 - 1000) then
    if (F_Gb_within (r1 - 1000) x1 x2 I) = 0 then
      fbd (F_Rd_refuse 2 I) fun I3 =>
      J_Rd_takeNumber_34 (r1 - 1000) I3
    else
      J_Rd_takeNumber_34 (r1 - 1000) I
  else
    fbd (F_Rd_refuse 1 I) fun I4 =>
    some (0, I4)
set_option maxRecDepth 4000 in
theorem c_Rd_takeNumber (l : Launch) (d0 : Nat) (x1 x2 : Int32) (I : gb_Mem) {rz : Int32} {Iz : gb_Mem} (h : F_Rd_takeNumber x1 x2 I = some (rz, Iz)) : gb_Cs l yRd_takeNumber (d0 + 1) [.inr (some 111), .inl x1, .inl x2] shX I (some (.inl rz)) Iz := by
  refine gb_Ct.of (lv := [(0, .inr (some 111)), (1, .inl x1), (2, .inl x2)]) rfl (Nat.le_of_ble_eq_true rfl) rfl ?_
  unfold F_Rd_takeNumber at h
  show gb_Go l yRd_takeNumber (d0 + 1) 0 0 0 [(0, .inr (some 111)), (1, .inl x1), (2, .inl x2)] [] shX I (gb_po shX (some (.inl rz)) Iz)
  refine go_aload_n (k := 0) d_Rd_takeNumber_0 rfl rfl ?_
  obtain ⟨r1, w1, h⟩ := fbd_e h
  refine go_callV (y := yRd_now) (asr := []) (v := some (.inl r1)) (I' := I) (st1 := [.inl r1]) d_Rd_takeNumber_1 s_yRd_now m_Rd_62 a_X_111 rfl rfl rfl (Nat.le_of_ble_eq_true rfl) rfl rfl (c_Rd_now l (d0 + 0)  I w1) ?_
  refine go_sipush (v := 1000) d_Rd_takeNumber_4 (by decide) ?_
  refine go_isub d_Rd_takeNumber_7 ?_
  refine go_istore_n (lv' := [(3, .inl (r1 - 1000)), (0, .inr (some 111)), (1, .inl x1), (2, .inl x2)]) d_Rd_takeNumber_8 rfl (by decide) rfl ?_
  refine go_iload_n (k := 0) d_Rd_takeNumber_9 rfl rfl ?_
  refine go_if_ge (tgt := 20) d_Rd_takeNumber_10 (by decide) (fun hc => ?_) (fun hc => ?_)
  · rw [if_pos hc] at h
    refine go_iload_n (k := 0) d_Rd_takeNumber_20 rfl rfl ?_
    refine go_iload_n (k := 2) d_Rd_takeNumber_21 rfl rfl ?_
    refine go_iload_n (k := 3) d_Rd_takeNumber_22 rfl rfl ?_
    refine go_callSN (y := yGb_within) (asr := [.inl (r1 - 1000), .inl x1, .inl x2]) (v := some (.inl (F_Gb_within (r1 - 1000) x1 x2 I))) (I' := I) (st1 := [.inl (F_Gb_within (r1 - 1000) x1 x2 I)]) d_Rd_takeNumber_23 s_yGb_within m_Rd_66 rfl (Nat.le_of_ble_eq_true rfl) rfl rfl (c_Gb_within l (d0 + 0) (r1 - 1000) x1 x2 I) ?_
    refine go_if_ne (tgt := 34) d_Rd_takeNumber_26 (by decide) (fun hc => ?_) (fun hc => ?_)
    · rw [if_neg hc] at h
      exact go_lv [1, 0] rfl (j_Rd_takeNumber_34 l d0 (r1 - 1000) I h)
    · rw [if_pos hc] at h
      refine go_aload_n (k := 1) d_Rd_takeNumber_29 rfl rfl ?_
      refine go_iconst (v := 2) d_Rd_takeNumber_30 (by decide) ?_
      obtain ⟨I3, w1, h⟩ := fbd_e h
      refine go_callV (y := yRd_refuse) (asr := [.inl 2]) (v := none) (I' := I3) (st1 := []) d_Rd_takeNumber_31 s_yRd_refuse m_Rd_112 a_X_111 rfl rfl rfl (Nat.le_of_ble_eq_true rfl) rfl rfl (c_Rd_refuse l (d0 + 0) 2 I w1) ?_
      exact go_lv [1, 0] rfl (j_Rd_takeNumber_34 l d0 (r1 - 1000) I3 h)
  · rw [if_neg hc] at h
    refine go_aload_n (k := 1) d_Rd_takeNumber_13 rfl rfl ?_
    refine go_iconst (v := 1) d_Rd_takeNumber_14 (by decide) ?_
    obtain ⟨I4, w1, h⟩ := fbd_e h
    refine go_callV (y := yRd_refuse) (asr := [.inl 1]) (v := none) (I' := I4) (st1 := []) d_Rd_takeNumber_15 s_yRd_refuse m_Rd_112 a_X_111 rfl rfl rfl (Nat.le_of_ble_eq_true rfl) rfl rfl (c_Rd_refuse l (d0 + 0) 1 I w1) ?_
    refine go_iconst (v := 0) d_Rd_takeNumber_18 (by decide) ?_
    cases h
    exact go_ireturn d_Rd_takeNumber_19 rfl gb_po_i
theorem d_Re_gridAt_0 : decode yRe_gridAt.2.1 0 = .ok (.iload_n 1, 1) := by decide +kernel
theorem d_Re_gridAt_1 : decode yRe_gridAt.2.1 1 = .ok (.iconst 0, 1) := by decide +kernel
theorem d_Re_gridAt_2 : decode yRe_gridAt.2.1 2 = .ok (.bipush 12, 2) := by decide +kernel
theorem d_Re_gridAt_4 : decode yRe_gridAt.2.1 4 = .ok (.invokestatic 46, 3) := by decide +kernel
theorem d_Re_gridAt_7 : decode yRe_gridAt.2.1 7 = .ok (.ifCond .eq 27, 3) := by decide +kernel
theorem d_Re_gridAt_10 : decode yRe_gridAt.2.1 10 = .ok (.iload_n 2, 1) := by decide +kernel
theorem d_Re_gridAt_11 : decode yRe_gridAt.2.1 11 = .ok (.iconst 0, 1) := by decide +kernel
theorem d_Re_gridAt_12 : decode yRe_gridAt.2.1 12 = .ok (.bipush 12, 2) := by decide +kernel
theorem d_Re_gridAt_14 : decode yRe_gridAt.2.1 14 = .ok (.invokestatic 46, 3) := by decide +kernel
theorem d_Re_gridAt_17 : decode yRe_gridAt.2.1 17 = .ok (.ifCond .eq 17, 3) := by decide +kernel
theorem d_Re_gridAt_20 : decode yRe_gridAt.2.1 20 = .ok (.aload_n 0, 1) := by decide +kernel
theorem d_Re_gridAt_21 : decode yRe_gridAt.2.1 21 = .ok (.getfield 9, 3) := by decide +kernel
theorem d_Re_gridAt_24 : decode yRe_gridAt.2.1 24 = .ok (.iload_n 1, 1) := by decide +kernel
theorem d_Re_gridAt_25 : decode yRe_gridAt.2.1 25 = .ok (.bipush 13, 2) := by decide +kernel
theorem d_Re_gridAt_27 : decode yRe_gridAt.2.1 27 = .ok (.imul, 1) := by decide +kernel
theorem d_Re_gridAt_28 : decode yRe_gridAt.2.1 28 = .ok (.iload_n 2, 1) := by decide +kernel
theorem d_Re_gridAt_29 : decode yRe_gridAt.2.1 29 = .ok (.iadd, 1) := by decide +kernel
theorem d_Re_gridAt_30 : decode yRe_gridAt.2.1 30 = .ok (.iaload, 1) := by decide +kernel
theorem d_Re_gridAt_31 : decode yRe_gridAt.2.1 31 = .ok (.goto 4, 3) := by decide +kernel
theorem d_Re_gridAt_34 : decode yRe_gridAt.2.1 34 = .ok (.iconst 0, 1) := by decide +kernel
theorem d_Re_gridAt_35 : decode yRe_gridAt.2.1 35 = .ok (.ireturn, 1) := by decide +kernel
def F_Re_gridAt (x1 x2 : Int32) (I : gb_Mem) : Option (Int32) :=
  if (F_Gb_within x1 0 12 I) = 0 then
    some 0
  else
    if (F_Gb_within x2 0 12 I) = 0 then
      some 0
    else
      flod I 107 169 ((x1 * 13) + x2) fun v1 =>
      some v1
set_option maxRecDepth 4000 in
theorem c_Re_gridAt (l : Launch) (d0 : Nat) (x1 x2 : Int32) (I : gb_Mem) {rz : Int32} (h : F_Re_gridAt x1 x2 I = some rz) : gb_Cs l yRe_gridAt (d0 + 1) [.inr (some 106), .inl x1, .inl x2] shX I (some (.inl rz)) I := by
  refine gb_Ct.of (lv := [(0, .inr (some 106)), (1, .inl x1), (2, .inl x2)]) rfl (Nat.le_of_ble_eq_true rfl) rfl ?_
  unfold F_Re_gridAt at h
  show gb_Go l yRe_gridAt (d0 + 1) 0 0 0 [(0, .inr (some 106)), (1, .inl x1), (2, .inl x2)] [] shX I (gb_po shX (some (.inl rz)) I)
  refine go_iload_n (k := 1) d_Re_gridAt_0 rfl rfl ?_
  refine go_iconst (v := 0) d_Re_gridAt_1 (by decide) ?_
  refine go_bipush (v := 12) d_Re_gridAt_2 (by decide) ?_
  refine go_callSN (y := yGb_within) (asr := [.inl x1, .inl 0, .inl 12]) (v := some (.inl (F_Gb_within x1 0 12 I))) (I' := I) (st1 := [.inl (F_Gb_within x1 0 12 I)]) d_Re_gridAt_4 s_yGb_within m_Re_46 rfl (Nat.le_of_ble_eq_true rfl) rfl rfl (c_Gb_within l (d0 + 0) x1 0 12 I) ?_
  refine go_if_eq (tgt := 34) d_Re_gridAt_7 (by decide) (fun hc => ?_) (fun hc => ?_)
  · rw [if_pos hc] at h
    refine go_iconst (v := 0) d_Re_gridAt_34 (by decide) ?_
    cases h
    exact go_ireturn d_Re_gridAt_35 rfl gb_po_i
  · rw [if_neg hc] at h
    refine go_iload_n (k := 2) d_Re_gridAt_10 rfl rfl ?_
    refine go_iconst (v := 0) d_Re_gridAt_11 (by decide) ?_
    refine go_bipush (v := 12) d_Re_gridAt_12 (by decide) ?_
    refine go_callSN (y := yGb_within) (asr := [.inl x2, .inl 0, .inl 12]) (v := some (.inl (F_Gb_within x2 0 12 I))) (I' := I) (st1 := [.inl (F_Gb_within x2 0 12 I)]) d_Re_gridAt_14 s_yGb_within m_Re_46 rfl (Nat.le_of_ble_eq_true rfl) rfl rfl (c_Gb_within l (d0 + 0) x2 0 12 I) ?_
    refine go_if_eq (tgt := 34) d_Re_gridAt_17 (by decide) (fun hc => ?_) (fun hc => ?_)
    · rw [if_pos hc] at h
      refine go_iconst (v := 0) d_Re_gridAt_34 (by decide) ?_
      cases h
      exact go_ireturn d_Re_gridAt_35 rfl gb_po_i
    · rw [if_neg hc] at h
      refine go_aload_n (k := 0) d_Re_gridAt_20 rfl rfl ?_
      refine go_getr (ci := 8) (k := 0) (r := 107) d_Re_gridAt_21 a_X_106 rfl (by decide) f_Re_9 rfl ?_
      refine go_iload_n (k := 1) d_Re_gridAt_24 rfl rfl ?_
      refine go_bipush (v := 13) d_Re_gridAt_25 (by decide) ?_
      refine go_imul d_Re_gridAt_27 ?_
      refine go_iload_n (k := 2) d_Re_gridAt_28 rfl rfl ?_
      refine go_iadd d_Re_gridAt_29 ?_
      obtain ⟨hi, v1, ev1, h⟩ := flod_e h
      refine go_iald2 d_Re_gridAt_30 a_X_107 hi ev1 ?_
      refine go_goto (tgt := 35) d_Re_gridAt_31 (by decide) ?_
      cases h
      exact go_ireturn d_Re_gridAt_35 rfl gb_po_i
