theorem d_Re_lumpings_0 : decode yRe_lumpings.2.1 0 = .ok (.iconst 0, 1) := by decide +kernel
theorem d_Re_lumpings_1 : decode yRe_lumpings.2.1 1 = .ok (.istore 4, 2) := by decide +kernel
theorem d_Re_lumpings_3 : decode yRe_lumpings.2.1 3 = .ok (.iload 4, 2) := by decide +kernel
theorem d_Re_lumpings_5 : decode yRe_lumpings.2.1 5 = .ok (.aload_n 0, 1) := by decide +kernel
theorem d_Re_lumpings_6 : decode yRe_lumpings.2.1 6 = .ok (.getfield 9, 3) := by decide +kernel
theorem d_Re_lumpings_9 : decode yRe_lumpings.2.1 9 = .ok (.arraylength, 1) := by decide +kernel
theorem d_Re_lumpings_10 : decode yRe_lumpings.2.1 10 = .ok (.if_icmp .ge 26, 3) := by decide +kernel
theorem d_Re_lumpings_13 : decode yRe_lumpings.2.1 13 = .ok (.aload_n 0, 1) := by decide +kernel
theorem d_Re_lumpings_14 : decode yRe_lumpings.2.1 14 = .ok (.getfield 9, 3) := by decide +kernel
theorem d_Re_lumpings_17 : decode yRe_lumpings.2.1 17 = .ok (.iload 4, 2) := by decide +kernel
theorem d_Re_lumpings_19 : decode yRe_lumpings.2.1 19 = .ok (.iload 4, 2) := by decide +kernel
theorem d_Re_lumpings_21 : decode yRe_lumpings.2.1 21 = .ok (.ifCond .ne 7, 3) := by decide +kernel
theorem d_Re_lumpings_24 : decode yRe_lumpings.2.1 24 = .ok (.iconst 1, 1) := by decide +kernel
theorem d_Re_lumpings_25 : decode yRe_lumpings.2.1 25 = .ok (.goto 4, 3) := by decide +kernel
theorem d_Re_lumpings_28 : decode yRe_lumpings.2.1 28 = .ok (.iconst 0, 1) := by decide +kernel
theorem d_Re_lumpings_29 : decode yRe_lumpings.2.1 29 = .ok (.iastore, 1) := by decide +kernel
theorem d_Re_lumpings_30 : decode yRe_lumpings.2.1 30 = .ok (.iinc 4 1, 3) := by decide +kernel
theorem d_Re_lumpings_33 : decode yRe_lumpings.2.1 33 = .ok (.goto (-30), 3) := by decide +kernel
theorem d_Re_lumpings_36 : decode yRe_lumpings.2.1 36 = .ok (.iconst 1, 1) := by decide +kernel
theorem d_Re_lumpings_37 : decode yRe_lumpings.2.1 37 = .ok (.istore 4, 2) := by decide +kernel
theorem d_Re_lumpings_39 : decode yRe_lumpings.2.1 39 = .ok (.iload 4, 2) := by decide +kernel
theorem d_Re_lumpings_41 : decode yRe_lumpings.2.1 41 = .ok (.iload_n 2, 1) := by decide +kernel
theorem d_Re_lumpings_42 : decode yRe_lumpings.2.1 42 = .ok (.if_icmp .gt 88, 3) := by decide +kernel
theorem d_Re_lumpings_45 : decode yRe_lumpings.2.1 45 = .ok (.iload 4, 2) := by decide +kernel
theorem d_Re_lumpings_47 : decode yRe_lumpings.2.1 47 = .ok (.istore 5, 2) := by decide +kernel
theorem d_Re_lumpings_49 : decode yRe_lumpings.2.1 49 = .ok (.iload 5, 2) := by decide +kernel
theorem d_Re_lumpings_51 : decode yRe_lumpings.2.1 51 = .ok (.iload_n 1, 1) := by decide +kernel
theorem d_Re_lumpings_52 : decode yRe_lumpings.2.1 52 = .ok (.if_icmp .gt 72, 3) := by decide +kernel
theorem d_Re_lumpings_55 : decode yRe_lumpings.2.1 55 = .ok (.iload_n 3, 1) := by decide +kernel
theorem d_Re_lumpings_56 : decode yRe_lumpings.2.1 56 = .ok (.ifCond .eq 13, 3) := by decide +kernel
theorem d_Re_lumpings_59 : decode yRe_lumpings.2.1 59 = .ok (.iload_n 1, 1) := by decide +kernel
theorem d_Re_lumpings_60 : decode yRe_lumpings.2.1 60 = .ok (.iload 4, 2) := by decide +kernel
theorem d_Re_lumpings_62 : decode yRe_lumpings.2.1 62 = .ok (.iadd, 1) := by decide +kernel
theorem d_Re_lumpings_63 : decode yRe_lumpings.2.1 63 = .ok (.iload 5, 2) := by decide +kernel
theorem d_Re_lumpings_65 : decode yRe_lumpings.2.1 65 = .ok (.isub, 1) := by decide +kernel
theorem d_Re_lumpings_66 : decode yRe_lumpings.2.1 66 = .ok (.goto 5, 3) := by decide +kernel
theorem d_Re_lumpings_69 : decode yRe_lumpings.2.1 69 = .ok (.iload 5, 2) := by decide +kernel
theorem d_Re_lumpings_71 : decode yRe_lumpings.2.1 71 = .ok (.istore 6, 2) := by decide +kernel
theorem d_Re_lumpings_73 : decode yRe_lumpings.2.1 73 = .ok (.iload 6, 2) := by decide +kernel
theorem d_Re_lumpings_75 : decode yRe_lumpings.2.1 75 = .ok (.iload 4, 2) := by decide +kernel
theorem d_Re_lumpings_77 : decode yRe_lumpings.2.1 77 = .ok (.aload_n 0, 1) := by decide +kernel
theorem d_Re_lumpings_78 : decode yRe_lumpings.2.1 78 = .ok (.getfield 9, 3) := by decide +kernel
theorem d_Re_lumpings_81 : decode yRe_lumpings.2.1 81 = .ok (.arraylength, 1) := by decide +kernel
theorem d_Re_lumpings_82 : decode yRe_lumpings.2.1 82 = .ok (.iconst 1, 1) := by decide +kernel
theorem d_Re_lumpings_83 : decode yRe_lumpings.2.1 83 = .ok (.isub, 1) := by decide +kernel
theorem d_Re_lumpings_84 : decode yRe_lumpings.2.1 84 = .ok (.invokestatic 46, 3) := by decide +kernel
theorem d_Re_lumpings_87 : decode yRe_lumpings.2.1 87 = .ok (.ifCond .eq 31, 3) := by decide +kernel
theorem d_Re_lumpings_90 : decode yRe_lumpings.2.1 90 = .ok (.aload_n 0, 1) := by decide +kernel
theorem d_Re_lumpings_91 : decode yRe_lumpings.2.1 91 = .ok (.getfield 9, 3) := by decide +kernel
theorem d_Re_lumpings_94 : decode yRe_lumpings.2.1 94 = .ok (.iload 6, 2) := by decide +kernel
theorem d_Re_lumpings_96 : decode yRe_lumpings.2.1 96 = .ok (.aload_n 0, 1) := by decide +kernel
theorem d_Re_lumpings_97 : decode yRe_lumpings.2.1 97 = .ok (.getfield 9, 3) := by decide +kernel
theorem d_Re_lumpings_100 : decode yRe_lumpings.2.1 100 = .ok (.iload 6, 2) := by decide +kernel
theorem d_Re_lumpings_102 : decode yRe_lumpings.2.1 102 = .ok (.iaload, 1) := by decide +kernel
theorem d_Re_lumpings_103 : decode yRe_lumpings.2.1 103 = .ok (.aload_n 0, 1) := by decide +kernel
theorem d_Re_lumpings_104 : decode yRe_lumpings.2.1 104 = .ok (.getfield 9, 3) := by decide +kernel
theorem d_Re_lumpings_107 : decode yRe_lumpings.2.1 107 = .ok (.iload 6, 2) := by decide +kernel
theorem d_Re_lumpings_109 : decode yRe_lumpings.2.1 109 = .ok (.iload 4, 2) := by decide +kernel
theorem d_Re_lumpings_111 : decode yRe_lumpings.2.1 111 = .ok (.isub, 1) := by decide +kernel
theorem d_Re_lumpings_112 : decode yRe_lumpings.2.1 112 = .ok (.iaload, 1) := by decide +kernel
theorem d_Re_lumpings_113 : decode yRe_lumpings.2.1 113 = .ok (.iadd, 1) := by decide +kernel
theorem d_Re_lumpings_114 : decode yRe_lumpings.2.1 114 = .ok (.ldc 56, 2) := by decide +kernel
theorem d_Re_lumpings_116 : decode yRe_lumpings.2.1 116 = .ok (.irem, 1) := by decide +kernel
theorem d_Re_lumpings_117 : decode yRe_lumpings.2.1 117 = .ok (.iastore, 1) := by decide +kernel
theorem d_Re_lumpings_118 : decode yRe_lumpings.2.1 118 = .ok (.iinc 5 1, 3) := by decide +kernel
theorem d_Re_lumpings_121 : decode yRe_lumpings.2.1 121 = .ok (.goto (-72), 3) := by decide +kernel
theorem d_Re_lumpings_124 : decode yRe_lumpings.2.1 124 = .ok (.iinc 4 1, 3) := by decide +kernel
theorem d_Re_lumpings_127 : decode yRe_lumpings.2.1 127 = .ok (.goto (-88), 3) := by decide +kernel
theorem d_Re_lumpings_130 : decode yRe_lumpings.2.1 130 = .ok (.iload_n 1, 1) := by decide +kernel
theorem d_Re_lumpings_131 : decode yRe_lumpings.2.1 131 = .ok (.iconst 0, 1) := by decide +kernel
theorem d_Re_lumpings_132 : decode yRe_lumpings.2.1 132 = .ok (.aload_n 0, 1) := by decide +kernel
theorem d_Re_lumpings_133 : decode yRe_lumpings.2.1 133 = .ok (.getfield 9, 3) := by decide +kernel
theorem d_Re_lumpings_136 : decode yRe_lumpings.2.1 136 = .ok (.arraylength, 1) := by decide +kernel
theorem d_Re_lumpings_137 : decode yRe_lumpings.2.1 137 = .ok (.iconst 1, 1) := by decide +kernel
theorem d_Re_lumpings_138 : decode yRe_lumpings.2.1 138 = .ok (.isub, 1) := by decide +kernel
theorem d_Re_lumpings_139 : decode yRe_lumpings.2.1 139 = .ok (.invokestatic 46, 3) := by decide +kernel
theorem d_Re_lumpings_142 : decode yRe_lumpings.2.1 142 = .ok (.ifCond .eq 12, 3) := by decide +kernel
theorem d_Re_lumpings_145 : decode yRe_lumpings.2.1 145 = .ok (.aload_n 0, 1) := by decide +kernel
theorem d_Re_lumpings_146 : decode yRe_lumpings.2.1 146 = .ok (.getfield 9, 3) := by decide +kernel
theorem d_Re_lumpings_149 : decode yRe_lumpings.2.1 149 = .ok (.iload_n 1, 1) := by decide +kernel
theorem d_Re_lumpings_150 : decode yRe_lumpings.2.1 150 = .ok (.iaload, 1) := by decide +kernel
theorem d_Re_lumpings_151 : decode yRe_lumpings.2.1 151 = .ok (.goto 4, 3) := by decide +kernel
theorem d_Re_lumpings_154 : decode yRe_lumpings.2.1 154 = .ok (.iconst 0, 1) := by decide +kernel
theorem d_Re_lumpings_155 : decode yRe_lumpings.2.1 155 = .ok (.ireturn, 1) := by decide +kernel
def J_Re_lumpings_29 (k : Int32 → gb_Mem → Option (gb_Mem)) (x1 x2 x3 x4 s0 s1 : Int32) (I : gb_Mem) : Option (gb_Mem) :=
  fsto I 107 169 s1 s0 fun I1 =>
  k (x4 + 1) I1
set_option maxRecDepth 4000 in
theorem j_Re_lumpings_29 (l : Launch) (d0 : Nat) {post : Option gb_AV → List gb_Ce → gb_Mem → Prop} (k : Int32 → gb_Mem → Option (gb_Mem)) (x1 x2 x3 x4 s0 s1 : Int32) (I : gb_Mem) {ρ : gb_Mem} (h : J_Re_lumpings_29 k x1 x2 x3 x4 s0 s1 I = some ρ) (hk : ∀ (z4 : Int32) (Iw : gb_Mem), k z4 Iw = some ρ → gb_Go l yRe_lumpings (d0 + 1) 0 0 3 [(0, .inr (some 106)), (1, .inl x1), (2, .inl x2), (3, .inl x3), (4, .inl z4)] [] shX Iw post) (hX : ∀ (I2 : gb_Mem), ρ = I2 → gb_Go l yRe_lumpings (d0 + 1) 0 0 36 [(0, .inr (some 106)), (1, .inl x1), (2, .inl x2), (3, .inl x3)] [] shX I2 post) : gb_Go l yRe_lumpings (d0 + 1) 0 0 29 [(0, .inr (some 106)), (1, .inl x1), (2, .inl x2), (3, .inl x3), (4, .inl x4)] [.inl s0, .inl s1, .inr (some 107)] shX I post := by
  unfold J_Re_lumpings_29 at h
  obtain ⟨hi, I1, eI1, h⟩ := fsto_e h
  refine go_iast (I' := I1) d_Re_lumpings_29 a_X_107 hi eI1 ?_
  refine go_iinc (k := 4) (v := x4 + 1) (lv' := [(4, .inl (x4 + 1)), (0, .inr (some 106)), (1, .inl x1), (2, .inl x2), (3, .inl x3)]) d_Re_lumpings_30 rfl rfl (by decide) rfl ?_
  refine go_goto (tgt := 3) d_Re_lumpings_33 (by decide) ?_
  exact go_lv [1, 2, 3, 4, 0] rfl (hk _ _ h)
def L_Re_lumpings_3 (x1 x2 x3 : Int32) : Nat → Int32 → gb_Mem → Option (gb_Mem)
  | 0, _, _ => none
  | n + 1, x4, I =>
    if 169 ≤ x4 then
      some I
    else
      if x4 = 0 then
        J_Re_lumpings_29 (L_Re_lumpings_3 x1 x2 x3 n) x1 x2 x3 x4 1 x4 I
      else
        J_Re_lumpings_29 (L_Re_lumpings_3 x1 x2 x3 n) x1 x2 x3 x4 0 x4 I
set_option maxRecDepth 4000 in
theorem l_Re_lumpings_3 (l : Launch) (d0 : Nat) (x1 x2 x3 : Int32) {post : Option gb_AV → List gb_Ce → gb_Mem → Prop} : ∀ (n : Nat) (x4 : Int32) (I : gb_Mem) {ρ : gb_Mem} (h : L_Re_lumpings_3 x1 x2 x3 n x4 I = some ρ) (hX : ∀ (I2 : gb_Mem), ρ = I2 → gb_Go l yRe_lumpings (d0 + 1) 0 0 36 [(0, .inr (some 106)), (1, .inl x1), (2, .inl x2), (3, .inl x3)] [] shX I2 post) , gb_Go l yRe_lumpings (d0 + 1) 0 0 3 [(0, .inr (some 106)), (1, .inl x1), (2, .inl x2), (3, .inl x3), (4, .inl x4)] [] shX I post := by
  intro n
  induction n with
  | zero => intro x4 I ρ h hX; cases h
  | succ n ih =>
    intro x4 I ρ h hX
    rw [L_Re_lumpings_3] at h
    refine go_iload (k := 4) d_Re_lumpings_3 rfl ?_
    refine go_aload_n (k := 0) d_Re_lumpings_5 rfl rfl ?_
    refine go_getr (ci := 8) (k := 0) (r := 107) d_Re_lumpings_6 a_X_106 rfl (by decide) f_Re_9 rfl ?_
    refine go_alen d_Re_lumpings_9 a_X_107 ?_
    refine go_top (v := 169) rfl ?_
    refine go_cmp_ge (tgt := 36) d_Re_lumpings_10 (by decide) (fun hc => ?_) (fun hc => ?_)
    · rw [if_pos hc] at h
      exact go_lv [0, 1, 2, 3] rfl (hX _ (Option.some.inj h).symm)
    · rw [if_neg hc] at h
      refine go_aload_n (k := 0) d_Re_lumpings_13 rfl rfl ?_
      refine go_getr (ci := 8) (k := 0) (r := 107) d_Re_lumpings_14 a_X_106 rfl (by decide) f_Re_9 rfl ?_
      refine go_iload (k := 4) d_Re_lumpings_17 rfl ?_
      refine go_iload (k := 4) d_Re_lumpings_19 rfl ?_
      refine go_if_ne (tgt := 28) d_Re_lumpings_21 (by decide) (fun hc => ?_) (fun hc => ?_)
      · rw [if_neg hc] at h
        refine go_iconst (v := 0) d_Re_lumpings_28 (by decide) ?_
        exact go_lv [0, 1, 2, 3, 4] rfl (j_Re_lumpings_29 l d0 (L_Re_lumpings_3 x1 x2 x3 n) x1 x2 x3 x4 0 x4 I h (fun z4 Iw hh => ih z4 Iw hh hX) hX)
      · rw [if_pos hc] at h
        refine go_iconst (v := 1) d_Re_lumpings_24 (by decide) ?_
        refine go_goto (tgt := 29) d_Re_lumpings_25 (by decide) ?_
        exact go_lv [0, 1, 2, 3, 4] rfl (j_Re_lumpings_29 l d0 (L_Re_lumpings_3 x1 x2 x3 n) x1 x2 x3 x4 1 x4 I h (fun z4 Iw hh => ih z4 Iw hh hX) hX)
def J_Re_lumpings_118 (k : Int32 → gb_Mem → Option (gb_Mem)) (x1 x2 x3 x4 x5 : Int32) (I : gb_Mem) : Option (gb_Mem) :=
  k (x5 + 1) I
set_option maxRecDepth 4000 in
theorem j_Re_lumpings_118 (l : Launch) (d0 : Nat) {post : Option gb_AV → List gb_Ce → gb_Mem → Prop} (k : Int32 → gb_Mem → Option (gb_Mem)) (x1 x2 x3 x4 x5 : Int32) (I : gb_Mem) {ρ : gb_Mem} (h : J_Re_lumpings_118 k x1 x2 x3 x4 x5 I = some ρ) (hk : ∀ (z5 : Int32) (Iw : gb_Mem), k z5 Iw = some ρ → gb_Go l yRe_lumpings (d0 + 1) 0 0 49 [(0, .inr (some 106)), (1, .inl x1), (2, .inl x2), (3, .inl x3), (4, .inl x4), (5, .inl z5)] [] shX Iw post) (hX : ∀ (I2 : gb_Mem), ρ = I2 → gb_Go l yRe_lumpings (d0 + 1) 0 0 124 [(0, .inr (some 106)), (1, .inl x1), (2, .inl x2), (3, .inl x3), (4, .inl x4)] [] shX I2 post) : gb_Go l yRe_lumpings (d0 + 1) 0 0 118 [(0, .inr (some 106)), (1, .inl x1), (2, .inl x2), (3, .inl x3), (4, .inl x4), (5, .inl x5)] [] shX I post := by
  unfold J_Re_lumpings_118 at h
  refine go_iinc (k := 5) (v := x5 + 1) (lv' := [(5, .inl (x5 + 1)), (0, .inr (some 106)), (1, .inl x1), (2, .inl x2), (3, .inl x3), (4, .inl x4)]) d_Re_lumpings_118 rfl rfl (by decide) rfl ?_
  refine go_goto (tgt := 49) d_Re_lumpings_121 (by decide) ?_
  exact go_lv [1, 2, 3, 4, 5, 0] rfl (hk _ _ h)
def J_Re_lumpings_71 (k : Int32 → gb_Mem → Option (gb_Mem)) (x1 x2 x3 x4 x5 s0 : Int32) (I : gb_Mem) : Option (gb_Mem) :=
  if (F_Gb_within s0 x4 (169 - 1) I) = 0 then
    J_Re_lumpings_118 k x1 x2 x3 x4 x5 I
  else
    flod I 107 169 s0 fun v3 =>
    flod I 107 169 (s0 - x4) fun v4 =>
    fsto I 107 169 s0 ((v3 + v4) - (v3 + v4) / 1000000007 * 1000000007) fun I5 =>
    J_Re_lumpings_118 k x1 x2 x3 x4 x5 I5
set_option maxRecDepth 4000 in
theorem j_Re_lumpings_71 (l : Launch) (d0 : Nat) {post : Option gb_AV → List gb_Ce → gb_Mem → Prop} (k : Int32 → gb_Mem → Option (gb_Mem)) (x1 x2 x3 x4 x5 s0 : Int32) (I : gb_Mem) {ρ : gb_Mem} (h : J_Re_lumpings_71 k x1 x2 x3 x4 x5 s0 I = some ρ) (hk : ∀ (z5 : Int32) (Iw : gb_Mem), k z5 Iw = some ρ → gb_Go l yRe_lumpings (d0 + 1) 0 0 49 [(0, .inr (some 106)), (1, .inl x1), (2, .inl x2), (3, .inl x3), (4, .inl x4), (5, .inl z5)] [] shX Iw post) (hX : ∀ (I2 : gb_Mem), ρ = I2 → gb_Go l yRe_lumpings (d0 + 1) 0 0 124 [(0, .inr (some 106)), (1, .inl x1), (2, .inl x2), (3, .inl x3), (4, .inl x4)] [] shX I2 post) : gb_Go l yRe_lumpings (d0 + 1) 0 0 71 [(0, .inr (some 106)), (1, .inl x1), (2, .inl x2), (3, .inl x3), (4, .inl x4), (5, .inl x5)] [.inl s0] shX I post := by
  unfold J_Re_lumpings_71 at h
  refine go_istore (lv' := [(6, .inl s0), (0, .inr (some 106)), (1, .inl x1), (2, .inl x2), (3, .inl x3), (4, .inl x4), (5, .inl x5)]) d_Re_lumpings_71 (by decide) rfl ?_
  refine go_iload (k := 0) d_Re_lumpings_73 rfl ?_
  refine go_iload (k := 5) d_Re_lumpings_75 rfl ?_
  refine go_aload_n (k := 1) d_Re_lumpings_77 rfl rfl ?_
  refine go_getr (ci := 8) (k := 0) (r := 107) d_Re_lumpings_78 a_X_106 rfl (by decide) f_Re_9 rfl ?_
  refine go_alen d_Re_lumpings_81 a_X_107 ?_
  refine go_top (v := 169) rfl ?_
  refine go_iconst (v := 1) d_Re_lumpings_82 (by decide) ?_
  refine go_isub d_Re_lumpings_83 ?_
  refine go_callSN (y := yGb_within) (asr := [.inl s0, .inl x4, .inl (169 - 1)]) (v := some (.inl (F_Gb_within s0 x4 (169 - 1) I))) (I' := I) (st1 := [.inl (F_Gb_within s0 x4 (169 - 1) I)]) d_Re_lumpings_84 s_yGb_within m_Re_46 rfl (Nat.le_of_ble_eq_true rfl) rfl rfl (c_Gb_within l (d0 + 0) s0 x4 (169 - 1) I) ?_
  refine go_if_eq (tgt := 118) d_Re_lumpings_87 (by decide) (fun hc => ?_) (fun hc => ?_)
  · rw [if_pos hc] at h
    exact go_lv [1, 2, 3, 4, 5, 6] rfl (j_Re_lumpings_118 l d0 k x1 x2 x3 x4 x5 I h hk hX)
  · rw [if_neg hc] at h
    refine go_aload_n (k := 1) d_Re_lumpings_90 rfl rfl ?_
    refine go_getr (ci := 8) (k := 0) (r := 107) d_Re_lumpings_91 a_X_106 rfl (by decide) f_Re_9 rfl ?_
    refine go_iload (k := 0) d_Re_lumpings_94 rfl ?_
    refine go_aload_n (k := 1) d_Re_lumpings_96 rfl rfl ?_
    refine go_getr (ci := 8) (k := 0) (r := 107) d_Re_lumpings_97 a_X_106 rfl (by decide) f_Re_9 rfl ?_
    refine go_iload (k := 0) d_Re_lumpings_100 rfl ?_
    obtain ⟨hi, v3, ev3, h⟩ := flod_e h
    refine go_iald2 d_Re_lumpings_102 a_X_107 hi ev3 ?_
    refine go_aload_n (k := 1) d_Re_lumpings_103 rfl rfl ?_
    refine go_getr (ci := 8) (k := 0) (r := 107) d_Re_lumpings_104 a_X_106 rfl (by decide) f_Re_9 rfl ?_
    refine go_iload (k := 0) d_Re_lumpings_107 rfl ?_
    refine go_iload (k := 5) d_Re_lumpings_109 rfl ?_
    refine go_isub d_Re_lumpings_111 ?_
    obtain ⟨hi, v4, ev4, h⟩ := flod_e h
    refine go_iald2 d_Re_lumpings_112 a_X_107 hi ev4 ?_
    refine go_iadd d_Re_lumpings_113 ?_
    refine go_ldc (v := 1000000007) d_Re_lumpings_114 k_Re_56 ?_
    refine go_irem d_Re_lumpings_116 (by decide) ?_
    obtain ⟨hi, I5, eI5, h⟩ := fsto_e h
    refine go_iast (I' := I5) d_Re_lumpings_117 a_X_107 hi eI5 ?_
    exact go_lv [1, 2, 3, 4, 5, 6] rfl (j_Re_lumpings_118 l d0 k x1 x2 x3 x4 x5 I5 h hk hX)
def L_Re_lumpings_49 (x1 x2 x3 x4 : Int32) : Nat → Int32 → gb_Mem → Option (gb_Mem)
  | 0, _, _ => none
  | n + 1, x5, I =>
    if x1 < x5 then
      some I
    else
      if x3 = 0 then
        J_Re_lumpings_71 (L_Re_lumpings_49 x1 x2 x3 x4 n) x1 x2 x3 x4 x5 x5 I
      else
        J_Re_lumpings_71 (L_Re_lumpings_49 x1 x2 x3 x4 n) x1 x2 x3 x4 x5 ((x1 + x4) - x5) I
set_option maxRecDepth 4000 in
theorem l_Re_lumpings_49 (l : Launch) (d0 : Nat) (x1 x2 x3 x4 : Int32) {post : Option gb_AV → List gb_Ce → gb_Mem → Prop} : ∀ (n : Nat) (x5 : Int32) (I : gb_Mem) {ρ : gb_Mem} (h : L_Re_lumpings_49 x1 x2 x3 x4 n x5 I = some ρ) (hX : ∀ (I2 : gb_Mem), ρ = I2 → gb_Go l yRe_lumpings (d0 + 1) 0 0 124 [(0, .inr (some 106)), (1, .inl x1), (2, .inl x2), (3, .inl x3), (4, .inl x4)] [] shX I2 post) , gb_Go l yRe_lumpings (d0 + 1) 0 0 49 [(0, .inr (some 106)), (1, .inl x1), (2, .inl x2), (3, .inl x3), (4, .inl x4), (5, .inl x5)] [] shX I post := by
  intro n
  induction n with
  | zero => intro x5 I ρ h hX; cases h
  | succ n ih =>
    intro x5 I ρ h hX
    rw [L_Re_lumpings_49] at h
    refine go_iload (k := 5) d_Re_lumpings_49 rfl ?_
    refine go_iload_n (k := 1) d_Re_lumpings_51 rfl rfl ?_
    refine go_cmp_gt (tgt := 124) d_Re_lumpings_52 (by decide) (fun hc => ?_) (fun hc => ?_)
    · rw [if_pos hc] at h
      exact go_lv [0, 1, 2, 3, 4] rfl (hX _ (Option.some.inj h).symm)
    · rw [if_neg hc] at h
      refine go_iload_n (k := 3) d_Re_lumpings_55 rfl rfl ?_
      refine go_if_eq (tgt := 69) d_Re_lumpings_56 (by decide) (fun hc => ?_) (fun hc => ?_)
      · rw [if_pos hc] at h
        refine go_iload (k := 5) d_Re_lumpings_69 rfl ?_
        exact go_lv [0, 1, 2, 3, 4, 5] rfl (j_Re_lumpings_71 l d0 (L_Re_lumpings_49 x1 x2 x3 x4 n) x1 x2 x3 x4 x5 x5 I h (fun z5 Iw hh => ih z5 Iw hh hX) hX)
      · rw [if_neg hc] at h
        refine go_iload_n (k := 1) d_Re_lumpings_59 rfl rfl ?_
        refine go_iload (k := 4) d_Re_lumpings_60 rfl ?_
        refine go_iadd d_Re_lumpings_62 ?_
        refine go_iload (k := 5) d_Re_lumpings_63 rfl ?_
        refine go_isub d_Re_lumpings_65 ?_
        refine go_goto (tgt := 71) d_Re_lumpings_66 (by decide) ?_
        exact go_lv [0, 1, 2, 3, 4, 5] rfl (j_Re_lumpings_71 l d0 (L_Re_lumpings_49 x1 x2 x3 x4 n) x1 x2 x3 x4 x5 ((x1 + x4) - x5) I h (fun z5 Iw hh => ih z5 Iw hh hX) hX)
def L_Re_lumpings_39 (x1 x2 x3 : Int32) : Nat → Int32 → gb_Mem → Option (gb_Mem)
  | 0, _, _ => none
  | n + 1, x4, I =>
    if x2 < x4 then
      some I
    else
      fbd (L_Re_lumpings_49 x1 x2 x3 x4 5000 x4 I) fun I6 =>
      L_Re_lumpings_39 x1 x2 x3 n (x4 + 1) I6
set_option maxRecDepth 4000 in
theorem l_Re_lumpings_39 (l : Launch) (d0 : Nat) (x1 x2 x3 : Int32) {post : Option gb_AV → List gb_Ce → gb_Mem → Prop} : ∀ (n : Nat) (x4 : Int32) (I : gb_Mem) {ρ : gb_Mem} (h : L_Re_lumpings_39 x1 x2 x3 n x4 I = some ρ) (hX : ∀ (I2 : gb_Mem), ρ = I2 → gb_Go l yRe_lumpings (d0 + 1) 0 0 130 [(0, .inr (some 106)), (1, .inl x1)] [] shX I2 post) , gb_Go l yRe_lumpings (d0 + 1) 0 0 39 [(0, .inr (some 106)), (1, .inl x1), (2, .inl x2), (3, .inl x3), (4, .inl x4)] [] shX I post := by
  intro n
  induction n with
  | zero => intro x4 I ρ h hX; cases h
  | succ n ih =>
    intro x4 I ρ h hX
    rw [L_Re_lumpings_39] at h
    refine go_iload (k := 4) d_Re_lumpings_39 rfl ?_
    refine go_iload_n (k := 2) d_Re_lumpings_41 rfl rfl ?_
    refine go_cmp_gt (tgt := 130) d_Re_lumpings_42 (by decide) (fun hc => ?_) (fun hc => ?_)
    · rw [if_pos hc] at h
      exact go_lv [0, 1] rfl (hX _ (Option.some.inj h).symm)
    · rw [if_neg hc] at h
      refine go_iload (k := 4) d_Re_lumpings_45 rfl ?_
      refine go_istore (lv' := [(5, .inl x4), (0, .inr (some 106)), (1, .inl x1), (2, .inl x2), (3, .inl x3), (4, .inl x4)]) d_Re_lumpings_47 (by decide) rfl ?_
      refine go_lv [1, 2, 3, 4, 5, 0] (lv' := [(0, .inr (some 106)), (1, .inl x1), (2, .inl x2), (3, .inl x3), (4, .inl x4), (5, .inl x4)]) rfl ?_
      obtain ⟨I6, w1, h⟩ := fbd_e h
      refine l_Re_lumpings_49 l d0 x1 x2 x3 x4 5000 x4 I w1 (fun I6_ e => ?_)
      cases e
      refine go_iinc (k := 4) (v := x4 + 1) (lv' := [(4, .inl (x4 + 1)), (0, .inr (some 106)), (1, .inl x1), (2, .inl x2), (3, .inl x3)]) d_Re_lumpings_124 rfl rfl (by decide) rfl ?_
      refine go_goto (tgt := 39) d_Re_lumpings_127 (by decide) ?_
      exact go_lv [1, 2, 3, 4, 0] rfl (ih (x4 + 1) I6 h hX)
def F_Re_lumpings (x1 x2 x3 : Int32) (I : gb_Mem) : Option (Int32 × gb_Mem) :=
  fbd (L_Re_lumpings_3 x1 x2 x3 5000 0 I) fun I2 =>
  fbd (L_Re_lumpings_39 x1 x2 x3 5000 1 I2) fun I7 =>
  if (F_Gb_within x1 0 (169 - 1) I7) = 0 then
    some (0, I7)
  else
    flod I7 107 169 x1 fun v8 =>
    some (v8, I7)
set_option maxRecDepth 4000 in
theorem c_Re_lumpings (l : Launch) (d0 : Nat) (x1 x2 x3 : Int32) (I : gb_Mem) {rz : Int32} {Iz : gb_Mem} (h : F_Re_lumpings x1 x2 x3 I = some (rz, Iz)) : gb_Cs l yRe_lumpings (d0 + 1) [.inr (some 106), .inl x1, .inl x2, .inl x3] shX I (some (.inl rz)) Iz := by
  refine gb_Ct.of (lv := [(0, .inr (some 106)), (1, .inl x1), (2, .inl x2), (3, .inl x3)]) rfl (Nat.le_of_ble_eq_true rfl) rfl ?_
  unfold F_Re_lumpings at h
  show gb_Go l yRe_lumpings (d0 + 1) 0 0 0 [(0, .inr (some 106)), (1, .inl x1), (2, .inl x2), (3, .inl x3)] [] shX I (gb_po shX (some (.inl rz)) Iz)
  refine go_iconst (v := 0) d_Re_lumpings_0 (by decide) ?_
  refine go_istore (lv' := [(4, .inl 0), (0, .inr (some 106)), (1, .inl x1), (2, .inl x2), (3, .inl x3)]) d_Re_lumpings_1 (by decide) rfl ?_
  refine go_lv [1, 2, 3, 4, 0] (lv' := [(0, .inr (some 106)), (1, .inl x1), (2, .inl x2), (3, .inl x3), (4, .inl 0)]) rfl ?_
  obtain ⟨I2, w1, h⟩ := fbd_e h
  refine l_Re_lumpings_3 l d0 x1 x2 x3 5000 0 I w1 (fun I2_ e => ?_)
  cases e
  refine go_iconst (v := 1) d_Re_lumpings_36 (by decide) ?_
  refine go_istore (lv' := [(4, .inl 1), (0, .inr (some 106)), (1, .inl x1), (2, .inl x2), (3, .inl x3)]) d_Re_lumpings_37 (by decide) rfl ?_
  refine go_lv [1, 2, 3, 4, 0] (lv' := [(0, .inr (some 106)), (1, .inl x1), (2, .inl x2), (3, .inl x3), (4, .inl 1)]) rfl ?_
  obtain ⟨I7, w1, h⟩ := fbd_e h
  refine l_Re_lumpings_39 l d0 x1 x2 x3 5000 1 I2 w1 (fun I7_ e => ?_)
  cases e
  refine go_iload_n (k := 1) d_Re_lumpings_130 rfl rfl ?_
  refine go_iconst (v := 0) d_Re_lumpings_131 (by decide) ?_
  refine go_aload_n (k := 0) d_Re_lumpings_132 rfl rfl ?_
  refine go_getr (ci := 8) (k := 0) (r := 107) d_Re_lumpings_133 a_X_106 rfl (by decide) f_Re_9 rfl ?_
  refine go_alen d_Re_lumpings_136 a_X_107 ?_
  refine go_top (v := 169) rfl ?_
  refine go_iconst (v := 1) d_Re_lumpings_137 (by decide) ?_
  refine go_isub d_Re_lumpings_138 ?_
  refine go_callSN (y := yGb_within) (asr := [.inl x1, .inl 0, .inl (169 - 1)]) (v := some (.inl (F_Gb_within x1 0 (169 - 1) I7))) (I' := I7) (st1 := [.inl (F_Gb_within x1 0 (169 - 1) I7)]) d_Re_lumpings_139 s_yGb_within m_Re_46 rfl (Nat.le_of_ble_eq_true rfl) rfl rfl (c_Gb_within l (d0 + 0) x1 0 (169 - 1) I7) ?_
  refine go_if_eq (tgt := 154) d_Re_lumpings_142 (by decide) (fun hc => ?_) (fun hc => ?_)
  · rw [if_pos hc] at h
    refine go_iconst (v := 0) d_Re_lumpings_154 (by decide) ?_
    cases h
    exact go_ireturn d_Re_lumpings_155 rfl gb_po_i
  · rw [if_neg hc] at h
    refine go_aload_n (k := 0) d_Re_lumpings_145 rfl rfl ?_
    refine go_getr (ci := 8) (k := 0) (r := 107) d_Re_lumpings_146 a_X_106 rfl (by decide) f_Re_9 rfl ?_
    refine go_iload_n (k := 1) d_Re_lumpings_149 rfl rfl ?_
    obtain ⟨hi, v8, ev8, h⟩ := flod_e h
    refine go_iald2 d_Re_lumpings_150 a_X_107 hi ev8 ?_
    refine go_goto (tgt := 155) d_Re_lumpings_151 (by decide) ?_
    cases h
    exact go_ireturn d_Re_lumpings_155 rfl gb_po_i
theorem d_Re_partFor_0 : decode yRe_partFor.2.1 0 = .ok (.iload_n 1, 1) := by decide +kernel
theorem d_Re_partFor_1 : decode yRe_partFor.2.1 1 = .ok (.iconst 0, 1) := by decide +kernel
theorem d_Re_partFor_2 : decode yRe_partFor.2.1 2 = .ok (.aload_n 0, 1) := by decide +kernel
theorem d_Re_partFor_3 : decode yRe_partFor.2.1 3 = .ok (.getfield 15, 3) := by decide +kernel
theorem d_Re_partFor_6 : decode yRe_partFor.2.1 6 = .ok (.arraylength, 1) := by decide +kernel
theorem d_Re_partFor_7 : decode yRe_partFor.2.1 7 = .ok (.iconst 1, 1) := by decide +kernel
theorem d_Re_partFor_8 : decode yRe_partFor.2.1 8 = .ok (.isub, 1) := by decide +kernel
theorem d_Re_partFor_9 : decode yRe_partFor.2.1 9 = .ok (.invokestatic 46, 3) := by decide +kernel
theorem d_Re_partFor_12 : decode yRe_partFor.2.1 12 = .ok (.ifCond .eq 15, 3) := by decide +kernel
theorem d_Re_partFor_15 : decode yRe_partFor.2.1 15 = .ok (.aload_n 0, 1) := by decide +kernel
theorem d_Re_partFor_16 : decode yRe_partFor.2.1 16 = .ok (.getfield 15, 3) := by decide +kernel
theorem d_Re_partFor_19 : decode yRe_partFor.2.1 19 = .ok (.iload_n 1, 1) := by decide +kernel
theorem d_Re_partFor_20 : decode yRe_partFor.2.1 20 = .ok (.iaload, 1) := by decide +kernel
theorem d_Re_partFor_21 : decode yRe_partFor.2.1 21 = .ok (.iload_n 2, 1) := by decide +kernel
theorem d_Re_partFor_22 : decode yRe_partFor.2.1 22 = .ok (.iload_n 3, 1) := by decide +kernel
theorem d_Re_partFor_23 : decode yRe_partFor.2.1 23 = .ok (.iadd, 1) := by decide +kernel
theorem d_Re_partFor_24 : decode yRe_partFor.2.1 24 = .ok (.if_icmp .le 5, 3) := by decide +kernel
theorem d_Re_partFor_27 : decode yRe_partFor.2.1 27 = .ok (.iconst (-1), 1) := by decide +kernel
theorem d_Re_partFor_28 : decode yRe_partFor.2.1 28 = .ok (.ireturn, 1) := by decide +kernel
theorem d_Re_partFor_29 : decode yRe_partFor.2.1 29 = .ok (.iconst 0, 1) := by decide +kernel
theorem d_Re_partFor_30 : decode yRe_partFor.2.1 30 = .ok (.istore 4, 2) := by decide +kernel
theorem d_Re_partFor_32 : decode yRe_partFor.2.1 32 = .ok (.iconst 0, 1) := by decide +kernel
theorem d_Re_partFor_33 : decode yRe_partFor.2.1 33 = .ok (.istore 5, 2) := by decide +kernel
theorem d_Re_partFor_35 : decode yRe_partFor.2.1 35 = .ok (.iload 5, 2) := by decide +kernel
theorem d_Re_partFor_37 : decode yRe_partFor.2.1 37 = .ok (.aload_n 0, 1) := by decide +kernel
theorem d_Re_partFor_38 : decode yRe_partFor.2.1 38 = .ok (.getfield 15, 3) := by decide +kernel
theorem d_Re_partFor_41 : decode yRe_partFor.2.1 41 = .ok (.arraylength, 1) := by decide +kernel
theorem d_Re_partFor_42 : decode yRe_partFor.2.1 42 = .ok (.if_icmp .ge 66, 3) := by decide +kernel
theorem d_Re_partFor_45 : decode yRe_partFor.2.1 45 = .ok (.iload 4, 2) := by decide +kernel
theorem d_Re_partFor_47 : decode yRe_partFor.2.1 47 = .ok (.iconst 0, 1) := by decide +kernel
theorem d_Re_partFor_48 : decode yRe_partFor.2.1 48 = .ok (.aload_n 0, 1) := by decide +kernel
theorem d_Re_partFor_49 : decode yRe_partFor.2.1 49 = .ok (.getfield 15, 3) := by decide +kernel
theorem d_Re_partFor_52 : decode yRe_partFor.2.1 52 = .ok (.arraylength, 1) := by decide +kernel
theorem d_Re_partFor_53 : decode yRe_partFor.2.1 53 = .ok (.iconst 1, 1) := by decide +kernel
theorem d_Re_partFor_54 : decode yRe_partFor.2.1 54 = .ok (.isub, 1) := by decide +kernel
theorem d_Re_partFor_55 : decode yRe_partFor.2.1 55 = .ok (.invokestatic 46, 3) := by decide +kernel
theorem d_Re_partFor_58 : decode yRe_partFor.2.1 58 = .ok (.ifCond .eq 50, 3) := by decide +kernel
theorem d_Re_partFor_61 : decode yRe_partFor.2.1 61 = .ok (.aload_n 0, 1) := by decide +kernel
theorem d_Re_partFor_62 : decode yRe_partFor.2.1 62 = .ok (.getfield 15, 3) := by decide +kernel
theorem d_Re_partFor_65 : decode yRe_partFor.2.1 65 = .ok (.iload 4, 2) := by decide +kernel
theorem d_Re_partFor_67 : decode yRe_partFor.2.1 67 = .ok (.iaload, 1) := by decide +kernel
theorem d_Re_partFor_68 : decode yRe_partFor.2.1 68 = .ok (.aload_n 0, 1) := by decide +kernel
theorem d_Re_partFor_69 : decode yRe_partFor.2.1 69 = .ok (.getfield 15, 3) := by decide +kernel
theorem d_Re_partFor_72 : decode yRe_partFor.2.1 72 = .ok (.iload_n 1, 1) := by decide +kernel
theorem d_Re_partFor_73 : decode yRe_partFor.2.1 73 = .ok (.iaload, 1) := by decide +kernel
theorem d_Re_partFor_74 : decode yRe_partFor.2.1 74 = .ok (.iload_n 3, 1) := by decide +kernel
theorem d_Re_partFor_75 : decode yRe_partFor.2.1 75 = .ok (.isub, 1) := by decide +kernel
theorem d_Re_partFor_76 : decode yRe_partFor.2.1 76 = .ok (.iload_n 2, 1) := by decide +kernel
theorem d_Re_partFor_77 : decode yRe_partFor.2.1 77 = .ok (.invokestatic 46, 3) := by decide +kernel
theorem d_Re_partFor_80 : decode yRe_partFor.2.1 80 = .ok (.ifCond .eq 6, 3) := by decide +kernel
theorem d_Re_partFor_83 : decode yRe_partFor.2.1 83 = .ok (.iload 4, 2) := by decide +kernel
theorem d_Re_partFor_85 : decode yRe_partFor.2.1 85 = .ok (.ireturn, 1) := by decide +kernel
theorem d_Re_partFor_86 : decode yRe_partFor.2.1 86 = .ok (.iload 4, 2) := by decide +kernel
theorem d_Re_partFor_88 : decode yRe_partFor.2.1 88 = .ok (.iload_n 1, 1) := by decide +kernel
theorem d_Re_partFor_89 : decode yRe_partFor.2.1 89 = .ok (.if_icmp .ne 5, 3) := by decide +kernel
theorem d_Re_partFor_92 : decode yRe_partFor.2.1 92 = .ok (.iconst (-1), 1) := by decide +kernel
theorem d_Re_partFor_93 : decode yRe_partFor.2.1 93 = .ok (.ireturn, 1) := by decide +kernel
theorem d_Re_partFor_94 : decode yRe_partFor.2.1 94 = .ok (.iload 4, 2) := by decide +kernel
theorem d_Re_partFor_96 : decode yRe_partFor.2.1 96 = .ok (.iload_n 1, 1) := by decide +kernel
theorem d_Re_partFor_97 : decode yRe_partFor.2.1 97 = .ok (.isub, 1) := by decide +kernel
theorem d_Re_partFor_98 : decode yRe_partFor.2.1 98 = .ok (.iload_n 1, 1) := by decide +kernel
theorem d_Re_partFor_99 : decode yRe_partFor.2.1 99 = .ok (.iand, 1) := by decide +kernel
theorem d_Re_partFor_100 : decode yRe_partFor.2.1 100 = .ok (.istore 4, 2) := by decide +kernel
theorem d_Re_partFor_102 : decode yRe_partFor.2.1 102 = .ok (.iinc 5 1, 3) := by decide +kernel
theorem d_Re_partFor_105 : decode yRe_partFor.2.1 105 = .ok (.goto (-70), 3) := by decide +kernel
theorem d_Re_partFor_108 : decode yRe_partFor.2.1 108 = .ok (.iconst (-1), 1) := by decide +kernel
theorem d_Re_partFor_109 : decode yRe_partFor.2.1 109 = .ok (.ireturn, 1) := by decide +kernel
def L_Re_partFor_35 (x1 x2 x3 : Int32) (I : gb_Mem) : Nat → Int32 → Int32 → Option ((Unit) ⊕ (Int32))
  | 0, _, _ => none
  | n + 1, x4, x5 =>
    if 512 ≤ x5 then
      some (.inl ())
    else
      if (F_Gb_within x4 0 (512 - 1) I) = 0 then
        some (.inl ())
      else
        flod I 108 512 x4 fun v2 =>
        flod I 108 512 x1 fun v3 =>
        if (F_Gb_within v2 (v3 - x3) x2 I) = 0 then
          if x4 = x1 then
            some (.inr (-1))
          else
            flt ((x4 - x1) &&& x1) fun y4 =>
            L_Re_partFor_35 x1 x2 x3 I n y4 (x5 + 1)
        else
          some (.inr x4)
set_option maxRecDepth 4000 in
theorem l_Re_partFor_35 (l : Launch) (d0 : Nat) (x1 x2 x3 : Int32) (I : gb_Mem) {post : Option gb_AV → List gb_Ce → gb_Mem → Prop} : ∀ (n : Nat) (x4 x5 : Int32) {ρ : (Unit) ⊕ (Int32)} (h : L_Re_partFor_35 x1 x2 x3 I n x4 x5 = some ρ) (hX : ρ = .inl () → gb_Go l yRe_partFor (d0 + 1) 0 0 108 [] [] shX I post) (hR : ∀ (v : Int32), ρ = .inr v → post (some (.inl v)) shX I) , gb_Go l yRe_partFor (d0 + 1) 0 0 35 [(0, .inr (some 106)), (1, .inl x1), (2, .inl x2), (3, .inl x3), (4, .inl x4), (5, .inl x5)] [] shX I post := by
  intro n
  induction n with
  | zero => intro x4 x5 ρ h hX hR; cases h
  | succ n ih =>
    intro x4 x5 ρ h hX hR
    rw [L_Re_partFor_35] at h
    refine go_iload (k := 5) d_Re_partFor_35 rfl ?_
    refine go_aload_n (k := 0) d_Re_partFor_37 rfl rfl ?_
    refine go_getr (ci := 8) (k := 1) (r := 108) d_Re_partFor_38 a_X_106 rfl (by decide) f_Re_15 rfl ?_
    refine go_alen d_Re_partFor_41 a_X_108 ?_
    refine go_top (v := 512) rfl ?_
    refine go_cmp_ge (tgt := 108) d_Re_partFor_42 (by decide) (fun hc => ?_) (fun hc => ?_)
    · rw [if_pos hc] at h
      exact go_lv [] rfl (hX (Option.some.inj h).symm)
    · rw [if_neg hc] at h
      refine go_iload (k := 4) d_Re_partFor_45 rfl ?_
      refine go_iconst (v := 0) d_Re_partFor_47 (by decide) ?_
      refine go_aload_n (k := 0) d_Re_partFor_48 rfl rfl ?_
      refine go_getr (ci := 8) (k := 1) (r := 108) d_Re_partFor_49 a_X_106 rfl (by decide) f_Re_15 rfl ?_
      refine go_alen d_Re_partFor_52 a_X_108 ?_
      refine go_top (v := 512) rfl ?_
      refine go_iconst (v := 1) d_Re_partFor_53 (by decide) ?_
      refine go_isub d_Re_partFor_54 ?_
      refine go_callSN (y := yGb_within) (asr := [.inl x4, .inl 0, .inl (512 - 1)]) (v := some (.inl (F_Gb_within x4 0 (512 - 1) I))) (I' := I) (st1 := [.inl (F_Gb_within x4 0 (512 - 1) I)]) d_Re_partFor_55 s_yGb_within m_Re_46 rfl (Nat.le_of_ble_eq_true rfl) rfl rfl (c_Gb_within l (d0 + 0) x4 0 (512 - 1) I) ?_
      refine go_if_eq (tgt := 108) d_Re_partFor_58 (by decide) (fun hc => ?_) (fun hc => ?_)
      · rw [if_pos hc] at h
        exact go_lv [] rfl (hX (Option.some.inj h).symm)
      · rw [if_neg hc] at h
        refine go_aload_n (k := 0) d_Re_partFor_61 rfl rfl ?_
        refine go_getr (ci := 8) (k := 1) (r := 108) d_Re_partFor_62 a_X_106 rfl (by decide) f_Re_15 rfl ?_
        refine go_iload (k := 4) d_Re_partFor_65 rfl ?_
        obtain ⟨hi, v2, ev2, h⟩ := flod_e h
        refine go_iald2 d_Re_partFor_67 a_X_108 hi ev2 ?_
        refine go_aload_n (k := 0) d_Re_partFor_68 rfl rfl ?_
        refine go_getr (ci := 8) (k := 1) (r := 108) d_Re_partFor_69 a_X_106 rfl (by decide) f_Re_15 rfl ?_
        refine go_iload_n (k := 1) d_Re_partFor_72 rfl rfl ?_
        obtain ⟨hi, v3, ev3, h⟩ := flod_e h
        refine go_iald2 d_Re_partFor_73 a_X_108 hi ev3 ?_
        refine go_iload_n (k := 3) d_Re_partFor_74 rfl rfl ?_
        refine go_isub d_Re_partFor_75 ?_
        refine go_iload_n (k := 2) d_Re_partFor_76 rfl rfl ?_
        refine go_callSN (y := yGb_within) (asr := [.inl v2, .inl (v3 - x3), .inl x2]) (v := some (.inl (F_Gb_within v2 (v3 - x3) x2 I))) (I' := I) (st1 := [.inl (F_Gb_within v2 (v3 - x3) x2 I)]) d_Re_partFor_77 s_yGb_within m_Re_46 rfl (Nat.le_of_ble_eq_true rfl) rfl rfl (c_Gb_within l (d0 + 0) v2 (v3 - x3) x2 I) ?_
        refine go_if_eq (tgt := 86) d_Re_partFor_80 (by decide) (fun hc => ?_) (fun hc => ?_)
        · rw [if_pos hc] at h
          refine go_iload (k := 4) d_Re_partFor_86 rfl ?_
          refine go_iload_n (k := 1) d_Re_partFor_88 rfl rfl ?_
          refine go_cmp_ne (tgt := 94) d_Re_partFor_89 (by decide) (fun hc => ?_) (fun hc => ?_)
          · rw [if_neg hc] at h
            refine go_iload (k := 4) d_Re_partFor_94 rfl ?_
            refine go_iload_n (k := 1) d_Re_partFor_96 rfl rfl ?_
            refine go_isub d_Re_partFor_97 ?_
            refine go_iload_n (k := 1) d_Re_partFor_98 rfl rfl ?_
            refine go_iand d_Re_partFor_99 ?_
            obtain ⟨y4, ey4, h⟩ := flt_e h
            refine go_top ey4 ?_
            refine go_istore (lv' := [(4, .inl y4), (0, .inr (some 106)), (1, .inl x1), (2, .inl x2), (3, .inl x3), (5, .inl x5)]) d_Re_partFor_100 (by decide) rfl ?_
            refine go_iinc (k := 5) (v := x5 + 1) (lv' := [(5, .inl (x5 + 1)), (4, .inl y4), (0, .inr (some 106)), (1, .inl x1), (2, .inl x2), (3, .inl x3)]) d_Re_partFor_102 rfl rfl (by decide) rfl ?_
            refine go_goto (tgt := 35) d_Re_partFor_105 (by decide) ?_
            exact go_lv [2, 3, 4, 5, 1, 0] rfl (ih y4 (x5 + 1) h hX hR)
          · rw [if_pos hc] at h
            refine go_iconst (v := (-1)) d_Re_partFor_92 (by decide) ?_
            exact go_ireturn d_Re_partFor_93 rfl (hR _ (Option.some.inj h).symm)
        · rw [if_neg hc] at h
          refine go_iload (k := 4) d_Re_partFor_83 rfl ?_
          exact go_ireturn d_Re_partFor_85 rfl (hR _ (Option.some.inj h).symm)
def F_Re_partFor (x1 x2 x3 : Int32) (I : gb_Mem) : Option (Int32) :=
  if (F_Gb_within x1 0 (512 - 1) I) = 0 then
    some (-1)
  else
    flod I 108 512 x1 fun v1 =>
    if v1 ≤ (x2 + x3) then
      fbr (L_Re_partFor_35 x1 x2 x3 I 5000 0 0) (fun _ =>
        some (-1))
        (fun q5 => some q5)
    else
      some (-1)
set_option maxRecDepth 4000 in
theorem c_Re_partFor (l : Launch) (d0 : Nat) (x1 x2 x3 : Int32) (I : gb_Mem) {rz : Int32} (h : F_Re_partFor x1 x2 x3 I = some rz) : gb_Cs l yRe_partFor (d0 + 1) [.inr (some 106), .inl x1, .inl x2, .inl x3] shX I (some (.inl rz)) I := by
  refine gb_Ct.of (lv := [(0, .inr (some 106)), (1, .inl x1), (2, .inl x2), (3, .inl x3)]) rfl (Nat.le_of_ble_eq_true rfl) rfl ?_
  unfold F_Re_partFor at h
  show gb_Go l yRe_partFor (d0 + 1) 0 0 0 [(0, .inr (some 106)), (1, .inl x1), (2, .inl x2), (3, .inl x3)] [] shX I (gb_po shX (some (.inl rz)) I)
  refine go_iload_n (k := 1) d_Re_partFor_0 rfl rfl ?_
  refine go_iconst (v := 0) d_Re_partFor_1 (by decide) ?_
  refine go_aload_n (k := 0) d_Re_partFor_2 rfl rfl ?_
  refine go_getr (ci := 8) (k := 1) (r := 108) d_Re_partFor_3 a_X_106 rfl (by decide) f_Re_15 rfl ?_
  refine go_alen d_Re_partFor_6 a_X_108 ?_
  refine go_top (v := 512) rfl ?_
  refine go_iconst (v := 1) d_Re_partFor_7 (by decide) ?_
  refine go_isub d_Re_partFor_8 ?_
  refine go_callSN (y := yGb_within) (asr := [.inl x1, .inl 0, .inl (512 - 1)]) (v := some (.inl (F_Gb_within x1 0 (512 - 1) I))) (I' := I) (st1 := [.inl (F_Gb_within x1 0 (512 - 1) I)]) d_Re_partFor_9 s_yGb_within m_Re_46 rfl (Nat.le_of_ble_eq_true rfl) rfl rfl (c_Gb_within l (d0 + 0) x1 0 (512 - 1) I) ?_
  refine go_if_eq (tgt := 27) d_Re_partFor_12 (by decide) (fun hc => ?_) (fun hc => ?_)
  · rw [if_pos hc] at h
    refine go_iconst (v := (-1)) d_Re_partFor_27 (by decide) ?_
    cases h
    exact go_ireturn d_Re_partFor_28 rfl gb_po_i
  · rw [if_neg hc] at h
    refine go_aload_n (k := 0) d_Re_partFor_15 rfl rfl ?_
    refine go_getr (ci := 8) (k := 1) (r := 108) d_Re_partFor_16 a_X_106 rfl (by decide) f_Re_15 rfl ?_
    refine go_iload_n (k := 1) d_Re_partFor_19 rfl rfl ?_
    obtain ⟨hi, v1, ev1, h⟩ := flod_e h
    refine go_iald2 d_Re_partFor_20 a_X_108 hi ev1 ?_
    refine go_iload_n (k := 2) d_Re_partFor_21 rfl rfl ?_
    refine go_iload_n (k := 3) d_Re_partFor_22 rfl rfl ?_
    refine go_iadd d_Re_partFor_23 ?_
    refine go_cmp_le (tgt := 29) d_Re_partFor_24 (by decide) (fun hc => ?_) (fun hc => ?_)
    · rw [if_pos hc] at h
      refine go_iconst (v := 0) d_Re_partFor_29 (by decide) ?_
      refine go_istore (lv' := [(4, .inl 0), (0, .inr (some 106)), (1, .inl x1), (2, .inl x2), (3, .inl x3)]) d_Re_partFor_30 (by decide) rfl ?_
      refine go_iconst (v := 0) d_Re_partFor_32 (by decide) ?_
      refine go_istore (lv' := [(5, .inl 0), (4, .inl 0), (0, .inr (some 106)), (1, .inl x1), (2, .inl x2), (3, .inl x3)]) d_Re_partFor_33 (by decide) rfl ?_
      refine go_lv [2, 3, 4, 5, 1, 0] (lv' := [(0, .inr (some 106)), (1, .inl x1), (2, .inl x2), (3, .inl x3), (4, .inl 0), (5, .inl 0)]) rfl ?_
      obtain ⟨ρ, w1, w2, w3⟩ := fbr_e2 h
      refine l_Re_partFor_35 l d0 x1 x2 x3 I 5000 0 0 w1 (fun  e => ?_) (fun q5 e => ?_)
      · have h := w2 _ e
        try dsimp only at h
        refine go_iconst (v := (-1)) d_Re_partFor_108 (by decide) ?_
        cases h
        exact go_ireturn d_Re_partFor_109 rfl gb_po_i
      · have h := w3 _ e
        try dsimp only at h
        cases h
        exact gb_po_i
    · rw [if_neg hc] at h
      refine go_iconst (v := (-1)) d_Re_partFor_27 (by decide) ?_
      cases h
      exact go_ireturn d_Re_partFor_28 rfl gb_po_i
theorem d_Re_putGrid_0 : decode yRe_putGrid.2.1 0 = .ok (.iload_n 1, 1) := by decide +kernel
theorem d_Re_putGrid_1 : decode yRe_putGrid.2.1 1 = .ok (.iconst 0, 1) := by decide +kernel
theorem d_Re_putGrid_2 : decode yRe_putGrid.2.1 2 = .ok (.bipush 12, 2) := by decide +kernel
theorem d_Re_putGrid_4 : decode yRe_putGrid.2.1 4 = .ok (.invokestatic 46, 3) := by decide +kernel
theorem d_Re_putGrid_7 : decode yRe_putGrid.2.1 7 = .ok (.ifCond .eq 25, 3) := by decide +kernel
theorem d_Re_putGrid_10 : decode yRe_putGrid.2.1 10 = .ok (.iload_n 2, 1) := by decide +kernel
theorem d_Re_putGrid_11 : decode yRe_putGrid.2.1 11 = .ok (.iconst 0, 1) := by decide +kernel
theorem d_Re_putGrid_12 : decode yRe_putGrid.2.1 12 = .ok (.bipush 12, 2) := by decide +kernel
theorem d_Re_putGrid_14 : decode yRe_putGrid.2.1 14 = .ok (.invokestatic 46, 3) := by decide +kernel
theorem d_Re_putGrid_17 : decode yRe_putGrid.2.1 17 = .ok (.ifCond .eq 15, 3) := by decide +kernel
theorem d_Re_putGrid_20 : decode yRe_putGrid.2.1 20 = .ok (.aload_n 0, 1) := by decide +kernel
theorem d_Re_putGrid_21 : decode yRe_putGrid.2.1 21 = .ok (.getfield 9, 3) := by decide +kernel
theorem d_Re_putGrid_24 : decode yRe_putGrid.2.1 24 = .ok (.iload_n 1, 1) := by decide +kernel
theorem d_Re_putGrid_25 : decode yRe_putGrid.2.1 25 = .ok (.bipush 13, 2) := by decide +kernel
theorem d_Re_putGrid_27 : decode yRe_putGrid.2.1 27 = .ok (.imul, 1) := by decide +kernel
theorem d_Re_putGrid_28 : decode yRe_putGrid.2.1 28 = .ok (.iload_n 2, 1) := by decide +kernel
theorem d_Re_putGrid_29 : decode yRe_putGrid.2.1 29 = .ok (.iadd, 1) := by decide +kernel
theorem d_Re_putGrid_30 : decode yRe_putGrid.2.1 30 = .ok (.iload_n 3, 1) := by decide +kernel
theorem d_Re_putGrid_31 : decode yRe_putGrid.2.1 31 = .ok (.iastore, 1) := by decide +kernel
theorem d_Re_putGrid_32 : decode yRe_putGrid.2.1 32 = .ok (.return_, 1) := by decide +kernel
def F_Re_putGrid (x1 x2 x3 : Int32) (I : gb_Mem) : Option (gb_Mem) :=
  if (F_Gb_within x1 0 12 I) = 0 then
    some I
  else
    if (F_Gb_within x2 0 12 I) = 0 then
      some I
    else
      fsto I 107 169 ((x1 * 13) + x2) x3 fun I1 =>
      some I1
set_option maxRecDepth 4000 in
theorem c_Re_putGrid (l : Launch) (d0 : Nat) (x1 x2 x3 : Int32) (I : gb_Mem) {Iz : gb_Mem} (h : F_Re_putGrid x1 x2 x3 I = some Iz) : gb_Cs l yRe_putGrid (d0 + 1) [.inr (some 106), .inl x1, .inl x2, .inl x3] shX I none Iz := by
  refine gb_Ct.of (lv := [(0, .inr (some 106)), (1, .inl x1), (2, .inl x2), (3, .inl x3)]) rfl (Nat.le_of_ble_eq_true rfl) rfl ?_
  unfold F_Re_putGrid at h
  show gb_Go l yRe_putGrid (d0 + 1) 0 0 0 [(0, .inr (some 106)), (1, .inl x1), (2, .inl x2), (3, .inl x3)] [] shX I (gb_po shX none Iz)
  refine go_iload_n (k := 1) d_Re_putGrid_0 rfl rfl ?_
  refine go_iconst (v := 0) d_Re_putGrid_1 (by decide) ?_
  refine go_bipush (v := 12) d_Re_putGrid_2 (by decide) ?_
  refine go_callSN (y := yGb_within) (asr := [.inl x1, .inl 0, .inl 12]) (v := some (.inl (F_Gb_within x1 0 12 I))) (I' := I) (st1 := [.inl (F_Gb_within x1 0 12 I)]) d_Re_putGrid_4 s_yGb_within m_Re_46 rfl (Nat.le_of_ble_eq_true rfl) rfl rfl (c_Gb_within l (d0 + 0) x1 0 12 I) ?_
  refine go_if_eq (tgt := 32) d_Re_putGrid_7 (by decide) (fun hc => ?_) (fun hc => ?_)
  · rw [if_pos hc] at h
    cases h
    exact go_return d_Re_putGrid_32 rfl gb_po_i
  · rw [if_neg hc] at h
    refine go_iload_n (k := 2) d_Re_putGrid_10 rfl rfl ?_
    refine go_iconst (v := 0) d_Re_putGrid_11 (by decide) ?_
    refine go_bipush (v := 12) d_Re_putGrid_12 (by decide) ?_
    refine go_callSN (y := yGb_within) (asr := [.inl x2, .inl 0, .inl 12]) (v := some (.inl (F_Gb_within x2 0 12 I))) (I' := I) (st1 := [.inl (F_Gb_within x2 0 12 I)]) d_Re_putGrid_14 s_yGb_within m_Re_46 rfl (Nat.le_of_ble_eq_true rfl) rfl rfl (c_Gb_within l (d0 + 0) x2 0 12 I) ?_
    refine go_if_eq (tgt := 32) d_Re_putGrid_17 (by decide) (fun hc => ?_) (fun hc => ?_)
    · rw [if_pos hc] at h
      cases h
      exact go_return d_Re_putGrid_32 rfl gb_po_i
    · rw [if_neg hc] at h
      refine go_aload_n (k := 0) d_Re_putGrid_20 rfl rfl ?_
      refine go_getr (ci := 8) (k := 0) (r := 107) d_Re_putGrid_21 a_X_106 rfl (by decide) f_Re_9 rfl ?_
      refine go_iload_n (k := 1) d_Re_putGrid_24 rfl rfl ?_
      refine go_bipush (v := 13) d_Re_putGrid_25 (by decide) ?_
      refine go_imul d_Re_putGrid_27 ?_
      refine go_iload_n (k := 2) d_Re_putGrid_28 rfl rfl ?_
      refine go_iadd d_Re_putGrid_29 ?_
      refine go_iload_n (k := 3) d_Re_putGrid_30 rfl rfl ?_
      obtain ⟨hi, I1, eI1, h⟩ := fsto_e h
      refine go_iast (I' := I1) d_Re_putGrid_31 a_X_107 hi eI1 ?_
      cases h
      exact go_return d_Re_putGrid_32 rfl gb_po_i
theorem d_Re_said_0 : decode yRe_said.2.1 0 = .ok (.iconst 0, 1) := by decide +kernel
theorem d_Re_said_1 : decode yRe_said.2.1 1 = .ok (.istore_n 2, 1) := by decide +kernel
theorem d_Re_said_2 : decode yRe_said.2.1 2 = .ok (.iconst 0, 1) := by decide +kernel
theorem d_Re_said_3 : decode yRe_said.2.1 3 = .ok (.istore_n 3, 1) := by decide +kernel
theorem d_Re_said_4 : decode yRe_said.2.1 4 = .ok (.iload_n 3, 1) := by decide +kernel
theorem d_Re_said_5 : decode yRe_said.2.1 5 = .ok (.iconst 4, 1) := by decide +kernel
theorem d_Re_said_6 : decode yRe_said.2.1 6 = .ok (.if_icmp .ge 34, 3) := by decide +kernel
theorem d_Re_said_9 : decode yRe_said.2.1 9 = .ok (.iload_n 2, 1) := by decide +kernel
theorem d_Re_said_10 : decode yRe_said.2.1 10 = .ok (.iload_n 1, 1) := by decide +kernel
theorem d_Re_said_11 : decode yRe_said.2.1 11 = .ok (.iconst 3, 1) := by decide +kernel
theorem d_Re_said_12 : decode yRe_said.2.1 12 = .ok (.iload_n 3, 1) := by decide +kernel
theorem d_Re_said_13 : decode yRe_said.2.1 13 = .ok (.imul, 1) := by decide +kernel
theorem d_Re_said_14 : decode yRe_said.2.1 14 = .ok (.ishr, 1) := by decide +kernel
theorem d_Re_said_15 : decode yRe_said.2.1 15 = .ok (.bipush 7, 2) := by decide +kernel
theorem d_Re_said_17 : decode yRe_said.2.1 17 = .ok (.iand, 1) := by decide +kernel
theorem d_Re_said_18 : decode yRe_said.2.1 18 = .ok (.invokestatic 50, 3) := by decide +kernel
theorem d_Re_said_21 : decode yRe_said.2.1 21 = .ok (.iconst 2, 1) := by decide +kernel
theorem d_Re_said_22 : decode yRe_said.2.1 22 = .ok (.if_icmp .lt 9, 3) := by decide +kernel
theorem d_Re_said_25 : decode yRe_said.2.1 25 = .ok (.iconst 1, 1) := by decide +kernel
theorem d_Re_said_26 : decode yRe_said.2.1 26 = .ok (.iload_n 3, 1) := by decide +kernel
theorem d_Re_said_27 : decode yRe_said.2.1 27 = .ok (.ishl, 1) := by decide +kernel
theorem d_Re_said_28 : decode yRe_said.2.1 28 = .ok (.goto 4, 3) := by decide +kernel
theorem d_Re_said_31 : decode yRe_said.2.1 31 = .ok (.iconst 0, 1) := by decide +kernel
theorem d_Re_said_32 : decode yRe_said.2.1 32 = .ok (.ior, 1) := by decide +kernel
theorem d_Re_said_33 : decode yRe_said.2.1 33 = .ok (.istore_n 2, 1) := by decide +kernel
theorem d_Re_said_34 : decode yRe_said.2.1 34 = .ok (.iinc 3 1, 3) := by decide +kernel
theorem d_Re_said_37 : decode yRe_said.2.1 37 = .ok (.goto (-33), 3) := by decide +kernel
theorem d_Re_said_40 : decode yRe_said.2.1 40 = .ok (.iload_n 2, 1) := by decide +kernel
theorem d_Re_said_41 : decode yRe_said.2.1 41 = .ok (.ireturn, 1) := by decide +kernel
def J_Re_said_32 (k : Int32 → Int32 → Option (Int32)) (x1 x3 s0 s1 : Int32) (I : gb_Mem) : Option (Int32) :=
  k (s1 ||| s0) (x3 + 1)
set_option maxRecDepth 4000 in
theorem j_Re_said_32 (l : Launch) (d0 : Nat) {post : Option gb_AV → List gb_Ce → gb_Mem → Prop} (k : Int32 → Int32 → Option (Int32)) (x1 x3 s0 s1 : Int32) (I : gb_Mem) {ρ : Int32} (h : J_Re_said_32 k x1 x3 s0 s1 I = some ρ) (hk : ∀ (z2 z3 : Int32), k z2 z3 = some ρ → gb_Go l yRe_said (d0 + 1) 0 0 4 [(1, .inl x1), (2, .inl z2), (3, .inl z3)] [] shX I post) (hX : ∀ (o2 : Int32), ρ = o2 → gb_Go l yRe_said (d0 + 1) 0 0 40 [(2, .inl o2)] [] shX I post) : gb_Go l yRe_said (d0 + 1) 0 0 32 [(1, .inl x1), (3, .inl x3)] [.inl s0, .inl s1] shX I post := by
  unfold J_Re_said_32 at h
  refine go_ior d_Re_said_32 ?_
  refine go_istore_n (lv' := [(2, .inl (s1 ||| s0)), (1, .inl x1), (3, .inl x3)]) d_Re_said_33 rfl (by decide) rfl ?_
  refine go_iinc (k := 2) (v := x3 + 1) (lv' := [(3, .inl (x3 + 1)), (2, .inl (s1 ||| s0)), (1, .inl x1)]) d_Re_said_34 rfl rfl (by decide) rfl ?_
  refine go_goto (tgt := 4) d_Re_said_37 (by decide) ?_
  exact go_lv [2, 1, 0] rfl (hk _ _ h)
def L_Re_said_4 (x1 : Int32) (I : gb_Mem) : Nat → Int32 → Int32 → Option (Int32)
  | 0, _, _ => none
  | n + 1, x2, x3 =>
    if 4 ≤ x3 then
      some x2
    else
      if (F_Ji_bitCount ((x1 >>> ((3 * x3) &&& 31)) &&& 7) I) < 2 then
        J_Re_said_32 (L_Re_said_4 x1 I n) x1 x3 0 x2 I
      else
        J_Re_said_32 (L_Re_said_4 x1 I n) x1 x3 (1 <<< (x3 &&& 31)) x2 I
set_option maxRecDepth 4000 in
theorem l_Re_said_4 (l : Launch) (d0 : Nat) (x1 : Int32) (I : gb_Mem) {post : Option gb_AV → List gb_Ce → gb_Mem → Prop} : ∀ (n : Nat) (x2 x3 : Int32) {ρ : Int32} (h : L_Re_said_4 x1 I n x2 x3 = some ρ) (hX : ∀ (o2 : Int32), ρ = o2 → gb_Go l yRe_said (d0 + 1) 0 0 40 [(2, .inl o2)] [] shX I post) , gb_Go l yRe_said (d0 + 1) 0 0 4 [(1, .inl x1), (2, .inl x2), (3, .inl x3)] [] shX I post := by
  intro n
  induction n with
  | zero => intro x2 x3 ρ h hX; cases h
  | succ n ih =>
    intro x2 x3 ρ h hX
    rw [L_Re_said_4] at h
    refine go_iload_n (k := 2) d_Re_said_4 rfl rfl ?_
    refine go_iconst (v := 4) d_Re_said_5 (by decide) ?_
    refine go_cmp_ge (tgt := 40) d_Re_said_6 (by decide) (fun hc => ?_) (fun hc => ?_)
    · rw [if_pos hc] at h
      exact go_lv [1] rfl (hX _ (Option.some.inj h).symm)
    · rw [if_neg hc] at h
      refine go_iload_n (k := 1) d_Re_said_9 rfl rfl ?_
      refine go_iload_n (k := 0) d_Re_said_10 rfl rfl ?_
      refine go_iconst (v := 3) d_Re_said_11 (by decide) ?_
      refine go_iload_n (k := 2) d_Re_said_12 rfl rfl ?_
      refine go_imul d_Re_said_13 ?_
      refine go_ishr d_Re_said_14 ?_
      refine go_bipush (v := 7) d_Re_said_15 (by decide) ?_
      refine go_iand d_Re_said_17 ?_
      refine go_callS (y := yJi_bitCount) (asr := [.inl ((x1 >>> ((3 * x3) &&& 31)) &&& 7)]) (v := some (.inl (F_Ji_bitCount ((x1 >>> ((3 * x3) &&& 31)) &&& 7) I))) (I' := I) (st1 := [.inl (F_Ji_bitCount ((x1 >>> ((3 * x3) &&& 31)) &&& 7) I), .inl x2]) d_Re_said_18 s_yJi_bitCount m_Re_50 rfl (Nat.le_of_ble_eq_true rfl) rfl rfl (c_Ji_bitCount l (d0 + 0) ((x1 >>> ((3 * x3) &&& 31)) &&& 7) I) ?_
      refine go_iconst (v := 2) d_Re_said_21 (by decide) ?_
      refine go_cmp_lt (tgt := 31) d_Re_said_22 (by decide) (fun hc => ?_) (fun hc => ?_)
      · rw [if_pos hc] at h
        refine go_iconst (v := 0) d_Re_said_31 (by decide) ?_
        exact go_lv [0, 2] rfl (j_Re_said_32 l d0 (L_Re_said_4 x1 I n) x1 x3 0 x2 I h (fun z2 z3 hh => ih z2 z3 hh hX) hX)
      · rw [if_neg hc] at h
        refine go_iconst (v := 1) d_Re_said_25 (by decide) ?_
        refine go_iload_n (k := 2) d_Re_said_26 rfl rfl ?_
        refine go_ishl d_Re_said_27 ?_
        refine go_goto (tgt := 32) d_Re_said_28 (by decide) ?_
        exact go_lv [0, 2] rfl (j_Re_said_32 l d0 (L_Re_said_4 x1 I n) x1 x3 (1 <<< (x3 &&& 31)) x2 I h (fun z2 z3 hh => ih z2 z3 hh hX) hX)
def F_Re_said (x1 : Int32) (I : gb_Mem) : Option (Int32) :=
  fbd (L_Re_said_4 x1 I 5000 0 0) fun o1 =>
  some o1
set_option maxRecDepth 4000 in
theorem c_Re_said (l : Launch) (d0 : Nat) (x1 : Int32) (I : gb_Mem) {rz : Int32} (h : F_Re_said x1 I = some rz) : gb_Cs l yRe_said (d0 + 1) [.inr (some 106), .inl x1] shX I (some (.inl rz)) I := by
  refine gb_Ct.of (lv := [(0, .inr (some 106)), (1, .inl x1)]) rfl (Nat.le_of_ble_eq_true rfl) rfl ?_
  unfold F_Re_said at h
  show gb_Go l yRe_said (d0 + 1) 0 0 0 [(0, .inr (some 106)), (1, .inl x1)] [] shX I (gb_po shX (some (.inl rz)) I)
  refine go_iconst (v := 0) d_Re_said_0 (by decide) ?_
  refine go_istore_n (lv' := [(2, .inl 0), (0, .inr (some 106)), (1, .inl x1)]) d_Re_said_1 rfl (by decide) rfl ?_
  refine go_iconst (v := 0) d_Re_said_2 (by decide) ?_
  refine go_istore_n (lv' := [(3, .inl 0), (2, .inl 0), (0, .inr (some 106)), (1, .inl x1)]) d_Re_said_3 rfl (by decide) rfl ?_
  refine go_lv [3, 1, 0] (lv' := [(1, .inl x1), (2, .inl 0), (3, .inl 0)]) rfl ?_
  obtain ⟨o1, w1, h⟩ := fbd_e h
  refine l_Re_said_4 l d0 x1 I 5000 0 0 w1 (fun o1_ e => ?_)
  cases e
  refine go_iload_n (k := 0) d_Re_said_40 rfl rfl ?_
  cases h
  exact go_ireturn d_Re_said_41 rfl gb_po_i
theorem d_Ro_cell_0 : decode yRo_cell.2.1 0 = .ok (.iload_n 1, 1) := by decide +kernel
theorem d_Ro_cell_1 : decode yRo_cell.2.1 1 = .ok (.iconst 0, 1) := by decide +kernel
theorem d_Ro_cell_2 : decode yRo_cell.2.1 2 = .ok (.aload_n 0, 1) := by decide +kernel
theorem d_Ro_cell_3 : decode yRo_cell.2.1 3 = .ok (.getfield 25, 3) := by decide +kernel
theorem d_Ro_cell_6 : decode yRo_cell.2.1 6 = .ok (.iconst 1, 1) := by decide +kernel
theorem d_Ro_cell_7 : decode yRo_cell.2.1 7 = .ok (.isub, 1) := by decide +kernel
theorem d_Ro_cell_8 : decode yRo_cell.2.1 8 = .ok (.invokestatic 28, 3) := by decide +kernel
theorem d_Ro_cell_11 : decode yRo_cell.2.1 11 = .ok (.ifCond .eq 25, 3) := by decide +kernel
theorem d_Ro_cell_14 : decode yRo_cell.2.1 14 = .ok (.iload_n 2, 1) := by decide +kernel
theorem d_Ro_cell_15 : decode yRo_cell.2.1 15 = .ok (.iconst 0, 1) := by decide +kernel
theorem d_Ro_cell_16 : decode yRo_cell.2.1 16 = .ok (.iconst 3, 1) := by decide +kernel
theorem d_Ro_cell_17 : decode yRo_cell.2.1 17 = .ok (.invokestatic 28, 3) := by decide +kernel
theorem d_Ro_cell_20 : decode yRo_cell.2.1 20 = .ok (.ifCond .eq 16, 3) := by decide +kernel
theorem d_Ro_cell_23 : decode yRo_cell.2.1 23 = .ok (.aload_n 0, 1) := by decide +kernel
theorem d_Ro_cell_24 : decode yRo_cell.2.1 24 = .ok (.getfield 21, 3) := by decide +kernel
theorem d_Ro_cell_27 : decode yRo_cell.2.1 27 = .ok (.iconst 4, 1) := by decide +kernel
theorem d_Ro_cell_28 : decode yRo_cell.2.1 28 = .ok (.iload_n 1, 1) := by decide +kernel
theorem d_Ro_cell_29 : decode yRo_cell.2.1 29 = .ok (.imul, 1) := by decide +kernel
theorem d_Ro_cell_30 : decode yRo_cell.2.1 30 = .ok (.iload_n 2, 1) := by decide +kernel
theorem d_Ro_cell_31 : decode yRo_cell.2.1 31 = .ok (.iadd, 1) := by decide +kernel
theorem d_Ro_cell_32 : decode yRo_cell.2.1 32 = .ok (.iaload, 1) := by decide +kernel
theorem d_Ro_cell_33 : decode yRo_cell.2.1 33 = .ok (.goto 4, 3) := by decide +kernel
theorem d_Ro_cell_36 : decode yRo_cell.2.1 36 = .ok (.iconst 0, 1) := by decide +kernel
theorem d_Ro_cell_37 : decode yRo_cell.2.1 37 = .ok (.ireturn, 1) := by decide +kernel
def F_Ro_cell (h0 n0 : Nat) (x1 x2 : Int32) (I : gb_Mem) : Option (Int32) :=
  if (F_Gb_within x1 0 ((I h0 2) - 1) I) = 0 then
    some 0
  else
    if (F_Gb_within x2 0 3 I) = 0 then
      some 0
    else
      flod I (h0 + 1) n0 ((4 * x1) + x2) fun v1 =>
      some v1
set_option maxRecDepth 4000 in
theorem c_Ro_cell (l : Launch) (d0 : Nat) (h0 n0 : Nat) (H0 : isRo h0 n0) (x1 x2 : Int32) (I : gb_Mem) {rz : Int32} (h : F_Ro_cell h0 n0 x1 x2 I = some rz) : gb_Cs l yRo_cell (d0 + 1) [.inr (some h0), .inl x1, .inl x2] shX I (some (.inl rz)) I := by
  refine gb_Ct.of (lv := [(0, .inr (some h0)), (1, .inl x1), (2, .inl x2)]) rfl (Nat.le_of_ble_eq_true rfl) rfl ?_
  unfold F_Ro_cell at h
  show gb_Go l yRo_cell (d0 + 1) 0 0 0 [(0, .inr (some h0)), (1, .inl x1), (2, .inl x2)] [] shX I (gb_po shX (some (.inl rz)) I)
  refine go_iload_n (k := 1) d_Ro_cell_0 rfl rfl ?_
  refine go_iconst (v := 0) d_Ro_cell_1 (by decide) ?_
  refine go_aload_n (k := 0) d_Ro_cell_2 rfl rfl ?_
  refine go_geti (ci := 4) (k := 2) d_Ro_cell_3 H0.1 rfl (by decide) f_Ro_25 rfl ?_
  refine go_iconst (v := 1) d_Ro_cell_6 (by decide) ?_
  refine go_isub d_Ro_cell_7 ?_
  refine go_callSN (y := yGb_within) (asr := [.inl x1, .inl 0, .inl ((I h0 2) - 1)]) (v := some (.inl (F_Gb_within x1 0 ((I h0 2) - 1) I))) (I' := I) (st1 := [.inl (F_Gb_within x1 0 ((I h0 2) - 1) I)]) d_Ro_cell_8 s_yGb_within m_Ro_28 rfl (Nat.le_of_ble_eq_true rfl) rfl rfl (c_Gb_within l (d0 + 0) x1 0 ((I h0 2) - 1) I) ?_
  refine go_if_eq (tgt := 36) d_Ro_cell_11 (by decide) (fun hc => ?_) (fun hc => ?_)
  · rw [if_pos hc] at h
    refine go_iconst (v := 0) d_Ro_cell_36 (by decide) ?_
    cases h
    exact go_ireturn d_Ro_cell_37 rfl gb_po_i
  · rw [if_neg hc] at h
    refine go_iload_n (k := 2) d_Ro_cell_14 rfl rfl ?_
    refine go_iconst (v := 0) d_Ro_cell_15 (by decide) ?_
    refine go_iconst (v := 3) d_Ro_cell_16 (by decide) ?_
    refine go_callSN (y := yGb_within) (asr := [.inl x2, .inl 0, .inl 3]) (v := some (.inl (F_Gb_within x2 0 3 I))) (I' := I) (st1 := [.inl (F_Gb_within x2 0 3 I)]) d_Ro_cell_17 s_yGb_within m_Ro_28 rfl (Nat.le_of_ble_eq_true rfl) rfl rfl (c_Gb_within l (d0 + 0) x2 0 3 I) ?_
    refine go_if_eq (tgt := 36) d_Ro_cell_20 (by decide) (fun hc => ?_) (fun hc => ?_)
    · rw [if_pos hc] at h
      refine go_iconst (v := 0) d_Ro_cell_36 (by decide) ?_
      cases h
      exact go_ireturn d_Ro_cell_37 rfl gb_po_i
    · rw [if_neg hc] at h
      refine go_aload_n (k := 0) d_Ro_cell_23 rfl rfl ?_
      refine go_getr (ci := 4) (k := 1) (r := (h0 + 1)) d_Ro_cell_24 H0.1 rfl (by decide) f_Ro_21 rfl ?_
      refine go_iconst (v := 4) d_Ro_cell_27 (by decide) ?_
      refine go_iload_n (k := 1) d_Ro_cell_28 rfl rfl ?_
      refine go_imul d_Ro_cell_29 ?_
      refine go_iload_n (k := 2) d_Ro_cell_30 rfl rfl ?_
      refine go_iadd d_Ro_cell_31 ?_
      obtain ⟨hi, v1, ev1, h⟩ := flod_e h
      refine go_iald2 d_Ro_cell_32 H0.2 hi ev1 ?_
      refine go_goto (tgt := 37) d_Ro_cell_33 (by decide) ?_
      cases h
      exact go_ireturn d_Ro_cell_37 rfl gb_po_i
theorem d_Ro_copyFrom_0 : decode yRo_copyFrom.2.1 0 = .ok (.aload_n 0, 1) := by decide +kernel
theorem d_Ro_copyFrom_1 : decode yRo_copyFrom.2.1 1 = .ok (.aload_n 1, 1) := by decide +kernel
theorem d_Ro_copyFrom_2 : decode yRo_copyFrom.2.1 2 = .ok (.getfield 25, 3) := by decide +kernel
theorem d_Ro_copyFrom_5 : decode yRo_copyFrom.2.1 5 = .ok (.aload_n 0, 1) := by decide +kernel
theorem d_Ro_copyFrom_6 : decode yRo_copyFrom.2.1 6 = .ok (.getfield 15, 3) := by decide +kernel
theorem d_Ro_copyFrom_9 : decode yRo_copyFrom.2.1 9 = .ok (.invokestatic 35, 3) := by decide +kernel
theorem d_Ro_copyFrom_12 : decode yRo_copyFrom.2.1 12 = .ok (.putfield 25, 3) := by decide +kernel
theorem d_Ro_copyFrom_15 : decode yRo_copyFrom.2.1 15 = .ok (.aload_n 1, 1) := by decide +kernel
theorem d_Ro_copyFrom_16 : decode yRo_copyFrom.2.1 16 = .ok (.getfield 21, 3) := by decide +kernel
theorem d_Ro_copyFrom_19 : decode yRo_copyFrom.2.1 19 = .ok (.iconst 0, 1) := by decide +kernel
theorem d_Ro_copyFrom_20 : decode yRo_copyFrom.2.1 20 = .ok (.aload_n 0, 1) := by decide +kernel
theorem d_Ro_copyFrom_21 : decode yRo_copyFrom.2.1 21 = .ok (.getfield 21, 3) := by decide +kernel
theorem d_Ro_copyFrom_24 : decode yRo_copyFrom.2.1 24 = .ok (.iconst 0, 1) := by decide +kernel
theorem d_Ro_copyFrom_25 : decode yRo_copyFrom.2.1 25 = .ok (.iconst 4, 1) := by decide +kernel
theorem d_Ro_copyFrom_26 : decode yRo_copyFrom.2.1 26 = .ok (.aload_n 0, 1) := by decide +kernel
theorem d_Ro_copyFrom_27 : decode yRo_copyFrom.2.1 27 = .ok (.getfield 25, 3) := by decide +kernel
theorem d_Ro_copyFrom_30 : decode yRo_copyFrom.2.1 30 = .ok (.imul, 1) := by decide +kernel
theorem d_Ro_copyFrom_31 : decode yRo_copyFrom.2.1 31 = .ok (.invokestatic 38, 3) := by decide +kernel
theorem d_Ro_copyFrom_34 : decode yRo_copyFrom.2.1 34 = .ok (.return_, 1) := by decide +kernel
def F_Ro_copyFrom (h0 n0 h1 n1 : Nat) (I : gb_Mem) : Option (gb_Mem) :=
  fstf I h0 2 (mn (I h1 2) (I h0 0)) fun I1 =>
  fcpy I1 (h1 + 1) n1 (h0 + 1) n0 0 0 (4 * (I1 h0 2)) fun I2 =>
  some I2
set_option maxRecDepth 4000 in
theorem c_Ro_copyFrom (l : Launch) (d0 : Nat) (h0 n0 h1 n1 : Nat) (H0 : isRo h0 n0) (H1 : isRo h1 n1) (I : gb_Mem) {Iz : gb_Mem} (h : F_Ro_copyFrom h0 n0 h1 n1 I = some Iz) : gb_Cs l yRo_copyFrom (d0 + 1) [.inr (some h0), .inr (some h1)] shX I none Iz := by
  refine gb_Ct.of (lv := [(0, .inr (some h0)), (1, .inr (some h1))]) rfl (Nat.le_of_ble_eq_true rfl) rfl ?_
  unfold F_Ro_copyFrom at h
  show gb_Go l yRo_copyFrom (d0 + 1) 0 0 0 [(0, .inr (some h0)), (1, .inr (some h1))] [] shX I (gb_po shX none Iz)
  refine go_aload_n (k := 0) d_Ro_copyFrom_0 rfl rfl ?_
  refine go_aload_n (k := 1) d_Ro_copyFrom_1 rfl rfl ?_
  refine go_geti (ci := 4) (k := 2) d_Ro_copyFrom_2 H1.1 rfl (by decide) f_Ro_25 rfl ?_
  refine go_aload_n (k := 0) d_Ro_copyFrom_5 rfl rfl ?_
  refine go_geti (ci := 4) (k := 0) d_Ro_copyFrom_6 H0.1 rfl (by decide) f_Ro_15 rfl ?_
  refine go_mmin d_Ro_copyFrom_9 m_Ro_35 (Nat.le_of_ble_eq_true rfl) ?_
  obtain ⟨I1, eI1, h⟩ := fstf_e h
  refine go_putT (ci := 4) (k := 2) (I' := I1) d_Ro_copyFrom_12 H0.1 rfl (by decide) f_Ro_25 rfl rfl rfl rfl rfl eI1 ?_
  refine go_aload_n (k := 1) d_Ro_copyFrom_15 rfl rfl ?_
  refine go_getr (ci := 4) (k := 1) (r := (h1 + 1)) d_Ro_copyFrom_16 H1.1 rfl (by decide) f_Ro_21 rfl ?_
  refine go_iconst (v := 0) d_Ro_copyFrom_19 (by decide) ?_
  refine go_aload_n (k := 0) d_Ro_copyFrom_20 rfl rfl ?_
  refine go_getr (ci := 4) (k := 1) (r := (h0 + 1)) d_Ro_copyFrom_21 H0.1 rfl (by decide) f_Ro_21 rfl ?_
  refine go_iconst (v := 0) d_Ro_copyFrom_24 (by decide) ?_
  refine go_iconst (v := 4) d_Ro_copyFrom_25 (by decide) ?_
  refine go_aload_n (k := 0) d_Ro_copyFrom_26 rfl rfl ?_
  refine go_geti (ci := 4) (k := 2) d_Ro_copyFrom_27 H0.1 rfl (by decide) f_Ro_25 rfl ?_
  refine go_imul d_Ro_copyFrom_30 ?_
  obtain ⟨⟨p1, p2, p3, p4, p5⟩, I2, eI2, h⟩ := fcpy_e h
  refine go_copy (I' := I2) d_Ro_copyFrom_31 m_Ro_38 H1.2 H0.2 (Nat.le_of_ble_eq_true rfl) p1 p2 p3 p4 p5 eI2 ?_
  cases h
  exact go_return d_Ro_copyFrom_34 rfl gb_po_i
theorem d_Se_around_0 : decode ySe_around.2.1 0 = .ok (.iconst 0, 1) := by decide +kernel
theorem d_Se_around_1 : decode ySe_around.2.1 1 = .ok (.istore_n 2, 1) := by decide +kernel
theorem d_Se_around_2 : decode ySe_around.2.1 2 = .ok (.iconst 0, 1) := by decide +kernel
theorem d_Se_around_3 : decode ySe_around.2.1 3 = .ok (.iload_n 0, 1) := by decide +kernel
theorem d_Se_around_4 : decode ySe_around.2.1 4 = .ok (.iload_n 1, 1) := by decide +kernel
theorem d_Se_around_5 : decode ySe_around.2.1 5 = .ok (.isub, 1) := by decide +kernel
theorem d_Se_around_6 : decode ySe_around.2.1 6 = .ok (.invokestatic 58, 3) := by decide +kernel
theorem d_Se_around_9 : decode ySe_around.2.1 9 = .ok (.istore_n 3, 1) := by decide +kernel
theorem d_Se_around_10 : decode ySe_around.2.1 10 = .ok (.iload_n 3, 1) := by decide +kernel
theorem d_Se_around_11 : decode ySe_around.2.1 11 = .ok (.bipush 12, 2) := by decide +kernel
theorem d_Se_around_13 : decode ySe_around.2.1 13 = .ok (.if_icmp .ge 22, 3) := by decide +kernel
theorem d_Se_around_16 : decode ySe_around.2.1 16 = .ok (.iload_n 3, 1) := by decide +kernel
theorem d_Se_around_17 : decode ySe_around.2.1 17 = .ok (.iload_n 0, 1) := by decide +kernel
theorem d_Se_around_18 : decode ySe_around.2.1 18 = .ok (.iload_n 1, 1) := by decide +kernel
theorem d_Se_around_19 : decode ySe_around.2.1 19 = .ok (.iadd, 1) := by decide +kernel
theorem d_Se_around_20 : decode ySe_around.2.1 20 = .ok (.if_icmp .gt 15, 3) := by decide +kernel
theorem d_Se_around_23 : decode ySe_around.2.1 23 = .ok (.iload_n 2, 1) := by decide +kernel
theorem d_Se_around_24 : decode ySe_around.2.1 24 = .ok (.iconst 1, 1) := by decide +kernel
theorem d_Se_around_25 : decode ySe_around.2.1 25 = .ok (.iload_n 3, 1) := by decide +kernel
theorem d_Se_around_26 : decode ySe_around.2.1 26 = .ok (.ishl, 1) := by decide +kernel
theorem d_Se_around_27 : decode ySe_around.2.1 27 = .ok (.ior, 1) := by decide +kernel
theorem d_Se_around_28 : decode ySe_around.2.1 28 = .ok (.istore_n 2, 1) := by decide +kernel
theorem d_Se_around_29 : decode ySe_around.2.1 29 = .ok (.iinc 3 1, 3) := by decide +kernel
theorem d_Se_around_32 : decode ySe_around.2.1 32 = .ok (.goto (-22), 3) := by decide +kernel
theorem d_Se_around_35 : decode ySe_around.2.1 35 = .ok (.iload_n 2, 1) := by decide +kernel
theorem d_Se_around_36 : decode ySe_around.2.1 36 = .ok (.ireturn, 1) := by decide +kernel
def L_Se_around_10 (x0 x1 : Int32) (I : gb_Mem) : Nat → Int32 → Int32 → Option (Int32)
  | 0, _, _ => none
  | n + 1, x2, x3 =>
    if 12 ≤ x3 then
      some x2
    else
      if (x0 + x1) < x3 then
        some x2
      else
        flt (x2 ||| (1 <<< (x3 &&& 31))) fun y1 =>
        L_Se_around_10 x0 x1 I n y1 (x3 + 1)
set_option maxRecDepth 4000 in
theorem l_Se_around_10 (l : Launch) (d0 : Nat) (x0 x1 : Int32) (I : gb_Mem) {post : Option gb_AV → List gb_Ce → gb_Mem → Prop} : ∀ (n : Nat) (x2 x3 : Int32) {ρ : Int32} (h : L_Se_around_10 x0 x1 I n x2 x3 = some ρ) (hX : ∀ (o2 : Int32), ρ = o2 → gb_Go l ySe_around (d0 + 1) 0 0 35 [(2, .inl o2)] [] shX I post) , gb_Go l ySe_around (d0 + 1) 0 0 10 [(0, .inl x0), (1, .inl x1), (2, .inl x2), (3, .inl x3)] [] shX I post := by
  intro n
  induction n with
  | zero => intro x2 x3 ρ h hX; cases h
  | succ n ih =>
    intro x2 x3 ρ h hX
    rw [L_Se_around_10] at h
    refine go_iload_n (k := 3) d_Se_around_10 rfl rfl ?_
    refine go_bipush (v := 12) d_Se_around_11 (by decide) ?_
    refine go_cmp_ge (tgt := 35) d_Se_around_13 (by decide) (fun hc => ?_) (fun hc => ?_)
    · rw [if_pos hc] at h
      exact go_lv [2] rfl (hX _ (Option.some.inj h).symm)
    · rw [if_neg hc] at h
      refine go_iload_n (k := 3) d_Se_around_16 rfl rfl ?_
      refine go_iload_n (k := 0) d_Se_around_17 rfl rfl ?_
      refine go_iload_n (k := 1) d_Se_around_18 rfl rfl ?_
      refine go_iadd d_Se_around_19 ?_
      refine go_cmp_gt (tgt := 35) d_Se_around_20 (by decide) (fun hc => ?_) (fun hc => ?_)
      · rw [if_pos hc] at h
        exact go_lv [2] rfl (hX _ (Option.some.inj h).symm)
      · rw [if_neg hc] at h
        refine go_iload_n (k := 2) d_Se_around_23 rfl rfl ?_
        refine go_iconst (v := 1) d_Se_around_24 (by decide) ?_
        refine go_iload_n (k := 3) d_Se_around_25 rfl rfl ?_
        refine go_ishl d_Se_around_26 ?_
        refine go_ior d_Se_around_27 ?_
        obtain ⟨y1, ey1, h⟩ := flt_e h
        refine go_top ey1 ?_
        refine go_istore_n (lv' := [(2, .inl y1), (0, .inl x0), (1, .inl x1), (3, .inl x3)]) d_Se_around_28 rfl (by decide) rfl ?_
        refine go_iinc (k := 3) (v := x3 + 1) (lv' := [(3, .inl (x3 + 1)), (2, .inl y1), (0, .inl x0), (1, .inl x1)]) d_Se_around_29 rfl rfl (by decide) rfl ?_
        refine go_goto (tgt := 10) d_Se_around_32 (by decide) ?_
        exact go_lv [2, 3, 1, 0] rfl (ih y1 (x3 + 1) h hX)
def F_Se_around (x0 x1 : Int32) (I : gb_Mem) : Option (Int32) :=
  fbd (L_Se_around_10 x0 x1 I 5000 0 (mx 0 (x0 - x1))) fun o2 =>
  some o2
set_option maxRecDepth 4000 in
theorem c_Se_around (l : Launch) (d0 : Nat) (x0 x1 : Int32) (I : gb_Mem) {rz : Int32} (h : F_Se_around x0 x1 I = some rz) : gb_Cs l ySe_around (d0 + 1) [.inl x0, .inl x1] shX I (some (.inl rz)) I := by
  refine gb_Ct.of (lv := [(0, .inl x0), (1, .inl x1)]) rfl (Nat.le_of_ble_eq_true rfl) rfl ?_
  unfold F_Se_around at h
  show gb_Go l ySe_around (d0 + 1) 0 0 0 [(0, .inl x0), (1, .inl x1)] [] shX I (gb_po shX (some (.inl rz)) I)
  refine go_iconst (v := 0) d_Se_around_0 (by decide) ?_
  refine go_istore_n (lv' := [(2, .inl 0), (0, .inl x0), (1, .inl x1)]) d_Se_around_1 rfl (by decide) rfl ?_
  refine go_iconst (v := 0) d_Se_around_2 (by decide) ?_
  refine go_iload_n (k := 1) d_Se_around_3 rfl rfl ?_
  refine go_iload_n (k := 2) d_Se_around_4 rfl rfl ?_
  refine go_isub d_Se_around_5 ?_
  refine go_mmax d_Se_around_6 m_Se_58 (Nat.le_of_ble_eq_true rfl) ?_
  refine go_istore_n (lv' := [(3, .inl (mx 0 (x0 - x1))), (2, .inl 0), (0, .inl x0), (1, .inl x1)]) d_Se_around_9 rfl (by decide) rfl ?_
  refine go_lv [2, 3, 1, 0] (lv' := [(0, .inl x0), (1, .inl x1), (2, .inl 0), (3, .inl (mx 0 (x0 - x1)))]) rfl ?_
  obtain ⟨o2, w1, h⟩ := fbd_e h
  refine l_Se_around_10 l d0 x0 x1 I 5000 0 (mx 0 (x0 - x1)) w1 (fun o2_ e => ?_)
  cases e
  refine go_iload_n (k := 0) d_Se_around_35 rfl rfl ?_
  cases h
  exact go_ireturn d_Se_around_36 rfl gb_po_i
theorem d_Ta_addGot_0 : decode yTa_addGot.2.1 0 = .ok (.iload_n 2, 1) := by decide +kernel
theorem d_Ta_addGot_1 : decode yTa_addGot.2.1 1 = .ok (.iconst 0, 1) := by decide +kernel
theorem d_Ta_addGot_2 : decode yTa_addGot.2.1 2 = .ok (.iconst 4, 1) := by decide +kernel
theorem d_Ta_addGot_3 : decode yTa_addGot.2.1 3 = .ok (.invokestatic 48, 3) := by decide +kernel
theorem d_Ta_addGot_6 : decode yTa_addGot.2.1 6 = .ok (.ifCond .eq 23, 3) := by decide +kernel
theorem d_Ta_addGot_9 : decode yTa_addGot.2.1 9 = .ok (.aload_n 0, 1) := by decide +kernel
theorem d_Ta_addGot_10 : decode yTa_addGot.2.1 10 = .ok (.getfield 18, 3) := by decide +kernel
theorem d_Ta_addGot_13 : decode yTa_addGot.2.1 13 = .ok (.iload_n 1, 1) := by decide +kernel
theorem d_Ta_addGot_14 : decode yTa_addGot.2.1 14 = .ok (.ifCond .ne 7, 3) := by decide +kernel
theorem d_Ta_addGot_17 : decode yTa_addGot.2.1 17 = .ok (.iconst 0, 1) := by decide +kernel
theorem d_Ta_addGot_18 : decode yTa_addGot.2.1 18 = .ok (.goto 4, 3) := by decide +kernel
theorem d_Ta_addGot_21 : decode yTa_addGot.2.1 21 = .ok (.iconst 5, 1) := by decide +kernel
theorem d_Ta_addGot_22 : decode yTa_addGot.2.1 22 = .ok (.iload_n 2, 1) := by decide +kernel
theorem d_Ta_addGot_23 : decode yTa_addGot.2.1 23 = .ok (.iadd, 1) := by decide +kernel
theorem d_Ta_addGot_24 : decode yTa_addGot.2.1 24 = .ok (.dup2, 1) := by decide +kernel
theorem d_Ta_addGot_25 : decode yTa_addGot.2.1 25 = .ok (.iaload, 1) := by decide +kernel
theorem d_Ta_addGot_26 : decode yTa_addGot.2.1 26 = .ok (.iload_n 3, 1) := by decide +kernel
theorem d_Ta_addGot_27 : decode yTa_addGot.2.1 27 = .ok (.iadd, 1) := by decide +kernel
theorem d_Ta_addGot_28 : decode yTa_addGot.2.1 28 = .ok (.iastore, 1) := by decide +kernel
theorem d_Ta_addGot_29 : decode yTa_addGot.2.1 29 = .ok (.return_, 1) := by decide +kernel
def J_Ta_addGot_22 (h0 : Nat) (x2 x3 s0 : Int32) (I : gb_Mem) : Option (gb_Mem) :=
  flod I (h0 + 3) 10 (s0 + x2) fun v1 =>
  fsto I (h0 + 3) 10 (s0 + x2) (v1 + x3) fun I2 =>
  some I2
set_option maxRecDepth 4000 in
theorem j_Ta_addGot_22 (l : Launch) (d0 : Nat) (h0 : Nat) (H0 : isTa h0) (x2 x3 s0 : Int32) (I : gb_Mem) {Iz : gb_Mem} (h : J_Ta_addGot_22 h0 x2 x3 s0 I = some Iz) : gb_Go l yTa_addGot (d0 + 1) 0 0 22 [(2, .inl x2), (3, .inl x3)] [.inl s0, .inr (some (h0 + 3))] shX I (gb_po shX none Iz) := by
  unfold J_Ta_addGot_22 at h
  refine go_iload_n (k := 0) d_Ta_addGot_22 rfl rfl ?_
  refine go_iadd d_Ta_addGot_23 ?_
  refine go_dup2 d_Ta_addGot_24 ?_
  obtain ⟨hi, v1, ev1, h⟩ := flod_e h
  refine go_iald2 d_Ta_addGot_25 H0.2.2.2 hi ev1 ?_
  refine go_iload_n (k := 1) d_Ta_addGot_26 rfl rfl ?_
  refine go_iadd d_Ta_addGot_27 ?_
  obtain ⟨hi, I2, eI2, h⟩ := fsto_e h
  refine go_iast (I' := I2) d_Ta_addGot_28 H0.2.2.2 hi eI2 ?_
  cases h
  exact go_return d_Ta_addGot_29 rfl gb_po_i
def F_Ta_addGot (h0 : Nat) (x1 x2 x3 : Int32) (I : gb_Mem) : Option (gb_Mem) :=
  if (F_Gb_within x2 0 4 I) = 0 then
    some I
  else
    if x1 = 0 then
      J_Ta_addGot_22 h0 x2 x3 0 I
    else
      J_Ta_addGot_22 h0 x2 x3 5 I
set_option maxRecDepth 4000 in
theorem c_Ta_addGot (l : Launch) (d0 : Nat) (h0 : Nat) (H0 : isTa h0) (x1 x2 x3 : Int32) (I : gb_Mem) {Iz : gb_Mem} (h : F_Ta_addGot h0 x1 x2 x3 I = some Iz) : gb_Cs l yTa_addGot (d0 + 1) [.inr (some h0), .inl x1, .inl x2, .inl x3] shX I none Iz := by
  refine gb_Ct.of (lv := [(0, .inr (some h0)), (1, .inl x1), (2, .inl x2), (3, .inl x3)]) rfl (Nat.le_of_ble_eq_true rfl) rfl ?_
  unfold F_Ta_addGot at h
  show gb_Go l yTa_addGot (d0 + 1) 0 0 0 [(0, .inr (some h0)), (1, .inl x1), (2, .inl x2), (3, .inl x3)] [] shX I (gb_po shX none Iz)
  refine go_iload_n (k := 2) d_Ta_addGot_0 rfl rfl ?_
  refine go_iconst (v := 0) d_Ta_addGot_1 (by decide) ?_
  refine go_iconst (v := 4) d_Ta_addGot_2 (by decide) ?_
  refine go_callSN (y := yGb_within) (asr := [.inl x2, .inl 0, .inl 4]) (v := some (.inl (F_Gb_within x2 0 4 I))) (I' := I) (st1 := [.inl (F_Gb_within x2 0 4 I)]) d_Ta_addGot_3 s_yGb_within m_Ta_48 rfl (Nat.le_of_ble_eq_true rfl) rfl rfl (c_Gb_within l (d0 + 0) x2 0 4 I) ?_
  refine go_if_eq (tgt := 29) d_Ta_addGot_6 (by decide) (fun hc => ?_) (fun hc => ?_)
  · rw [if_pos hc] at h
    cases h
    exact go_return d_Ta_addGot_29 rfl gb_po_i
  · rw [if_neg hc] at h
    refine go_aload_n (k := 0) d_Ta_addGot_9 rfl rfl ?_
    refine go_getr (ci := 2) (k := 8) (r := (h0 + 3)) d_Ta_addGot_10 H0.1 rfl (by decide) f_Ta_18 rfl ?_
    refine go_iload_n (k := 1) d_Ta_addGot_13 rfl rfl ?_
    refine go_if_ne (tgt := 21) d_Ta_addGot_14 (by decide) (fun hc => ?_) (fun hc => ?_)
    · rw [if_neg hc] at h
      refine go_iconst (v := 5) d_Ta_addGot_21 (by decide) ?_
      exact go_lv [2, 3] rfl (j_Ta_addGot_22 l d0 h0 H0 x2 x3 5 I h)
    · rw [if_pos hc] at h
      refine go_iconst (v := 0) d_Ta_addGot_17 (by decide) ?_
      refine go_goto (tgt := 22) d_Ta_addGot_18 (by decide) ?_
      exact go_lv [2, 3] rfl (j_Ta_addGot_22 l d0 h0 H0 x2 x3 0 I h)
theorem d_Ta_copyFrom_0 : decode yTa_copyFrom.2.1 0 = .ok (.aload_n 0, 1) := by decide +kernel
theorem d_Ta_copyFrom_1 : decode yTa_copyFrom.2.1 1 = .ok (.aload_n 1, 1) := by decide +kernel
theorem d_Ta_copyFrom_2 : decode yTa_copyFrom.2.1 2 = .ok (.getfield 21, 3) := by decide +kernel
theorem d_Ta_copyFrom_5 : decode yTa_copyFrom.2.1 5 = .ok (.putfield 21, 3) := by decide +kernel
theorem d_Ta_copyFrom_8 : decode yTa_copyFrom.2.1 8 = .ok (.aload_n 0, 1) := by decide +kernel
theorem d_Ta_copyFrom_9 : decode yTa_copyFrom.2.1 9 = .ok (.aload_n 1, 1) := by decide +kernel
theorem d_Ta_copyFrom_10 : decode yTa_copyFrom.2.1 10 = .ok (.getfield 25, 3) := by decide +kernel
theorem d_Ta_copyFrom_13 : decode yTa_copyFrom.2.1 13 = .ok (.putfield 25, 3) := by decide +kernel
theorem d_Ta_copyFrom_16 : decode yTa_copyFrom.2.1 16 = .ok (.aload_n 0, 1) := by decide +kernel
theorem d_Ta_copyFrom_17 : decode yTa_copyFrom.2.1 17 = .ok (.aload_n 1, 1) := by decide +kernel
theorem d_Ta_copyFrom_18 : decode yTa_copyFrom.2.1 18 = .ok (.getfield 28, 3) := by decide +kernel
theorem d_Ta_copyFrom_21 : decode yTa_copyFrom.2.1 21 = .ok (.putfield 28, 3) := by decide +kernel
theorem d_Ta_copyFrom_24 : decode yTa_copyFrom.2.1 24 = .ok (.aload_n 0, 1) := by decide +kernel
theorem d_Ta_copyFrom_25 : decode yTa_copyFrom.2.1 25 = .ok (.aload_n 1, 1) := by decide +kernel
theorem d_Ta_copyFrom_26 : decode yTa_copyFrom.2.1 26 = .ok (.getfield 31, 3) := by decide +kernel
theorem d_Ta_copyFrom_29 : decode yTa_copyFrom.2.1 29 = .ok (.putfield 31, 3) := by decide +kernel
theorem d_Ta_copyFrom_32 : decode yTa_copyFrom.2.1 32 = .ok (.aload_n 0, 1) := by decide +kernel
theorem d_Ta_copyFrom_33 : decode yTa_copyFrom.2.1 33 = .ok (.aload_n 1, 1) := by decide +kernel
theorem d_Ta_copyFrom_34 : decode yTa_copyFrom.2.1 34 = .ok (.getfield 34, 3) := by decide +kernel
theorem d_Ta_copyFrom_37 : decode yTa_copyFrom.2.1 37 = .ok (.putfield 34, 3) := by decide +kernel
theorem d_Ta_copyFrom_40 : decode yTa_copyFrom.2.1 40 = .ok (.aload_n 0, 1) := by decide +kernel
theorem d_Ta_copyFrom_41 : decode yTa_copyFrom.2.1 41 = .ok (.aload_n 1, 1) := by decide +kernel
theorem d_Ta_copyFrom_42 : decode yTa_copyFrom.2.1 42 = .ok (.getfield 37, 3) := by decide +kernel
theorem d_Ta_copyFrom_45 : decode yTa_copyFrom.2.1 45 = .ok (.putfield 37, 3) := by decide +kernel
theorem d_Ta_copyFrom_48 : decode yTa_copyFrom.2.1 48 = .ok (.aload_n 1, 1) := by decide +kernel
theorem d_Ta_copyFrom_49 : decode yTa_copyFrom.2.1 49 = .ok (.getfield 9, 3) := by decide +kernel
theorem d_Ta_copyFrom_52 : decode yTa_copyFrom.2.1 52 = .ok (.iconst 0, 1) := by decide +kernel
theorem d_Ta_copyFrom_53 : decode yTa_copyFrom.2.1 53 = .ok (.aload_n 0, 1) := by decide +kernel
theorem d_Ta_copyFrom_54 : decode yTa_copyFrom.2.1 54 = .ok (.getfield 9, 3) := by decide +kernel
theorem d_Ta_copyFrom_57 : decode yTa_copyFrom.2.1 57 = .ok (.iconst 0, 1) := by decide +kernel
theorem d_Ta_copyFrom_58 : decode yTa_copyFrom.2.1 58 = .ok (.aload_n 0, 1) := by decide +kernel
theorem d_Ta_copyFrom_59 : decode yTa_copyFrom.2.1 59 = .ok (.getfield 9, 3) := by decide +kernel
theorem d_Ta_copyFrom_62 : decode yTa_copyFrom.2.1 62 = .ok (.arraylength, 1) := by decide +kernel
theorem d_Ta_copyFrom_63 : decode yTa_copyFrom.2.1 63 = .ok (.invokestatic 40, 3) := by decide +kernel
theorem d_Ta_copyFrom_66 : decode yTa_copyFrom.2.1 66 = .ok (.aload_n 1, 1) := by decide +kernel
theorem d_Ta_copyFrom_67 : decode yTa_copyFrom.2.1 67 = .ok (.getfield 15, 3) := by decide +kernel
theorem d_Ta_copyFrom_70 : decode yTa_copyFrom.2.1 70 = .ok (.iconst 0, 1) := by decide +kernel
theorem d_Ta_copyFrom_71 : decode yTa_copyFrom.2.1 71 = .ok (.aload_n 0, 1) := by decide +kernel
theorem d_Ta_copyFrom_72 : decode yTa_copyFrom.2.1 72 = .ok (.getfield 15, 3) := by decide +kernel
theorem d_Ta_copyFrom_75 : decode yTa_copyFrom.2.1 75 = .ok (.iconst 0, 1) := by decide +kernel
theorem d_Ta_copyFrom_76 : decode yTa_copyFrom.2.1 76 = .ok (.aload_n 0, 1) := by decide +kernel
theorem d_Ta_copyFrom_77 : decode yTa_copyFrom.2.1 77 = .ok (.getfield 15, 3) := by decide +kernel
theorem d_Ta_copyFrom_80 : decode yTa_copyFrom.2.1 80 = .ok (.arraylength, 1) := by decide +kernel
theorem d_Ta_copyFrom_81 : decode yTa_copyFrom.2.1 81 = .ok (.invokestatic 40, 3) := by decide +kernel
theorem d_Ta_copyFrom_84 : decode yTa_copyFrom.2.1 84 = .ok (.aload_n 1, 1) := by decide +kernel
theorem d_Ta_copyFrom_85 : decode yTa_copyFrom.2.1 85 = .ok (.getfield 18, 3) := by decide +kernel
theorem d_Ta_copyFrom_88 : decode yTa_copyFrom.2.1 88 = .ok (.iconst 0, 1) := by decide +kernel
theorem d_Ta_copyFrom_89 : decode yTa_copyFrom.2.1 89 = .ok (.aload_n 0, 1) := by decide +kernel
theorem d_Ta_copyFrom_90 : decode yTa_copyFrom.2.1 90 = .ok (.getfield 18, 3) := by decide +kernel
theorem d_Ta_copyFrom_93 : decode yTa_copyFrom.2.1 93 = .ok (.iconst 0, 1) := by decide +kernel
theorem d_Ta_copyFrom_94 : decode yTa_copyFrom.2.1 94 = .ok (.aload_n 0, 1) := by decide +kernel
theorem d_Ta_copyFrom_95 : decode yTa_copyFrom.2.1 95 = .ok (.getfield 18, 3) := by decide +kernel
theorem d_Ta_copyFrom_98 : decode yTa_copyFrom.2.1 98 = .ok (.arraylength, 1) := by decide +kernel
theorem d_Ta_copyFrom_99 : decode yTa_copyFrom.2.1 99 = .ok (.invokestatic 40, 3) := by decide +kernel
theorem d_Ta_copyFrom_102 : decode yTa_copyFrom.2.1 102 = .ok (.return_, 1) := by decide +kernel
def F_Ta_copyFrom (h0 h1 : Nat) (I : gb_Mem) : Option (gb_Mem) :=
  fstf I h0 0 (I h1 0) fun I1 =>
  fstf I1 h0 1 (I1 h1 1) fun I2 =>
  fstf I2 h0 2 (I2 h1 2) fun I3 =>
  fstf I3 h0 3 (I3 h1 3) fun I4 =>
  fstf I4 h0 4 (I4 h1 4) fun I5 =>
  fstf I5 h0 5 (I5 h1 5) fun I6 =>
  fcpy I6 (h1 + 1) 60 (h0 + 1) 60 0 0 60 fun I7 =>
  fcpy I7 (h1 + 2) 48 (h0 + 2) 48 0 0 48 fun I8 =>
  fcpy I8 (h1 + 3) 10 (h0 + 3) 10 0 0 10 fun I9 =>
  some I9
set_option maxRecDepth 4000 in
theorem c_Ta_copyFrom (l : Launch) (d0 : Nat) (h0 h1 : Nat) (H0 : isTa h0) (H1 : isTa h1) (I : gb_Mem) {Iz : gb_Mem} (h : F_Ta_copyFrom h0 h1 I = some Iz) : gb_Cs l yTa_copyFrom (d0 + 1) [.inr (some h0), .inr (some h1)] shX I none Iz := by
  refine gb_Ct.of (lv := [(0, .inr (some h0)), (1, .inr (some h1))]) rfl (Nat.le_of_ble_eq_true rfl) rfl ?_
  unfold F_Ta_copyFrom at h
  show gb_Go l yTa_copyFrom (d0 + 1) 0 0 0 [(0, .inr (some h0)), (1, .inr (some h1))] [] shX I (gb_po shX none Iz)
  refine go_aload_n (k := 0) d_Ta_copyFrom_0 rfl rfl ?_
  refine go_aload_n (k := 1) d_Ta_copyFrom_1 rfl rfl ?_
  refine go_geti (ci := 2) (k := 0) d_Ta_copyFrom_2 H1.1 rfl (by decide) f_Ta_21 rfl ?_
  obtain ⟨I1, eI1, h⟩ := fstf_e h
  refine go_putT (ci := 2) (k := 0) (I' := I1) d_Ta_copyFrom_5 H0.1 rfl (by decide) f_Ta_21 rfl rfl rfl rfl rfl eI1 ?_
  refine go_aload_n (k := 0) d_Ta_copyFrom_8 rfl rfl ?_
  refine go_aload_n (k := 1) d_Ta_copyFrom_9 rfl rfl ?_
  refine go_geti (ci := 2) (k := 1) d_Ta_copyFrom_10 H1.1 rfl (by decide) f_Ta_25 rfl ?_
  obtain ⟨I2, eI2, h⟩ := fstf_e h
  refine go_putT (ci := 2) (k := 1) (I' := I2) d_Ta_copyFrom_13 H0.1 rfl (by decide) f_Ta_25 rfl rfl rfl rfl rfl eI2 ?_
  refine go_aload_n (k := 0) d_Ta_copyFrom_16 rfl rfl ?_
  refine go_aload_n (k := 1) d_Ta_copyFrom_17 rfl rfl ?_
  refine go_geti (ci := 2) (k := 2) d_Ta_copyFrom_18 H1.1 rfl (by decide) f_Ta_28 rfl ?_
  obtain ⟨I3, eI3, h⟩ := fstf_e h
  refine go_putT (ci := 2) (k := 2) (I' := I3) d_Ta_copyFrom_21 H0.1 rfl (by decide) f_Ta_28 rfl rfl rfl rfl rfl eI3 ?_
  refine go_aload_n (k := 0) d_Ta_copyFrom_24 rfl rfl ?_
  refine go_aload_n (k := 1) d_Ta_copyFrom_25 rfl rfl ?_
  refine go_geti (ci := 2) (k := 3) d_Ta_copyFrom_26 H1.1 rfl (by decide) f_Ta_31 rfl ?_
  obtain ⟨I4, eI4, h⟩ := fstf_e h
  refine go_putT (ci := 2) (k := 3) (I' := I4) d_Ta_copyFrom_29 H0.1 rfl (by decide) f_Ta_31 rfl rfl rfl rfl rfl eI4 ?_
  refine go_aload_n (k := 0) d_Ta_copyFrom_32 rfl rfl ?_
  refine go_aload_n (k := 1) d_Ta_copyFrom_33 rfl rfl ?_
  refine go_geti (ci := 2) (k := 4) d_Ta_copyFrom_34 H1.1 rfl (by decide) f_Ta_34 rfl ?_
  obtain ⟨I5, eI5, h⟩ := fstf_e h
  refine go_putT (ci := 2) (k := 4) (I' := I5) d_Ta_copyFrom_37 H0.1 rfl (by decide) f_Ta_34 rfl rfl rfl rfl rfl eI5 ?_
  refine go_aload_n (k := 0) d_Ta_copyFrom_40 rfl rfl ?_
  refine go_aload_n (k := 1) d_Ta_copyFrom_41 rfl rfl ?_
  refine go_geti (ci := 2) (k := 5) d_Ta_copyFrom_42 H1.1 rfl (by decide) f_Ta_37 rfl ?_
  obtain ⟨I6, eI6, h⟩ := fstf_e h
  refine go_putT (ci := 2) (k := 5) (I' := I6) d_Ta_copyFrom_45 H0.1 rfl (by decide) f_Ta_37 rfl rfl rfl rfl rfl eI6 ?_
  refine go_aload_n (k := 1) d_Ta_copyFrom_48 rfl rfl ?_
  refine go_getr (ci := 2) (k := 6) (r := (h1 + 1)) d_Ta_copyFrom_49 H1.1 rfl (by decide) f_Ta_9 rfl ?_
  refine go_iconst (v := 0) d_Ta_copyFrom_52 (by decide) ?_
  refine go_aload_n (k := 0) d_Ta_copyFrom_53 rfl rfl ?_
  refine go_getr (ci := 2) (k := 6) (r := (h0 + 1)) d_Ta_copyFrom_54 H0.1 rfl (by decide) f_Ta_9 rfl ?_
  refine go_iconst (v := 0) d_Ta_copyFrom_57 (by decide) ?_
  refine go_aload_n (k := 0) d_Ta_copyFrom_58 rfl rfl ?_
  refine go_getr (ci := 2) (k := 6) (r := (h0 + 1)) d_Ta_copyFrom_59 H0.1 rfl (by decide) f_Ta_9 rfl ?_
  refine go_alen d_Ta_copyFrom_62 H0.2.1 ?_
  refine go_top (v := 60) rfl ?_
  obtain ⟨⟨p1, p2, p3, p4, p5⟩, I7, eI7, h⟩ := fcpy_e h
  refine go_copy (I' := I7) d_Ta_copyFrom_63 m_Ta_40 H1.2.1 H0.2.1 (Nat.le_of_ble_eq_true rfl) p1 p2 p3 p4 p5 eI7 ?_
  refine go_aload_n (k := 1) d_Ta_copyFrom_66 rfl rfl ?_
  refine go_getr (ci := 2) (k := 7) (r := (h1 + 2)) d_Ta_copyFrom_67 H1.1 rfl (by decide) f_Ta_15 rfl ?_
  refine go_iconst (v := 0) d_Ta_copyFrom_70 (by decide) ?_
  refine go_aload_n (k := 0) d_Ta_copyFrom_71 rfl rfl ?_
  refine go_getr (ci := 2) (k := 7) (r := (h0 + 2)) d_Ta_copyFrom_72 H0.1 rfl (by decide) f_Ta_15 rfl ?_
  refine go_iconst (v := 0) d_Ta_copyFrom_75 (by decide) ?_
  refine go_aload_n (k := 0) d_Ta_copyFrom_76 rfl rfl ?_
  refine go_getr (ci := 2) (k := 7) (r := (h0 + 2)) d_Ta_copyFrom_77 H0.1 rfl (by decide) f_Ta_15 rfl ?_
  refine go_alen d_Ta_copyFrom_80 H0.2.2.1 ?_
  refine go_top (v := 48) rfl ?_
  obtain ⟨⟨p1, p2, p3, p4, p5⟩, I8, eI8, h⟩ := fcpy_e h
  refine go_copy (I' := I8) d_Ta_copyFrom_81 m_Ta_40 H1.2.2.1 H0.2.2.1 (Nat.le_of_ble_eq_true rfl) p1 p2 p3 p4 p5 eI8 ?_
  refine go_aload_n (k := 1) d_Ta_copyFrom_84 rfl rfl ?_
  refine go_getr (ci := 2) (k := 8) (r := (h1 + 3)) d_Ta_copyFrom_85 H1.1 rfl (by decide) f_Ta_18 rfl ?_
  refine go_iconst (v := 0) d_Ta_copyFrom_88 (by decide) ?_
  refine go_aload_n (k := 0) d_Ta_copyFrom_89 rfl rfl ?_
  refine go_getr (ci := 2) (k := 8) (r := (h0 + 3)) d_Ta_copyFrom_90 H0.1 rfl (by decide) f_Ta_18 rfl ?_
  refine go_iconst (v := 0) d_Ta_copyFrom_93 (by decide) ?_
  refine go_aload_n (k := 0) d_Ta_copyFrom_94 rfl rfl ?_
  refine go_getr (ci := 2) (k := 8) (r := (h0 + 3)) d_Ta_copyFrom_95 H0.1 rfl (by decide) f_Ta_18 rfl ?_
  refine go_alen d_Ta_copyFrom_98 H0.2.2.2 ?_
  refine go_top (v := 10) rfl ?_
  obtain ⟨⟨p1, p2, p3, p4, p5⟩, I9, eI9, h⟩ := fcpy_e h
  refine go_copy (I' := I9) d_Ta_copyFrom_99 m_Ta_40 H1.2.2.2 H0.2.2.2 (Nat.le_of_ble_eq_true rfl) p1 p2 p3 p4 p5 eI9 ?_
  cases h
  exact go_return d_Ta_copyFrom_102 rfl gb_po_i
theorem d_Ta_ofBoat_0 : decode yTa_ofBoat.2.1 0 = .ok (.iload_n 1, 1) := by decide +kernel
theorem d_Ta_ofBoat_1 : decode yTa_ofBoat.2.1 1 = .ok (.iconst 0, 1) := by decide +kernel
theorem d_Ta_ofBoat_2 : decode yTa_ofBoat.2.1 2 = .ok (.iconst 5, 1) := by decide +kernel
theorem d_Ta_ofBoat_3 : decode yTa_ofBoat.2.1 3 = .ok (.invokestatic 48, 3) := by decide +kernel
theorem d_Ta_ofBoat_6 : decode yTa_ofBoat.2.1 6 = .ok (.ifCond .eq 17, 3) := by decide +kernel
theorem d_Ta_ofBoat_9 : decode yTa_ofBoat.2.1 9 = .ok (.iload_n 2, 1) := by decide +kernel
theorem d_Ta_ofBoat_10 : decode yTa_ofBoat.2.1 10 = .ok (.iconst 0, 1) := by decide +kernel
theorem d_Ta_ofBoat_11 : decode yTa_ofBoat.2.1 11 = .ok (.bipush 7, 2) := by decide +kernel
theorem d_Ta_ofBoat_13 : decode yTa_ofBoat.2.1 13 = .ok (.invokestatic 48, 3) := by decide +kernel
theorem d_Ta_ofBoat_16 : decode yTa_ofBoat.2.1 16 = .ok (.ifCond .eq 7, 3) := by decide +kernel
theorem d_Ta_ofBoat_19 : decode yTa_ofBoat.2.1 19 = .ok (.iconst 1, 1) := by decide +kernel
theorem d_Ta_ofBoat_20 : decode yTa_ofBoat.2.1 20 = .ok (.goto 4, 3) := by decide +kernel
theorem d_Ta_ofBoat_23 : decode yTa_ofBoat.2.1 23 = .ok (.iconst 0, 1) := by decide +kernel
theorem d_Ta_ofBoat_24 : decode yTa_ofBoat.2.1 24 = .ok (.istore_n 3, 1) := by decide +kernel
theorem d_Ta_ofBoat_25 : decode yTa_ofBoat.2.1 25 = .ok (.iload_n 3, 1) := by decide +kernel
theorem d_Ta_ofBoat_26 : decode yTa_ofBoat.2.1 26 = .ok (.ifCond .eq 17, 3) := by decide +kernel
theorem d_Ta_ofBoat_29 : decode yTa_ofBoat.2.1 29 = .ok (.aload_n 0, 1) := by decide +kernel
theorem d_Ta_ofBoat_30 : decode yTa_ofBoat.2.1 30 = .ok (.getfield 15, 3) := by decide +kernel
theorem d_Ta_ofBoat_33 : decode yTa_ofBoat.2.1 33 = .ok (.iload_n 1, 1) := by decide +kernel
theorem d_Ta_ofBoat_34 : decode yTa_ofBoat.2.1 34 = .ok (.bipush 8, 2) := by decide +kernel
theorem d_Ta_ofBoat_36 : decode yTa_ofBoat.2.1 36 = .ok (.imul, 1) := by decide +kernel
theorem d_Ta_ofBoat_37 : decode yTa_ofBoat.2.1 37 = .ok (.iload_n 2, 1) := by decide +kernel
theorem d_Ta_ofBoat_38 : decode yTa_ofBoat.2.1 38 = .ok (.iadd, 1) := by decide +kernel
theorem d_Ta_ofBoat_39 : decode yTa_ofBoat.2.1 39 = .ok (.iaload, 1) := by decide +kernel
theorem d_Ta_ofBoat_40 : decode yTa_ofBoat.2.1 40 = .ok (.goto 4, 3) := by decide +kernel
theorem d_Ta_ofBoat_43 : decode yTa_ofBoat.2.1 43 = .ok (.iconst 0, 1) := by decide +kernel
theorem d_Ta_ofBoat_44 : decode yTa_ofBoat.2.1 44 = .ok (.ireturn, 1) := by decide +kernel
def J_Ta_ofBoat_24 (h0 : Nat) (x1 x2 s0 : Int32) (I : gb_Mem) : Option (Int32) :=
  if s0 = 0 then
    some 0
  else
    flod I (h0 + 2) 48 ((x1 * 8) + x2) fun v1 =>
    some v1
set_option maxRecDepth 4000 in
theorem j_Ta_ofBoat_24 (l : Launch) (d0 : Nat) (h0 : Nat) (H0 : isTa h0) (x1 x2 s0 : Int32) (I : gb_Mem) {rz : Int32} (h : J_Ta_ofBoat_24 h0 x1 x2 s0 I = some rz) : gb_Go l yTa_ofBoat (d0 + 1) 0 0 24 [(0, .inr (some h0)), (1, .inl x1), (2, .inl x2)] [.inl s0] shX I (gb_po shX (some (.inl rz)) I) := by
  unfold J_Ta_ofBoat_24 at h
  refine go_istore_n (lv' := [(3, .inl s0), (0, .inr (some h0)), (1, .inl x1), (2, .inl x2)]) d_Ta_ofBoat_24 rfl (by decide) rfl ?_
  refine go_iload_n (k := 0) d_Ta_ofBoat_25 rfl rfl ?_
  refine go_if_eq (tgt := 43) d_Ta_ofBoat_26 (by decide) (fun hc => ?_) (fun hc => ?_)
  · rw [if_pos hc] at h
    refine go_iconst (v := 0) d_Ta_ofBoat_43 (by decide) ?_
    cases h
    exact go_ireturn d_Ta_ofBoat_44 rfl gb_po_i
  · rw [if_neg hc] at h
    refine go_aload_n (k := 1) d_Ta_ofBoat_29 rfl rfl ?_
    refine go_getr (ci := 2) (k := 7) (r := (h0 + 2)) d_Ta_ofBoat_30 H0.1 rfl (by decide) f_Ta_15 rfl ?_
    refine go_iload_n (k := 2) d_Ta_ofBoat_33 rfl rfl ?_
    refine go_bipush (v := 8) d_Ta_ofBoat_34 (by decide) ?_
    refine go_imul d_Ta_ofBoat_36 ?_
    refine go_iload_n (k := 3) d_Ta_ofBoat_37 rfl rfl ?_
    refine go_iadd d_Ta_ofBoat_38 ?_
    obtain ⟨hi, v1, ev1, h⟩ := flod_e h
    refine go_iald2 d_Ta_ofBoat_39 H0.2.2.1 hi ev1 ?_
    refine go_goto (tgt := 44) d_Ta_ofBoat_40 (by decide) ?_
    cases h
    exact go_ireturn d_Ta_ofBoat_44 rfl gb_po_i
def J_Ta_ofBoat_23 (h0 : Nat) (x1 x2 : Int32) (I : gb_Mem) : Option (Int32) :=
  J_Ta_ofBoat_24 h0 x1 x2 0 I
set_option maxRecDepth 4000 in
theorem j_Ta_ofBoat_23 (l : Launch) (d0 : Nat) (h0 : Nat) (H0 : isTa h0) (x1 x2 : Int32) (I : gb_Mem) {rz : Int32} (h : J_Ta_ofBoat_23 h0 x1 x2 I = some rz) : gb_Go l yTa_ofBoat (d0 + 1) 0 0 23 [(0, .inr (some h0)), (1, .inl x1), (2, .inl x2)] [] shX I (gb_po shX (some (.inl rz)) I) := by
  unfold J_Ta_ofBoat_23 at h
  refine go_iconst (v := 0) d_Ta_ofBoat_23 (by decide) ?_
  exact go_lv [0, 1, 2] rfl (j_Ta_ofBoat_24 l d0 h0 H0 x1 x2 0 I h)
def F_Ta_ofBoat (h0 : Nat) (x1 x2 : Int32) (I : gb_Mem) : Option (Int32) :=
  if (F_Gb_within x1 0 5 I) = 0 then
    J_Ta_ofBoat_23 h0 x1 x2 I
  else
    if (F_Gb_within x2 0 7 I) = 0 then
      J_Ta_ofBoat_23 h0 x1 x2 I
    else
      J_Ta_ofBoat_24 h0 x1 x2 1 I
set_option maxRecDepth 4000 in
theorem c_Ta_ofBoat (l : Launch) (d0 : Nat) (h0 : Nat) (H0 : isTa h0) (x1 x2 : Int32) (I : gb_Mem) {rz : Int32} (h : F_Ta_ofBoat h0 x1 x2 I = some rz) : gb_Cs l yTa_ofBoat (d0 + 1) [.inr (some h0), .inl x1, .inl x2] shX I (some (.inl rz)) I := by
  refine gb_Ct.of (lv := [(0, .inr (some h0)), (1, .inl x1), (2, .inl x2)]) rfl (Nat.le_of_ble_eq_true rfl) rfl ?_
  unfold F_Ta_ofBoat at h
  show gb_Go l yTa_ofBoat (d0 + 1) 0 0 0 [(0, .inr (some h0)), (1, .inl x1), (2, .inl x2)] [] shX I (gb_po shX (some (.inl rz)) I)
  refine go_iload_n (k := 1) d_Ta_ofBoat_0 rfl rfl ?_
  refine go_iconst (v := 0) d_Ta_ofBoat_1 (by decide) ?_
  refine go_iconst (v := 5) d_Ta_ofBoat_2 (by decide) ?_
  refine go_callSN (y := yGb_within) (asr := [.inl x1, .inl 0, .inl 5]) (v := some (.inl (F_Gb_within x1 0 5 I))) (I' := I) (st1 := [.inl (F_Gb_within x1 0 5 I)]) d_Ta_ofBoat_3 s_yGb_within m_Ta_48 rfl (Nat.le_of_ble_eq_true rfl) rfl rfl (c_Gb_within l (d0 + 0) x1 0 5 I) ?_
  refine go_if_eq (tgt := 23) d_Ta_ofBoat_6 (by decide) (fun hc => ?_) (fun hc => ?_)
  · rw [if_pos hc] at h
    exact go_lv [0, 1, 2] rfl (j_Ta_ofBoat_23 l d0 h0 H0 x1 x2 I h)
  · rw [if_neg hc] at h
    refine go_iload_n (k := 2) d_Ta_ofBoat_9 rfl rfl ?_
    refine go_iconst (v := 0) d_Ta_ofBoat_10 (by decide) ?_
    refine go_bipush (v := 7) d_Ta_ofBoat_11 (by decide) ?_
    refine go_callSN (y := yGb_within) (asr := [.inl x2, .inl 0, .inl 7]) (v := some (.inl (F_Gb_within x2 0 7 I))) (I' := I) (st1 := [.inl (F_Gb_within x2 0 7 I)]) d_Ta_ofBoat_13 s_yGb_within m_Ta_48 rfl (Nat.le_of_ble_eq_true rfl) rfl rfl (c_Gb_within l (d0 + 0) x2 0 7 I) ?_
    refine go_if_eq (tgt := 23) d_Ta_ofBoat_16 (by decide) (fun hc => ?_) (fun hc => ?_)
    · rw [if_pos hc] at h
      exact go_lv [0, 1, 2] rfl (j_Ta_ofBoat_23 l d0 h0 H0 x1 x2 I h)
    · rw [if_neg hc] at h
      refine go_iconst (v := 1) d_Ta_ofBoat_19 (by decide) ?_
      refine go_goto (tgt := 24) d_Ta_ofBoat_20 (by decide) ?_
      exact go_lv [0, 1, 2] rfl (j_Ta_ofBoat_24 l d0 h0 H0 x1 x2 1 I h)
theorem d_Ta_ofGot_0 : decode yTa_ofGot.2.1 0 = .ok (.iload_n 2, 1) := by decide +kernel
theorem d_Ta_ofGot_1 : decode yTa_ofGot.2.1 1 = .ok (.iconst 0, 1) := by decide +kernel
theorem d_Ta_ofGot_2 : decode yTa_ofGot.2.1 2 = .ok (.iconst 4, 1) := by decide +kernel
theorem d_Ta_ofGot_3 : decode yTa_ofGot.2.1 3 = .ok (.invokestatic 48, 3) := by decide +kernel
theorem d_Ta_ofGot_6 : decode yTa_ofGot.2.1 6 = .ok (.ifCond .eq 22, 3) := by decide +kernel
theorem d_Ta_ofGot_9 : decode yTa_ofGot.2.1 9 = .ok (.aload_n 0, 1) := by decide +kernel
theorem d_Ta_ofGot_10 : decode yTa_ofGot.2.1 10 = .ok (.getfield 18, 3) := by decide +kernel
theorem d_Ta_ofGot_13 : decode yTa_ofGot.2.1 13 = .ok (.iload_n 1, 1) := by decide +kernel
theorem d_Ta_ofGot_14 : decode yTa_ofGot.2.1 14 = .ok (.ifCond .ne 7, 3) := by decide +kernel
theorem d_Ta_ofGot_17 : decode yTa_ofGot.2.1 17 = .ok (.iconst 0, 1) := by decide +kernel
theorem d_Ta_ofGot_18 : decode yTa_ofGot.2.1 18 = .ok (.goto 4, 3) := by decide +kernel
theorem d_Ta_ofGot_21 : decode yTa_ofGot.2.1 21 = .ok (.iconst 5, 1) := by decide +kernel
theorem d_Ta_ofGot_22 : decode yTa_ofGot.2.1 22 = .ok (.iload_n 2, 1) := by decide +kernel
theorem d_Ta_ofGot_23 : decode yTa_ofGot.2.1 23 = .ok (.iadd, 1) := by decide +kernel
theorem d_Ta_ofGot_24 : decode yTa_ofGot.2.1 24 = .ok (.iaload, 1) := by decide +kernel
theorem d_Ta_ofGot_25 : decode yTa_ofGot.2.1 25 = .ok (.goto 4, 3) := by decide +kernel
theorem d_Ta_ofGot_28 : decode yTa_ofGot.2.1 28 = .ok (.iconst 0, 1) := by decide +kernel
theorem d_Ta_ofGot_29 : decode yTa_ofGot.2.1 29 = .ok (.ireturn, 1) := by decide +kernel
def J_Ta_ofGot_22 (h0 : Nat) (x2 s0 : Int32) (I : gb_Mem) : Option (Int32) :=
  flod I (h0 + 3) 10 (s0 + x2) fun v1 =>
  some v1
set_option maxRecDepth 4000 in
theorem j_Ta_ofGot_22 (l : Launch) (d0 : Nat) (h0 : Nat) (H0 : isTa h0) (x2 s0 : Int32) (I : gb_Mem) {rz : Int32} (h : J_Ta_ofGot_22 h0 x2 s0 I = some rz) : gb_Go l yTa_ofGot (d0 + 1) 0 0 22 [(2, .inl x2)] [.inl s0, .inr (some (h0 + 3))] shX I (gb_po shX (some (.inl rz)) I) := by
  unfold J_Ta_ofGot_22 at h
  refine go_iload_n (k := 0) d_Ta_ofGot_22 rfl rfl ?_
  refine go_iadd d_Ta_ofGot_23 ?_
  obtain ⟨hi, v1, ev1, h⟩ := flod_e h
  refine go_iald2 d_Ta_ofGot_24 H0.2.2.2 hi ev1 ?_
  refine go_goto (tgt := 29) d_Ta_ofGot_25 (by decide) ?_
  cases h
  exact go_ireturn d_Ta_ofGot_29 rfl gb_po_i
def F_Ta_ofGot (h0 : Nat) (x1 x2 : Int32) (I : gb_Mem) : Option (Int32) :=
  if (F_Gb_within x2 0 4 I) = 0 then
    some 0
  else
    if x1 = 0 then
      J_Ta_ofGot_22 h0 x2 0 I
    else
      J_Ta_ofGot_22 h0 x2 5 I
set_option maxRecDepth 4000 in
theorem c_Ta_ofGot (l : Launch) (d0 : Nat) (h0 : Nat) (H0 : isTa h0) (x1 x2 : Int32) (I : gb_Mem) {rz : Int32} (h : F_Ta_ofGot h0 x1 x2 I = some rz) : gb_Cs l yTa_ofGot (d0 + 1) [.inr (some h0), .inl x1, .inl x2] shX I (some (.inl rz)) I := by
  refine gb_Ct.of (lv := [(0, .inr (some h0)), (1, .inl x1), (2, .inl x2)]) rfl (Nat.le_of_ble_eq_true rfl) rfl ?_
  unfold F_Ta_ofGot at h
  show gb_Go l yTa_ofGot (d0 + 1) 0 0 0 [(0, .inr (some h0)), (1, .inl x1), (2, .inl x2)] [] shX I (gb_po shX (some (.inl rz)) I)
  refine go_iload_n (k := 2) d_Ta_ofGot_0 rfl rfl ?_
  refine go_iconst (v := 0) d_Ta_ofGot_1 (by decide) ?_
  refine go_iconst (v := 4) d_Ta_ofGot_2 (by decide) ?_
  refine go_callSN (y := yGb_within) (asr := [.inl x2, .inl 0, .inl 4]) (v := some (.inl (F_Gb_within x2 0 4 I))) (I' := I) (st1 := [.inl (F_Gb_within x2 0 4 I)]) d_Ta_ofGot_3 s_yGb_within m_Ta_48 rfl (Nat.le_of_ble_eq_true rfl) rfl rfl (c_Gb_within l (d0 + 0) x2 0 4 I) ?_
  refine go_if_eq (tgt := 28) d_Ta_ofGot_6 (by decide) (fun hc => ?_) (fun hc => ?_)
  · rw [if_pos hc] at h
    refine go_iconst (v := 0) d_Ta_ofGot_28 (by decide) ?_
    cases h
    exact go_ireturn d_Ta_ofGot_29 rfl gb_po_i
  · rw [if_neg hc] at h
    refine go_aload_n (k := 0) d_Ta_ofGot_9 rfl rfl ?_
    refine go_getr (ci := 2) (k := 8) (r := (h0 + 3)) d_Ta_ofGot_10 H0.1 rfl (by decide) f_Ta_18 rfl ?_
    refine go_iload_n (k := 1) d_Ta_ofGot_13 rfl rfl ?_
    refine go_if_ne (tgt := 21) d_Ta_ofGot_14 (by decide) (fun hc => ?_) (fun hc => ?_)
    · rw [if_neg hc] at h
      refine go_iconst (v := 5) d_Ta_ofGot_21 (by decide) ?_
      exact go_lv [2] rfl (j_Ta_ofGot_22 l d0 h0 H0 x2 5 I h)
    · rw [if_pos hc] at h
      refine go_iconst (v := 0) d_Ta_ofGot_17 (by decide) ?_
      refine go_goto (tgt := 22) d_Ta_ofGot_18 (by decide) ?_
      exact go_lv [2] rfl (j_Ta_ofGot_22 l d0 h0 H0 x2 0 I h)
theorem d_Ta_ofSeat_0 : decode yTa_ofSeat.2.1 0 = .ok (.iload_n 1, 1) := by decide +kernel
theorem d_Ta_ofSeat_1 : decode yTa_ofSeat.2.1 1 = .ok (.iconst 0, 1) := by decide +kernel
theorem d_Ta_ofSeat_2 : decode yTa_ofSeat.2.1 2 = .ok (.iconst 4, 1) := by decide +kernel
theorem d_Ta_ofSeat_3 : decode yTa_ofSeat.2.1 3 = .ok (.invokestatic 48, 3) := by decide +kernel
theorem d_Ta_ofSeat_6 : decode yTa_ofSeat.2.1 6 = .ok (.ifCond .eq 17, 3) := by decide +kernel
theorem d_Ta_ofSeat_9 : decode yTa_ofSeat.2.1 9 = .ok (.iload_n 2, 1) := by decide +kernel
theorem d_Ta_ofSeat_10 : decode yTa_ofSeat.2.1 10 = .ok (.iconst 0, 1) := by decide +kernel
theorem d_Ta_ofSeat_11 : decode yTa_ofSeat.2.1 11 = .ok (.bipush 11, 2) := by decide +kernel
theorem d_Ta_ofSeat_13 : decode yTa_ofSeat.2.1 13 = .ok (.invokestatic 48, 3) := by decide +kernel
theorem d_Ta_ofSeat_16 : decode yTa_ofSeat.2.1 16 = .ok (.ifCond .eq 7, 3) := by decide +kernel
theorem d_Ta_ofSeat_19 : decode yTa_ofSeat.2.1 19 = .ok (.iconst 1, 1) := by decide +kernel
theorem d_Ta_ofSeat_20 : decode yTa_ofSeat.2.1 20 = .ok (.goto 4, 3) := by decide +kernel
theorem d_Ta_ofSeat_23 : decode yTa_ofSeat.2.1 23 = .ok (.iconst 0, 1) := by decide +kernel
theorem d_Ta_ofSeat_24 : decode yTa_ofSeat.2.1 24 = .ok (.istore_n 3, 1) := by decide +kernel
theorem d_Ta_ofSeat_25 : decode yTa_ofSeat.2.1 25 = .ok (.iload_n 3, 1) := by decide +kernel
theorem d_Ta_ofSeat_26 : decode yTa_ofSeat.2.1 26 = .ok (.ifCond .eq 17, 3) := by decide +kernel
theorem d_Ta_ofSeat_29 : decode yTa_ofSeat.2.1 29 = .ok (.aload_n 0, 1) := by decide +kernel
theorem d_Ta_ofSeat_30 : decode yTa_ofSeat.2.1 30 = .ok (.getfield 9, 3) := by decide +kernel
theorem d_Ta_ofSeat_33 : decode yTa_ofSeat.2.1 33 = .ok (.iload_n 1, 1) := by decide +kernel
theorem d_Ta_ofSeat_34 : decode yTa_ofSeat.2.1 34 = .ok (.bipush 12, 2) := by decide +kernel
theorem d_Ta_ofSeat_36 : decode yTa_ofSeat.2.1 36 = .ok (.imul, 1) := by decide +kernel
theorem d_Ta_ofSeat_37 : decode yTa_ofSeat.2.1 37 = .ok (.iload_n 2, 1) := by decide +kernel
theorem d_Ta_ofSeat_38 : decode yTa_ofSeat.2.1 38 = .ok (.iadd, 1) := by decide +kernel
theorem d_Ta_ofSeat_39 : decode yTa_ofSeat.2.1 39 = .ok (.iaload, 1) := by decide +kernel
theorem d_Ta_ofSeat_40 : decode yTa_ofSeat.2.1 40 = .ok (.goto 4, 3) := by decide +kernel
theorem d_Ta_ofSeat_43 : decode yTa_ofSeat.2.1 43 = .ok (.iconst 0, 1) := by decide +kernel
theorem d_Ta_ofSeat_44 : decode yTa_ofSeat.2.1 44 = .ok (.ireturn, 1) := by decide +kernel
def J_Ta_ofSeat_24 (h0 : Nat) (x1 x2 s0 : Int32) (I : gb_Mem) : Option (Int32) :=
  if s0 = 0 then
    some 0
  else
    flod I (h0 + 1) 60 ((x1 * 12) + x2) fun v1 =>
    some v1
set_option maxRecDepth 4000 in
theorem j_Ta_ofSeat_24 (l : Launch) (d0 : Nat) (h0 : Nat) (H0 : isTa h0) (x1 x2 s0 : Int32) (I : gb_Mem) {rz : Int32} (h : J_Ta_ofSeat_24 h0 x1 x2 s0 I = some rz) : gb_Go l yTa_ofSeat (d0 + 1) 0 0 24 [(0, .inr (some h0)), (1, .inl x1), (2, .inl x2)] [.inl s0] shX I (gb_po shX (some (.inl rz)) I) := by
  unfold J_Ta_ofSeat_24 at h
  refine go_istore_n (lv' := [(3, .inl s0), (0, .inr (some h0)), (1, .inl x1), (2, .inl x2)]) d_Ta_ofSeat_24 rfl (by decide) rfl ?_
  refine go_iload_n (k := 0) d_Ta_ofSeat_25 rfl rfl ?_
  refine go_if_eq (tgt := 43) d_Ta_ofSeat_26 (by decide) (fun hc => ?_) (fun hc => ?_)
  · rw [if_pos hc] at h
    refine go_iconst (v := 0) d_Ta_ofSeat_43 (by decide) ?_
    cases h
    exact go_ireturn d_Ta_ofSeat_44 rfl gb_po_i
  · rw [if_neg hc] at h
    refine go_aload_n (k := 1) d_Ta_ofSeat_29 rfl rfl ?_
    refine go_getr (ci := 2) (k := 6) (r := (h0 + 1)) d_Ta_ofSeat_30 H0.1 rfl (by decide) f_Ta_9 rfl ?_
    refine go_iload_n (k := 2) d_Ta_ofSeat_33 rfl rfl ?_
    refine go_bipush (v := 12) d_Ta_ofSeat_34 (by decide) ?_
    refine go_imul d_Ta_ofSeat_36 ?_
    refine go_iload_n (k := 3) d_Ta_ofSeat_37 rfl rfl ?_
    refine go_iadd d_Ta_ofSeat_38 ?_
    obtain ⟨hi, v1, ev1, h⟩ := flod_e h
    refine go_iald2 d_Ta_ofSeat_39 H0.2.1 hi ev1 ?_
    refine go_goto (tgt := 44) d_Ta_ofSeat_40 (by decide) ?_
    cases h
    exact go_ireturn d_Ta_ofSeat_44 rfl gb_po_i
def J_Ta_ofSeat_23 (h0 : Nat) (x1 x2 : Int32) (I : gb_Mem) : Option (Int32) :=
  J_Ta_ofSeat_24 h0 x1 x2 0 I
set_option maxRecDepth 4000 in
theorem j_Ta_ofSeat_23 (l : Launch) (d0 : Nat) (h0 : Nat) (H0 : isTa h0) (x1 x2 : Int32) (I : gb_Mem) {rz : Int32} (h : J_Ta_ofSeat_23 h0 x1 x2 I = some rz) : gb_Go l yTa_ofSeat (d0 + 1) 0 0 23 [(0, .inr (some h0)), (1, .inl x1), (2, .inl x2)] [] shX I (gb_po shX (some (.inl rz)) I) := by
  unfold J_Ta_ofSeat_23 at h
  refine go_iconst (v := 0) d_Ta_ofSeat_23 (by decide) ?_
  exact go_lv [0, 1, 2] rfl (j_Ta_ofSeat_24 l d0 h0 H0 x1 x2 0 I h)
def F_Ta_ofSeat (h0 : Nat) (x1 x2 : Int32) (I : gb_Mem) : Option (Int32) :=
  if (F_Gb_within x1 0 4 I) = 0 then
    J_Ta_ofSeat_23 h0 x1 x2 I
  else
    if (F_Gb_within x2 0 11 I) = 0 then
      J_Ta_ofSeat_23 h0 x1 x2 I
    else
      J_Ta_ofSeat_24 h0 x1 x2 1 I
set_option maxRecDepth 4000 in
theorem c_Ta_ofSeat (l : Launch) (d0 : Nat) (h0 : Nat) (H0 : isTa h0) (x1 x2 : Int32) (I : gb_Mem) {rz : Int32} (h : F_Ta_ofSeat h0 x1 x2 I = some rz) : gb_Cs l yTa_ofSeat (d0 + 1) [.inr (some h0), .inl x1, .inl x2] shX I (some (.inl rz)) I := by
  refine gb_Ct.of (lv := [(0, .inr (some h0)), (1, .inl x1), (2, .inl x2)]) rfl (Nat.le_of_ble_eq_true rfl) rfl ?_
  unfold F_Ta_ofSeat at h
  show gb_Go l yTa_ofSeat (d0 + 1) 0 0 0 [(0, .inr (some h0)), (1, .inl x1), (2, .inl x2)] [] shX I (gb_po shX (some (.inl rz)) I)
  refine go_iload_n (k := 1) d_Ta_ofSeat_0 rfl rfl ?_
  refine go_iconst (v := 0) d_Ta_ofSeat_1 (by decide) ?_
  refine go_iconst (v := 4) d_Ta_ofSeat_2 (by decide) ?_
  refine go_callSN (y := yGb_within) (asr := [.inl x1, .inl 0, .inl 4]) (v := some (.inl (F_Gb_within x1 0 4 I))) (I' := I) (st1 := [.inl (F_Gb_within x1 0 4 I)]) d_Ta_ofSeat_3 s_yGb_within m_Ta_48 rfl (Nat.le_of_ble_eq_true rfl) rfl rfl (c_Gb_within l (d0 + 0) x1 0 4 I) ?_
  refine go_if_eq (tgt := 23) d_Ta_ofSeat_6 (by decide) (fun hc => ?_) (fun hc => ?_)
  · rw [if_pos hc] at h
    exact go_lv [0, 1, 2] rfl (j_Ta_ofSeat_23 l d0 h0 H0 x1 x2 I h)
  · rw [if_neg hc] at h
    refine go_iload_n (k := 2) d_Ta_ofSeat_9 rfl rfl ?_
    refine go_iconst (v := 0) d_Ta_ofSeat_10 (by decide) ?_
    refine go_bipush (v := 11) d_Ta_ofSeat_11 (by decide) ?_
    refine go_callSN (y := yGb_within) (asr := [.inl x2, .inl 0, .inl 11]) (v := some (.inl (F_Gb_within x2 0 11 I))) (I' := I) (st1 := [.inl (F_Gb_within x2 0 11 I)]) d_Ta_ofSeat_13 s_yGb_within m_Ta_48 rfl (Nat.le_of_ble_eq_true rfl) rfl rfl (c_Gb_within l (d0 + 0) x2 0 11 I) ?_
    refine go_if_eq (tgt := 23) d_Ta_ofSeat_16 (by decide) (fun hc => ?_) (fun hc => ?_)
    · rw [if_pos hc] at h
      exact go_lv [0, 1, 2] rfl (j_Ta_ofSeat_23 l d0 h0 H0 x1 x2 I h)
    · rw [if_neg hc] at h
      refine go_iconst (v := 1) d_Ta_ofSeat_19 (by decide) ?_
      refine go_goto (tgt := 24) d_Ta_ofSeat_20 (by decide) ?_
      exact go_lv [0, 1, 2] rfl (j_Ta_ofSeat_24 l d0 h0 H0 x1 x2 1 I h)
theorem d_Ta_putBoat_0 : decode yTa_putBoat.2.1 0 = .ok (.iload_n 1, 1) := by decide +kernel
theorem d_Ta_putBoat_1 : decode yTa_putBoat.2.1 1 = .ok (.iconst 0, 1) := by decide +kernel
theorem d_Ta_putBoat_2 : decode yTa_putBoat.2.1 2 = .ok (.iconst 5, 1) := by decide +kernel
theorem d_Ta_putBoat_3 : decode yTa_putBoat.2.1 3 = .ok (.invokestatic 48, 3) := by decide +kernel
theorem d_Ta_putBoat_6 : decode yTa_putBoat.2.1 6 = .ok (.ifCond .eq 25, 3) := by decide +kernel
theorem d_Ta_putBoat_9 : decode yTa_putBoat.2.1 9 = .ok (.iload_n 2, 1) := by decide +kernel
theorem d_Ta_putBoat_10 : decode yTa_putBoat.2.1 10 = .ok (.iconst 0, 1) := by decide +kernel
theorem d_Ta_putBoat_11 : decode yTa_putBoat.2.1 11 = .ok (.bipush 7, 2) := by decide +kernel
theorem d_Ta_putBoat_13 : decode yTa_putBoat.2.1 13 = .ok (.invokestatic 48, 3) := by decide +kernel
theorem d_Ta_putBoat_16 : decode yTa_putBoat.2.1 16 = .ok (.ifCond .eq 15, 3) := by decide +kernel
theorem d_Ta_putBoat_19 : decode yTa_putBoat.2.1 19 = .ok (.aload_n 0, 1) := by decide +kernel
theorem d_Ta_putBoat_20 : decode yTa_putBoat.2.1 20 = .ok (.getfield 15, 3) := by decide +kernel
theorem d_Ta_putBoat_23 : decode yTa_putBoat.2.1 23 = .ok (.iload_n 1, 1) := by decide +kernel
theorem d_Ta_putBoat_24 : decode yTa_putBoat.2.1 24 = .ok (.bipush 8, 2) := by decide +kernel
theorem d_Ta_putBoat_26 : decode yTa_putBoat.2.1 26 = .ok (.imul, 1) := by decide +kernel
theorem d_Ta_putBoat_27 : decode yTa_putBoat.2.1 27 = .ok (.iload_n 2, 1) := by decide +kernel
theorem d_Ta_putBoat_28 : decode yTa_putBoat.2.1 28 = .ok (.iadd, 1) := by decide +kernel
theorem d_Ta_putBoat_29 : decode yTa_putBoat.2.1 29 = .ok (.iload_n 3, 1) := by decide +kernel
theorem d_Ta_putBoat_30 : decode yTa_putBoat.2.1 30 = .ok (.iastore, 1) := by decide +kernel
theorem d_Ta_putBoat_31 : decode yTa_putBoat.2.1 31 = .ok (.return_, 1) := by decide +kernel
def F_Ta_putBoat (h0 : Nat) (x1 x2 x3 : Int32) (I : gb_Mem) : Option (gb_Mem) :=
  if (F_Gb_within x1 0 5 I) = 0 then
    some I
  else
    if (F_Gb_within x2 0 7 I) = 0 then
      some I
    else
      fsto I (h0 + 2) 48 ((x1 * 8) + x2) x3 fun I1 =>
      some I1
set_option maxRecDepth 4000 in
theorem c_Ta_putBoat (l : Launch) (d0 : Nat) (h0 : Nat) (H0 : isTa h0) (x1 x2 x3 : Int32) (I : gb_Mem) {Iz : gb_Mem} (h : F_Ta_putBoat h0 x1 x2 x3 I = some Iz) : gb_Cs l yTa_putBoat (d0 + 1) [.inr (some h0), .inl x1, .inl x2, .inl x3] shX I none Iz := by
  refine gb_Ct.of (lv := [(0, .inr (some h0)), (1, .inl x1), (2, .inl x2), (3, .inl x3)]) rfl (Nat.le_of_ble_eq_true rfl) rfl ?_
  unfold F_Ta_putBoat at h
  show gb_Go l yTa_putBoat (d0 + 1) 0 0 0 [(0, .inr (some h0)), (1, .inl x1), (2, .inl x2), (3, .inl x3)] [] shX I (gb_po shX none Iz)
  refine go_iload_n (k := 1) d_Ta_putBoat_0 rfl rfl ?_
  refine go_iconst (v := 0) d_Ta_putBoat_1 (by decide) ?_
  refine go_iconst (v := 5) d_Ta_putBoat_2 (by decide) ?_
  refine go_callSN (y := yGb_within) (asr := [.inl x1, .inl 0, .inl 5]) (v := some (.inl (F_Gb_within x1 0 5 I))) (I' := I) (st1 := [.inl (F_Gb_within x1 0 5 I)]) d_Ta_putBoat_3 s_yGb_within m_Ta_48 rfl (Nat.le_of_ble_eq_true rfl) rfl rfl (c_Gb_within l (d0 + 0) x1 0 5 I) ?_
  refine go_if_eq (tgt := 31) d_Ta_putBoat_6 (by decide) (fun hc => ?_) (fun hc => ?_)
  · rw [if_pos hc] at h
    cases h
    exact go_return d_Ta_putBoat_31 rfl gb_po_i
  · rw [if_neg hc] at h
    refine go_iload_n (k := 2) d_Ta_putBoat_9 rfl rfl ?_
    refine go_iconst (v := 0) d_Ta_putBoat_10 (by decide) ?_
    refine go_bipush (v := 7) d_Ta_putBoat_11 (by decide) ?_
    refine go_callSN (y := yGb_within) (asr := [.inl x2, .inl 0, .inl 7]) (v := some (.inl (F_Gb_within x2 0 7 I))) (I' := I) (st1 := [.inl (F_Gb_within x2 0 7 I)]) d_Ta_putBoat_13 s_yGb_within m_Ta_48 rfl (Nat.le_of_ble_eq_true rfl) rfl rfl (c_Gb_within l (d0 + 0) x2 0 7 I) ?_
    refine go_if_eq (tgt := 31) d_Ta_putBoat_16 (by decide) (fun hc => ?_) (fun hc => ?_)
    · rw [if_pos hc] at h
      cases h
      exact go_return d_Ta_putBoat_31 rfl gb_po_i
    · rw [if_neg hc] at h
      refine go_aload_n (k := 0) d_Ta_putBoat_19 rfl rfl ?_
      refine go_getr (ci := 2) (k := 7) (r := (h0 + 2)) d_Ta_putBoat_20 H0.1 rfl (by decide) f_Ta_15 rfl ?_
      refine go_iload_n (k := 1) d_Ta_putBoat_23 rfl rfl ?_
      refine go_bipush (v := 8) d_Ta_putBoat_24 (by decide) ?_
      refine go_imul d_Ta_putBoat_26 ?_
      refine go_iload_n (k := 2) d_Ta_putBoat_27 rfl rfl ?_
      refine go_iadd d_Ta_putBoat_28 ?_
      refine go_iload_n (k := 3) d_Ta_putBoat_29 rfl rfl ?_
      obtain ⟨hi, I1, eI1, h⟩ := fsto_e h
      refine go_iast (I' := I1) d_Ta_putBoat_30 H0.2.2.1 hi eI1 ?_
      cases h
      exact go_return d_Ta_putBoat_31 rfl gb_po_i
theorem d_Ta_putSeat_0 : decode yTa_putSeat.2.1 0 = .ok (.iload_n 1, 1) := by decide +kernel
theorem d_Ta_putSeat_1 : decode yTa_putSeat.2.1 1 = .ok (.iconst 0, 1) := by decide +kernel
theorem d_Ta_putSeat_2 : decode yTa_putSeat.2.1 2 = .ok (.iconst 4, 1) := by decide +kernel
theorem d_Ta_putSeat_3 : decode yTa_putSeat.2.1 3 = .ok (.invokestatic 48, 3) := by decide +kernel
theorem d_Ta_putSeat_6 : decode yTa_putSeat.2.1 6 = .ok (.ifCond .eq 25, 3) := by decide +kernel
theorem d_Ta_putSeat_9 : decode yTa_putSeat.2.1 9 = .ok (.iload_n 2, 1) := by decide +kernel
theorem d_Ta_putSeat_10 : decode yTa_putSeat.2.1 10 = .ok (.iconst 0, 1) := by decide +kernel
theorem d_Ta_putSeat_11 : decode yTa_putSeat.2.1 11 = .ok (.bipush 11, 2) := by decide +kernel
theorem d_Ta_putSeat_13 : decode yTa_putSeat.2.1 13 = .ok (.invokestatic 48, 3) := by decide +kernel
theorem d_Ta_putSeat_16 : decode yTa_putSeat.2.1 16 = .ok (.ifCond .eq 15, 3) := by decide +kernel
theorem d_Ta_putSeat_19 : decode yTa_putSeat.2.1 19 = .ok (.aload_n 0, 1) := by decide +kernel
theorem d_Ta_putSeat_20 : decode yTa_putSeat.2.1 20 = .ok (.getfield 9, 3) := by decide +kernel
theorem d_Ta_putSeat_23 : decode yTa_putSeat.2.1 23 = .ok (.iload_n 1, 1) := by decide +kernel
theorem d_Ta_putSeat_24 : decode yTa_putSeat.2.1 24 = .ok (.bipush 12, 2) := by decide +kernel
theorem d_Ta_putSeat_26 : decode yTa_putSeat.2.1 26 = .ok (.imul, 1) := by decide +kernel
theorem d_Ta_putSeat_27 : decode yTa_putSeat.2.1 27 = .ok (.iload_n 2, 1) := by decide +kernel
theorem d_Ta_putSeat_28 : decode yTa_putSeat.2.1 28 = .ok (.iadd, 1) := by decide +kernel
theorem d_Ta_putSeat_29 : decode yTa_putSeat.2.1 29 = .ok (.iload_n 3, 1) := by decide +kernel
theorem d_Ta_putSeat_30 : decode yTa_putSeat.2.1 30 = .ok (.iastore, 1) := by decide +kernel
theorem d_Ta_putSeat_31 : decode yTa_putSeat.2.1 31 = .ok (.return_, 1) := by decide +kernel
def F_Ta_putSeat (h0 : Nat) (x1 x2 x3 : Int32) (I : gb_Mem) : Option (gb_Mem) :=
  if (F_Gb_within x1 0 4 I) = 0 then
    some I
  else
    if (F_Gb_within x2 0 11 I) = 0 then
      some I
    else
      fsto I (h0 + 1) 60 ((x1 * 12) + x2) x3 fun I1 =>
      some I1
set_option maxRecDepth 4000 in
theorem c_Ta_putSeat (l : Launch) (d0 : Nat) (h0 : Nat) (H0 : isTa h0) (x1 x2 x3 : Int32) (I : gb_Mem) {Iz : gb_Mem} (h : F_Ta_putSeat h0 x1 x2 x3 I = some Iz) : gb_Cs l yTa_putSeat (d0 + 1) [.inr (some h0), .inl x1, .inl x2, .inl x3] shX I none Iz := by
  refine gb_Ct.of (lv := [(0, .inr (some h0)), (1, .inl x1), (2, .inl x2), (3, .inl x3)]) rfl (Nat.le_of_ble_eq_true rfl) rfl ?_
  unfold F_Ta_putSeat at h
  show gb_Go l yTa_putSeat (d0 + 1) 0 0 0 [(0, .inr (some h0)), (1, .inl x1), (2, .inl x2), (3, .inl x3)] [] shX I (gb_po shX none Iz)
  refine go_iload_n (k := 1) d_Ta_putSeat_0 rfl rfl ?_
  refine go_iconst (v := 0) d_Ta_putSeat_1 (by decide) ?_
  refine go_iconst (v := 4) d_Ta_putSeat_2 (by decide) ?_
  refine go_callSN (y := yGb_within) (asr := [.inl x1, .inl 0, .inl 4]) (v := some (.inl (F_Gb_within x1 0 4 I))) (I' := I) (st1 := [.inl (F_Gb_within x1 0 4 I)]) d_Ta_putSeat_3 s_yGb_within m_Ta_48 rfl (Nat.le_of_ble_eq_true rfl) rfl rfl (c_Gb_within l (d0 + 0) x1 0 4 I) ?_
  refine go_if_eq (tgt := 31) d_Ta_putSeat_6 (by decide) (fun hc => ?_) (fun hc => ?_)
  · rw [if_pos hc] at h
    cases h
    exact go_return d_Ta_putSeat_31 rfl gb_po_i
  · rw [if_neg hc] at h
    refine go_iload_n (k := 2) d_Ta_putSeat_9 rfl rfl ?_
    refine go_iconst (v := 0) d_Ta_putSeat_10 (by decide) ?_
    refine go_bipush (v := 11) d_Ta_putSeat_11 (by decide) ?_
    refine go_callSN (y := yGb_within) (asr := [.inl x2, .inl 0, .inl 11]) (v := some (.inl (F_Gb_within x2 0 11 I))) (I' := I) (st1 := [.inl (F_Gb_within x2 0 11 I)]) d_Ta_putSeat_13 s_yGb_within m_Ta_48 rfl (Nat.le_of_ble_eq_true rfl) rfl rfl (c_Gb_within l (d0 + 0) x2 0 11 I) ?_
    refine go_if_eq (tgt := 31) d_Ta_putSeat_16 (by decide) (fun hc => ?_) (fun hc => ?_)
    · rw [if_pos hc] at h
      cases h
      exact go_return d_Ta_putSeat_31 rfl gb_po_i
    · rw [if_neg hc] at h
      refine go_aload_n (k := 0) d_Ta_putSeat_19 rfl rfl ?_
      refine go_getr (ci := 2) (k := 6) (r := (h0 + 1)) d_Ta_putSeat_20 H0.1 rfl (by decide) f_Ta_9 rfl ?_
      refine go_iload_n (k := 1) d_Ta_putSeat_23 rfl rfl ?_
      refine go_bipush (v := 12) d_Ta_putSeat_24 (by decide) ?_
      refine go_imul d_Ta_putSeat_26 ?_
      refine go_iload_n (k := 2) d_Ta_putSeat_27 rfl rfl ?_
      refine go_iadd d_Ta_putSeat_28 ?_
      refine go_iload_n (k := 3) d_Ta_putSeat_29 rfl rfl ?_
      obtain ⟨hi, I1, eI1, h⟩ := fsto_e h
      refine go_iast (I' := I1) d_Ta_putSeat_30 H0.2.1 hi eI1 ?_
      cases h
      exact go_return d_Ta_putSeat_31 rfl gb_po_i
theorem d_Co_pourByHand_0 : decode yCo_pourByHand.2.1 0 = .ok (.aload_n 0, 1) := by decide +kernel
theorem d_Co_pourByHand_1 : decode yCo_pourByHand.2.1 1 = .ok (.getfield 19, 3) := by decide +kernel
theorem d_Co_pourByHand_4 : decode yCo_pourByHand.2.1 4 = .ok (.iconst 1, 1) := by decide +kernel
theorem d_Co_pourByHand_5 : decode yCo_pourByHand.2.1 5 = .ok (.iload_n 1, 1) := by decide +kernel
theorem d_Co_pourByHand_6 : decode yCo_pourByHand.2.1 6 = .ok (.aload_n 0, 1) := by decide +kernel
theorem d_Co_pourByHand_7 : decode yCo_pourByHand.2.1 7 = .ok (.getfield 19, 3) := by decide +kernel
theorem d_Co_pourByHand_10 : decode yCo_pourByHand.2.1 10 = .ok (.iconst 1, 1) := by decide +kernel
theorem d_Co_pourByHand_11 : decode yCo_pourByHand.2.1 11 = .ok (.iload_n 1, 1) := by decide +kernel
theorem d_Co_pourByHand_12 : decode yCo_pourByHand.2.1 12 = .ok (.invokevirtual 68, 3) := by decide +kernel
theorem d_Co_pourByHand_15 : decode yCo_pourByHand.2.1 15 = .ok (.iload_n 2, 1) := by decide +kernel
theorem d_Co_pourByHand_16 : decode yCo_pourByHand.2.1 16 = .ok (.isub, 1) := by decide +kernel
theorem d_Co_pourByHand_17 : decode yCo_pourByHand.2.1 17 = .ok (.invokevirtual 57, 3) := by decide +kernel
theorem d_Co_pourByHand_20 : decode yCo_pourByHand.2.1 20 = .ok (.aload_n 0, 1) := by decide +kernel
theorem d_Co_pourByHand_21 : decode yCo_pourByHand.2.1 21 = .ok (.getfield 19, 3) := by decide +kernel
theorem d_Co_pourByHand_24 : decode yCo_pourByHand.2.1 24 = .ok (.dup, 1) := by decide +kernel
theorem d_Co_pourByHand_25 : decode yCo_pourByHand.2.1 25 = .ok (.getfield 72, 3) := by decide +kernel
theorem d_Co_pourByHand_28 : decode yCo_pourByHand.2.1 28 = .ok (.iload_n 2, 1) := by decide +kernel
theorem d_Co_pourByHand_29 : decode yCo_pourByHand.2.1 29 = .ok (.iadd, 1) := by decide +kernel
theorem d_Co_pourByHand_30 : decode yCo_pourByHand.2.1 30 = .ok (.putfield 72, 3) := by decide +kernel
theorem d_Co_pourByHand_33 : decode yCo_pourByHand.2.1 33 = .ok (.aload_n 0, 1) := by decide +kernel
theorem d_Co_pourByHand_34 : decode yCo_pourByHand.2.1 34 = .ok (.iconst 0, 1) := by decide +kernel
theorem d_Co_pourByHand_35 : decode yCo_pourByHand.2.1 35 = .ok (.iload_n 1, 1) := by decide +kernel
theorem d_Co_pourByHand_36 : decode yCo_pourByHand.2.1 36 = .ok (.iload_n 2, 1) := by decide +kernel
theorem d_Co_pourByHand_37 : decode yCo_pourByHand.2.1 37 = .ok (.invokevirtual 61, 3) := by decide +kernel
theorem d_Co_pourByHand_40 : decode yCo_pourByHand.2.1 40 = .ok (.return_, 1) := by decide +kernel
def F_Co_pourByHand (h0 t0 : Nat) (x1 x2 : Int32) (I : gb_Mem) : Option (gb_Mem) :=
  fbd (F_Ta_ofBoat t0 1 x1 I) fun r1 =>
  fbd (F_Ta_putBoat t0 1 x1 (r1 - x2) I) fun I2 =>
  fstf I2 t0 1 ((I2 t0 1) + x2) fun I3 =>
  fbd (F_Co_write h0 t0 0 x1 x2 I3) fun I4 =>
  some I4
set_option maxRecDepth 4000 in
theorem c_Co_pourByHand (l : Launch) (d0 : Nat) (h0 t0 : Nat) (H0 : isCo h0 t0) (x1 x2 : Int32) (I : gb_Mem) {Iz : gb_Mem} (h : F_Co_pourByHand h0 t0 x1 x2 I = some Iz) : gb_Cs l yCo_pourByHand (d0 + 2) [.inr (some h0), .inl x1, .inl x2] shX I none Iz := by
  refine gb_Ct.of (lv := [(0, .inr (some h0)), (1, .inl x1), (2, .inl x2)]) rfl (Nat.le_of_ble_eq_true rfl) rfl ?_
  unfold F_Co_pourByHand at h
  show gb_Go l yCo_pourByHand (d0 + 2) 0 0 0 [(0, .inr (some h0)), (1, .inl x1), (2, .inl x2)] [] shX I (gb_po shX none Iz)
  refine go_aload_n (k := 0) d_Co_pourByHand_0 rfl rfl ?_
  refine go_getr (ci := 6) (k := 1) (r := t0) d_Co_pourByHand_1 H0.1 rfl (by decide) f_Co_19 rfl ?_
  refine go_iconst (v := 1) d_Co_pourByHand_4 (by decide) ?_
  refine go_iload_n (k := 1) d_Co_pourByHand_5 rfl rfl ?_
  refine go_aload_n (k := 0) d_Co_pourByHand_6 rfl rfl ?_
  refine go_getr (ci := 6) (k := 1) (r := t0) d_Co_pourByHand_7 H0.1 rfl (by decide) f_Co_19 rfl ?_
  refine go_iconst (v := 1) d_Co_pourByHand_10 (by decide) ?_
  refine go_iload_n (k := 1) d_Co_pourByHand_11 rfl rfl ?_
  obtain ⟨r1, w1, h⟩ := fbd_e h
  refine go_callV (y := yTa_ofBoat) (asr := [.inl 1, .inl x1]) (v := some (.inl r1)) (I' := I) (st1 := [.inl r1, .inl x1, .inl 1, .inr (some t0)]) d_Co_pourByHand_12 s_yTa_ofBoat m_Co_68 H0.2.2.1 rfl rfl rfl (Nat.le_of_ble_eq_true rfl) rfl rfl (c_Ta_ofBoat l (d0 + 0) t0 H0.2.2 1 x1 I w1) ?_
  refine go_iload_n (k := 2) d_Co_pourByHand_15 rfl rfl ?_
  refine go_isub d_Co_pourByHand_16 ?_
  obtain ⟨I2, w1, h⟩ := fbd_e h
  refine go_callV (y := yTa_putBoat) (asr := [.inl 1, .inl x1, .inl (r1 - x2)]) (v := none) (I' := I2) (st1 := []) d_Co_pourByHand_17 s_yTa_putBoat m_Co_57 H0.2.2.1 rfl rfl rfl (Nat.le_of_ble_eq_true rfl) rfl rfl (c_Ta_putBoat l (d0 + 0) t0 H0.2.2 1 x1 (r1 - x2) I w1) ?_
  refine go_aload_n (k := 0) d_Co_pourByHand_20 rfl rfl ?_
  refine go_getr (ci := 6) (k := 1) (r := t0) d_Co_pourByHand_21 H0.1 rfl (by decide) f_Co_19 rfl ?_
  refine go_dup d_Co_pourByHand_24 ?_
  refine go_getiN (ci := 2) (k := 1) d_Co_pourByHand_25 H0.2.2.1 rfl (by decide) f_Co_72 rfl ?_
  refine go_iload_n (k := 2) d_Co_pourByHand_28 rfl rfl ?_
  refine go_iadd d_Co_pourByHand_29 ?_
  obtain ⟨I3, eI3, h⟩ := fstf_e h
  refine go_putTN (ci := 2) (k := 1) (I' := I3) d_Co_pourByHand_30 H0.2.2.1 rfl (by decide) f_Co_72 rfl rfl rfl rfl rfl eI3 ?_
  refine go_aload_n (k := 0) d_Co_pourByHand_33 rfl rfl ?_
  refine go_iconst (v := 0) d_Co_pourByHand_34 (by decide) ?_
  refine go_iload_n (k := 1) d_Co_pourByHand_35 rfl rfl ?_
  refine go_iload_n (k := 2) d_Co_pourByHand_36 rfl rfl ?_
  obtain ⟨I4, w1, h⟩ := fbd_e h
  refine go_callV (y := yCo_write) (asr := [.inl 0, .inl x1, .inl x2]) (v := none) (I' := I4) (st1 := []) d_Co_pourByHand_37 s_yCo_write m_Co_61 H0.1 rfl rfl rfl (Nat.le_of_ble_eq_true rfl) rfl rfl (c_Co_write l (d0 + 0) h0 t0 H0 0 x1 x2 I3 w1) ?_
  cases h
  exact go_return d_Co_pourByHand_40 rfl gb_po_i
theorem d_Co_pourOut_0 : decode yCo_pourOut.2.1 0 = .ok (.aload_n 0, 1) := by decide +kernel
theorem d_Co_pourOut_1 : decode yCo_pourOut.2.1 1 = .ok (.getfield 19, 3) := by decide +kernel
theorem d_Co_pourOut_4 : decode yCo_pourOut.2.1 4 = .ok (.iconst 1, 1) := by decide +kernel
theorem d_Co_pourOut_5 : decode yCo_pourOut.2.1 5 = .ok (.iload_n 1, 1) := by decide +kernel
theorem d_Co_pourOut_6 : decode yCo_pourOut.2.1 6 = .ok (.invokevirtual 68, 3) := by decide +kernel
theorem d_Co_pourOut_9 : decode yCo_pourOut.2.1 9 = .ok (.istore_n 3, 1) := by decide +kernel
theorem d_Co_pourOut_10 : decode yCo_pourOut.2.1 10 = .ok (.iload_n 2, 1) := by decide +kernel
theorem d_Co_pourOut_11 : decode yCo_pourOut.2.1 11 = .ok (.iload_n 3, 1) := by decide +kernel
theorem d_Co_pourOut_12 : decode yCo_pourOut.2.1 12 = .ok (.invokestatic 133, 3) := by decide +kernel
theorem d_Co_pourOut_15 : decode yCo_pourOut.2.1 15 = .ok (.istore 4, 2) := by decide +kernel
theorem d_Co_pourOut_17 : decode yCo_pourOut.2.1 17 = .ok (.aload_n 0, 1) := by decide +kernel
theorem d_Co_pourOut_18 : decode yCo_pourOut.2.1 18 = .ok (.getfield 19, 3) := by decide +kernel
theorem d_Co_pourOut_21 : decode yCo_pourOut.2.1 21 = .ok (.iconst 2, 1) := by decide +kernel
theorem d_Co_pourOut_22 : decode yCo_pourOut.2.1 22 = .ok (.iload_n 1, 1) := by decide +kernel
theorem d_Co_pourOut_23 : decode yCo_pourOut.2.1 23 = .ok (.invokevirtual 68, 3) := by decide +kernel
theorem d_Co_pourOut_26 : decode yCo_pourOut.2.1 26 = .ok (.istore 5, 2) := by decide +kernel
theorem d_Co_pourOut_28 : decode yCo_pourOut.2.1 28 = .ok (.aload_n 0, 1) := by decide +kernel
theorem d_Co_pourOut_29 : decode yCo_pourOut.2.1 29 = .ok (.getfield 19, 3) := by decide +kernel
theorem d_Co_pourOut_32 : decode yCo_pourOut.2.1 32 = .ok (.iconst 1, 1) := by decide +kernel
theorem d_Co_pourOut_33 : decode yCo_pourOut.2.1 33 = .ok (.iload_n 1, 1) := by decide +kernel
theorem d_Co_pourOut_34 : decode yCo_pourOut.2.1 34 = .ok (.iload_n 3, 1) := by decide +kernel
theorem d_Co_pourOut_35 : decode yCo_pourOut.2.1 35 = .ok (.iload 4, 2) := by decide +kernel
theorem d_Co_pourOut_37 : decode yCo_pourOut.2.1 37 = .ok (.isub, 1) := by decide +kernel
theorem d_Co_pourOut_38 : decode yCo_pourOut.2.1 38 = .ok (.invokevirtual 57, 3) := by decide +kernel
theorem d_Co_pourOut_41 : decode yCo_pourOut.2.1 41 = .ok (.aload_n 0, 1) := by decide +kernel
theorem d_Co_pourOut_42 : decode yCo_pourOut.2.1 42 = .ok (.getfield 19, 3) := by decide +kernel
theorem d_Co_pourOut_45 : decode yCo_pourOut.2.1 45 = .ok (.iconst 3, 1) := by decide +kernel
theorem d_Co_pourOut_46 : decode yCo_pourOut.2.1 46 = .ok (.iload 5, 2) := by decide +kernel
theorem d_Co_pourOut_48 : decode yCo_pourOut.2.1 48 = .ok (.invokevirtual 75, 3) := by decide +kernel
theorem d_Co_pourOut_51 : decode yCo_pourOut.2.1 51 = .ok (.iconst 1, 1) := by decide +kernel
theorem d_Co_pourOut_52 : decode yCo_pourOut.2.1 52 = .ok (.if_icmp .ne 48, 3) := by decide +kernel
theorem d_Co_pourOut_55 : decode yCo_pourOut.2.1 55 = .ok (.aload_n 0, 1) := by decide +kernel
theorem d_Co_pourOut_56 : decode yCo_pourOut.2.1 56 = .ok (.getfield 19, 3) := by decide +kernel
theorem d_Co_pourOut_59 : decode yCo_pourOut.2.1 59 = .ok (.iconst 2, 1) := by decide +kernel
theorem d_Co_pourOut_60 : decode yCo_pourOut.2.1 60 = .ok (.iload 5, 2) := by decide +kernel
theorem d_Co_pourOut_62 : decode yCo_pourOut.2.1 62 = .ok (.invokevirtual 75, 3) := by decide +kernel
theorem d_Co_pourOut_65 : decode yCo_pourOut.2.1 65 = .ok (.istore 6, 2) := by decide +kernel
theorem d_Co_pourOut_67 : decode yCo_pourOut.2.1 67 = .ok (.aload_n 0, 1) := by decide +kernel
theorem d_Co_pourOut_68 : decode yCo_pourOut.2.1 68 = .ok (.getfield 19, 3) := by decide +kernel
theorem d_Co_pourOut_71 : decode yCo_pourOut.2.1 71 = .ok (.iconst 2, 1) := by decide +kernel
theorem d_Co_pourOut_72 : decode yCo_pourOut.2.1 72 = .ok (.iload 5, 2) := by decide +kernel
theorem d_Co_pourOut_74 : decode yCo_pourOut.2.1 74 = .ok (.iload 6, 2) := by decide +kernel
theorem d_Co_pourOut_76 : decode yCo_pourOut.2.1 76 = .ok (.ifCond .le 10, 3) := by decide +kernel
theorem d_Co_pourOut_79 : decode yCo_pourOut.2.1 79 = .ok (.iload 6, 2) := by decide +kernel
theorem d_Co_pourOut_81 : decode yCo_pourOut.2.1 81 = .ok (.iconst 1, 1) := by decide +kernel
theorem d_Co_pourOut_82 : decode yCo_pourOut.2.1 82 = .ok (.isub, 1) := by decide +kernel
theorem d_Co_pourOut_83 : decode yCo_pourOut.2.1 83 = .ok (.goto 11, 3) := by decide +kernel
theorem d_Co_pourOut_86 : decode yCo_pourOut.2.1 86 = .ok (.iconst 0, 1) := by decide +kernel
theorem d_Co_pourOut_87 : decode yCo_pourOut.2.1 87 = .ok (.iload 6, 2) := by decide +kernel
theorem d_Co_pourOut_89 : decode yCo_pourOut.2.1 89 = .ok (.iconst 1, 1) := by decide +kernel
theorem d_Co_pourOut_90 : decode yCo_pourOut.2.1 90 = .ok (.iadd, 1) := by decide +kernel
theorem d_Co_pourOut_91 : decode yCo_pourOut.2.1 91 = .ok (.invokestatic 133, 3) := by decide +kernel
theorem d_Co_pourOut_94 : decode yCo_pourOut.2.1 94 = .ok (.invokevirtual 78, 3) := by decide +kernel
theorem d_Co_pourOut_97 : decode yCo_pourOut.2.1 97 = .ok (.goto 17, 3) := by decide +kernel
theorem d_Co_pourOut_100 : decode yCo_pourOut.2.1 100 = .ok (.aload_n 0, 1) := by decide +kernel
theorem d_Co_pourOut_101 : decode yCo_pourOut.2.1 101 = .ok (.getfield 19, 3) := by decide +kernel
theorem d_Co_pourOut_104 : decode yCo_pourOut.2.1 104 = .ok (.dup, 1) := by decide +kernel
theorem d_Co_pourOut_105 : decode yCo_pourOut.2.1 105 = .ok (.getfield 72, 3) := by decide +kernel
theorem d_Co_pourOut_108 : decode yCo_pourOut.2.1 108 = .ok (.iload 4, 2) := by decide +kernel
theorem d_Co_pourOut_110 : decode yCo_pourOut.2.1 110 = .ok (.iadd, 1) := by decide +kernel
theorem d_Co_pourOut_111 : decode yCo_pourOut.2.1 111 = .ok (.putfield 72, 3) := by decide +kernel
theorem d_Co_pourOut_114 : decode yCo_pourOut.2.1 114 = .ok (.iload 4, 2) := by decide +kernel
theorem d_Co_pourOut_116 : decode yCo_pourOut.2.1 116 = .ok (.ifCond .le 11, 3) := by decide +kernel
theorem d_Co_pourOut_119 : decode yCo_pourOut.2.1 119 = .ok (.aload_n 0, 1) := by decide +kernel
theorem d_Co_pourOut_120 : decode yCo_pourOut.2.1 120 = .ok (.iconst 0, 1) := by decide +kernel
theorem d_Co_pourOut_121 : decode yCo_pourOut.2.1 121 = .ok (.iload_n 1, 1) := by decide +kernel
theorem d_Co_pourOut_122 : decode yCo_pourOut.2.1 122 = .ok (.iload 4, 2) := by decide +kernel
theorem d_Co_pourOut_124 : decode yCo_pourOut.2.1 124 = .ok (.invokevirtual 61, 3) := by decide +kernel
theorem d_Co_pourOut_127 : decode yCo_pourOut.2.1 127 = .ok (.return_, 1) := by decide +kernel
def J_Co_pourOut_114 (h0 t0 : Nat) (x1 x4 : Int32) (I : gb_Mem) : Option (gb_Mem) :=
  if x4 ≤ 0 then
    some I
  else
    fbd (F_Co_write h0 t0 0 x1 x4 I) fun I6 =>
    some I6
set_option maxRecDepth 4000 in
theorem j_Co_pourOut_114 (l : Launch) (d0 : Nat) (h0 t0 : Nat) (H0 : isCo h0 t0) (x1 x4 : Int32) (I : gb_Mem) {Iz : gb_Mem} (h : J_Co_pourOut_114 h0 t0 x1 x4 I = some Iz) : gb_Go l yCo_pourOut (d0 + 2) 0 0 114 [(0, .inr (some h0)), (1, .inl x1), (4, .inl x4)] [] shX I (gb_po shX none Iz) := by
  unfold J_Co_pourOut_114 at h
  refine go_iload (k := 2) d_Co_pourOut_114 rfl ?_
  refine go_if_le (tgt := 127) d_Co_pourOut_116 (by decide) (fun hc => ?_) (fun hc => ?_)
  · rw [if_pos hc] at h
    cases h
    exact go_return d_Co_pourOut_127 rfl gb_po_i
  · rw [if_neg hc] at h
    refine go_aload_n (k := 0) d_Co_pourOut_119 rfl rfl ?_
    refine go_iconst (v := 0) d_Co_pourOut_120 (by decide) ?_
    refine go_iload_n (k := 1) d_Co_pourOut_121 rfl rfl ?_
    refine go_iload (k := 2) d_Co_pourOut_122 rfl ?_
    obtain ⟨I6, w1, h⟩ := fbd_e h
    refine go_callV (y := yCo_write) (asr := [.inl 0, .inl x1, .inl x4]) (v := none) (I' := I6) (st1 := []) d_Co_pourOut_124 s_yCo_write m_Co_61 H0.1 rfl rfl rfl (Nat.le_of_ble_eq_true rfl) rfl rfl (c_Co_write l (d0 + 0) h0 t0 H0 0 x1 x4 I w1) ?_
    cases h
    exact go_return d_Co_pourOut_127 rfl gb_po_i
def J_Co_pourOut_94 (h0 t0 : Nat) (x1 x4 s0 s1 s2 : Int32) (I : gb_Mem) : Option (gb_Mem) :=
  fbd (F_Ta_putSeat t0 s2 s1 s0 I) fun I8 =>
  J_Co_pourOut_114 h0 t0 x1 x4 I8
set_option maxRecDepth 4000 in
theorem j_Co_pourOut_94 (l : Launch) (d0 : Nat) (h0 t0 : Nat) (H0 : isCo h0 t0) (x1 x4 s0 s1 s2 : Int32) (I : gb_Mem) {Iz : gb_Mem} (h : J_Co_pourOut_94 h0 t0 x1 x4 s0 s1 s2 I = some Iz) : gb_Go l yCo_pourOut (d0 + 2) 0 0 94 [(0, .inr (some h0)), (1, .inl x1), (4, .inl x4)] [.inl s0, .inl s1, .inl s2, .inr (some t0)] shX I (gb_po shX none Iz) := by
  unfold J_Co_pourOut_94 at h
  obtain ⟨I8, w1, h⟩ := fbd_e h
  refine go_callV (y := yTa_putSeat) (asr := [.inl s2, .inl s1, .inl s0]) (v := none) (I' := I8) (st1 := []) d_Co_pourOut_94 s_yTa_putSeat m_Co_78 H0.2.2.1 rfl rfl rfl (Nat.le_of_ble_eq_true rfl) rfl rfl (c_Ta_putSeat l (d0 + 0) t0 H0.2.2 s2 s1 s0 I w1) ?_
  refine go_goto (tgt := 114) d_Co_pourOut_97 (by decide) ?_
  exact go_lv [0, 1, 2] rfl (j_Co_pourOut_114 l d0 h0 t0 H0 x1 x4 I8 h)
def F_Co_pourOut (h0 t0 : Nat) (x1 x2 : Int32) (I : gb_Mem) : Option (gb_Mem) :=
  fbd (F_Ta_ofBoat t0 1 x1 I) fun r1 =>
  fbd (F_Ta_ofBoat t0 2 x1 I) fun r2 =>
  fbd (F_Ta_putBoat t0 1 x1 (r1 - (mn x2 r1)) I) fun I3 =>
  fbd (F_Ta_ofSeat t0 3 r2 I3) fun r4 =>
  if r4 = 1 then
    fbd (F_Ta_ofSeat t0 2 r2 I3) fun r7 =>
    if r7 ≤ 0 then
      J_Co_pourOut_94 h0 t0 x1 (mn x2 r1) (mn 0 (r7 + 1)) r2 2 I3
    else
      J_Co_pourOut_94 h0 t0 x1 (mn x2 r1) (r7 - 1) r2 2 I3
  else
    fstf I3 t0 1 ((I3 t0 1) + (mn x2 r1)) fun I5 =>
    J_Co_pourOut_114 h0 t0 x1 (mn x2 r1) I5
set_option maxRecDepth 4000 in
theorem c_Co_pourOut (l : Launch) (d0 : Nat) (h0 t0 : Nat) (H0 : isCo h0 t0) (x1 x2 : Int32) (I : gb_Mem) {Iz : gb_Mem} (h : F_Co_pourOut h0 t0 x1 x2 I = some Iz) : gb_Cs l yCo_pourOut (d0 + 2) [.inr (some h0), .inl x1, .inl x2] shX I none Iz := by
  refine gb_Ct.of (lv := [(0, .inr (some h0)), (1, .inl x1), (2, .inl x2)]) rfl (Nat.le_of_ble_eq_true rfl) rfl ?_
  unfold F_Co_pourOut at h
  show gb_Go l yCo_pourOut (d0 + 2) 0 0 0 [(0, .inr (some h0)), (1, .inl x1), (2, .inl x2)] [] shX I (gb_po shX none Iz)
  refine go_aload_n (k := 0) d_Co_pourOut_0 rfl rfl ?_
  refine go_getr (ci := 6) (k := 1) (r := t0) d_Co_pourOut_1 H0.1 rfl (by decide) f_Co_19 rfl ?_
  refine go_iconst (v := 1) d_Co_pourOut_4 (by decide) ?_
  refine go_iload_n (k := 1) d_Co_pourOut_5 rfl rfl ?_
  obtain ⟨r1, w1, h⟩ := fbd_e h
  refine go_callV (y := yTa_ofBoat) (asr := [.inl 1, .inl x1]) (v := some (.inl r1)) (I' := I) (st1 := [.inl r1]) d_Co_pourOut_6 s_yTa_ofBoat m_Co_68 H0.2.2.1 rfl rfl rfl (Nat.le_of_ble_eq_true rfl) rfl rfl (c_Ta_ofBoat l (d0 + 0) t0 H0.2.2 1 x1 I w1) ?_
  refine go_istore_n (lv' := [(3, .inl r1), (0, .inr (some h0)), (1, .inl x1), (2, .inl x2)]) d_Co_pourOut_9 rfl (by decide) rfl ?_
  refine go_iload_n (k := 3) d_Co_pourOut_10 rfl rfl ?_
  refine go_iload_n (k := 0) d_Co_pourOut_11 rfl rfl ?_
  refine go_mmin d_Co_pourOut_12 m_Co_133 (Nat.le_of_ble_eq_true rfl) ?_
  refine go_istore (lv' := [(4, .inl (mn x2 r1)), (3, .inl r1), (0, .inr (some h0)), (1, .inl x1), (2, .inl x2)]) d_Co_pourOut_15 (by decide) rfl ?_
  refine go_aload_n (k := 2) d_Co_pourOut_17 rfl rfl ?_
  refine go_getr (ci := 6) (k := 1) (r := t0) d_Co_pourOut_18 H0.1 rfl (by decide) f_Co_19 rfl ?_
  refine go_iconst (v := 2) d_Co_pourOut_21 (by decide) ?_
  refine go_iload_n (k := 3) d_Co_pourOut_22 rfl rfl ?_
  obtain ⟨r2, w1, h⟩ := fbd_e h
  refine go_callV (y := yTa_ofBoat) (asr := [.inl 2, .inl x1]) (v := some (.inl r2)) (I' := I) (st1 := [.inl r2]) d_Co_pourOut_23 s_yTa_ofBoat m_Co_68 H0.2.2.1 rfl rfl rfl (Nat.le_of_ble_eq_true rfl) rfl rfl (c_Ta_ofBoat l (d0 + 0) t0 H0.2.2 2 x1 I w1) ?_
  refine go_istore (lv' := [(5, .inl r2), (4, .inl (mn x2 r1)), (3, .inl r1), (0, .inr (some h0)), (1, .inl x1), (2, .inl x2)]) d_Co_pourOut_26 (by decide) rfl ?_
  refine go_aload_n (k := 3) d_Co_pourOut_28 rfl rfl ?_
  refine go_getr (ci := 6) (k := 1) (r := t0) d_Co_pourOut_29 H0.1 rfl (by decide) f_Co_19 rfl ?_
  refine go_iconst (v := 1) d_Co_pourOut_32 (by decide) ?_
  refine go_iload_n (k := 4) d_Co_pourOut_33 rfl rfl ?_
  refine go_iload_n (k := 2) d_Co_pourOut_34 rfl rfl ?_
  refine go_iload (k := 1) d_Co_pourOut_35 rfl ?_
  refine go_isub d_Co_pourOut_37 ?_
  obtain ⟨I3, w1, h⟩ := fbd_e h
  refine go_callV (y := yTa_putBoat) (asr := [.inl 1, .inl x1, .inl (r1 - (mn x2 r1))]) (v := none) (I' := I3) (st1 := []) d_Co_pourOut_38 s_yTa_putBoat m_Co_57 H0.2.2.1 rfl rfl rfl (Nat.le_of_ble_eq_true rfl) rfl rfl (c_Ta_putBoat l (d0 + 0) t0 H0.2.2 1 x1 (r1 - (mn x2 r1)) I w1) ?_
  refine go_aload_n (k := 3) d_Co_pourOut_41 rfl rfl ?_
  refine go_getr (ci := 6) (k := 1) (r := t0) d_Co_pourOut_42 H0.1 rfl (by decide) f_Co_19 rfl ?_
  refine go_iconst (v := 3) d_Co_pourOut_45 (by decide) ?_
  refine go_iload (k := 0) d_Co_pourOut_46 rfl ?_
  obtain ⟨r4, w1, h⟩ := fbd_e h
  refine go_callV (y := yTa_ofSeat) (asr := [.inl 3, .inl r2]) (v := some (.inl r4)) (I' := I3) (st1 := [.inl r4]) d_Co_pourOut_48 s_yTa_ofSeat m_Co_75 H0.2.2.1 rfl rfl rfl (Nat.le_of_ble_eq_true rfl) rfl rfl (c_Ta_ofSeat l (d0 + 0) t0 H0.2.2 3 r2 I3 w1) ?_
  refine go_iconst (v := 1) d_Co_pourOut_51 (by decide) ?_
  refine go_cmp_ne (tgt := 100) d_Co_pourOut_52 (by decide) (fun hc => ?_) (fun hc => ?_)
  · rw [if_neg hc] at h
    refine go_aload_n (k := 3) d_Co_pourOut_100 rfl rfl ?_
    refine go_getr (ci := 6) (k := 1) (r := t0) d_Co_pourOut_101 H0.1 rfl (by decide) f_Co_19 rfl ?_
    refine go_dup d_Co_pourOut_104 ?_
    refine go_getiN (ci := 2) (k := 1) d_Co_pourOut_105 H0.2.2.1 rfl (by decide) f_Co_72 rfl ?_
    refine go_iload (k := 1) d_Co_pourOut_108 rfl ?_
    refine go_iadd d_Co_pourOut_110 ?_
    obtain ⟨I5, eI5, h⟩ := fstf_e h
    refine go_putTN (ci := 2) (k := 1) (I' := I5) d_Co_pourOut_111 H0.2.2.1 rfl (by decide) f_Co_72 rfl rfl rfl rfl rfl eI5 ?_
    exact go_lv [3, 4, 1] rfl (j_Co_pourOut_114 l d0 h0 t0 H0 x1 (mn x2 r1) I5 h)
  · rw [if_pos hc] at h
    refine go_aload_n (k := 3) d_Co_pourOut_55 rfl rfl ?_
    refine go_getr (ci := 6) (k := 1) (r := t0) d_Co_pourOut_56 H0.1 rfl (by decide) f_Co_19 rfl ?_
    refine go_iconst (v := 2) d_Co_pourOut_59 (by decide) ?_
    refine go_iload (k := 0) d_Co_pourOut_60 rfl ?_
    obtain ⟨r7, w1, h⟩ := fbd_e h
    refine go_callV (y := yTa_ofSeat) (asr := [.inl 2, .inl r2]) (v := some (.inl r7)) (I' := I3) (st1 := [.inl r7]) d_Co_pourOut_62 s_yTa_ofSeat m_Co_75 H0.2.2.1 rfl rfl rfl (Nat.le_of_ble_eq_true rfl) rfl rfl (c_Ta_ofSeat l (d0 + 0) t0 H0.2.2 2 r2 I3 w1) ?_
    refine go_istore (lv' := [(6, .inl r7), (5, .inl r2), (4, .inl (mn x2 r1)), (3, .inl r1), (0, .inr (some h0)), (1, .inl x1), (2, .inl x2)]) d_Co_pourOut_65 (by decide) rfl ?_
    refine go_aload_n (k := 4) d_Co_pourOut_67 rfl rfl ?_
    refine go_getr (ci := 6) (k := 1) (r := t0) d_Co_pourOut_68 H0.1 rfl (by decide) f_Co_19 rfl ?_
    refine go_iconst (v := 2) d_Co_pourOut_71 (by decide) ?_
    refine go_iload (k := 1) d_Co_pourOut_72 rfl ?_
    refine go_iload (k := 0) d_Co_pourOut_74 rfl ?_
    refine go_if_le (tgt := 86) d_Co_pourOut_76 (by decide) (fun hc => ?_) (fun hc => ?_)
    · rw [if_pos hc] at h
      refine go_iconst (v := 0) d_Co_pourOut_86 (by decide) ?_
      refine go_iload (k := 0) d_Co_pourOut_87 rfl ?_
      refine go_iconst (v := 1) d_Co_pourOut_89 (by decide) ?_
      refine go_iadd d_Co_pourOut_90 ?_
      refine go_mmin d_Co_pourOut_91 m_Co_133 (Nat.le_of_ble_eq_true rfl) ?_
      exact go_lv [4, 5, 2] rfl (j_Co_pourOut_94 l d0 h0 t0 H0 x1 (mn x2 r1) (mn 0 (r7 + 1)) r2 2 I3 h)
    · rw [if_neg hc] at h
      refine go_iload (k := 0) d_Co_pourOut_79 rfl ?_
      refine go_iconst (v := 1) d_Co_pourOut_81 (by decide) ?_
      refine go_isub d_Co_pourOut_82 ?_
      refine go_goto (tgt := 94) d_Co_pourOut_83 (by decide) ?_
      exact go_lv [4, 5, 2] rfl (j_Co_pourOut_94 l d0 h0 t0 H0 x1 (mn x2 r1) (r7 - 1) r2 2 I3 h)
theorem d_Co_salt_0 : decode yCo_salt.2.1 0 = .ok (.aload_n 0, 1) := by decide +kernel
theorem d_Co_salt_1 : decode yCo_salt.2.1 1 = .ok (.iconst 4, 1) := by decide +kernel
theorem d_Co_salt_2 : decode yCo_salt.2.1 2 = .ok (.iload_n 1, 1) := by decide +kernel
theorem d_Co_salt_3 : decode yCo_salt.2.1 3 = .ok (.aload_n 0, 1) := by decide +kernel
theorem d_Co_salt_4 : decode yCo_salt.2.1 4 = .ok (.getfield 19, 3) := by decide +kernel
theorem d_Co_salt_7 : decode yCo_salt.2.1 7 = .ok (.iconst 4, 1) := by decide +kernel
theorem d_Co_salt_8 : decode yCo_salt.2.1 8 = .ok (.iload_n 1, 1) := by decide +kernel
theorem d_Co_salt_9 : decode yCo_salt.2.1 9 = .ok (.invokevirtual 75, 3) := by decide +kernel
theorem d_Co_salt_12 : decode yCo_salt.2.1 12 = .ok (.invokevirtual 61, 3) := by decide +kernel
theorem d_Co_salt_15 : decode yCo_salt.2.1 15 = .ok (.aload_n 0, 1) := by decide +kernel
theorem d_Co_salt_16 : decode yCo_salt.2.1 16 = .ok (.getfield 19, 3) := by decide +kernel
theorem d_Co_salt_19 : decode yCo_salt.2.1 19 = .ok (.iconst 4, 1) := by decide +kernel
theorem d_Co_salt_20 : decode yCo_salt.2.1 20 = .ok (.iload_n 1, 1) := by decide +kernel
theorem d_Co_salt_21 : decode yCo_salt.2.1 21 = .ok (.iconst 0, 1) := by decide +kernel
theorem d_Co_salt_22 : decode yCo_salt.2.1 22 = .ok (.invokevirtual 78, 3) := by decide +kernel
theorem d_Co_salt_25 : decode yCo_salt.2.1 25 = .ok (.return_, 1) := by decide +kernel
def F_Co_salt (h0 t0 : Nat) (x1 : Int32) (I : gb_Mem) : Option (gb_Mem) :=
  fbd (F_Ta_ofSeat t0 4 x1 I) fun r1 =>
  fbd (F_Co_write h0 t0 4 x1 r1 I) fun I2 =>
  fbd (F_Ta_putSeat t0 4 x1 0 I2) fun I3 =>
  some I3
set_option maxRecDepth 4000 in
theorem c_Co_salt (l : Launch) (d0 : Nat) (h0 t0 : Nat) (H0 : isCo h0 t0) (x1 : Int32) (I : gb_Mem) {Iz : gb_Mem} (h : F_Co_salt h0 t0 x1 I = some Iz) : gb_Cs l yCo_salt (d0 + 2) [.inr (some h0), .inl x1] shX I none Iz := by
  refine gb_Ct.of (lv := [(0, .inr (some h0)), (1, .inl x1)]) rfl (Nat.le_of_ble_eq_true rfl) rfl ?_
  unfold F_Co_salt at h
  show gb_Go l yCo_salt (d0 + 2) 0 0 0 [(0, .inr (some h0)), (1, .inl x1)] [] shX I (gb_po shX none Iz)
  refine go_aload_n (k := 0) d_Co_salt_0 rfl rfl ?_
  refine go_iconst (v := 4) d_Co_salt_1 (by decide) ?_
  refine go_iload_n (k := 1) d_Co_salt_2 rfl rfl ?_
  refine go_aload_n (k := 0) d_Co_salt_3 rfl rfl ?_
  refine go_getr (ci := 6) (k := 1) (r := t0) d_Co_salt_4 H0.1 rfl (by decide) f_Co_19 rfl ?_
  refine go_iconst (v := 4) d_Co_salt_7 (by decide) ?_
  refine go_iload_n (k := 1) d_Co_salt_8 rfl rfl ?_
  obtain ⟨r1, w1, h⟩ := fbd_e h
  refine go_callV (y := yTa_ofSeat) (asr := [.inl 4, .inl x1]) (v := some (.inl r1)) (I' := I) (st1 := [.inl r1, .inl x1, .inl 4, .inr (some h0)]) d_Co_salt_9 s_yTa_ofSeat m_Co_75 H0.2.2.1 rfl rfl rfl (Nat.le_of_ble_eq_true rfl) rfl rfl (c_Ta_ofSeat l (d0 + 0) t0 H0.2.2 4 x1 I w1) ?_
  obtain ⟨I2, w1, h⟩ := fbd_e h
  refine go_callV (y := yCo_write) (asr := [.inl 4, .inl x1, .inl r1]) (v := none) (I' := I2) (st1 := []) d_Co_salt_12 s_yCo_write m_Co_61 H0.1 rfl rfl rfl (Nat.le_of_ble_eq_true rfl) rfl rfl (c_Co_write l (d0 + 0) h0 t0 H0 4 x1 r1 I w1) ?_
  refine go_aload_n (k := 0) d_Co_salt_15 rfl rfl ?_
  refine go_getr (ci := 6) (k := 1) (r := t0) d_Co_salt_16 H0.1 rfl (by decide) f_Co_19 rfl ?_
  refine go_iconst (v := 4) d_Co_salt_19 (by decide) ?_
  refine go_iload_n (k := 1) d_Co_salt_20 rfl rfl ?_
  refine go_iconst (v := 0) d_Co_salt_21 (by decide) ?_
  obtain ⟨I3, w1, h⟩ := fbd_e h
  refine go_callV (y := yTa_putSeat) (asr := [.inl 4, .inl x1, .inl 0]) (v := none) (I' := I3) (st1 := []) d_Co_salt_22 s_yTa_putSeat m_Co_78 H0.2.2.1 rfl rfl rfl (Nat.le_of_ble_eq_true rfl) rfl rfl (c_Ta_putSeat l (d0 + 0) t0 H0.2.2 4 x1 0 I2 w1) ?_
  cases h
  exact go_return d_Co_salt_25 rfl gb_po_i
theorem d_Co_spill_0 : decode yCo_spill.2.1 0 = .ok (.aload_n 0, 1) := by decide +kernel
theorem d_Co_spill_1 : decode yCo_spill.2.1 1 = .ok (.getfield 19, 3) := by decide +kernel
theorem d_Co_spill_4 : decode yCo_spill.2.1 4 = .ok (.iconst 1, 1) := by decide +kernel
theorem d_Co_spill_5 : decode yCo_spill.2.1 5 = .ok (.iload_n 1, 1) := by decide +kernel
theorem d_Co_spill_6 : decode yCo_spill.2.1 6 = .ok (.invokevirtual 68, 3) := by decide +kernel
theorem d_Co_spill_9 : decode yCo_spill.2.1 9 = .ok (.istore_n 2, 1) := by decide +kernel
theorem d_Co_spill_10 : decode yCo_spill.2.1 10 = .ok (.iload_n 2, 1) := by decide +kernel
theorem d_Co_spill_11 : decode yCo_spill.2.1 11 = .ok (.iconst 2, 1) := by decide +kernel
theorem d_Co_spill_12 : decode yCo_spill.2.1 12 = .ok (.iadd, 1) := by decide +kernel
theorem d_Co_spill_13 : decode yCo_spill.2.1 13 = .ok (.iconst 3, 1) := by decide +kernel
theorem d_Co_spill_14 : decode yCo_spill.2.1 14 = .ok (.idiv, 1) := by decide +kernel
theorem d_Co_spill_15 : decode yCo_spill.2.1 15 = .ok (.istore_n 3, 1) := by decide +kernel
theorem d_Co_spill_16 : decode yCo_spill.2.1 16 = .ok (.aload_n 0, 1) := by decide +kernel
theorem d_Co_spill_17 : decode yCo_spill.2.1 17 = .ok (.getfield 19, 3) := by decide +kernel
theorem d_Co_spill_20 : decode yCo_spill.2.1 20 = .ok (.iconst 2, 1) := by decide +kernel
theorem d_Co_spill_21 : decode yCo_spill.2.1 21 = .ok (.iload_n 1, 1) := by decide +kernel
theorem d_Co_spill_22 : decode yCo_spill.2.1 22 = .ok (.invokevirtual 68, 3) := by decide +kernel
theorem d_Co_spill_25 : decode yCo_spill.2.1 25 = .ok (.istore 4, 2) := by decide +kernel
theorem d_Co_spill_27 : decode yCo_spill.2.1 27 = .ok (.aload_n 0, 1) := by decide +kernel
theorem d_Co_spill_28 : decode yCo_spill.2.1 28 = .ok (.getfield 19, 3) := by decide +kernel
theorem d_Co_spill_31 : decode yCo_spill.2.1 31 = .ok (.iconst 1, 1) := by decide +kernel
theorem d_Co_spill_32 : decode yCo_spill.2.1 32 = .ok (.iload_n 1, 1) := by decide +kernel
theorem d_Co_spill_33 : decode yCo_spill.2.1 33 = .ok (.iload_n 2, 1) := by decide +kernel
theorem d_Co_spill_34 : decode yCo_spill.2.1 34 = .ok (.iload_n 3, 1) := by decide +kernel
theorem d_Co_spill_35 : decode yCo_spill.2.1 35 = .ok (.isub, 1) := by decide +kernel
theorem d_Co_spill_36 : decode yCo_spill.2.1 36 = .ok (.invokevirtual 57, 3) := by decide +kernel
theorem d_Co_spill_39 : decode yCo_spill.2.1 39 = .ok (.aload_n 0, 1) := by decide +kernel
theorem d_Co_spill_40 : decode yCo_spill.2.1 40 = .ok (.getfield 19, 3) := by decide +kernel
theorem d_Co_spill_43 : decode yCo_spill.2.1 43 = .ok (.iconst 4, 1) := by decide +kernel
theorem d_Co_spill_44 : decode yCo_spill.2.1 44 = .ok (.iload 4, 2) := by decide +kernel
theorem d_Co_spill_46 : decode yCo_spill.2.1 46 = .ok (.getstatic 138, 3) := by decide +kernel
theorem d_Co_spill_49 : decode yCo_spill.2.1 49 = .ok (.iconst 4, 1) := by decide +kernel
theorem d_Co_spill_50 : decode yCo_spill.2.1 50 = .ok (.iaload, 1) := by decide +kernel
theorem d_Co_spill_51 : decode yCo_spill.2.1 51 = .ok (.aload_n 0, 1) := by decide +kernel
theorem d_Co_spill_52 : decode yCo_spill.2.1 52 = .ok (.getfield 19, 3) := by decide +kernel
theorem d_Co_spill_55 : decode yCo_spill.2.1 55 = .ok (.iconst 4, 1) := by decide +kernel
theorem d_Co_spill_56 : decode yCo_spill.2.1 56 = .ok (.iload 4, 2) := by decide +kernel
theorem d_Co_spill_58 : decode yCo_spill.2.1 58 = .ok (.invokevirtual 75, 3) := by decide +kernel
theorem d_Co_spill_61 : decode yCo_spill.2.1 61 = .ok (.iload_n 3, 1) := by decide +kernel
theorem d_Co_spill_62 : decode yCo_spill.2.1 62 = .ok (.iadd, 1) := by decide +kernel
theorem d_Co_spill_63 : decode yCo_spill.2.1 63 = .ok (.invokestatic 133, 3) := by decide +kernel
theorem d_Co_spill_66 : decode yCo_spill.2.1 66 = .ok (.invokevirtual 78, 3) := by decide +kernel
theorem d_Co_spill_69 : decode yCo_spill.2.1 69 = .ok (.iload_n 3, 1) := by decide +kernel
theorem d_Co_spill_70 : decode yCo_spill.2.1 70 = .ok (.ifCond .le 10, 3) := by decide +kernel
theorem d_Co_spill_73 : decode yCo_spill.2.1 73 = .ok (.aload_n 0, 1) := by decide +kernel
theorem d_Co_spill_74 : decode yCo_spill.2.1 74 = .ok (.iconst 1, 1) := by decide +kernel
theorem d_Co_spill_75 : decode yCo_spill.2.1 75 = .ok (.iload_n 1, 1) := by decide +kernel
theorem d_Co_spill_76 : decode yCo_spill.2.1 76 = .ok (.iload_n 3, 1) := by decide +kernel
theorem d_Co_spill_77 : decode yCo_spill.2.1 77 = .ok (.invokevirtual 61, 3) := by decide +kernel
theorem d_Co_spill_80 : decode yCo_spill.2.1 80 = .ok (.return_, 1) := by decide +kernel
def F_Co_spill (h0 t0 : Nat) (x1 : Int32) (I : gb_Mem) : Option (gb_Mem) :=
  fbd (F_Ta_ofBoat t0 1 x1 I) fun r1 =>
  fbd (F_Ta_ofBoat t0 2 x1 I) fun r2 =>
  fbd (F_Ta_putBoat t0 1 x1 (r1 - ((r1 + 2) / 3)) I) fun I3 =>
  fbd (F_Ta_ofSeat t0 4 r2 I3) fun r4 =>
  fbd (F_Ta_putSeat t0 4 r2 (mn 999 (r4 + ((r1 + 2) / 3))) I3) fun I5 =>
  if ((r1 + 2) / 3) ≤ 0 then
    some I5
  else
    fbd (F_Co_write h0 t0 1 x1 ((r1 + 2) / 3) I5) fun I6 =>
    some I6
set_option maxRecDepth 4000 in
theorem c_Co_spill (l : Launch) (d0 : Nat) (h0 t0 : Nat) (H0 : isCo h0 t0) (x1 : Int32) (I : gb_Mem) {Iz : gb_Mem} (h : F_Co_spill h0 t0 x1 I = some Iz) : gb_Cs l yCo_spill (d0 + 2) [.inr (some h0), .inl x1] shX I none Iz := by
  refine gb_Ct.of (lv := [(0, .inr (some h0)), (1, .inl x1)]) rfl (Nat.le_of_ble_eq_true rfl) rfl ?_
  unfold F_Co_spill at h
  show gb_Go l yCo_spill (d0 + 2) 0 0 0 [(0, .inr (some h0)), (1, .inl x1)] [] shX I (gb_po shX none Iz)
  refine go_aload_n (k := 0) d_Co_spill_0 rfl rfl ?_
  refine go_getr (ci := 6) (k := 1) (r := t0) d_Co_spill_1 H0.1 rfl (by decide) f_Co_19 rfl ?_
  refine go_iconst (v := 1) d_Co_spill_4 (by decide) ?_
  refine go_iload_n (k := 1) d_Co_spill_5 rfl rfl ?_
  obtain ⟨r1, w1, h⟩ := fbd_e h
  refine go_callV (y := yTa_ofBoat) (asr := [.inl 1, .inl x1]) (v := some (.inl r1)) (I' := I) (st1 := [.inl r1]) d_Co_spill_6 s_yTa_ofBoat m_Co_68 H0.2.2.1 rfl rfl rfl (Nat.le_of_ble_eq_true rfl) rfl rfl (c_Ta_ofBoat l (d0 + 0) t0 H0.2.2 1 x1 I w1) ?_
  refine go_istore_n (lv' := [(2, .inl r1), (0, .inr (some h0)), (1, .inl x1)]) d_Co_spill_9 rfl (by decide) rfl ?_
  refine go_iload_n (k := 0) d_Co_spill_10 rfl rfl ?_
  refine go_iconst (v := 2) d_Co_spill_11 (by decide) ?_
  refine go_iadd d_Co_spill_12 ?_
  refine go_iconst (v := 3) d_Co_spill_13 (by decide) ?_
  refine go_idiv d_Co_spill_14 (by decide) ?_
  refine go_istore_n (lv' := [(3, .inl ((r1 + 2) / 3)), (2, .inl r1), (0, .inr (some h0)), (1, .inl x1)]) d_Co_spill_15 rfl (by decide) rfl ?_
  refine go_aload_n (k := 2) d_Co_spill_16 rfl rfl ?_
  refine go_getr (ci := 6) (k := 1) (r := t0) d_Co_spill_17 H0.1 rfl (by decide) f_Co_19 rfl ?_
  refine go_iconst (v := 2) d_Co_spill_20 (by decide) ?_
  refine go_iload_n (k := 3) d_Co_spill_21 rfl rfl ?_
  obtain ⟨r2, w1, h⟩ := fbd_e h
  refine go_callV (y := yTa_ofBoat) (asr := [.inl 2, .inl x1]) (v := some (.inl r2)) (I' := I) (st1 := [.inl r2]) d_Co_spill_22 s_yTa_ofBoat m_Co_68 H0.2.2.1 rfl rfl rfl (Nat.le_of_ble_eq_true rfl) rfl rfl (c_Ta_ofBoat l (d0 + 0) t0 H0.2.2 2 x1 I w1) ?_
  refine go_istore (lv' := [(4, .inl r2), (3, .inl ((r1 + 2) / 3)), (2, .inl r1), (0, .inr (some h0)), (1, .inl x1)]) d_Co_spill_25 (by decide) rfl ?_
  refine go_aload_n (k := 3) d_Co_spill_27 rfl rfl ?_
  refine go_getr (ci := 6) (k := 1) (r := t0) d_Co_spill_28 H0.1 rfl (by decide) f_Co_19 rfl ?_
  refine go_iconst (v := 1) d_Co_spill_31 (by decide) ?_
  refine go_iload_n (k := 4) d_Co_spill_32 rfl rfl ?_
  refine go_iload_n (k := 2) d_Co_spill_33 rfl rfl ?_
  refine go_iload_n (k := 1) d_Co_spill_34 rfl rfl ?_
  refine go_isub d_Co_spill_35 ?_
  obtain ⟨I3, w1, h⟩ := fbd_e h
  refine go_callV (y := yTa_putBoat) (asr := [.inl 1, .inl x1, .inl (r1 - ((r1 + 2) / 3))]) (v := none) (I' := I3) (st1 := []) d_Co_spill_36 s_yTa_putBoat m_Co_57 H0.2.2.1 rfl rfl rfl (Nat.le_of_ble_eq_true rfl) rfl rfl (c_Ta_putBoat l (d0 + 0) t0 H0.2.2 1 x1 (r1 - ((r1 + 2) / 3)) I w1) ?_
  refine go_aload_n (k := 3) d_Co_spill_39 rfl rfl ?_
  refine go_getr (ci := 6) (k := 1) (r := t0) d_Co_spill_40 H0.1 rfl (by decide) f_Co_19 rfl ?_
  refine go_iconst (v := 4) d_Co_spill_43 (by decide) ?_
  refine go_iload (k := 0) d_Co_spill_44 rfl ?_
  refine go_getGN d_Co_spill_46 f_Co_138 ?_
  refine go_iconst (v := 4) d_Co_spill_49 (by decide) ?_
  refine go_ialdG2 (v := 999) d_Co_spill_50 (inb_iff.mp (by decide)) (by decide) ?_
  refine go_aload_n (k := 3) d_Co_spill_51 rfl rfl ?_
  refine go_getr (ci := 6) (k := 1) (r := t0) d_Co_spill_52 H0.1 rfl (by decide) f_Co_19 rfl ?_
  refine go_iconst (v := 4) d_Co_spill_55 (by decide) ?_
  refine go_iload (k := 0) d_Co_spill_56 rfl ?_
  obtain ⟨r4, w1, h⟩ := fbd_e h
  refine go_callV (y := yTa_ofSeat) (asr := [.inl 4, .inl r2]) (v := some (.inl r4)) (I' := I3) (st1 := [.inl r4, .inl 999, .inl r2, .inl 4, .inr (some t0)]) d_Co_spill_58 s_yTa_ofSeat m_Co_75 H0.2.2.1 rfl rfl rfl (Nat.le_of_ble_eq_true rfl) rfl rfl (c_Ta_ofSeat l (d0 + 0) t0 H0.2.2 4 r2 I3 w1) ?_
  refine go_iload_n (k := 1) d_Co_spill_61 rfl rfl ?_
  refine go_iadd d_Co_spill_62 ?_
  refine go_mmin d_Co_spill_63 m_Co_133 (Nat.le_of_ble_eq_true rfl) ?_
  obtain ⟨I5, w1, h⟩ := fbd_e h
  refine go_callV (y := yTa_putSeat) (asr := [.inl 4, .inl r2, .inl (mn 999 (r4 + ((r1 + 2) / 3)))]) (v := none) (I' := I5) (st1 := []) d_Co_spill_66 s_yTa_putSeat m_Co_78 H0.2.2.1 rfl rfl rfl (Nat.le_of_ble_eq_true rfl) rfl rfl (c_Ta_putSeat l (d0 + 0) t0 H0.2.2 4 r2 (mn 999 (r4 + ((r1 + 2) / 3))) I3 w1) ?_
  refine go_iload_n (k := 1) d_Co_spill_69 rfl rfl ?_
  refine go_if_le (tgt := 80) d_Co_spill_70 (by decide) (fun hc => ?_) (fun hc => ?_)
  · rw [if_pos hc] at h
    cases h
    exact go_return d_Co_spill_80 rfl gb_po_i
  · rw [if_neg hc] at h
    refine go_aload_n (k := 3) d_Co_spill_73 rfl rfl ?_
    refine go_iconst (v := 1) d_Co_spill_74 (by decide) ?_
    refine go_iload_n (k := 4) d_Co_spill_75 rfl rfl ?_
    refine go_iload_n (k := 1) d_Co_spill_76 rfl rfl ?_
    obtain ⟨I6, w1, h⟩ := fbd_e h
    refine go_callV (y := yCo_write) (asr := [.inl 1, .inl x1, .inl ((r1 + 2) / 3)]) (v := none) (I' := I6) (st1 := []) d_Co_spill_77 s_yCo_write m_Co_61 H0.1 rfl rfl rfl (Nat.le_of_ble_eq_true rfl) rfl rfl (c_Co_write l (d0 + 0) h0 t0 H0 1 x1 ((r1 + 2) / 3) I5 w1) ?_
    cases h
    exact go_return d_Co_spill_80 rfl gb_po_i
theorem d_Gb_boat_0 : decode yGb_boat.2.1 0 = .ok (.aload_n 0, 1) := by decide +kernel
theorem d_Gb_boat_1 : decode yGb_boat.2.1 1 = .ok (.getfield 12, 3) := by decide +kernel
theorem d_Gb_boat_4 : decode yGb_boat.2.1 4 = .ok (.getfield 35, 3) := by decide +kernel
theorem d_Gb_boat_7 : decode yGb_boat.2.1 7 = .ok (.astore 5, 2) := by decide +kernel
theorem d_Gb_boat_9 : decode yGb_boat.2.1 9 = .ok (.iload_n 1, 1) := by decide +kernel
theorem d_Gb_boat_10 : decode yGb_boat.2.1 10 = .ok (.iconst 0, 1) := by decide +kernel
theorem d_Gb_boat_11 : decode yGb_boat.2.1 11 = .ok (.iconst 4, 1) := by decide +kernel
theorem d_Gb_boat_12 : decode yGb_boat.2.1 12 = .ok (.invokestatic 84, 3) := by decide +kernel
theorem d_Gb_boat_15 : decode yGb_boat.2.1 15 = .ok (.ifCond .eq 40, 3) := by decide +kernel
theorem d_Gb_boat_18 : decode yGb_boat.2.1 18 = .ok (.iload_n 2, 1) := by decide +kernel
theorem d_Gb_boat_19 : decode yGb_boat.2.1 19 = .ok (.iconst 0, 1) := by decide +kernel
theorem d_Gb_boat_20 : decode yGb_boat.2.1 20 = .ok (.getstatic 88, 3) := by decide +kernel
theorem d_Gb_boat_23 : decode yGb_boat.2.1 23 = .ok (.iconst 5, 1) := by decide +kernel
theorem d_Gb_boat_24 : decode yGb_boat.2.1 24 = .ok (.iaload, 1) := by decide +kernel
theorem d_Gb_boat_25 : decode yGb_boat.2.1 25 = .ok (.invokestatic 84, 3) := by decide +kernel
theorem d_Gb_boat_28 : decode yGb_boat.2.1 28 = .ok (.ifCond .eq 27, 3) := by decide +kernel
theorem d_Gb_boat_31 : decode yGb_boat.2.1 31 = .ok (.iload_n 3, 1) := by decide +kernel
theorem d_Gb_boat_32 : decode yGb_boat.2.1 32 = .ok (.iconst 0, 1) := by decide +kernel
theorem d_Gb_boat_33 : decode yGb_boat.2.1 33 = .ok (.bipush 11, 2) := by decide +kernel
theorem d_Gb_boat_35 : decode yGb_boat.2.1 35 = .ok (.invokestatic 84, 3) := by decide +kernel
theorem d_Gb_boat_38 : decode yGb_boat.2.1 38 = .ok (.ifCond .eq 17, 3) := by decide +kernel
theorem d_Gb_boat_41 : decode yGb_boat.2.1 41 = .ok (.iload 4, 2) := by decide +kernel
theorem d_Gb_boat_43 : decode yGb_boat.2.1 43 = .ok (.iconst 0, 1) := by decide +kernel
theorem d_Gb_boat_44 : decode yGb_boat.2.1 44 = .ok (.iconst 1, 1) := by decide +kernel
theorem d_Gb_boat_45 : decode yGb_boat.2.1 45 = .ok (.invokestatic 84, 3) := by decide +kernel
theorem d_Gb_boat_48 : decode yGb_boat.2.1 48 = .ok (.ifCond .eq 7, 3) := by decide +kernel
theorem d_Gb_boat_51 : decode yGb_boat.2.1 51 = .ok (.iconst 1, 1) := by decide +kernel
theorem d_Gb_boat_52 : decode yGb_boat.2.1 52 = .ok (.goto 4, 3) := by decide +kernel
theorem d_Gb_boat_55 : decode yGb_boat.2.1 55 = .ok (.iconst 0, 1) := by decide +kernel
theorem d_Gb_boat_56 : decode yGb_boat.2.1 56 = .ok (.istore 6, 2) := by decide +kernel
theorem d_Gb_boat_58 : decode yGb_boat.2.1 58 = .ok (.iload 6, 2) := by decide +kernel
theorem d_Gb_boat_60 : decode yGb_boat.2.1 60 = .ok (.ifCond .eq 22, 3) := by decide +kernel
theorem d_Gb_boat_63 : decode yGb_boat.2.1 63 = .ok (.iload_n 3, 1) := by decide +kernel
theorem d_Gb_boat_64 : decode yGb_boat.2.1 64 = .ok (.iload 4, 2) := by decide +kernel
theorem d_Gb_boat_66 : decode yGb_boat.2.1 66 = .ok (.invokestatic 91, 3) := by decide +kernel
theorem d_Gb_boat_69 : decode yGb_boat.2.1 69 = .ok (.if_icmp .eq 13, 3) := by decide +kernel
theorem d_Gb_boat_72 : decode yGb_boat.2.1 72 = .ok (.aload 5, 2) := by decide +kernel
theorem d_Gb_boat_74 : decode yGb_boat.2.1 74 = .ok (.getfield 95, 3) := by decide +kernel
theorem d_Gb_boat_77 : decode yGb_boat.2.1 77 = .ok (.bipush 8, 2) := by decide +kernel
theorem d_Gb_boat_79 : decode yGb_boat.2.1 79 = .ok (.if_icmp .lt 5, 3) := by decide +kernel
theorem d_Gb_boat_82 : decode yGb_boat.2.1 82 = .ok (.iconst (-1), 1) := by decide +kernel
theorem d_Gb_boat_83 : decode yGb_boat.2.1 83 = .ok (.ireturn, 1) := by decide +kernel
theorem d_Gb_boat_84 : decode yGb_boat.2.1 84 = .ok (.aload 5, 2) := by decide +kernel
theorem d_Gb_boat_86 : decode yGb_boat.2.1 86 = .ok (.getfield 95, 3) := by decide +kernel
theorem d_Gb_boat_89 : decode yGb_boat.2.1 89 = .ok (.istore 7, 2) := by decide +kernel
theorem d_Gb_boat_91 : decode yGb_boat.2.1 91 = .ok (.aload 5, 2) := by decide +kernel
theorem d_Gb_boat_93 : decode yGb_boat.2.1 93 = .ok (.iload 7, 2) := by decide +kernel
theorem d_Gb_boat_95 : decode yGb_boat.2.1 95 = .ok (.iconst 1, 1) := by decide +kernel
theorem d_Gb_boat_96 : decode yGb_boat.2.1 96 = .ok (.iadd, 1) := by decide +kernel
theorem d_Gb_boat_97 : decode yGb_boat.2.1 97 = .ok (.putfield 95, 3) := by decide +kernel
theorem d_Gb_boat_100 : decode yGb_boat.2.1 100 = .ok (.aload 5, 2) := by decide +kernel
theorem d_Gb_boat_102 : decode yGb_boat.2.1 102 = .ok (.iconst 0, 1) := by decide +kernel
theorem d_Gb_boat_103 : decode yGb_boat.2.1 103 = .ok (.iload 7, 2) := by decide +kernel
theorem d_Gb_boat_105 : decode yGb_boat.2.1 105 = .ok (.iload_n 1, 1) := by decide +kernel
theorem d_Gb_boat_106 : decode yGb_boat.2.1 106 = .ok (.invokevirtual 98, 3) := by decide +kernel
theorem d_Gb_boat_109 : decode yGb_boat.2.1 109 = .ok (.aload 5, 2) := by decide +kernel
theorem d_Gb_boat_111 : decode yGb_boat.2.1 111 = .ok (.iconst 1, 1) := by decide +kernel
theorem d_Gb_boat_112 : decode yGb_boat.2.1 112 = .ok (.iload 7, 2) := by decide +kernel
theorem d_Gb_boat_114 : decode yGb_boat.2.1 114 = .ok (.iload_n 2, 1) := by decide +kernel
theorem d_Gb_boat_115 : decode yGb_boat.2.1 115 = .ok (.invokevirtual 98, 3) := by decide +kernel
theorem d_Gb_boat_118 : decode yGb_boat.2.1 118 = .ok (.aload 5, 2) := by decide +kernel
theorem d_Gb_boat_120 : decode yGb_boat.2.1 120 = .ok (.iconst 2, 1) := by decide +kernel
theorem d_Gb_boat_121 : decode yGb_boat.2.1 121 = .ok (.iload 7, 2) := by decide +kernel
theorem d_Gb_boat_123 : decode yGb_boat.2.1 123 = .ok (.iload_n 3, 1) := by decide +kernel
theorem d_Gb_boat_124 : decode yGb_boat.2.1 124 = .ok (.invokevirtual 98, 3) := by decide +kernel
theorem d_Gb_boat_127 : decode yGb_boat.2.1 127 = .ok (.aload 5, 2) := by decide +kernel
theorem d_Gb_boat_129 : decode yGb_boat.2.1 129 = .ok (.iconst 3, 1) := by decide +kernel
theorem d_Gb_boat_130 : decode yGb_boat.2.1 130 = .ok (.iload 7, 2) := by decide +kernel
theorem d_Gb_boat_132 : decode yGb_boat.2.1 132 = .ok (.iload 4, 2) := by decide +kernel
theorem d_Gb_boat_134 : decode yGb_boat.2.1 134 = .ok (.invokevirtual 98, 3) := by decide +kernel
theorem d_Gb_boat_137 : decode yGb_boat.2.1 137 = .ok (.aload 5, 2) := by decide +kernel
theorem d_Gb_boat_139 : decode yGb_boat.2.1 139 = .ok (.iconst 4, 1) := by decide +kernel
theorem d_Gb_boat_140 : decode yGb_boat.2.1 140 = .ok (.iload 7, 2) := by decide +kernel
theorem d_Gb_boat_142 : decode yGb_boat.2.1 142 = .ok (.iconst 0, 1) := by decide +kernel
theorem d_Gb_boat_143 : decode yGb_boat.2.1 143 = .ok (.invokevirtual 98, 3) := by decide +kernel
theorem d_Gb_boat_146 : decode yGb_boat.2.1 146 = .ok (.aload 5, 2) := by decide +kernel
theorem d_Gb_boat_148 : decode yGb_boat.2.1 148 = .ok (.iconst 5, 1) := by decide +kernel
theorem d_Gb_boat_149 : decode yGb_boat.2.1 149 = .ok (.iload 7, 2) := by decide +kernel
theorem d_Gb_boat_151 : decode yGb_boat.2.1 151 = .ok (.iconst 0, 1) := by decide +kernel
theorem d_Gb_boat_152 : decode yGb_boat.2.1 152 = .ok (.invokevirtual 98, 3) := by decide +kernel
theorem d_Gb_boat_155 : decode yGb_boat.2.1 155 = .ok (.aload_n 0, 1) := by decide +kernel
theorem d_Gb_boat_156 : decode yGb_boat.2.1 156 = .ok (.getfield 22, 3) := by decide +kernel
theorem d_Gb_boat_159 : decode yGb_boat.2.1 159 = .ok (.invokevirtual 81, 3) := by decide +kernel
theorem d_Gb_boat_162 : decode yGb_boat.2.1 162 = .ok (.iload 7, 2) := by decide +kernel
theorem d_Gb_boat_164 : decode yGb_boat.2.1 164 = .ok (.ireturn, 1) := by decide +kernel
def J_Gb_boat_56 (x1 x2 x3 x4 s0 : Int32) (I : gb_Mem) : Option (Int32 × gb_Mem) :=
  if s0 = 0 then
    some ((-1), I)
  else
    if x3 = (F_Gb_shoreOf x4 I) then
      some ((-1), I)
    else
      if (I 2 5) < 8 then
        fstf I 2 5 ((I 2 5) + 1) fun I1 =>
        fbd (F_Ta_putBoat 2 0 (I 2 5) x1 I1) fun I2 =>
        fbd (F_Ta_putBoat 2 1 (I 2 5) x2 I2) fun I3 =>
        fbd (F_Ta_putBoat 2 2 (I 2 5) x3 I3) fun I4 =>
        fbd (F_Ta_putBoat 2 3 (I 2 5) x4 I4) fun I5 =>
        fbd (F_Ta_putBoat 2 4 (I 2 5) 0 I5) fun I6 =>
        fbd (F_Ta_putBoat 2 5 (I 2 5) 0 I6) fun I7 =>
        fbd (F_Pa_forget  I7) fun I8 =>
        some (I 2 5, I8)
      else
        some ((-1), I)
set_option maxRecDepth 4000 in
theorem j_Gb_boat_56 (l : Launch) (d0 : Nat) (x1 x2 x3 x4 s0 : Int32) (I : gb_Mem) {rz : Int32} {Iz : gb_Mem} (h : J_Gb_boat_56 x1 x2 x3 x4 s0 I = some (rz, Iz)) : gb_Go l yGb_boat (d0 + 2) 0 0 56 [(0, .inr (some 0)), (1, .inl x1), (2, .inl x2), (3, .inl x3), (4, .inl x4), (5, .inr (some 2))] [.inl s0] shX I (gb_po shX (some (.inl rz)) Iz) := by
  unfold J_Gb_boat_56 at h
  refine go_istore (lv' := [(6, .inl s0), (0, .inr (some 0)), (1, .inl x1), (2, .inl x2), (3, .inl x3), (4, .inl x4), (5, .inr (some 2))]) d_Gb_boat_56 (by decide) rfl ?_
  refine go_iload (k := 0) d_Gb_boat_58 rfl ?_
  refine go_if_eq (tgt := 82) d_Gb_boat_60 (by decide) (fun hc => ?_) (fun hc => ?_)
  · rw [if_pos hc] at h
    refine go_iconst (v := (-1)) d_Gb_boat_82 (by decide) ?_
    cases h
    exact go_ireturn d_Gb_boat_83 rfl gb_po_i
  · rw [if_neg hc] at h
    refine go_iload_n (k := 4) d_Gb_boat_63 rfl rfl ?_
    refine go_iload (k := 5) d_Gb_boat_64 rfl ?_
    refine go_callS (y := yGb_shoreOf) (asr := [.inl x4]) (v := some (.inl (F_Gb_shoreOf x4 I))) (I' := I) (st1 := [.inl (F_Gb_shoreOf x4 I), .inl x3]) d_Gb_boat_66 s_yGb_shoreOf m_Gb_91 rfl (Nat.le_of_ble_eq_true rfl) rfl rfl (c_Gb_shoreOf l (d0 + 1) x4 I) ?_
    refine go_cmp_eq (tgt := 82) d_Gb_boat_69 (by decide) (fun hc => ?_) (fun hc => ?_)
    · rw [if_pos hc] at h
      refine go_iconst (v := (-1)) d_Gb_boat_82 (by decide) ?_
      cases h
      exact go_ireturn d_Gb_boat_83 rfl gb_po_i
    · rw [if_neg hc] at h
      refine go_aload (k := 6) d_Gb_boat_72 rfl ?_
      refine go_getiN (ci := 2) (k := 5) d_Gb_boat_74 a_X_2 rfl (by decide) f_Gb_95 rfl ?_
      refine go_bipush (v := 8) d_Gb_boat_77 (by decide) ?_
      refine go_cmp_lt (tgt := 84) d_Gb_boat_79 (by decide) (fun hc => ?_) (fun hc => ?_)
      · rw [if_pos hc] at h
        refine go_aload (k := 6) d_Gb_boat_84 rfl ?_
        refine go_getiN (ci := 2) (k := 5) d_Gb_boat_86 a_X_2 rfl (by decide) f_Gb_95 rfl ?_
        refine go_istore (lv' := [(7, .inl (I 2 5)), (6, .inl s0), (0, .inr (some 0)), (1, .inl x1), (2, .inl x2), (3, .inl x3), (4, .inl x4), (5, .inr (some 2))]) d_Gb_boat_89 (by decide) rfl ?_
        refine go_aload (k := 7) d_Gb_boat_91 rfl ?_
        refine go_iload (k := 0) d_Gb_boat_93 rfl ?_
        refine go_iconst (v := 1) d_Gb_boat_95 (by decide) ?_
        refine go_iadd d_Gb_boat_96 ?_
        obtain ⟨I1, eI1, h⟩ := fstf_e h
        refine go_putTN (ci := 2) (k := 5) (I' := I1) d_Gb_boat_97 a_X_2 rfl (by decide) f_Gb_95 rfl rfl rfl rfl rfl eI1 ?_
        refine go_aload (k := 7) d_Gb_boat_100 rfl ?_
        refine go_iconst (v := 0) d_Gb_boat_102 (by decide) ?_
        refine go_iload (k := 0) d_Gb_boat_103 rfl ?_
        refine go_iload_n (k := 3) d_Gb_boat_105 rfl rfl ?_
        obtain ⟨I2, w1, h⟩ := fbd_e h
        refine go_callV (y := yTa_putBoat) (asr := [.inl 0, .inl (I 2 5), .inl x1]) (v := none) (I' := I2) (st1 := []) d_Gb_boat_106 s_yTa_putBoat m_Gb_98 a_X_2 rfl rfl rfl (Nat.le_of_ble_eq_true rfl) rfl rfl (c_Ta_putBoat l (d0 + 0) 2 isTa_2 0 (I 2 5) x1 I1 w1) ?_
        refine go_aload (k := 7) d_Gb_boat_109 rfl ?_
        refine go_iconst (v := 1) d_Gb_boat_111 (by decide) ?_
        refine go_iload (k := 0) d_Gb_boat_112 rfl ?_
        refine go_iload_n (k := 4) d_Gb_boat_114 rfl rfl ?_
        obtain ⟨I3, w1, h⟩ := fbd_e h
        refine go_callV (y := yTa_putBoat) (asr := [.inl 1, .inl (I 2 5), .inl x2]) (v := none) (I' := I3) (st1 := []) d_Gb_boat_115 s_yTa_putBoat m_Gb_98 a_X_2 rfl rfl rfl (Nat.le_of_ble_eq_true rfl) rfl rfl (c_Ta_putBoat l (d0 + 0) 2 isTa_2 1 (I 2 5) x2 I2 w1) ?_
        refine go_aload (k := 7) d_Gb_boat_118 rfl ?_
        refine go_iconst (v := 2) d_Gb_boat_120 (by decide) ?_
        refine go_iload (k := 0) d_Gb_boat_121 rfl ?_
        refine go_iload_n (k := 5) d_Gb_boat_123 rfl rfl ?_
        obtain ⟨I4, w1, h⟩ := fbd_e h
        refine go_callV (y := yTa_putBoat) (asr := [.inl 2, .inl (I 2 5), .inl x3]) (v := none) (I' := I4) (st1 := []) d_Gb_boat_124 s_yTa_putBoat m_Gb_98 a_X_2 rfl rfl rfl (Nat.le_of_ble_eq_true rfl) rfl rfl (c_Ta_putBoat l (d0 + 0) 2 isTa_2 2 (I 2 5) x3 I3 w1) ?_
        refine go_aload (k := 7) d_Gb_boat_127 rfl ?_
        refine go_iconst (v := 3) d_Gb_boat_129 (by decide) ?_
        refine go_iload (k := 0) d_Gb_boat_130 rfl ?_
        refine go_iload (k := 6) d_Gb_boat_132 rfl ?_
        obtain ⟨I5, w1, h⟩ := fbd_e h
        refine go_callV (y := yTa_putBoat) (asr := [.inl 3, .inl (I 2 5), .inl x4]) (v := none) (I' := I5) (st1 := []) d_Gb_boat_134 s_yTa_putBoat m_Gb_98 a_X_2 rfl rfl rfl (Nat.le_of_ble_eq_true rfl) rfl rfl (c_Ta_putBoat l (d0 + 0) 2 isTa_2 3 (I 2 5) x4 I4 w1) ?_
        refine go_aload (k := 7) d_Gb_boat_137 rfl ?_
        refine go_iconst (v := 4) d_Gb_boat_139 (by decide) ?_
        refine go_iload (k := 0) d_Gb_boat_140 rfl ?_
        refine go_iconst (v := 0) d_Gb_boat_142 (by decide) ?_
        obtain ⟨I6, w1, h⟩ := fbd_e h
        refine go_callV (y := yTa_putBoat) (asr := [.inl 4, .inl (I 2 5), .inl 0]) (v := none) (I' := I6) (st1 := []) d_Gb_boat_143 s_yTa_putBoat m_Gb_98 a_X_2 rfl rfl rfl (Nat.le_of_ble_eq_true rfl) rfl rfl (c_Ta_putBoat l (d0 + 0) 2 isTa_2 4 (I 2 5) 0 I5 w1) ?_
        refine go_aload (k := 7) d_Gb_boat_146 rfl ?_
        refine go_iconst (v := 5) d_Gb_boat_148 (by decide) ?_
        refine go_iload (k := 0) d_Gb_boat_149 rfl ?_
        refine go_iconst (v := 0) d_Gb_boat_151 (by decide) ?_
        obtain ⟨I7, w1, h⟩ := fbd_e h
        refine go_callV (y := yTa_putBoat) (asr := [.inl 5, .inl (I 2 5), .inl 0]) (v := none) (I' := I7) (st1 := []) d_Gb_boat_152 s_yTa_putBoat m_Gb_98 a_X_2 rfl rfl rfl (Nat.le_of_ble_eq_true rfl) rfl rfl (c_Ta_putBoat l (d0 + 0) 2 isTa_2 5 (I 2 5) 0 I6 w1) ?_
        refine go_aload_n (k := 2) d_Gb_boat_155 rfl rfl ?_
        refine go_getr (ci := 0) (k := 3) (r := 69) d_Gb_boat_156 a_X_0 rfl (by decide) f_Gb_22 rfl ?_
        obtain ⟨I8, w1, h⟩ := fbd_e h
        refine go_callV (y := yPa_forget) (asr := []) (v := none) (I' := I8) (st1 := []) d_Gb_boat_159 s_yPa_forget m_Gb_81 a_X_69 rfl rfl rfl (Nat.le_of_ble_eq_true rfl) rfl rfl (c_Pa_forget l (d0 + 1)  I7 w1) ?_
        refine go_iload (k := 0) d_Gb_boat_162 rfl ?_
        cases h
        exact go_ireturn d_Gb_boat_164 rfl gb_po_i
      · rw [if_neg hc] at h
        refine go_iconst (v := (-1)) d_Gb_boat_82 (by decide) ?_
        cases h
        exact go_ireturn d_Gb_boat_83 rfl gb_po_i
def J_Gb_boat_55 (x1 x2 x3 x4 : Int32) (I : gb_Mem) : Option (Int32 × gb_Mem) :=
  J_Gb_boat_56 x1 x2 x3 x4 0 I
set_option maxRecDepth 4000 in
theorem j_Gb_boat_55 (l : Launch) (d0 : Nat) (x1 x2 x3 x4 : Int32) (I : gb_Mem) {rz : Int32} {Iz : gb_Mem} (h : J_Gb_boat_55 x1 x2 x3 x4 I = some (rz, Iz)) : gb_Go l yGb_boat (d0 + 2) 0 0 55 [(0, .inr (some 0)), (1, .inl x1), (2, .inl x2), (3, .inl x3), (4, .inl x4), (5, .inr (some 2))] [] shX I (gb_po shX (some (.inl rz)) Iz) := by
  unfold J_Gb_boat_55 at h
  refine go_iconst (v := 0) d_Gb_boat_55 (by decide) ?_
  exact go_lv [0, 1, 2, 3, 4, 5] rfl (j_Gb_boat_56 l d0 x1 x2 x3 x4 0 I h)
def F_Gb_boat (x1 x2 x3 x4 : Int32) (I : gb_Mem) : Option (Int32 × gb_Mem) :=
  if (F_Gb_within x1 0 4 I) = 0 then
    J_Gb_boat_55 x1 x2 x3 x4 I
  else
    if (F_Gb_within x2 0 99 I) = 0 then
      J_Gb_boat_55 x1 x2 x3 x4 I
    else
      if (F_Gb_within x3 0 11 I) = 0 then
        J_Gb_boat_55 x1 x2 x3 x4 I
      else
        if (F_Gb_within x4 0 1 I) = 0 then
          J_Gb_boat_55 x1 x2 x3 x4 I
        else
          J_Gb_boat_56 x1 x2 x3 x4 1 I
set_option maxRecDepth 4000 in
theorem c_Gb_boat (l : Launch) (d0 : Nat) (x1 x2 x3 x4 : Int32) (I : gb_Mem) {rz : Int32} {Iz : gb_Mem} (h : F_Gb_boat x1 x2 x3 x4 I = some (rz, Iz)) : gb_Cs l yGb_boat (d0 + 2) [.inr (some 0), .inl x1, .inl x2, .inl x3, .inl x4] shX I (some (.inl rz)) Iz := by
  refine gb_Ct.of (lv := [(0, .inr (some 0)), (1, .inl x1), (2, .inl x2), (3, .inl x3), (4, .inl x4)]) rfl (Nat.le_of_ble_eq_true rfl) rfl ?_
  unfold F_Gb_boat at h
  show gb_Go l yGb_boat (d0 + 2) 0 0 0 [(0, .inr (some 0)), (1, .inl x1), (2, .inl x2), (3, .inl x3), (4, .inl x4)] [] shX I (gb_po shX (some (.inl rz)) Iz)
  refine go_aload_n (k := 0) d_Gb_boat_0 rfl rfl ?_
  refine go_getr (ci := 0) (k := 0) (r := 1) d_Gb_boat_1 a_X_0 rfl (by decide) f_Gb_12 rfl ?_
  refine go_getrN (ci := 1) (k := 0) (r := 2) d_Gb_boat_4 a_X_1 rfl (by decide) f_Gb_35 rfl ?_
  refine go_astore (lv' := [(5, .inr (some 2)), (0, .inr (some 0)), (1, .inl x1), (2, .inl x2), (3, .inl x3), (4, .inl x4)]) d_Gb_boat_7 (by decide) rfl ?_
  refine go_iload_n (k := 2) d_Gb_boat_9 rfl rfl ?_
  refine go_iconst (v := 0) d_Gb_boat_10 (by decide) ?_
  refine go_iconst (v := 4) d_Gb_boat_11 (by decide) ?_
  refine go_callS (y := yGb_within) (asr := [.inl x1, .inl 0, .inl 4]) (v := some (.inl (F_Gb_within x1 0 4 I))) (I' := I) (st1 := [.inl (F_Gb_within x1 0 4 I)]) d_Gb_boat_12 s_yGb_within m_Gb_84 rfl (Nat.le_of_ble_eq_true rfl) rfl rfl (c_Gb_within l (d0 + 1) x1 0 4 I) ?_
  refine go_if_eq (tgt := 55) d_Gb_boat_15 (by decide) (fun hc => ?_) (fun hc => ?_)
  · rw [if_pos hc] at h
    exact go_lv [1, 2, 3, 4, 5, 0] rfl (j_Gb_boat_55 l d0 x1 x2 x3 x4 I h)
  · rw [if_neg hc] at h
    refine go_iload_n (k := 3) d_Gb_boat_18 rfl rfl ?_
    refine go_iconst (v := 0) d_Gb_boat_19 (by decide) ?_
    refine go_getG d_Gb_boat_20 f_Gb_88 ?_
    refine go_iconst (v := 5) d_Gb_boat_23 (by decide) ?_
    refine go_ialdG2 (v := 99) d_Gb_boat_24 (inb_iff.mp (by decide)) (by decide) ?_
    refine go_callS (y := yGb_within) (asr := [.inl x2, .inl 0, .inl 99]) (v := some (.inl (F_Gb_within x2 0 99 I))) (I' := I) (st1 := [.inl (F_Gb_within x2 0 99 I)]) d_Gb_boat_25 s_yGb_within m_Gb_84 rfl (Nat.le_of_ble_eq_true rfl) rfl rfl (c_Gb_within l (d0 + 1) x2 0 99 I) ?_
    refine go_if_eq (tgt := 55) d_Gb_boat_28 (by decide) (fun hc => ?_) (fun hc => ?_)
    · rw [if_pos hc] at h
      exact go_lv [1, 2, 3, 4, 5, 0] rfl (j_Gb_boat_55 l d0 x1 x2 x3 x4 I h)
    · rw [if_neg hc] at h
      refine go_iload_n (k := 4) d_Gb_boat_31 rfl rfl ?_
      refine go_iconst (v := 0) d_Gb_boat_32 (by decide) ?_
      refine go_bipush (v := 11) d_Gb_boat_33 (by decide) ?_
      refine go_callS (y := yGb_within) (asr := [.inl x3, .inl 0, .inl 11]) (v := some (.inl (F_Gb_within x3 0 11 I))) (I' := I) (st1 := [.inl (F_Gb_within x3 0 11 I)]) d_Gb_boat_35 s_yGb_within m_Gb_84 rfl (Nat.le_of_ble_eq_true rfl) rfl rfl (c_Gb_within l (d0 + 1) x3 0 11 I) ?_
      refine go_if_eq (tgt := 55) d_Gb_boat_38 (by decide) (fun hc => ?_) (fun hc => ?_)
      · rw [if_pos hc] at h
        exact go_lv [1, 2, 3, 4, 5, 0] rfl (j_Gb_boat_55 l d0 x1 x2 x3 x4 I h)
      · rw [if_neg hc] at h
        refine go_iload (k := 5) d_Gb_boat_41 rfl ?_
        refine go_iconst (v := 0) d_Gb_boat_43 (by decide) ?_
        refine go_iconst (v := 1) d_Gb_boat_44 (by decide) ?_
        refine go_callS (y := yGb_within) (asr := [.inl x4, .inl 0, .inl 1]) (v := some (.inl (F_Gb_within x4 0 1 I))) (I' := I) (st1 := [.inl (F_Gb_within x4 0 1 I)]) d_Gb_boat_45 s_yGb_within m_Gb_84 rfl (Nat.le_of_ble_eq_true rfl) rfl rfl (c_Gb_within l (d0 + 1) x4 0 1 I) ?_
        refine go_if_eq (tgt := 55) d_Gb_boat_48 (by decide) (fun hc => ?_) (fun hc => ?_)
        · rw [if_pos hc] at h
          exact go_lv [1, 2, 3, 4, 5, 0] rfl (j_Gb_boat_55 l d0 x1 x2 x3 x4 I h)
        · rw [if_neg hc] at h
          refine go_iconst (v := 1) d_Gb_boat_51 (by decide) ?_
          refine go_goto (tgt := 56) d_Gb_boat_52 (by decide) ?_
          exact go_lv [1, 2, 3, 4, 5, 0] rfl (j_Gb_boat_56 l d0 x1 x2 x3 x4 1 I h)
theorem d_Gb_book_0 : decode yGb_book.2.1 0 = .ok (.iload_n 1, 1) := by decide +kernel
theorem d_Gb_book_1 : decode yGb_book.2.1 1 = .ok (.iconst 0, 1) := by decide +kernel
theorem d_Gb_book_2 : decode yGb_book.2.1 2 = .ok (.aload_n 0, 1) := by decide +kernel
theorem d_Gb_book_3 : decode yGb_book.2.1 3 = .ok (.getfield 12, 3) := by decide +kernel
theorem d_Gb_book_6 : decode yGb_book.2.1 6 = .ok (.getfield 185, 3) := by decide +kernel
theorem d_Gb_book_9 : decode yGb_book.2.1 9 = .ok (.getfield 189, 3) := by decide +kernel
theorem d_Gb_book_12 : decode yGb_book.2.1 12 = .ok (.iconst 1, 1) := by decide +kernel
theorem d_Gb_book_13 : decode yGb_book.2.1 13 = .ok (.isub, 1) := by decide +kernel
theorem d_Gb_book_14 : decode yGb_book.2.1 14 = .ok (.invokestatic 84, 3) := by decide +kernel
theorem d_Gb_book_17 : decode yGb_book.2.1 17 = .ok (.ifCond .eq 27, 3) := by decide +kernel
theorem d_Gb_book_20 : decode yGb_book.2.1 20 = .ok (.iload_n 2, 1) := by decide +kernel
theorem d_Gb_book_21 : decode yGb_book.2.1 21 = .ok (.iconst 0, 1) := by decide +kernel
theorem d_Gb_book_22 : decode yGb_book.2.1 22 = .ok (.iconst 3, 1) := by decide +kernel
theorem d_Gb_book_23 : decode yGb_book.2.1 23 = .ok (.invokestatic 84, 3) := by decide +kernel
theorem d_Gb_book_26 : decode yGb_book.2.1 26 = .ok (.ifCond .eq 18, 3) := by decide +kernel
theorem d_Gb_book_29 : decode yGb_book.2.1 29 = .ok (.aload_n 0, 1) := by decide +kernel
theorem d_Gb_book_30 : decode yGb_book.2.1 30 = .ok (.getfield 12, 3) := by decide +kernel
theorem d_Gb_book_33 : decode yGb_book.2.1 33 = .ok (.getfield 185, 3) := by decide +kernel
theorem d_Gb_book_36 : decode yGb_book.2.1 36 = .ok (.iload_n 1, 1) := by decide +kernel
theorem d_Gb_book_37 : decode yGb_book.2.1 37 = .ok (.iload_n 2, 1) := by decide +kernel
theorem d_Gb_book_38 : decode yGb_book.2.1 38 = .ok (.invokevirtual 194, 3) := by decide +kernel
theorem d_Gb_book_41 : decode yGb_book.2.1 41 = .ok (.goto 4, 3) := by decide +kernel
theorem d_Gb_book_44 : decode yGb_book.2.1 44 = .ok (.iconst (-1), 1) := by decide +kernel
theorem d_Gb_book_45 : decode yGb_book.2.1 45 = .ok (.ireturn, 1) := by decide +kernel
def F_Gb_book (x1 x2 : Int32) (I : gb_Mem) : Option (Int32) :=
  if (F_Gb_within x1 0 ((I 17 2) - 1) I) = 0 then
    some (-1)
  else
    if (F_Gb_within x2 0 3 I) = 0 then
      some (-1)
    else
      fbd (F_Ro_cell 17 600 x1 x2 I) fun r1 =>
      some r1
set_option maxRecDepth 4000 in
theorem c_Gb_book (l : Launch) (d0 : Nat) (x1 x2 : Int32) (I : gb_Mem) {rz : Int32} (h : F_Gb_book x1 x2 I = some rz) : gb_Cs l yGb_book (d0 + 2) [.inr (some 0), .inl x1, .inl x2] shX I (some (.inl rz)) I := by
  refine gb_Ct.of (lv := [(0, .inr (some 0)), (1, .inl x1), (2, .inl x2)]) rfl (Nat.le_of_ble_eq_true rfl) rfl ?_
  unfold F_Gb_book at h
  show gb_Go l yGb_book (d0 + 2) 0 0 0 [(0, .inr (some 0)), (1, .inl x1), (2, .inl x2)] [] shX I (gb_po shX (some (.inl rz)) I)
  refine go_iload_n (k := 1) d_Gb_book_0 rfl rfl ?_
  refine go_iconst (v := 0) d_Gb_book_1 (by decide) ?_
  refine go_aload_n (k := 0) d_Gb_book_2 rfl rfl ?_
  refine go_getr (ci := 0) (k := 0) (r := 1) d_Gb_book_3 a_X_0 rfl (by decide) f_Gb_12 rfl ?_
  refine go_getrN (ci := 1) (k := 5) (r := 17) d_Gb_book_6 a_X_1 rfl (by decide) f_Gb_185 rfl ?_
  refine go_getiN (ci := 4) (k := 2) d_Gb_book_9 a_X_17 rfl (by decide) f_Gb_189 rfl ?_
  refine go_iconst (v := 1) d_Gb_book_12 (by decide) ?_
  refine go_isub d_Gb_book_13 ?_
  refine go_callS (y := yGb_within) (asr := [.inl x1, .inl 0, .inl ((I 17 2) - 1)]) (v := some (.inl (F_Gb_within x1 0 ((I 17 2) - 1) I))) (I' := I) (st1 := [.inl (F_Gb_within x1 0 ((I 17 2) - 1) I)]) d_Gb_book_14 s_yGb_within m_Gb_84 rfl (Nat.le_of_ble_eq_true rfl) rfl rfl (c_Gb_within l (d0 + 1) x1 0 ((I 17 2) - 1) I) ?_
  refine go_if_eq (tgt := 44) d_Gb_book_17 (by decide) (fun hc => ?_) (fun hc => ?_)
  · rw [if_pos hc] at h
    refine go_iconst (v := (-1)) d_Gb_book_44 (by decide) ?_
    cases h
    exact go_ireturn d_Gb_book_45 rfl gb_po_i
  · rw [if_neg hc] at h
    refine go_iload_n (k := 2) d_Gb_book_20 rfl rfl ?_
    refine go_iconst (v := 0) d_Gb_book_21 (by decide) ?_
    refine go_iconst (v := 3) d_Gb_book_22 (by decide) ?_
    refine go_callS (y := yGb_within) (asr := [.inl x2, .inl 0, .inl 3]) (v := some (.inl (F_Gb_within x2 0 3 I))) (I' := I) (st1 := [.inl (F_Gb_within x2 0 3 I)]) d_Gb_book_23 s_yGb_within m_Gb_84 rfl (Nat.le_of_ble_eq_true rfl) rfl rfl (c_Gb_within l (d0 + 1) x2 0 3 I) ?_
    refine go_if_eq (tgt := 44) d_Gb_book_26 (by decide) (fun hc => ?_) (fun hc => ?_)
    · rw [if_pos hc] at h
      refine go_iconst (v := (-1)) d_Gb_book_44 (by decide) ?_
      cases h
      exact go_ireturn d_Gb_book_45 rfl gb_po_i
    · rw [if_neg hc] at h
      refine go_aload_n (k := 0) d_Gb_book_29 rfl rfl ?_
      refine go_getr (ci := 0) (k := 0) (r := 1) d_Gb_book_30 a_X_0 rfl (by decide) f_Gb_12 rfl ?_
      refine go_getrN (ci := 1) (k := 5) (r := 17) d_Gb_book_33 a_X_1 rfl (by decide) f_Gb_185 rfl ?_
      refine go_iload_n (k := 1) d_Gb_book_36 rfl rfl ?_
      refine go_iload_n (k := 2) d_Gb_book_37 rfl rfl ?_
      obtain ⟨r1, w1, h⟩ := fbd_e h
      refine go_callV (y := yRo_cell) (asr := [.inl x1, .inl x2]) (v := some (.inl r1)) (I' := I) (st1 := [.inl r1]) d_Gb_book_38 s_yRo_cell m_Gb_194 a_X_17 rfl rfl rfl (Nat.le_of_ble_eq_true rfl) rfl rfl (c_Ro_cell l (d0 + 0) 17 600 isRo_17 x1 x2 I w1) ?_
      refine go_goto (tgt := 45) d_Gb_book_41 (by decide) ?_
      cases h
      exact go_ireturn d_Gb_book_45 rfl gb_po_i
theorem d_Gb_cloth_0 : decode yGb_cloth.2.1 0 = .ok (.iload_n 1, 1) := by decide +kernel
theorem d_Gb_cloth_1 : decode yGb_cloth.2.1 1 = .ok (.iconst 0, 1) := by decide +kernel
theorem d_Gb_cloth_2 : decode yGb_cloth.2.1 2 = .ok (.bipush 99, 2) := by decide +kernel
theorem d_Gb_cloth_4 : decode yGb_cloth.2.1 4 = .ok (.invokestatic 84, 3) := by decide +kernel
theorem d_Gb_cloth_7 : decode yGb_cloth.2.1 7 = .ok (.ifCond .eq 19, 3) := by decide +kernel
theorem d_Gb_cloth_10 : decode yGb_cloth.2.1 10 = .ok (.iload_n 2, 1) := by decide +kernel
theorem d_Gb_cloth_11 : decode yGb_cloth.2.1 11 = .ok (.iload_n 1, 1) := by decide +kernel
theorem d_Gb_cloth_12 : decode yGb_cloth.2.1 12 = .ok (.iconst 1, 1) := by decide +kernel
theorem d_Gb_cloth_13 : decode yGb_cloth.2.1 13 = .ok (.iadd, 1) := by decide +kernel
theorem d_Gb_cloth_14 : decode yGb_cloth.2.1 14 = .ok (.bipush 100, 2) := by decide +kernel
theorem d_Gb_cloth_16 : decode yGb_cloth.2.1 16 = .ok (.invokestatic 84, 3) := by decide +kernel
theorem d_Gb_cloth_19 : decode yGb_cloth.2.1 19 = .ok (.ifCond .eq 7, 3) := by decide +kernel
theorem d_Gb_cloth_22 : decode yGb_cloth.2.1 22 = .ok (.iconst 1, 1) := by decide +kernel
theorem d_Gb_cloth_23 : decode yGb_cloth.2.1 23 = .ok (.goto 4, 3) := by decide +kernel
theorem d_Gb_cloth_26 : decode yGb_cloth.2.1 26 = .ok (.iconst 0, 1) := by decide +kernel
theorem d_Gb_cloth_27 : decode yGb_cloth.2.1 27 = .ok (.istore_n 3, 1) := by decide +kernel
theorem d_Gb_cloth_28 : decode yGb_cloth.2.1 28 = .ok (.aload_n 0, 1) := by decide +kernel
theorem d_Gb_cloth_29 : decode yGb_cloth.2.1 29 = .ok (.getfield 12, 3) := by decide +kernel
theorem d_Gb_cloth_32 : decode yGb_cloth.2.1 32 = .ok (.getfield 276, 3) := by decide +kernel
theorem d_Gb_cloth_35 : decode yGb_cloth.2.1 35 = .ok (.iload_n 1, 1) := by decide +kernel
theorem d_Gb_cloth_36 : decode yGb_cloth.2.1 36 = .ok (.iload_n 2, 1) := by decide +kernel
theorem d_Gb_cloth_37 : decode yGb_cloth.2.1 37 = .ok (.iload_n 3, 1) := by decide +kernel
theorem d_Gb_cloth_38 : decode yGb_cloth.2.1 38 = .ok (.invokestatic 217, 3) := by decide +kernel
theorem d_Gb_cloth_41 : decode yGb_cloth.2.1 41 = .ok (.ireturn, 1) := by decide +kernel
def J_Gb_cloth_27 (x1 x2 s0 : Int32) (I : gb_Mem) : Option (Int32 × gb_Mem) :=
  fbd (F_Gb_tell 29 36 x1 x2 s0 I) fun (r2, I1) =>
  some (r2, I1)
set_option maxRecDepth 4000 in
theorem j_Gb_cloth_27 (l : Launch) (d0 : Nat) (x1 x2 s0 : Int32) (I : gb_Mem) {rz : Int32} {Iz : gb_Mem} (h : J_Gb_cloth_27 x1 x2 s0 I = some (rz, Iz)) : gb_Go l yGb_cloth (d0 + 2) 0 0 27 [(0, .inr (some 0)), (1, .inl x1), (2, .inl x2)] [.inl s0] shX I (gb_po shX (some (.inl rz)) Iz) := by
  unfold J_Gb_cloth_27 at h
  refine go_istore_n (lv' := [(3, .inl s0), (0, .inr (some 0)), (1, .inl x1), (2, .inl x2)]) d_Gb_cloth_27 rfl (by decide) rfl ?_
  refine go_aload_n (k := 1) d_Gb_cloth_28 rfl rfl ?_
  refine go_getr (ci := 0) (k := 0) (r := 1) d_Gb_cloth_29 a_X_0 rfl (by decide) f_Gb_12 rfl ?_
  refine go_getrN (ci := 1) (k := 11) (r := 29) d_Gb_cloth_32 a_X_1 rfl (by decide) f_Gb_276 rfl ?_
  refine go_iload_n (k := 2) d_Gb_cloth_35 rfl rfl ?_
  refine go_iload_n (k := 3) d_Gb_cloth_36 rfl rfl ?_
  refine go_iload_n (k := 0) d_Gb_cloth_37 rfl rfl ?_
  obtain ⟨⟨r2, I1⟩, w1, h⟩ := fbd_e h
  try dsimp only at h
  refine go_callS (y := yGb_tell) (asr := [.inr (some 29), .inl x1, .inl x2, .inl s0]) (v := some (.inl r2)) (I' := I1) (st1 := [.inl r2]) d_Gb_cloth_38 s_yGb_tell m_Gb_217 rfl (Nat.le_of_ble_eq_true rfl) rfl rfl (c_Gb_tell l (d0 + 0) 29 36 isRo_29 x1 x2 s0 I w1) ?_
  cases h
  exact go_ireturn d_Gb_cloth_41 rfl gb_po_i
def J_Gb_cloth_26 (x1 x2 : Int32) (I : gb_Mem) : Option (Int32 × gb_Mem) :=
  J_Gb_cloth_27 x1 x2 0 I
set_option maxRecDepth 4000 in
theorem j_Gb_cloth_26 (l : Launch) (d0 : Nat) (x1 x2 : Int32) (I : gb_Mem) {rz : Int32} {Iz : gb_Mem} (h : J_Gb_cloth_26 x1 x2 I = some (rz, Iz)) : gb_Go l yGb_cloth (d0 + 2) 0 0 26 [(0, .inr (some 0)), (1, .inl x1), (2, .inl x2)] [] shX I (gb_po shX (some (.inl rz)) Iz) := by
  unfold J_Gb_cloth_26 at h
  refine go_iconst (v := 0) d_Gb_cloth_26 (by decide) ?_
  exact go_lv [0, 1, 2] rfl (j_Gb_cloth_27 l d0 x1 x2 0 I h)
def F_Gb_cloth (x1 x2 : Int32) (I : gb_Mem) : Option (Int32 × gb_Mem) :=
  if (F_Gb_within x1 0 99 I) = 0 then
    J_Gb_cloth_26 x1 x2 I
  else
    if (F_Gb_within x2 (x1 + 1) 100 I) = 0 then
      J_Gb_cloth_26 x1 x2 I
    else
      J_Gb_cloth_27 x1 x2 1 I
set_option maxRecDepth 4000 in
theorem c_Gb_cloth (l : Launch) (d0 : Nat) (x1 x2 : Int32) (I : gb_Mem) {rz : Int32} {Iz : gb_Mem} (h : F_Gb_cloth x1 x2 I = some (rz, Iz)) : gb_Cs l yGb_cloth (d0 + 2) [.inr (some 0), .inl x1, .inl x2] shX I (some (.inl rz)) Iz := by
  refine gb_Ct.of (lv := [(0, .inr (some 0)), (1, .inl x1), (2, .inl x2)]) rfl (Nat.le_of_ble_eq_true rfl) rfl ?_
  unfold F_Gb_cloth at h
  show gb_Go l yGb_cloth (d0 + 2) 0 0 0 [(0, .inr (some 0)), (1, .inl x1), (2, .inl x2)] [] shX I (gb_po shX (some (.inl rz)) Iz)
  refine go_iload_n (k := 1) d_Gb_cloth_0 rfl rfl ?_
  refine go_iconst (v := 0) d_Gb_cloth_1 (by decide) ?_
  refine go_bipush (v := 99) d_Gb_cloth_2 (by decide) ?_
  refine go_callS (y := yGb_within) (asr := [.inl x1, .inl 0, .inl 99]) (v := some (.inl (F_Gb_within x1 0 99 I))) (I' := I) (st1 := [.inl (F_Gb_within x1 0 99 I)]) d_Gb_cloth_4 s_yGb_within m_Gb_84 rfl (Nat.le_of_ble_eq_true rfl) rfl rfl (c_Gb_within l (d0 + 1) x1 0 99 I) ?_
  refine go_if_eq (tgt := 26) d_Gb_cloth_7 (by decide) (fun hc => ?_) (fun hc => ?_)
  · rw [if_pos hc] at h
    exact go_lv [0, 1, 2] rfl (j_Gb_cloth_26 l d0 x1 x2 I h)
  · rw [if_neg hc] at h
    refine go_iload_n (k := 2) d_Gb_cloth_10 rfl rfl ?_
    refine go_iload_n (k := 1) d_Gb_cloth_11 rfl rfl ?_
    refine go_iconst (v := 1) d_Gb_cloth_12 (by decide) ?_
    refine go_iadd d_Gb_cloth_13 ?_
    refine go_bipush (v := 100) d_Gb_cloth_14 (by decide) ?_
    refine go_callS (y := yGb_within) (asr := [.inl x2, .inl (x1 + 1), .inl 100]) (v := some (.inl (F_Gb_within x2 (x1 + 1) 100 I))) (I' := I) (st1 := [.inl (F_Gb_within x2 (x1 + 1) 100 I)]) d_Gb_cloth_16 s_yGb_within m_Gb_84 rfl (Nat.le_of_ble_eq_true rfl) rfl rfl (c_Gb_within l (d0 + 1) x2 (x1 + 1) 100 I) ?_
    refine go_if_eq (tgt := 26) d_Gb_cloth_19 (by decide) (fun hc => ?_) (fun hc => ?_)
    · rw [if_pos hc] at h
      exact go_lv [0, 1, 2] rfl (j_Gb_cloth_26 l d0 x1 x2 I h)
    · rw [if_neg hc] at h
      refine go_iconst (v := 1) d_Gb_cloth_22 (by decide) ?_
      refine go_goto (tgt := 27) d_Gb_cloth_23 (by decide) ?_
      exact go_lv [0, 1, 2] rfl (j_Gb_cloth_27 l d0 x1 x2 1 I h)
theorem d_Gb_flag_0 : decode yGb_flag.2.1 0 = .ok (.aload_n 0, 1) := by decide +kernel
theorem d_Gb_flag_1 : decode yGb_flag.2.1 1 = .ok (.getfield 12, 3) := by decide +kernel
theorem d_Gb_flag_4 : decode yGb_flag.2.1 4 = .ok (.getfield 250, 3) := by decide +kernel
theorem d_Gb_flag_7 : decode yGb_flag.2.1 7 = .ok (.iload_n 1, 1) := by decide +kernel
theorem d_Gb_flag_8 : decode yGb_flag.2.1 8 = .ok (.iconst 0, 1) := by decide +kernel
theorem d_Gb_flag_9 : decode yGb_flag.2.1 9 = .ok (.iload_n 1, 1) := by decide +kernel
theorem d_Gb_flag_10 : decode yGb_flag.2.1 10 = .ok (.iconst 0, 1) := by decide +kernel
theorem d_Gb_flag_11 : decode yGb_flag.2.1 11 = .ok (.sipush 4095, 3) := by decide +kernel
theorem d_Gb_flag_14 : decode yGb_flag.2.1 14 = .ok (.invokestatic 84, 3) := by decide +kernel
theorem d_Gb_flag_17 : decode yGb_flag.2.1 17 = .ok (.invokestatic 217, 3) := by decide +kernel
theorem d_Gb_flag_20 : decode yGb_flag.2.1 20 = .ok (.ireturn, 1) := by decide +kernel
def F_Gb_flag (x1 : Int32) (I : gb_Mem) : Option (Int32 × gb_Mem) :=
  fbd (F_Gb_tell 25 40 x1 0 (F_Gb_within x1 0 4095 I) I) fun (r2, I1) =>
  some (r2, I1)
set_option maxRecDepth 4000 in
theorem c_Gb_flag (l : Launch) (d0 : Nat) (x1 : Int32) (I : gb_Mem) {rz : Int32} {Iz : gb_Mem} (h : F_Gb_flag x1 I = some (rz, Iz)) : gb_Cs l yGb_flag (d0 + 2) [.inr (some 0), .inl x1] shX I (some (.inl rz)) Iz := by
  refine gb_Ct.of (lv := [(0, .inr (some 0)), (1, .inl x1)]) rfl (Nat.le_of_ble_eq_true rfl) rfl ?_
  unfold F_Gb_flag at h
  show gb_Go l yGb_flag (d0 + 2) 0 0 0 [(0, .inr (some 0)), (1, .inl x1)] [] shX I (gb_po shX (some (.inl rz)) Iz)
  refine go_aload_n (k := 0) d_Gb_flag_0 rfl rfl ?_
  refine go_getr (ci := 0) (k := 0) (r := 1) d_Gb_flag_1 a_X_0 rfl (by decide) f_Gb_12 rfl ?_
  refine go_getrN (ci := 1) (k := 9) (r := 25) d_Gb_flag_4 a_X_1 rfl (by decide) f_Gb_250 rfl ?_
  refine go_iload_n (k := 1) d_Gb_flag_7 rfl rfl ?_
  refine go_iconst (v := 0) d_Gb_flag_8 (by decide) ?_
  refine go_iload_n (k := 1) d_Gb_flag_9 rfl rfl ?_
  refine go_iconst (v := 0) d_Gb_flag_10 (by decide) ?_
  refine go_sipush (v := 4095) d_Gb_flag_11 (by decide) ?_
  refine go_callS (y := yGb_within) (asr := [.inl x1, .inl 0, .inl 4095]) (v := some (.inl (F_Gb_within x1 0 4095 I))) (I' := I) (st1 := [.inl (F_Gb_within x1 0 4095 I), .inl 0, .inl x1, .inr (some 25)]) d_Gb_flag_14 s_yGb_within m_Gb_84 rfl (Nat.le_of_ble_eq_true rfl) rfl rfl (c_Gb_within l (d0 + 1) x1 0 4095 I) ?_
  obtain ⟨⟨r2, I1⟩, w1, h⟩ := fbd_e h
  try dsimp only at h
  refine go_callS (y := yGb_tell) (asr := [.inr (some 25), .inl x1, .inl 0, .inl (F_Gb_within x1 0 4095 I)]) (v := some (.inl r2)) (I' := I1) (st1 := [.inl r2]) d_Gb_flag_17 s_yGb_tell m_Gb_217 rfl (Nat.le_of_ble_eq_true rfl) rfl rfl (c_Gb_tell l (d0 + 0) 25 40 isRo_25 x1 0 (F_Gb_within x1 0 4095 I) I w1) ?_
  cases h
  exact go_ireturn d_Gb_flag_20 rfl gb_po_i
theorem d_Gb_gives_0 : decode yGb_gives.2.1 0 = .ok (.iload_n 1, 1) := by decide +kernel
theorem d_Gb_gives_1 : decode yGb_gives.2.1 1 = .ok (.iconst 0, 1) := by decide +kernel
theorem d_Gb_gives_2 : decode yGb_gives.2.1 2 = .ok (.bipush 7, 2) := by decide +kernel
theorem d_Gb_gives_4 : decode yGb_gives.2.1 4 = .ok (.invokestatic 84, 3) := by decide +kernel
theorem d_Gb_gives_7 : decode yGb_gives.2.1 7 = .ok (.ifCond .eq 22, 3) := by decide +kernel
theorem d_Gb_gives_10 : decode yGb_gives.2.1 10 = .ok (.iload_n 2, 1) := by decide +kernel
theorem d_Gb_gives_11 : decode yGb_gives.2.1 11 = .ok (.iconst 0, 1) := by decide +kernel
theorem d_Gb_gives_12 : decode yGb_gives.2.1 12 = .ok (.bipush 7, 2) := by decide +kernel
theorem d_Gb_gives_14 : decode yGb_gives.2.1 14 = .ok (.invokestatic 84, 3) := by decide +kernel
theorem d_Gb_gives_17 : decode yGb_gives.2.1 17 = .ok (.ifCond .eq 12, 3) := by decide +kernel
theorem d_Gb_gives_20 : decode yGb_gives.2.1 20 = .ok (.iload_n 1, 1) := by decide +kernel
theorem d_Gb_gives_21 : decode yGb_gives.2.1 21 = .ok (.iload_n 2, 1) := by decide +kernel
theorem d_Gb_gives_22 : decode yGb_gives.2.1 22 = .ok (.if_icmp .eq 7, 3) := by decide +kernel
theorem d_Gb_gives_25 : decode yGb_gives.2.1 25 = .ok (.iconst 1, 1) := by decide +kernel
theorem d_Gb_gives_26 : decode yGb_gives.2.1 26 = .ok (.goto 4, 3) := by decide +kernel
theorem d_Gb_gives_29 : decode yGb_gives.2.1 29 = .ok (.iconst 0, 1) := by decide +kernel
theorem d_Gb_gives_30 : decode yGb_gives.2.1 30 = .ok (.istore_n 3, 1) := by decide +kernel
theorem d_Gb_gives_31 : decode yGb_gives.2.1 31 = .ok (.aload_n 0, 1) := by decide +kernel
theorem d_Gb_gives_32 : decode yGb_gives.2.1 32 = .ok (.getfield 12, 3) := by decide +kernel
theorem d_Gb_gives_35 : decode yGb_gives.2.1 35 = .ok (.getfield 266, 3) := by decide +kernel
theorem d_Gb_gives_38 : decode yGb_gives.2.1 38 = .ok (.iload_n 1, 1) := by decide +kernel
theorem d_Gb_gives_39 : decode yGb_gives.2.1 39 = .ok (.iload_n 2, 1) := by decide +kernel
theorem d_Gb_gives_40 : decode yGb_gives.2.1 40 = .ok (.iload_n 3, 1) := by decide +kernel
theorem d_Gb_gives_41 : decode yGb_gives.2.1 41 = .ok (.invokestatic 217, 3) := by decide +kernel
theorem d_Gb_gives_44 : decode yGb_gives.2.1 44 = .ok (.ireturn, 1) := by decide +kernel
def J_Gb_gives_30 (x1 x2 s0 : Int32) (I : gb_Mem) : Option (Int32 × gb_Mem) :=
  fbd (F_Gb_tell 27 64 x1 x2 s0 I) fun (r2, I1) =>
  some (r2, I1)
set_option maxRecDepth 4000 in
theorem j_Gb_gives_30 (l : Launch) (d0 : Nat) (x1 x2 s0 : Int32) (I : gb_Mem) {rz : Int32} {Iz : gb_Mem} (h : J_Gb_gives_30 x1 x2 s0 I = some (rz, Iz)) : gb_Go l yGb_gives (d0 + 2) 0 0 30 [(0, .inr (some 0)), (1, .inl x1), (2, .inl x2)] [.inl s0] shX I (gb_po shX (some (.inl rz)) Iz) := by
  unfold J_Gb_gives_30 at h
  refine go_istore_n (lv' := [(3, .inl s0), (0, .inr (some 0)), (1, .inl x1), (2, .inl x2)]) d_Gb_gives_30 rfl (by decide) rfl ?_
  refine go_aload_n (k := 1) d_Gb_gives_31 rfl rfl ?_
  refine go_getr (ci := 0) (k := 0) (r := 1) d_Gb_gives_32 a_X_0 rfl (by decide) f_Gb_12 rfl ?_
  refine go_getrN (ci := 1) (k := 10) (r := 27) d_Gb_gives_35 a_X_1 rfl (by decide) f_Gb_266 rfl ?_
  refine go_iload_n (k := 2) d_Gb_gives_38 rfl rfl ?_
  refine go_iload_n (k := 3) d_Gb_gives_39 rfl rfl ?_
  refine go_iload_n (k := 0) d_Gb_gives_40 rfl rfl ?_
  obtain ⟨⟨r2, I1⟩, w1, h⟩ := fbd_e h
  try dsimp only at h
  refine go_callS (y := yGb_tell) (asr := [.inr (some 27), .inl x1, .inl x2, .inl s0]) (v := some (.inl r2)) (I' := I1) (st1 := [.inl r2]) d_Gb_gives_41 s_yGb_tell m_Gb_217 rfl (Nat.le_of_ble_eq_true rfl) rfl rfl (c_Gb_tell l (d0 + 0) 27 64 isRo_27 x1 x2 s0 I w1) ?_
  cases h
  exact go_ireturn d_Gb_gives_44 rfl gb_po_i
def J_Gb_gives_29 (x1 x2 : Int32) (I : gb_Mem) : Option (Int32 × gb_Mem) :=
  J_Gb_gives_30 x1 x2 0 I
set_option maxRecDepth 4000 in
theorem j_Gb_gives_29 (l : Launch) (d0 : Nat) (x1 x2 : Int32) (I : gb_Mem) {rz : Int32} {Iz : gb_Mem} (h : J_Gb_gives_29 x1 x2 I = some (rz, Iz)) : gb_Go l yGb_gives (d0 + 2) 0 0 29 [(0, .inr (some 0)), (1, .inl x1), (2, .inl x2)] [] shX I (gb_po shX (some (.inl rz)) Iz) := by
  unfold J_Gb_gives_29 at h
  refine go_iconst (v := 0) d_Gb_gives_29 (by decide) ?_
  exact go_lv [0, 1, 2] rfl (j_Gb_gives_30 l d0 x1 x2 0 I h)
def F_Gb_gives (x1 x2 : Int32) (I : gb_Mem) : Option (Int32 × gb_Mem) :=
  if (F_Gb_within x1 0 7 I) = 0 then
    J_Gb_gives_29 x1 x2 I
  else
    if (F_Gb_within x2 0 7 I) = 0 then
      J_Gb_gives_29 x1 x2 I
    else
      if x1 = x2 then
        J_Gb_gives_29 x1 x2 I
      else
        J_Gb_gives_30 x1 x2 1 I
set_option maxRecDepth 4000 in
theorem c_Gb_gives (l : Launch) (d0 : Nat) (x1 x2 : Int32) (I : gb_Mem) {rz : Int32} {Iz : gb_Mem} (h : F_Gb_gives x1 x2 I = some (rz, Iz)) : gb_Cs l yGb_gives (d0 + 2) [.inr (some 0), .inl x1, .inl x2] shX I (some (.inl rz)) Iz := by
  refine gb_Ct.of (lv := [(0, .inr (some 0)), (1, .inl x1), (2, .inl x2)]) rfl (Nat.le_of_ble_eq_true rfl) rfl ?_
  unfold F_Gb_gives at h
  show gb_Go l yGb_gives (d0 + 2) 0 0 0 [(0, .inr (some 0)), (1, .inl x1), (2, .inl x2)] [] shX I (gb_po shX (some (.inl rz)) Iz)
  refine go_iload_n (k := 1) d_Gb_gives_0 rfl rfl ?_
  refine go_iconst (v := 0) d_Gb_gives_1 (by decide) ?_
  refine go_bipush (v := 7) d_Gb_gives_2 (by decide) ?_
  refine go_callS (y := yGb_within) (asr := [.inl x1, .inl 0, .inl 7]) (v := some (.inl (F_Gb_within x1 0 7 I))) (I' := I) (st1 := [.inl (F_Gb_within x1 0 7 I)]) d_Gb_gives_4 s_yGb_within m_Gb_84 rfl (Nat.le_of_ble_eq_true rfl) rfl rfl (c_Gb_within l (d0 + 1) x1 0 7 I) ?_
  refine go_if_eq (tgt := 29) d_Gb_gives_7 (by decide) (fun hc => ?_) (fun hc => ?_)
  · rw [if_pos hc] at h
    exact go_lv [0, 1, 2] rfl (j_Gb_gives_29 l d0 x1 x2 I h)
  · rw [if_neg hc] at h
    refine go_iload_n (k := 2) d_Gb_gives_10 rfl rfl ?_
    refine go_iconst (v := 0) d_Gb_gives_11 (by decide) ?_
    refine go_bipush (v := 7) d_Gb_gives_12 (by decide) ?_
    refine go_callS (y := yGb_within) (asr := [.inl x2, .inl 0, .inl 7]) (v := some (.inl (F_Gb_within x2 0 7 I))) (I' := I) (st1 := [.inl (F_Gb_within x2 0 7 I)]) d_Gb_gives_14 s_yGb_within m_Gb_84 rfl (Nat.le_of_ble_eq_true rfl) rfl rfl (c_Gb_within l (d0 + 1) x2 0 7 I) ?_
    refine go_if_eq (tgt := 29) d_Gb_gives_17 (by decide) (fun hc => ?_) (fun hc => ?_)
    · rw [if_pos hc] at h
      exact go_lv [0, 1, 2] rfl (j_Gb_gives_29 l d0 x1 x2 I h)
    · rw [if_neg hc] at h
      refine go_iload_n (k := 1) d_Gb_gives_20 rfl rfl ?_
      refine go_iload_n (k := 2) d_Gb_gives_21 rfl rfl ?_
      refine go_cmp_eq (tgt := 29) d_Gb_gives_22 (by decide) (fun hc => ?_) (fun hc => ?_)
      · rw [if_pos hc] at h
        exact go_lv [0, 1, 2] rfl (j_Gb_gives_29 l d0 x1 x2 I h)
      · rw [if_neg hc] at h
        refine go_iconst (v := 1) d_Gb_gives_25 (by decide) ?_
        refine go_goto (tgt := 30) d_Gb_gives_26 (by decide) ?_
        exact go_lv [0, 1, 2] rfl (j_Gb_gives_30 l d0 x1 x2 1 I h)
theorem d_Gb_got_0 : decode yGb_got.2.1 0 = .ok (.iload_n 1, 1) := by decide +kernel
theorem d_Gb_got_1 : decode yGb_got.2.1 1 = .ok (.ifCond .eq 9, 3) := by decide +kernel
theorem d_Gb_got_4 : decode yGb_got.2.1 4 = .ok (.iload_n 1, 1) := by decide +kernel
theorem d_Gb_got_5 : decode yGb_got.2.1 5 = .ok (.bipush 11, 2) := by decide +kernel
theorem d_Gb_got_7 : decode yGb_got.2.1 7 = .ok (.if_icmp .ne 12, 3) := by decide +kernel
theorem d_Gb_got_10 : decode yGb_got.2.1 10 = .ok (.iload_n 2, 1) := by decide +kernel
theorem d_Gb_got_11 : decode yGb_got.2.1 11 = .ok (.iconst 0, 1) := by decide +kernel
theorem d_Gb_got_12 : decode yGb_got.2.1 12 = .ok (.iconst 4, 1) := by decide +kernel
theorem d_Gb_got_13 : decode yGb_got.2.1 13 = .ok (.invokestatic 84, 3) := by decide +kernel
theorem d_Gb_got_16 : decode yGb_got.2.1 16 = .ok (.ifCond .ne 5, 3) := by decide +kernel
theorem d_Gb_got_19 : decode yGb_got.2.1 19 = .ok (.iconst (-1), 1) := by decide +kernel
theorem d_Gb_got_20 : decode yGb_got.2.1 20 = .ok (.ireturn, 1) := by decide +kernel
theorem d_Gb_got_21 : decode yGb_got.2.1 21 = .ok (.aload_n 0, 1) := by decide +kernel
theorem d_Gb_got_22 : decode yGb_got.2.1 22 = .ok (.getfield 12, 3) := by decide +kernel
theorem d_Gb_got_25 : decode yGb_got.2.1 25 = .ok (.getfield 35, 3) := by decide +kernel
theorem d_Gb_got_28 : decode yGb_got.2.1 28 = .ok (.iload_n 1, 1) := by decide +kernel
theorem d_Gb_got_29 : decode yGb_got.2.1 29 = .ok (.iload_n 2, 1) := by decide +kernel
theorem d_Gb_got_30 : decode yGb_got.2.1 30 = .ok (.invokevirtual 182, 3) := by decide +kernel
theorem d_Gb_got_33 : decode yGb_got.2.1 33 = .ok (.ireturn, 1) := by decide +kernel
def J_Gb_got_10 (x1 x2 : Int32) (I : gb_Mem) : Option (Int32) :=
  if (F_Gb_within x2 0 4 I) = 0 then
    some (-1)
  else
    fbd (F_Ta_ofGot 2 x1 x2 I) fun r1 =>
    some r1
set_option maxRecDepth 4000 in
theorem j_Gb_got_10 (l : Launch) (d0 : Nat) (x1 x2 : Int32) (I : gb_Mem) {rz : Int32} (h : J_Gb_got_10 x1 x2 I = some rz) : gb_Go l yGb_got (d0 + 2) 0 0 10 [(0, .inr (some 0)), (1, .inl x1), (2, .inl x2)] [] shX I (gb_po shX (some (.inl rz)) I) := by
  unfold J_Gb_got_10 at h
  refine go_iload_n (k := 2) d_Gb_got_10 rfl rfl ?_
  refine go_iconst (v := 0) d_Gb_got_11 (by decide) ?_
  refine go_iconst (v := 4) d_Gb_got_12 (by decide) ?_
  refine go_callS (y := yGb_within) (asr := [.inl x2, .inl 0, .inl 4]) (v := some (.inl (F_Gb_within x2 0 4 I))) (I' := I) (st1 := [.inl (F_Gb_within x2 0 4 I)]) d_Gb_got_13 s_yGb_within m_Gb_84 rfl (Nat.le_of_ble_eq_true rfl) rfl rfl (c_Gb_within l (d0 + 1) x2 0 4 I) ?_
  refine go_if_ne (tgt := 21) d_Gb_got_16 (by decide) (fun hc => ?_) (fun hc => ?_)
  · rw [if_neg hc] at h
    refine go_aload_n (k := 0) d_Gb_got_21 rfl rfl ?_
    refine go_getr (ci := 0) (k := 0) (r := 1) d_Gb_got_22 a_X_0 rfl (by decide) f_Gb_12 rfl ?_
    refine go_getrN (ci := 1) (k := 0) (r := 2) d_Gb_got_25 a_X_1 rfl (by decide) f_Gb_35 rfl ?_
    refine go_iload_n (k := 1) d_Gb_got_28 rfl rfl ?_
    refine go_iload_n (k := 2) d_Gb_got_29 rfl rfl ?_
    obtain ⟨r1, w1, h⟩ := fbd_e h
    refine go_callV (y := yTa_ofGot) (asr := [.inl x1, .inl x2]) (v := some (.inl r1)) (I' := I) (st1 := [.inl r1]) d_Gb_got_30 s_yTa_ofGot m_Gb_182 a_X_2 rfl rfl rfl (Nat.le_of_ble_eq_true rfl) rfl rfl (c_Ta_ofGot l (d0 + 0) 2 isTa_2 x1 x2 I w1) ?_
    cases h
    exact go_ireturn d_Gb_got_33 rfl gb_po_i
  · rw [if_pos hc] at h
    refine go_iconst (v := (-1)) d_Gb_got_19 (by decide) ?_
    cases h
    exact go_ireturn d_Gb_got_20 rfl gb_po_i
def F_Gb_got (x1 x2 : Int32) (I : gb_Mem) : Option (Int32) :=
  if x1 = 0 then
    J_Gb_got_10 x1 x2 I
  else
    if x1 = 11 then
      J_Gb_got_10 x1 x2 I
    else
      some (-1)
set_option maxRecDepth 4000 in
theorem c_Gb_got (l : Launch) (d0 : Nat) (x1 x2 : Int32) (I : gb_Mem) {rz : Int32} (h : F_Gb_got x1 x2 I = some rz) : gb_Cs l yGb_got (d0 + 2) [.inr (some 0), .inl x1, .inl x2] shX I (some (.inl rz)) I := by
  refine gb_Ct.of (lv := [(0, .inr (some 0)), (1, .inl x1), (2, .inl x2)]) rfl (Nat.le_of_ble_eq_true rfl) rfl ?_
  unfold F_Gb_got at h
  show gb_Go l yGb_got (d0 + 2) 0 0 0 [(0, .inr (some 0)), (1, .inl x1), (2, .inl x2)] [] shX I (gb_po shX (some (.inl rz)) I)
  refine go_iload_n (k := 1) d_Gb_got_0 rfl rfl ?_
  refine go_if_eq (tgt := 10) d_Gb_got_1 (by decide) (fun hc => ?_) (fun hc => ?_)
  · rw [if_pos hc] at h
    exact go_lv [0, 1, 2] rfl (j_Gb_got_10 l d0 x1 x2 I h)
  · rw [if_neg hc] at h
    refine go_iload_n (k := 1) d_Gb_got_4 rfl rfl ?_
    refine go_bipush (v := 11) d_Gb_got_5 (by decide) ?_
    refine go_cmp_ne (tgt := 19) d_Gb_got_7 (by decide) (fun hc => ?_) (fun hc => ?_)
    · rw [if_neg hc] at h
      refine go_iconst (v := (-1)) d_Gb_got_19 (by decide) ?_
      cases h
      exact go_ireturn d_Gb_got_20 rfl gb_po_i
    · rw [if_pos hc] at h
      exact go_lv [0, 1, 2] rfl (j_Gb_got_10 l d0 x1 x2 I h)
theorem d_Gb_jar_0 : decode yGb_jar.2.1 0 = .ok (.aload_n 0, 1) := by decide +kernel
theorem d_Gb_jar_1 : decode yGb_jar.2.1 1 = .ok (.getfield 12, 3) := by decide +kernel
theorem d_Gb_jar_4 : decode yGb_jar.2.1 4 = .ok (.getfield 291, 3) := by decide +kernel
theorem d_Gb_jar_7 : decode yGb_jar.2.1 7 = .ok (.iload_n 1, 1) := by decide +kernel
theorem d_Gb_jar_8 : decode yGb_jar.2.1 8 = .ok (.iload_n 2, 1) := by decide +kernel
theorem d_Gb_jar_9 : decode yGb_jar.2.1 9 = .ok (.iload_n 1, 1) := by decide +kernel
theorem d_Gb_jar_10 : decode yGb_jar.2.1 10 = .ok (.iconst 1, 1) := by decide +kernel
theorem d_Gb_jar_11 : decode yGb_jar.2.1 11 = .ok (.bipush 30, 2) := by decide +kernel
theorem d_Gb_jar_13 : decode yGb_jar.2.1 13 = .ok (.invokestatic 84, 3) := by decide +kernel
theorem d_Gb_jar_16 : decode yGb_jar.2.1 16 = .ok (.ifCond .eq 17, 3) := by decide +kernel
theorem d_Gb_jar_19 : decode yGb_jar.2.1 19 = .ok (.iload_n 2, 1) := by decide +kernel
theorem d_Gb_jar_20 : decode yGb_jar.2.1 20 = .ok (.iconst 0, 1) := by decide +kernel
theorem d_Gb_jar_21 : decode yGb_jar.2.1 21 = .ok (.bipush 99, 2) := by decide +kernel
theorem d_Gb_jar_23 : decode yGb_jar.2.1 23 = .ok (.invokestatic 84, 3) := by decide +kernel
theorem d_Gb_jar_26 : decode yGb_jar.2.1 26 = .ok (.ifCond .eq 7, 3) := by decide +kernel
theorem d_Gb_jar_29 : decode yGb_jar.2.1 29 = .ok (.iconst 1, 1) := by decide +kernel
theorem d_Gb_jar_30 : decode yGb_jar.2.1 30 = .ok (.goto 4, 3) := by decide +kernel
theorem d_Gb_jar_33 : decode yGb_jar.2.1 33 = .ok (.iconst 0, 1) := by decide +kernel
theorem d_Gb_jar_34 : decode yGb_jar.2.1 34 = .ok (.invokestatic 217, 3) := by decide +kernel
theorem d_Gb_jar_37 : decode yGb_jar.2.1 37 = .ok (.ireturn, 1) := by decide +kernel
def J_Gb_jar_34 (s0 s1 s2 : Int32) (I : gb_Mem) : Option (Int32 × gb_Mem) :=
  fbd (F_Gb_tell 33 36 s2 s1 s0 I) fun (r2, I1) =>
  some (r2, I1)
set_option maxRecDepth 4000 in
theorem j_Gb_jar_34 (l : Launch) (d0 : Nat) (s0 s1 s2 : Int32) (I : gb_Mem) {rz : Int32} {Iz : gb_Mem} (h : J_Gb_jar_34 s0 s1 s2 I = some (rz, Iz)) : gb_Go l yGb_jar (d0 + 2) 0 0 34 [] [.inl s0, .inl s1, .inl s2, .inr (some 33)] shX I (gb_po shX (some (.inl rz)) Iz) := by
  unfold J_Gb_jar_34 at h
  obtain ⟨⟨r2, I1⟩, w1, h⟩ := fbd_e h
  try dsimp only at h
  refine go_callS (y := yGb_tell) (asr := [.inr (some 33), .inl s2, .inl s1, .inl s0]) (v := some (.inl r2)) (I' := I1) (st1 := [.inl r2]) d_Gb_jar_34 s_yGb_tell m_Gb_217 rfl (Nat.le_of_ble_eq_true rfl) rfl rfl (c_Gb_tell l (d0 + 0) 33 36 isRo_33 s2 s1 s0 I w1) ?_
  cases h
  exact go_ireturn d_Gb_jar_37 rfl gb_po_i
def J_Gb_jar_33 (s0 s1 : Int32) (I : gb_Mem) : Option (Int32 × gb_Mem) :=
  J_Gb_jar_34 0 s0 s1 I
set_option maxRecDepth 4000 in
theorem j_Gb_jar_33 (l : Launch) (d0 : Nat) (s0 s1 : Int32) (I : gb_Mem) {rz : Int32} {Iz : gb_Mem} (h : J_Gb_jar_33 s0 s1 I = some (rz, Iz)) : gb_Go l yGb_jar (d0 + 2) 0 0 33 [] [.inl s0, .inl s1, .inr (some 33)] shX I (gb_po shX (some (.inl rz)) Iz) := by
  unfold J_Gb_jar_33 at h
  refine go_iconst (v := 0) d_Gb_jar_33 (by decide) ?_
  exact go_lv [] rfl (j_Gb_jar_34 l d0 0 s0 s1 I h)
def F_Gb_jar (x1 x2 : Int32) (I : gb_Mem) : Option (Int32 × gb_Mem) :=
  if (F_Gb_within x1 1 30 I) = 0 then
    J_Gb_jar_33 x2 x1 I
  else
    if (F_Gb_within x2 0 99 I) = 0 then
      J_Gb_jar_33 x2 x1 I
    else
      J_Gb_jar_34 1 x2 x1 I
set_option maxRecDepth 4000 in
theorem c_Gb_jar (l : Launch) (d0 : Nat) (x1 x2 : Int32) (I : gb_Mem) {rz : Int32} {Iz : gb_Mem} (h : F_Gb_jar x1 x2 I = some (rz, Iz)) : gb_Cs l yGb_jar (d0 + 2) [.inr (some 0), .inl x1, .inl x2] shX I (some (.inl rz)) Iz := by
  refine gb_Ct.of (lv := [(0, .inr (some 0)), (1, .inl x1), (2, .inl x2)]) rfl (Nat.le_of_ble_eq_true rfl) rfl ?_
  unfold F_Gb_jar at h
  show gb_Go l yGb_jar (d0 + 2) 0 0 0 [(0, .inr (some 0)), (1, .inl x1), (2, .inl x2)] [] shX I (gb_po shX (some (.inl rz)) Iz)
  refine go_aload_n (k := 0) d_Gb_jar_0 rfl rfl ?_
  refine go_getr (ci := 0) (k := 0) (r := 1) d_Gb_jar_1 a_X_0 rfl (by decide) f_Gb_12 rfl ?_
  refine go_getrN (ci := 1) (k := 13) (r := 33) d_Gb_jar_4 a_X_1 rfl (by decide) f_Gb_291 rfl ?_
  refine go_iload_n (k := 1) d_Gb_jar_7 rfl rfl ?_
  refine go_iload_n (k := 2) d_Gb_jar_8 rfl rfl ?_
  refine go_iload_n (k := 1) d_Gb_jar_9 rfl rfl ?_
  refine go_iconst (v := 1) d_Gb_jar_10 (by decide) ?_
  refine go_bipush (v := 30) d_Gb_jar_11 (by decide) ?_
  refine go_callS (y := yGb_within) (asr := [.inl x1, .inl 1, .inl 30]) (v := some (.inl (F_Gb_within x1 1 30 I))) (I' := I) (st1 := [.inl (F_Gb_within x1 1 30 I), .inl x2, .inl x1, .inr (some 33)]) d_Gb_jar_13 s_yGb_within m_Gb_84 rfl (Nat.le_of_ble_eq_true rfl) rfl rfl (c_Gb_within l (d0 + 1) x1 1 30 I) ?_
  refine go_if_eq (tgt := 33) d_Gb_jar_16 (by decide) (fun hc => ?_) (fun hc => ?_)
  · rw [if_pos hc] at h
    exact go_lv [] rfl (j_Gb_jar_33 l d0 x2 x1 I h)
  · rw [if_neg hc] at h
    refine go_iload_n (k := 2) d_Gb_jar_19 rfl rfl ?_
    refine go_iconst (v := 0) d_Gb_jar_20 (by decide) ?_
    refine go_bipush (v := 99) d_Gb_jar_21 (by decide) ?_
    refine go_callS (y := yGb_within) (asr := [.inl x2, .inl 0, .inl 99]) (v := some (.inl (F_Gb_within x2 0 99 I))) (I' := I) (st1 := [.inl (F_Gb_within x2 0 99 I), .inl x2, .inl x1, .inr (some 33)]) d_Gb_jar_23 s_yGb_within m_Gb_84 rfl (Nat.le_of_ble_eq_true rfl) rfl rfl (c_Gb_within l (d0 + 1) x2 0 99 I) ?_
    refine go_if_eq (tgt := 33) d_Gb_jar_26 (by decide) (fun hc => ?_) (fun hc => ?_)
    · rw [if_pos hc] at h
      exact go_lv [] rfl (j_Gb_jar_33 l d0 x2 x1 I h)
    · rw [if_neg hc] at h
      refine go_iconst (v := 1) d_Gb_jar_29 (by decide) ?_
      refine go_goto (tgt := 34) d_Gb_jar_30 (by decide) ?_
      exact go_lv [] rfl (j_Gb_jar_34 l d0 1 x2 x1 I h)
theorem d_Gb_letter_0 : decode yGb_letter.2.1 0 = .ok (.iload_n 1, 1) := by decide +kernel
theorem d_Gb_letter_1 : decode yGb_letter.2.1 1 = .ok (.iconst 0, 1) := by decide +kernel
theorem d_Gb_letter_2 : decode yGb_letter.2.1 2 = .ok (.iconst 1, 1) := by decide +kernel
theorem d_Gb_letter_3 : decode yGb_letter.2.1 3 = .ok (.invokestatic 84, 3) := by decide +kernel
theorem d_Gb_letter_6 : decode yGb_letter.2.1 6 = .ok (.ifCond .ne 5, 3) := by decide +kernel
theorem d_Gb_letter_9 : decode yGb_letter.2.1 9 = .ok (.iconst (-1), 1) := by decide +kernel
theorem d_Gb_letter_10 : decode yGb_letter.2.1 10 = .ok (.ireturn, 1) := by decide +kernel
theorem d_Gb_letter_11 : decode yGb_letter.2.1 11 = .ok (.iload_n 1, 1) := by decide +kernel
theorem d_Gb_letter_12 : decode yGb_letter.2.1 12 = .ok (.ifCond .ne 13, 3) := by decide +kernel
theorem d_Gb_letter_15 : decode yGb_letter.2.1 15 = .ok (.aload_n 0, 1) := by decide +kernel
theorem d_Gb_letter_16 : decode yGb_letter.2.1 16 = .ok (.getfield 12, 3) := by decide +kernel
theorem d_Gb_letter_19 : decode yGb_letter.2.1 19 = .ok (.getfield 211, 3) := by decide +kernel
theorem d_Gb_letter_22 : decode yGb_letter.2.1 22 = .ok (.goto 10, 3) := by decide +kernel
theorem d_Gb_letter_25 : decode yGb_letter.2.1 25 = .ok (.aload_n 0, 1) := by decide +kernel
theorem d_Gb_letter_26 : decode yGb_letter.2.1 26 = .ok (.getfield 12, 3) := by decide +kernel
theorem d_Gb_letter_29 : decode yGb_letter.2.1 29 = .ok (.getfield 214, 3) := by decide +kernel
theorem d_Gb_letter_32 : decode yGb_letter.2.1 32 = .ok (.iload_n 2, 1) := by decide +kernel
theorem d_Gb_letter_33 : decode yGb_letter.2.1 33 = .ok (.iconst 0, 1) := by decide +kernel
theorem d_Gb_letter_34 : decode yGb_letter.2.1 34 = .ok (.iload_n 2, 1) := by decide +kernel
theorem d_Gb_letter_35 : decode yGb_letter.2.1 35 = .ok (.iconst 0, 1) := by decide +kernel
theorem d_Gb_letter_36 : decode yGb_letter.2.1 36 = .ok (.bipush 9, 2) := by decide +kernel
theorem d_Gb_letter_38 : decode yGb_letter.2.1 38 = .ok (.invokestatic 84, 3) := by decide +kernel
theorem d_Gb_letter_41 : decode yGb_letter.2.1 41 = .ok (.invokestatic 217, 3) := by decide +kernel
theorem d_Gb_letter_44 : decode yGb_letter.2.1 44 = .ok (.ireturn, 1) := by decide +kernel
def J_Gb_letter_32 (x2 : Int32) (I : gb_Mem) : Option (Int32 × gb_Mem) :=
  fbd (F_Gb_tell 21 48 x2 0 (F_Gb_within x2 0 9 I) I) fun (r2, I1) =>
  some (r2, I1)
set_option maxRecDepth 4000 in
theorem j_Gb_letter_32 (l : Launch) (d0 : Nat) (x2 : Int32) (I : gb_Mem) {rz : Int32} {Iz : gb_Mem} (h : J_Gb_letter_32 x2 I = some (rz, Iz)) : gb_Go l yGb_letter (d0 + 2) 0 0 32 [(2, .inl x2)] [.inr (some 21)] shX I (gb_po shX (some (.inl rz)) Iz) := by
  unfold J_Gb_letter_32 at h
  refine go_iload_n (k := 0) d_Gb_letter_32 rfl rfl ?_
  refine go_iconst (v := 0) d_Gb_letter_33 (by decide) ?_
  refine go_iload_n (k := 0) d_Gb_letter_34 rfl rfl ?_
  refine go_iconst (v := 0) d_Gb_letter_35 (by decide) ?_
  refine go_bipush (v := 9) d_Gb_letter_36 (by decide) ?_
  refine go_callS (y := yGb_within) (asr := [.inl x2, .inl 0, .inl 9]) (v := some (.inl (F_Gb_within x2 0 9 I))) (I' := I) (st1 := [.inl (F_Gb_within x2 0 9 I), .inl 0, .inl x2, .inr (some 21)]) d_Gb_letter_38 s_yGb_within m_Gb_84 rfl (Nat.le_of_ble_eq_true rfl) rfl rfl (c_Gb_within l (d0 + 1) x2 0 9 I) ?_
  obtain ⟨⟨r2, I1⟩, w1, h⟩ := fbd_e h
  try dsimp only at h
  refine go_callS (y := yGb_tell) (asr := [.inr (some 21), .inl x2, .inl 0, .inl (F_Gb_within x2 0 9 I)]) (v := some (.inl r2)) (I' := I1) (st1 := [.inl r2]) d_Gb_letter_41 s_yGb_tell m_Gb_217 rfl (Nat.le_of_ble_eq_true rfl) rfl rfl (c_Gb_tell l (d0 + 0) 21 48 isRo_21 x2 0 (F_Gb_within x2 0 9 I) I w1) ?_
  cases h
  exact go_ireturn d_Gb_letter_44 rfl gb_po_i
def F_Gb_letter (x1 x2 : Int32) (I : gb_Mem) : Option (Int32 × gb_Mem) :=
  if (F_Gb_within x1 0 1 I) = 0 then
    some ((-1), I)
  else
    if x1 = 0 then
      fbd (F_Gb_tell 19 48 x2 0 (F_Gb_within x2 0 9 I) I) fun (r4, I3) =>
      some (r4, I3)
    else
      J_Gb_letter_32 x2 I
set_option maxRecDepth 4000 in
theorem c_Gb_letter (l : Launch) (d0 : Nat) (x1 x2 : Int32) (I : gb_Mem) {rz : Int32} {Iz : gb_Mem} (h : F_Gb_letter x1 x2 I = some (rz, Iz)) : gb_Cs l yGb_letter (d0 + 2) [.inr (some 0), .inl x1, .inl x2] shX I (some (.inl rz)) Iz := by
  refine gb_Ct.of (lv := [(0, .inr (some 0)), (1, .inl x1), (2, .inl x2)]) rfl (Nat.le_of_ble_eq_true rfl) rfl ?_
  unfold F_Gb_letter at h
  show gb_Go l yGb_letter (d0 + 2) 0 0 0 [(0, .inr (some 0)), (1, .inl x1), (2, .inl x2)] [] shX I (gb_po shX (some (.inl rz)) Iz)
  refine go_iload_n (k := 1) d_Gb_letter_0 rfl rfl ?_
  refine go_iconst (v := 0) d_Gb_letter_1 (by decide) ?_
  refine go_iconst (v := 1) d_Gb_letter_2 (by decide) ?_
  refine go_callS (y := yGb_within) (asr := [.inl x1, .inl 0, .inl 1]) (v := some (.inl (F_Gb_within x1 0 1 I))) (I' := I) (st1 := [.inl (F_Gb_within x1 0 1 I)]) d_Gb_letter_3 s_yGb_within m_Gb_84 rfl (Nat.le_of_ble_eq_true rfl) rfl rfl (c_Gb_within l (d0 + 1) x1 0 1 I) ?_
  refine go_if_ne (tgt := 11) d_Gb_letter_6 (by decide) (fun hc => ?_) (fun hc => ?_)
  · rw [if_neg hc] at h
    refine go_iload_n (k := 1) d_Gb_letter_11 rfl rfl ?_
    refine go_if_ne (tgt := 25) d_Gb_letter_12 (by decide) (fun hc => ?_) (fun hc => ?_)
    · rw [if_neg hc] at h
      refine go_aload_n (k := 0) d_Gb_letter_25 rfl rfl ?_
      refine go_getr (ci := 0) (k := 0) (r := 1) d_Gb_letter_26 a_X_0 rfl (by decide) f_Gb_12 rfl ?_
      refine go_getrN (ci := 1) (k := 7) (r := 21) d_Gb_letter_29 a_X_1 rfl (by decide) f_Gb_214 rfl ?_
      exact go_lv [2] rfl (j_Gb_letter_32 l d0 x2 I h)
    · rw [if_pos hc] at h
      refine go_aload_n (k := 0) d_Gb_letter_15 rfl rfl ?_
      refine go_getr (ci := 0) (k := 0) (r := 1) d_Gb_letter_16 a_X_0 rfl (by decide) f_Gb_12 rfl ?_
      refine go_getrN (ci := 1) (k := 6) (r := 19) d_Gb_letter_19 a_X_1 rfl (by decide) f_Gb_211 rfl ?_
      refine go_goto (tgt := 32) d_Gb_letter_22 (by decide) ?_
      refine go_iload_n (k := 2) d_Gb_letter_32 rfl rfl ?_
      refine go_iconst (v := 0) d_Gb_letter_33 (by decide) ?_
      refine go_iload_n (k := 2) d_Gb_letter_34 rfl rfl ?_
      refine go_iconst (v := 0) d_Gb_letter_35 (by decide) ?_
      refine go_bipush (v := 9) d_Gb_letter_36 (by decide) ?_
      refine go_callS (y := yGb_within) (asr := [.inl x2, .inl 0, .inl 9]) (v := some (.inl (F_Gb_within x2 0 9 I))) (I' := I) (st1 := [.inl (F_Gb_within x2 0 9 I), .inl 0, .inl x2, .inr (some 19)]) d_Gb_letter_38 s_yGb_within m_Gb_84 rfl (Nat.le_of_ble_eq_true rfl) rfl rfl (c_Gb_within l (d0 + 1) x2 0 9 I) ?_
      obtain ⟨⟨r4, I3⟩, w1, h⟩ := fbd_e h
      try dsimp only at h
      refine go_callS (y := yGb_tell) (asr := [.inr (some 19), .inl x2, .inl 0, .inl (F_Gb_within x2 0 9 I)]) (v := some (.inl r4)) (I' := I3) (st1 := [.inl r4]) d_Gb_letter_41 s_yGb_tell m_Gb_217 rfl (Nat.le_of_ble_eq_true rfl) rfl rfl (c_Gb_tell l (d0 + 0) 19 48 isRo_19 x2 0 (F_Gb_within x2 0 9 I) I w1) ?_
      cases h
      exact go_ireturn d_Gb_letter_44 rfl gb_po_i
  · rw [if_pos hc] at h
    refine go_iconst (v := (-1)) d_Gb_letter_9 (by decide) ?_
    cases h
    exact go_ireturn d_Gb_letter_10 rfl gb_po_i
theorem d_Gb_report_0 : decode yGb_report.2.1 0 = .ok (.aload_n 0, 1) := by decide +kernel
theorem d_Gb_report_1 : decode yGb_report.2.1 1 = .ok (.getfield 12, 3) := by decide +kernel
theorem d_Gb_report_4 : decode yGb_report.2.1 4 = .ok (.getfield 285, 3) := by decide +kernel
theorem d_Gb_report_7 : decode yGb_report.2.1 7 = .ok (.iload_n 1, 1) := by decide +kernel
theorem d_Gb_report_8 : decode yGb_report.2.1 8 = .ok (.iload_n 2, 1) := by decide +kernel
theorem d_Gb_report_9 : decode yGb_report.2.1 9 = .ok (.iload_n 1, 1) := by decide +kernel
theorem d_Gb_report_10 : decode yGb_report.2.1 10 = .ok (.iconst 0, 1) := by decide +kernel
theorem d_Gb_report_11 : decode yGb_report.2.1 11 = .ok (.bipush 99, 2) := by decide +kernel
theorem d_Gb_report_13 : decode yGb_report.2.1 13 = .ok (.invokestatic 84, 3) := by decide +kernel
theorem d_Gb_report_16 : decode yGb_report.2.1 16 = .ok (.ifCond .eq 17, 3) := by decide +kernel
theorem d_Gb_report_19 : decode yGb_report.2.1 19 = .ok (.iload_n 2, 1) := by decide +kernel
theorem d_Gb_report_20 : decode yGb_report.2.1 20 = .ok (.iload_n 1, 1) := by decide +kernel
theorem d_Gb_report_21 : decode yGb_report.2.1 21 = .ok (.bipush 99, 2) := by decide +kernel
theorem d_Gb_report_23 : decode yGb_report.2.1 23 = .ok (.invokestatic 84, 3) := by decide +kernel
theorem d_Gb_report_26 : decode yGb_report.2.1 26 = .ok (.ifCond .eq 7, 3) := by decide +kernel
theorem d_Gb_report_29 : decode yGb_report.2.1 29 = .ok (.iconst 1, 1) := by decide +kernel
theorem d_Gb_report_30 : decode yGb_report.2.1 30 = .ok (.goto 4, 3) := by decide +kernel
theorem d_Gb_report_33 : decode yGb_report.2.1 33 = .ok (.iconst 0, 1) := by decide +kernel
theorem d_Gb_report_34 : decode yGb_report.2.1 34 = .ok (.invokestatic 217, 3) := by decide +kernel
theorem d_Gb_report_37 : decode yGb_report.2.1 37 = .ok (.ireturn, 1) := by decide +kernel
def J_Gb_report_34 (s0 s1 s2 : Int32) (I : gb_Mem) : Option (Int32 × gb_Mem) :=
  fbd (F_Gb_tell 31 32 s2 s1 s0 I) fun (r2, I1) =>
  some (r2, I1)
set_option maxRecDepth 4000 in
theorem j_Gb_report_34 (l : Launch) (d0 : Nat) (s0 s1 s2 : Int32) (I : gb_Mem) {rz : Int32} {Iz : gb_Mem} (h : J_Gb_report_34 s0 s1 s2 I = some (rz, Iz)) : gb_Go l yGb_report (d0 + 2) 0 0 34 [] [.inl s0, .inl s1, .inl s2, .inr (some 31)] shX I (gb_po shX (some (.inl rz)) Iz) := by
  unfold J_Gb_report_34 at h
  obtain ⟨⟨r2, I1⟩, w1, h⟩ := fbd_e h
  try dsimp only at h
  refine go_callS (y := yGb_tell) (asr := [.inr (some 31), .inl s2, .inl s1, .inl s0]) (v := some (.inl r2)) (I' := I1) (st1 := [.inl r2]) d_Gb_report_34 s_yGb_tell m_Gb_217 rfl (Nat.le_of_ble_eq_true rfl) rfl rfl (c_Gb_tell l (d0 + 0) 31 32 isRo_31 s2 s1 s0 I w1) ?_
  cases h
  exact go_ireturn d_Gb_report_37 rfl gb_po_i
def J_Gb_report_33 (s0 s1 : Int32) (I : gb_Mem) : Option (Int32 × gb_Mem) :=
  J_Gb_report_34 0 s0 s1 I
set_option maxRecDepth 4000 in
theorem j_Gb_report_33 (l : Launch) (d0 : Nat) (s0 s1 : Int32) (I : gb_Mem) {rz : Int32} {Iz : gb_Mem} (h : J_Gb_report_33 s0 s1 I = some (rz, Iz)) : gb_Go l yGb_report (d0 + 2) 0 0 33 [] [.inl s0, .inl s1, .inr (some 31)] shX I (gb_po shX (some (.inl rz)) Iz) := by
  unfold J_Gb_report_33 at h
  refine go_iconst (v := 0) d_Gb_report_33 (by decide) ?_
  exact go_lv [] rfl (j_Gb_report_34 l d0 0 s0 s1 I h)
def F_Gb_report (x1 x2 : Int32) (I : gb_Mem) : Option (Int32 × gb_Mem) :=
  if (F_Gb_within x1 0 99 I) = 0 then
    J_Gb_report_33 x2 x1 I
  else
    if (F_Gb_within x2 x1 99 I) = 0 then
      J_Gb_report_33 x2 x1 I
    else
      J_Gb_report_34 1 x2 x1 I
set_option maxRecDepth 4000 in
theorem c_Gb_report (l : Launch) (d0 : Nat) (x1 x2 : Int32) (I : gb_Mem) {rz : Int32} {Iz : gb_Mem} (h : F_Gb_report x1 x2 I = some (rz, Iz)) : gb_Cs l yGb_report (d0 + 2) [.inr (some 0), .inl x1, .inl x2] shX I (some (.inl rz)) Iz := by
  refine gb_Ct.of (lv := [(0, .inr (some 0)), (1, .inl x1), (2, .inl x2)]) rfl (Nat.le_of_ble_eq_true rfl) rfl ?_
  unfold F_Gb_report at h
  show gb_Go l yGb_report (d0 + 2) 0 0 0 [(0, .inr (some 0)), (1, .inl x1), (2, .inl x2)] [] shX I (gb_po shX (some (.inl rz)) Iz)
  refine go_aload_n (k := 0) d_Gb_report_0 rfl rfl ?_
  refine go_getr (ci := 0) (k := 0) (r := 1) d_Gb_report_1 a_X_0 rfl (by decide) f_Gb_12 rfl ?_
  refine go_getrN (ci := 1) (k := 12) (r := 31) d_Gb_report_4 a_X_1 rfl (by decide) f_Gb_285 rfl ?_
  refine go_iload_n (k := 1) d_Gb_report_7 rfl rfl ?_
  refine go_iload_n (k := 2) d_Gb_report_8 rfl rfl ?_
  refine go_iload_n (k := 1) d_Gb_report_9 rfl rfl ?_
  refine go_iconst (v := 0) d_Gb_report_10 (by decide) ?_
  refine go_bipush (v := 99) d_Gb_report_11 (by decide) ?_
  refine go_callS (y := yGb_within) (asr := [.inl x1, .inl 0, .inl 99]) (v := some (.inl (F_Gb_within x1 0 99 I))) (I' := I) (st1 := [.inl (F_Gb_within x1 0 99 I), .inl x2, .inl x1, .inr (some 31)]) d_Gb_report_13 s_yGb_within m_Gb_84 rfl (Nat.le_of_ble_eq_true rfl) rfl rfl (c_Gb_within l (d0 + 1) x1 0 99 I) ?_
  refine go_if_eq (tgt := 33) d_Gb_report_16 (by decide) (fun hc => ?_) (fun hc => ?_)
  · rw [if_pos hc] at h
    exact go_lv [] rfl (j_Gb_report_33 l d0 x2 x1 I h)
  · rw [if_neg hc] at h
    refine go_iload_n (k := 2) d_Gb_report_19 rfl rfl ?_
    refine go_iload_n (k := 1) d_Gb_report_20 rfl rfl ?_
    refine go_bipush (v := 99) d_Gb_report_21 (by decide) ?_
    refine go_callS (y := yGb_within) (asr := [.inl x2, .inl x1, .inl 99]) (v := some (.inl (F_Gb_within x2 x1 99 I))) (I' := I) (st1 := [.inl (F_Gb_within x2 x1 99 I), .inl x2, .inl x1, .inr (some 31)]) d_Gb_report_23 s_yGb_within m_Gb_84 rfl (Nat.le_of_ble_eq_true rfl) rfl rfl (c_Gb_within l (d0 + 1) x2 x1 99 I) ?_
    refine go_if_eq (tgt := 33) d_Gb_report_26 (by decide) (fun hc => ?_) (fun hc => ?_)
    · rw [if_pos hc] at h
      exact go_lv [] rfl (j_Gb_report_33 l d0 x2 x1 I h)
    · rw [if_neg hc] at h
      refine go_iconst (v := 1) d_Gb_report_29 (by decide) ?_
      refine go_goto (tgt := 34) d_Gb_report_30 (by decide) ?_
      exact go_lv [] rfl (j_Gb_report_34 l d0 1 x2 x1 I h)
