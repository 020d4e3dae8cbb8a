theorem d_Mo_treaty_0 : decode yMo_treaty.2.1 0 = .ok (.aload_n 0, 1) := by decide +kernel
theorem d_Mo_treaty_1 : decode yMo_treaty.2.1 1 = .ok (.iconst 0, 1) := by decide +kernel
theorem d_Mo_treaty_2 : decode yMo_treaty.2.1 2 = .ok (.putfield 137, 3) := by decide +kernel
theorem d_Mo_treaty_5 : decode yMo_treaty.2.1 5 = .ok (.aload_n 0, 1) := by decide +kernel
theorem d_Mo_treaty_6 : decode yMo_treaty.2.1 6 = .ok (.iload_n 1, 1) := by decide +kernel
theorem d_Mo_treaty_7 : decode yMo_treaty.2.1 7 = .ok (.iconst 1, 1) := by decide +kernel
theorem d_Mo_treaty_8 : decode yMo_treaty.2.1 8 = .ok (.bipush 40, 2) := by decide +kernel
theorem d_Mo_treaty_10 : decode yMo_treaty.2.1 10 = .ok (.invokevirtual 157, 3) := by decide +kernel
theorem d_Mo_treaty_13 : decode yMo_treaty.2.1 13 = .ok (.ifCond .eq 24, 3) := by decide +kernel
theorem d_Mo_treaty_16 : decode yMo_treaty.2.1 16 = .ok (.aload_n 0, 1) := by decide +kernel
theorem d_Mo_treaty_17 : decode yMo_treaty.2.1 17 = .ok (.iload_n 2, 1) := by decide +kernel
theorem d_Mo_treaty_18 : decode yMo_treaty.2.1 18 = .ok (.iconst 1, 1) := by decide +kernel
theorem d_Mo_treaty_19 : decode yMo_treaty.2.1 19 = .ok (.bipush 9, 2) := by decide +kernel
theorem d_Mo_treaty_21 : decode yMo_treaty.2.1 21 = .ok (.invokevirtual 157, 3) := by decide +kernel
theorem d_Mo_treaty_24 : decode yMo_treaty.2.1 24 = .ok (.ifCond .eq 13, 3) := by decide +kernel
theorem d_Mo_treaty_27 : decode yMo_treaty.2.1 27 = .ok (.aload_n 0, 1) := by decide +kernel
theorem d_Mo_treaty_28 : decode yMo_treaty.2.1 28 = .ok (.iload_n 3, 1) := by decide +kernel
theorem d_Mo_treaty_29 : decode yMo_treaty.2.1 29 = .ok (.iconst 0, 1) := by decide +kernel
theorem d_Mo_treaty_30 : decode yMo_treaty.2.1 30 = .ok (.iconst 1, 1) := by decide +kernel
theorem d_Mo_treaty_31 : decode yMo_treaty.2.1 31 = .ok (.invokevirtual 157, 3) := by decide +kernel
theorem d_Mo_treaty_34 : decode yMo_treaty.2.1 34 = .ok (.ifCond .ne 5, 3) := by decide +kernel
theorem d_Mo_treaty_37 : decode yMo_treaty.2.1 37 = .ok (.iconst (-1), 1) := by decide +kernel
theorem d_Mo_treaty_38 : decode yMo_treaty.2.1 38 = .ok (.ireturn, 1) := by decide +kernel
theorem d_Mo_treaty_39 : decode yMo_treaty.2.1 39 = .ok (.iconst 0, 1) := by decide +kernel
theorem d_Mo_treaty_40 : decode yMo_treaty.2.1 40 = .ok (.istore 4, 2) := by decide +kernel
theorem d_Mo_treaty_42 : decode yMo_treaty.2.1 42 = .ok (.iload 4, 2) := by decide +kernel
theorem d_Mo_treaty_44 : decode yMo_treaty.2.1 44 = .ok (.bipush 41, 2) := by decide +kernel
theorem d_Mo_treaty_46 : decode yMo_treaty.2.1 46 = .ok (.if_icmp .ge 26, 3) := by decide +kernel
theorem d_Mo_treaty_49 : decode yMo_treaty.2.1 49 = .ok (.aload_n 0, 1) := by decide +kernel
theorem d_Mo_treaty_50 : decode yMo_treaty.2.1 50 = .ok (.getfield 110, 3) := by decide +kernel
theorem d_Mo_treaty_53 : decode yMo_treaty.2.1 53 = .ok (.iload 4, 2) := by decide +kernel
theorem d_Mo_treaty_55 : decode yMo_treaty.2.1 55 = .ok (.iload 4, 2) := by decide +kernel
theorem d_Mo_treaty_57 : decode yMo_treaty.2.1 57 = .ok (.ifCond .ne 7, 3) := by decide +kernel
theorem d_Mo_treaty_60 : decode yMo_treaty.2.1 60 = .ok (.iconst 1, 1) := by decide +kernel
theorem d_Mo_treaty_61 : decode yMo_treaty.2.1 61 = .ok (.goto 4, 3) := by decide +kernel
theorem d_Mo_treaty_64 : decode yMo_treaty.2.1 64 = .ok (.iconst 0, 1) := by decide +kernel
theorem d_Mo_treaty_65 : decode yMo_treaty.2.1 65 = .ok (.iastore, 1) := by decide +kernel
theorem d_Mo_treaty_66 : decode yMo_treaty.2.1 66 = .ok (.iinc 4 1, 3) := by decide +kernel
theorem d_Mo_treaty_69 : decode yMo_treaty.2.1 69 = .ok (.goto (-27), 3) := by decide +kernel
theorem d_Mo_treaty_72 : decode yMo_treaty.2.1 72 = .ok (.iconst 1, 1) := by decide +kernel
theorem d_Mo_treaty_73 : decode yMo_treaty.2.1 73 = .ok (.istore 4, 2) := by decide +kernel
theorem d_Mo_treaty_75 : decode yMo_treaty.2.1 75 = .ok (.iload 4, 2) := by decide +kernel
theorem d_Mo_treaty_77 : decode yMo_treaty.2.1 77 = .ok (.iload_n 2, 1) := by decide +kernel
theorem d_Mo_treaty_78 : decode yMo_treaty.2.1 78 = .ok (.if_icmp .gt 106, 3) := by decide +kernel
theorem d_Mo_treaty_81 : decode yMo_treaty.2.1 81 = .ok (.iload 4, 2) := by decide +kernel
theorem d_Mo_treaty_83 : decode yMo_treaty.2.1 83 = .ok (.istore 5, 2) := by decide +kernel
theorem d_Mo_treaty_85 : decode yMo_treaty.2.1 85 = .ok (.iload 5, 2) := by decide +kernel
theorem d_Mo_treaty_87 : decode yMo_treaty.2.1 87 = .ok (.iload_n 1, 1) := by decide +kernel
theorem d_Mo_treaty_88 : decode yMo_treaty.2.1 88 = .ok (.if_icmp .gt 41, 3) := by decide +kernel
theorem d_Mo_treaty_91 : decode yMo_treaty.2.1 91 = .ok (.iload_n 3, 1) := by decide +kernel
theorem d_Mo_treaty_92 : decode yMo_treaty.2.1 92 = .ok (.ifCond .ne 37, 3) := by decide +kernel
theorem d_Mo_treaty_95 : decode yMo_treaty.2.1 95 = .ok (.aload_n 0, 1) := by decide +kernel
theorem d_Mo_treaty_96 : decode yMo_treaty.2.1 96 = .ok (.getfield 110, 3) := by decide +kernel
theorem d_Mo_treaty_99 : decode yMo_treaty.2.1 99 = .ok (.iload 5, 2) := by decide +kernel
theorem d_Mo_treaty_101 : decode yMo_treaty.2.1 101 = .ok (.aload_n 0, 1) := by decide +kernel
theorem d_Mo_treaty_102 : decode yMo_treaty.2.1 102 = .ok (.aload_n 0, 1) := by decide +kernel
theorem d_Mo_treaty_103 : decode yMo_treaty.2.1 103 = .ok (.getfield 110, 3) := by decide +kernel
theorem d_Mo_treaty_106 : decode yMo_treaty.2.1 106 = .ok (.iload 5, 2) := by decide +kernel
theorem d_Mo_treaty_108 : decode yMo_treaty.2.1 108 = .ok (.iaload, 1) := by decide +kernel
theorem d_Mo_treaty_109 : decode yMo_treaty.2.1 109 = .ok (.aload_n 0, 1) := by decide +kernel
theorem d_Mo_treaty_110 : decode yMo_treaty.2.1 110 = .ok (.getfield 110, 3) := by decide +kernel
theorem d_Mo_treaty_113 : decode yMo_treaty.2.1 113 = .ok (.iload 5, 2) := by decide +kernel
theorem d_Mo_treaty_115 : decode yMo_treaty.2.1 115 = .ok (.iload 4, 2) := by decide +kernel
theorem d_Mo_treaty_117 : decode yMo_treaty.2.1 117 = .ok (.isub, 1) := by decide +kernel
theorem d_Mo_treaty_118 : decode yMo_treaty.2.1 118 = .ok (.iaload, 1) := by decide +kernel
theorem d_Mo_treaty_119 : decode yMo_treaty.2.1 119 = .ok (.invokevirtual 453, 3) := by decide +kernel
theorem d_Mo_treaty_122 : decode yMo_treaty.2.1 122 = .ok (.iastore, 1) := by decide +kernel
theorem d_Mo_treaty_123 : decode yMo_treaty.2.1 123 = .ok (.iinc 5 1, 3) := by decide +kernel
theorem d_Mo_treaty_126 : decode yMo_treaty.2.1 126 = .ok (.goto (-41), 3) := by decide +kernel
theorem d_Mo_treaty_129 : decode yMo_treaty.2.1 129 = .ok (.iload_n 1, 1) := by decide +kernel
theorem d_Mo_treaty_130 : decode yMo_treaty.2.1 130 = .ok (.istore 5, 2) := by decide +kernel
theorem d_Mo_treaty_132 : decode yMo_treaty.2.1 132 = .ok (.iload 5, 2) := by decide +kernel
theorem d_Mo_treaty_134 : decode yMo_treaty.2.1 134 = .ok (.iload 4, 2) := by decide +kernel
theorem d_Mo_treaty_136 : decode yMo_treaty.2.1 136 = .ok (.if_icmp .lt 42, 3) := by decide +kernel
theorem d_Mo_treaty_139 : decode yMo_treaty.2.1 139 = .ok (.iload_n 3, 1) := by decide +kernel
theorem d_Mo_treaty_140 : decode yMo_treaty.2.1 140 = .ok (.iconst 1, 1) := by decide +kernel
theorem d_Mo_treaty_141 : decode yMo_treaty.2.1 141 = .ok (.if_icmp .ne 37, 3) := by decide +kernel
theorem d_Mo_treaty_144 : decode yMo_treaty.2.1 144 = .ok (.aload_n 0, 1) := by decide +kernel
theorem d_Mo_treaty_145 : decode yMo_treaty.2.1 145 = .ok (.getfield 110, 3) := by decide +kernel
theorem d_Mo_treaty_148 : decode yMo_treaty.2.1 148 = .ok (.iload 5, 2) := by decide +kernel
theorem d_Mo_treaty_150 : decode yMo_treaty.2.1 150 = .ok (.aload_n 0, 1) := by decide +kernel
theorem d_Mo_treaty_151 : decode yMo_treaty.2.1 151 = .ok (.aload_n 0, 1) := by decide +kernel
theorem d_Mo_treaty_152 : decode yMo_treaty.2.1 152 = .ok (.getfield 110, 3) := by decide +kernel
theorem d_Mo_treaty_155 : decode yMo_treaty.2.1 155 = .ok (.iload 5, 2) := by decide +kernel
theorem d_Mo_treaty_157 : decode yMo_treaty.2.1 157 = .ok (.iaload, 1) := by decide +kernel
theorem d_Mo_treaty_158 : decode yMo_treaty.2.1 158 = .ok (.aload_n 0, 1) := by decide +kernel
theorem d_Mo_treaty_159 : decode yMo_treaty.2.1 159 = .ok (.getfield 110, 3) := by decide +kernel
theorem d_Mo_treaty_162 : decode yMo_treaty.2.1 162 = .ok (.iload 5, 2) := by decide +kernel
theorem d_Mo_treaty_164 : decode yMo_treaty.2.1 164 = .ok (.iload 4, 2) := by decide +kernel
theorem d_Mo_treaty_166 : decode yMo_treaty.2.1 166 = .ok (.isub, 1) := by decide +kernel
theorem d_Mo_treaty_167 : decode yMo_treaty.2.1 167 = .ok (.iaload, 1) := by decide +kernel
theorem d_Mo_treaty_168 : decode yMo_treaty.2.1 168 = .ok (.invokevirtual 453, 3) := by decide +kernel
theorem d_Mo_treaty_171 : decode yMo_treaty.2.1 171 = .ok (.iastore, 1) := by decide +kernel
theorem d_Mo_treaty_172 : decode yMo_treaty.2.1 172 = .ok (.iinc 5 (-1), 3) := by decide +kernel
theorem d_Mo_treaty_175 : decode yMo_treaty.2.1 175 = .ok (.goto (-43), 3) := by decide +kernel
theorem d_Mo_treaty_178 : decode yMo_treaty.2.1 178 = .ok (.iinc 4 1, 3) := by decide +kernel
theorem d_Mo_treaty_181 : decode yMo_treaty.2.1 181 = .ok (.goto (-106), 3) := by decide +kernel
theorem d_Mo_treaty_184 : decode yMo_treaty.2.1 184 = .ok (.aload_n 0, 1) := by decide +kernel
theorem d_Mo_treaty_185 : decode yMo_treaty.2.1 185 = .ok (.getfield 110, 3) := by decide +kernel
theorem d_Mo_treaty_188 : decode yMo_treaty.2.1 188 = .ok (.iload_n 1, 1) := by decide +kernel
theorem d_Mo_treaty_189 : decode yMo_treaty.2.1 189 = .ok (.iaload, 1) := by decide +kernel
theorem d_Mo_treaty_190 : decode yMo_treaty.2.1 190 = .ok (.ireturn, 1) := by decide +kernel
def J_Mo_treaty_65 (k : Int32 → gb_Mem → Option (gb_Mem)) (x1 x2 x3 x4 s0 s1 : Int32) (I : gb_Mem) : Option (gb_Mem) :=
  fsto I 33 41 s1 s0 fun I2 =>
  k (x4 + 1) I2
set_option maxRecDepth 4000 in
theorem j_Mo_treaty_65 (l : Launch) (d0 : Nat) {post : Option gb_AV → List gb_Ce → gb_Mem → Prop} (k : Int32 → gb_Mem → Option (gb_Mem)) (x1 x2 x3 x4 s0 s1 : Int32) (I : gb_Mem) {ρ : gb_Mem} (h : J_Mo_treaty_65 k x1 x2 x3 x4 s0 s1 I = some ρ) (hk : ∀ (z4 : Int32) (Iw : gb_Mem), k z4 Iw = some ρ → gb_Go l yMo_treaty (d0 + 1) 0 0 42 [(0, .inr (some 0)), (1, .inl x1), (2, .inl x2), (3, .inl x3), (4, .inl z4)] [] shM Iw post) (hX : ∀ (I2 : gb_Mem), ρ = I2 → gb_Go l yMo_treaty (d0 + 1) 0 0 72 [(0, .inr (some 0)), (1, .inl x1), (2, .inl x2), (3, .inl x3)] [] shM I2 post) : gb_Go l yMo_treaty (d0 + 1) 0 0 65 [(0, .inr (some 0)), (1, .inl x1), (2, .inl x2), (3, .inl x3), (4, .inl x4)] [.inl s0, .inl s1, .inr (some 33)] shM I post := by
  unfold J_Mo_treaty_65 at h
  obtain ⟨hi, I2, eI2, h⟩ := fsto_e h
  refine go_iast (I' := I2) d_Mo_treaty_65 a_M_33 hi eI2 ?_
  refine go_iinc (k := 4) (v := x4 + 1) (lv' := [(4, .inl (x4 + 1)), (0, .inr (some 0)), (1, .inl x1), (2, .inl x2), (3, .inl x3)]) d_Mo_treaty_66 rfl rfl (by decide) rfl ?_
  refine go_goto (tgt := 42) d_Mo_treaty_69 (by decide) ?_
  exact go_lv [1, 2, 3, 4, 0] rfl (hk _ _ h)
def L_Mo_treaty_42 (x1 x2 x3 : Int32) : Nat → Int32 → gb_Mem → Option (gb_Mem)
  | 0, _, _ => none
  | n + 1, x4, I =>
    if 41 ≤ x4 then
      some I
    else
      if x4 = 0 then
        J_Mo_treaty_65 (L_Mo_treaty_42 x1 x2 x3 n) x1 x2 x3 x4 1 x4 I
      else
        J_Mo_treaty_65 (L_Mo_treaty_42 x1 x2 x3 n) x1 x2 x3 x4 0 x4 I
set_option maxRecDepth 4000 in
theorem l_Mo_treaty_42 (l : Launch) (d0 : Nat) (x1 x2 x3 : Int32) {post : Option gb_AV → List gb_Ce → gb_Mem → Prop} : ∀ (n : Nat) (x4 : Int32) (I : gb_Mem) {ρ : gb_Mem} (h : L_Mo_treaty_42 x1 x2 x3 n x4 I = some ρ) (hX : ∀ (I2 : gb_Mem), ρ = I2 → gb_Go l yMo_treaty (d0 + 1) 0 0 72 [(0, .inr (some 0)), (1, .inl x1), (2, .inl x2), (3, .inl x3)] [] shM I2 post) , gb_Go l yMo_treaty (d0 + 1) 0 0 42 [(0, .inr (some 0)), (1, .inl x1), (2, .inl x2), (3, .inl x3), (4, .inl x4)] [] shM I post := by
  intro n
  induction n with
  | zero => intro x4 I ρ h hX; cases h
  | succ n ih =>
    intro x4 I ρ h hX
    rw [L_Mo_treaty_42] at h
    refine go_iload (k := 4) d_Mo_treaty_42 rfl ?_
    refine go_bipush (v := 41) d_Mo_treaty_44 (by decide) ?_
    refine go_cmp_ge (tgt := 72) d_Mo_treaty_46 (by decide) (fun hc => ?_) (fun hc => ?_)
    · rw [if_pos hc] at h
      exact go_lv [0, 1, 2, 3] rfl (hX _ (Option.some.inj h).symm)
    · rw [if_neg hc] at h
      refine go_aload_n (k := 0) d_Mo_treaty_49 rfl rfl ?_
      refine go_getr (ci := 10) (k := 55) (r := 33) d_Mo_treaty_50 a_M_0 rfl (by decide) f_Mo_110 rfl ?_
      refine go_iload (k := 4) d_Mo_treaty_53 rfl ?_
      refine go_iload (k := 4) d_Mo_treaty_55 rfl ?_
      refine go_if_ne (tgt := 64) d_Mo_treaty_57 (by decide) (fun hc => ?_) (fun hc => ?_)
      · rw [if_neg hc] at h
        refine go_iconst (v := 0) d_Mo_treaty_64 (by decide) ?_
        exact go_lv [0, 1, 2, 3, 4] rfl (j_Mo_treaty_65 l d0 (L_Mo_treaty_42 x1 x2 x3 n) x1 x2 x3 x4 0 x4 I h (fun z4 Iw hh => ih z4 Iw hh hX) hX)
      · rw [if_pos hc] at h
        refine go_iconst (v := 1) d_Mo_treaty_60 (by decide) ?_
        refine go_goto (tgt := 65) d_Mo_treaty_61 (by decide) ?_
        exact go_lv [0, 1, 2, 3, 4] rfl (j_Mo_treaty_65 l d0 (L_Mo_treaty_42 x1 x2 x3 n) x1 x2 x3 x4 1 x4 I h (fun z4 Iw hh => ih z4 Iw hh hX) hX)
def L_Mo_treaty_85 (x1 x2 x3 x4 : Int32) : Nat → Int32 → gb_Mem → Option (gb_Mem)
  | 0, _, _ => none
  | n + 1, x5, I =>
    if x1 < x5 then
      some I
    else
      if x3 = 0 then
        flod I 33 41 x5 fun v4 =>
        flod I 33 41 (x5 - x4) fun v5 =>
        fsto I 33 41 x5 (F_Mo_added v4 v5 I) fun I6 =>
        L_Mo_treaty_85 x1 x2 x3 x4 n (x5 + 1) I6
      else
        some I
set_option maxRecDepth 4000 in
theorem l_Mo_treaty_85 (l : Launch) (d0 : Nat) (x1 x2 x3 x4 : Int32) {post : Option gb_AV → List gb_Ce → gb_Mem → Prop} : ∀ (n : Nat) (x5 : Int32) (I : gb_Mem) {ρ : gb_Mem} (h : L_Mo_treaty_85 x1 x2 x3 x4 n x5 I = some ρ) (hX : ∀ (I2 : gb_Mem), ρ = I2 → gb_Go l yMo_treaty (d0 + 1) 0 0 129 [(0, .inr (some 0)), (1, .inl x1), (2, .inl x2), (3, .inl x3), (4, .inl x4)] [] shM I2 post) , gb_Go l yMo_treaty (d0 + 1) 0 0 85 [(0, .inr (some 0)), (1, .inl x1), (2, .inl x2), (3, .inl x3), (4, .inl x4), (5, .inl x5)] [] shM I post := by
  intro n
  induction n with
  | zero => intro x5 I ρ h hX; cases h
  | succ n ih =>
    intro x5 I ρ h hX
    rw [L_Mo_treaty_85] at h
    refine go_iload (k := 5) d_Mo_treaty_85 rfl ?_
    refine go_iload_n (k := 1) d_Mo_treaty_87 rfl rfl ?_
    refine go_cmp_gt (tgt := 129) d_Mo_treaty_88 (by decide) (fun hc => ?_) (fun hc => ?_)
    · rw [if_pos hc] at h
      exact go_lv [0, 1, 2, 3, 4] rfl (hX _ (Option.some.inj h).symm)
    · rw [if_neg hc] at h
      refine go_iload_n (k := 3) d_Mo_treaty_91 rfl rfl ?_
      refine go_if_ne (tgt := 129) d_Mo_treaty_92 (by decide) (fun hc => ?_) (fun hc => ?_)
      · rw [if_neg hc] at h
        exact go_lv [0, 1, 2, 3, 4] rfl (hX _ (Option.some.inj h).symm)
      · rw [if_pos hc] at h
        refine go_aload_n (k := 0) d_Mo_treaty_95 rfl rfl ?_
        refine go_getr (ci := 10) (k := 55) (r := 33) d_Mo_treaty_96 a_M_0 rfl (by decide) f_Mo_110 rfl ?_
        refine go_iload (k := 5) d_Mo_treaty_99 rfl ?_
        refine go_aload_n (k := 0) d_Mo_treaty_101 rfl rfl ?_
        refine go_aload_n (k := 0) d_Mo_treaty_102 rfl rfl ?_
        refine go_getr (ci := 10) (k := 55) (r := 33) d_Mo_treaty_103 a_M_0 rfl (by decide) f_Mo_110 rfl ?_
        refine go_iload (k := 5) d_Mo_treaty_106 rfl ?_
        obtain ⟨hi, v4, ev4, h⟩ := flod_e h
        refine go_iald2 d_Mo_treaty_108 a_M_33 hi ev4 ?_
        refine go_aload_n (k := 0) d_Mo_treaty_109 rfl rfl ?_
        refine go_getr (ci := 10) (k := 55) (r := 33) d_Mo_treaty_110 a_M_0 rfl (by decide) f_Mo_110 rfl ?_
        refine go_iload (k := 5) d_Mo_treaty_113 rfl ?_
        refine go_iload (k := 4) d_Mo_treaty_115 rfl ?_
        refine go_isub d_Mo_treaty_117 ?_
        obtain ⟨hi, v5, ev5, h⟩ := flod_e h
        refine go_iald2 d_Mo_treaty_118 a_M_33 hi ev5 ?_
        refine go_callV (y := yMo_added) (asr := [.inl v4, .inl v5]) (v := some (.inl (F_Mo_added v4 v5 I))) (I' := I) (st1 := [.inl (F_Mo_added v4 v5 I), .inl x5, .inr (some 33)]) d_Mo_treaty_119 s_yMo_added m_Mo_453 a_M_0 rfl rfl rfl (Nat.le_of_ble_eq_true rfl) rfl rfl (c_Mo_added l (d0 + 0) v4 v5 I) ?_
        obtain ⟨hi, I6, eI6, h⟩ := fsto_e h
        refine go_iast (I' := I6) d_Mo_treaty_122 a_M_33 hi eI6 ?_
        refine go_iinc (k := 5) (v := x5 + 1) (lv' := [(5, .inl (x5 + 1)), (0, .inr (some 0)), (1, .inl x1), (2, .inl x2), (3, .inl x3), (4, .inl x4)]) d_Mo_treaty_123 rfl rfl (by decide) rfl ?_
        refine go_goto (tgt := 85) d_Mo_treaty_126 (by decide) ?_
        exact go_lv [1, 2, 3, 4, 5, 0] rfl (ih (x5 + 1) I6 h hX)
def L_Mo_treaty_132 (x1 x2 x3 x4 : Int32) : Nat → Int32 → gb_Mem → Option (gb_Mem)
  | 0, _, _ => none
  | n + 1, x5, I =>
    if x5 < x4 then
      some I
    else
      if x3 = 1 then
        flod I 33 41 x5 fun v8 =>
        flod I 33 41 (x5 - x4) fun v9 =>
        fsto I 33 41 x5 (F_Mo_added v8 v9 I) fun I10 =>
        L_Mo_treaty_132 x1 x2 x3 x4 n (x5 + (-1)) I10
      else
        some I
set_option maxRecDepth 4000 in
theorem l_Mo_treaty_132 (l : Launch) (d0 : Nat) (x1 x2 x3 x4 : Int32) {post : Option gb_AV → List gb_Ce → gb_Mem → Prop} : ∀ (n : Nat) (x5 : Int32) (I : gb_Mem) {ρ : gb_Mem} (h : L_Mo_treaty_132 x1 x2 x3 x4 n x5 I = some ρ) (hX : ∀ (I2 : gb_Mem), ρ = I2 → gb_Go l yMo_treaty (d0 + 1) 0 0 178 [(0, .inr (some 0)), (1, .inl x1), (2, .inl x2), (3, .inl x3), (4, .inl x4)] [] shM I2 post) , gb_Go l yMo_treaty (d0 + 1) 0 0 132 [(0, .inr (some 0)), (1, .inl x1), (2, .inl x2), (3, .inl x3), (4, .inl x4), (5, .inl x5)] [] shM I post := by
  intro n
  induction n with
  | zero => intro x5 I ρ h hX; cases h
  | succ n ih =>
    intro x5 I ρ h hX
    rw [L_Mo_treaty_132] at h
    refine go_iload (k := 5) d_Mo_treaty_132 rfl ?_
    refine go_iload (k := 4) d_Mo_treaty_134 rfl ?_
    refine go_cmp_lt (tgt := 178) d_Mo_treaty_136 (by decide) (fun hc => ?_) (fun hc => ?_)
    · rw [if_pos hc] at h
      exact go_lv [0, 1, 2, 3, 4] rfl (hX _ (Option.some.inj h).symm)
    · rw [if_neg hc] at h
      refine go_iload_n (k := 3) d_Mo_treaty_139 rfl rfl ?_
      refine go_iconst (v := 1) d_Mo_treaty_140 (by decide) ?_
      refine go_cmp_ne (tgt := 178) d_Mo_treaty_141 (by decide) (fun hc => ?_) (fun hc => ?_)
      · rw [if_neg hc] at h
        exact go_lv [0, 1, 2, 3, 4] rfl (hX _ (Option.some.inj h).symm)
      · rw [if_pos hc] at h
        refine go_aload_n (k := 0) d_Mo_treaty_144 rfl rfl ?_
        refine go_getr (ci := 10) (k := 55) (r := 33) d_Mo_treaty_145 a_M_0 rfl (by decide) f_Mo_110 rfl ?_
        refine go_iload (k := 5) d_Mo_treaty_148 rfl ?_
        refine go_aload_n (k := 0) d_Mo_treaty_150 rfl rfl ?_
        refine go_aload_n (k := 0) d_Mo_treaty_151 rfl rfl ?_
        refine go_getr (ci := 10) (k := 55) (r := 33) d_Mo_treaty_152 a_M_0 rfl (by decide) f_Mo_110 rfl ?_
        refine go_iload (k := 5) d_Mo_treaty_155 rfl ?_
        obtain ⟨hi, v8, ev8, h⟩ := flod_e h
        refine go_iald2 d_Mo_treaty_157 a_M_33 hi ev8 ?_
        refine go_aload_n (k := 0) d_Mo_treaty_158 rfl rfl ?_
        refine go_getr (ci := 10) (k := 55) (r := 33) d_Mo_treaty_159 a_M_0 rfl (by decide) f_Mo_110 rfl ?_
        refine go_iload (k := 5) d_Mo_treaty_162 rfl ?_
        refine go_iload (k := 4) d_Mo_treaty_164 rfl ?_
        refine go_isub d_Mo_treaty_166 ?_
        obtain ⟨hi, v9, ev9, h⟩ := flod_e h
        refine go_iald2 d_Mo_treaty_167 a_M_33 hi ev9 ?_
        refine go_callV (y := yMo_added) (asr := [.inl v8, .inl v9]) (v := some (.inl (F_Mo_added v8 v9 I))) (I' := I) (st1 := [.inl (F_Mo_added v8 v9 I), .inl x5, .inr (some 33)]) d_Mo_treaty_168 s_yMo_added m_Mo_453 a_M_0 rfl rfl rfl (Nat.le_of_ble_eq_true rfl) rfl rfl (c_Mo_added l (d0 + 0) v8 v9 I) ?_
        obtain ⟨hi, I10, eI10, h⟩ := fsto_e h
        refine go_iast (I' := I10) d_Mo_treaty_171 a_M_33 hi eI10 ?_
        refine go_iinc (k := 5) (v := x5 + (-1)) (lv' := [(5, .inl (x5 + (-1))), (0, .inr (some 0)), (1, .inl x1), (2, .inl x2), (3, .inl x3), (4, .inl x4)]) d_Mo_treaty_172 rfl rfl (by decide) rfl ?_
        refine go_goto (tgt := 132) d_Mo_treaty_175 (by decide) ?_
        exact go_lv [1, 2, 3, 4, 5, 0] rfl (ih (x5 + (-1)) I10 h hX)
def J_Mo_treaty_178 (k : Int32 → gb_Mem → Option (gb_Mem)) (x1 x2 x3 x4 : Int32) (I : gb_Mem) : Option (gb_Mem) :=
  k (x4 + 1) I
set_option maxRecDepth 4000 in
theorem j_Mo_treaty_178 (l : Launch) (d0 : Nat) {post : Option gb_AV → List gb_Ce → gb_Mem → Prop} (k : Int32 → gb_Mem → Option (gb_Mem)) (x1 x2 x3 x4 : Int32) (I : gb_Mem) {ρ : gb_Mem} (h : J_Mo_treaty_178 k x1 x2 x3 x4 I = some ρ) (hk : ∀ (z4 : Int32) (Iw : gb_Mem), k z4 Iw = some ρ → gb_Go l yMo_treaty (d0 + 1) 0 0 75 [(0, .inr (some 0)), (1, .inl x1), (2, .inl x2), (3, .inl x3), (4, .inl z4)] [] shM Iw post) (hX : ∀ (I2 : gb_Mem), ρ = I2 → gb_Go l yMo_treaty (d0 + 1) 0 0 184 [(0, .inr (some 0)), (1, .inl x1)] [] shM I2 post) : gb_Go l yMo_treaty (d0 + 1) 0 0 178 [(0, .inr (some 0)), (1, .inl x1), (2, .inl x2), (3, .inl x3), (4, .inl x4)] [] shM I post := by
  unfold J_Mo_treaty_178 at h
  refine go_iinc (k := 4) (v := x4 + 1) (lv' := [(4, .inl (x4 + 1)), (0, .inr (some 0)), (1, .inl x1), (2, .inl x2), (3, .inl x3)]) d_Mo_treaty_178 rfl rfl (by decide) rfl ?_
  refine go_goto (tgt := 75) d_Mo_treaty_181 (by decide) ?_
  exact go_lv [1, 2, 3, 4, 0] rfl (hk _ _ h)
def J_Mo_treaty_129 (k : Int32 → gb_Mem → Option (gb_Mem)) (x1 x2 x3 x4 : Int32) (I : gb_Mem) : Option (gb_Mem) :=
  fbd (L_Mo_treaty_132 x1 x2 x3 x4 5000 x1 I) fun I11 =>
  J_Mo_treaty_178 k x1 x2 x3 x4 I11
set_option maxRecDepth 4000 in
theorem j_Mo_treaty_129 (l : Launch) (d0 : Nat) {post : Option gb_AV → List gb_Ce → gb_Mem → Prop} (k : Int32 → gb_Mem → Option (gb_Mem)) (x1 x2 x3 x4 : Int32) (I : gb_Mem) {ρ : gb_Mem} (h : J_Mo_treaty_129 k x1 x2 x3 x4 I = some ρ) (hk : ∀ (z4 : Int32) (Iw : gb_Mem), k z4 Iw = some ρ → gb_Go l yMo_treaty (d0 + 1) 0 0 75 [(0, .inr (some 0)), (1, .inl x1), (2, .inl x2), (3, .inl x3), (4, .inl z4)] [] shM Iw post) (hX : ∀ (I2 : gb_Mem), ρ = I2 → gb_Go l yMo_treaty (d0 + 1) 0 0 184 [(0, .inr (some 0)), (1, .inl x1)] [] shM I2 post) : gb_Go l yMo_treaty (d0 + 1) 0 0 129 [(0, .inr (some 0)), (1, .inl x1), (2, .inl x2), (3, .inl x3), (4, .inl x4)] [] shM I post := by
  unfold J_Mo_treaty_129 at h
  refine go_iload_n (k := 1) d_Mo_treaty_129 rfl rfl ?_
  refine go_istore (lv' := [(5, .inl x1), (0, .inr (some 0)), (1, .inl x1), (2, .inl x2), (3, .inl x3), (4, .inl x4)]) d_Mo_treaty_130 (by decide) rfl ?_
  refine go_lv [1, 2, 3, 4, 5, 0] (lv' := [(0, .inr (some 0)), (1, .inl x1), (2, .inl x2), (3, .inl x3), (4, .inl x4), (5, .inl x1)]) rfl ?_
  obtain ⟨I11, w1, h⟩ := fbd_e h
  refine l_Mo_treaty_132 l d0 x1 x2 x3 x4 5000 x1 I w1 (fun I11_ e => ?_)
  cases e
  exact go_lv [0, 1, 2, 3, 4] rfl (j_Mo_treaty_178 l d0 k x1 x2 x3 x4 I11 h hk hX)
def L_Mo_treaty_75 (x1 x2 x3 : Int32) : Nat → Int32 → gb_Mem → Option (gb_Mem)
  | 0, _, _ => none
  | n + 1, x4, I =>
    if x2 < x4 then
      some I
    else
      fbd (L_Mo_treaty_85 x1 x2 x3 x4 5000 x4 I) fun I7 =>
      J_Mo_treaty_129 (L_Mo_treaty_75 x1 x2 x3 n) x1 x2 x3 x4 I7
set_option maxRecDepth 4000 in
theorem l_Mo_treaty_75 (l : Launch) (d0 : Nat) (x1 x2 x3 : Int32) {post : Option gb_AV → List gb_Ce → gb_Mem → Prop} : ∀ (n : Nat) (x4 : Int32) (I : gb_Mem) {ρ : gb_Mem} (h : L_Mo_treaty_75 x1 x2 x3 n x4 I = some ρ) (hX : ∀ (I2 : gb_Mem), ρ = I2 → gb_Go l yMo_treaty (d0 + 1) 0 0 184 [(0, .inr (some 0)), (1, .inl x1)] [] shM I2 post) , gb_Go l yMo_treaty (d0 + 1) 0 0 75 [(0, .inr (some 0)), (1, .inl x1), (2, .inl x2), (3, .inl x3), (4, .inl x4)] [] shM I post := by
  intro n
  induction n with
  | zero => intro x4 I ρ h hX; cases h
  | succ n ih =>
    intro x4 I ρ h hX
    rw [L_Mo_treaty_75] at h
    refine go_iload (k := 4) d_Mo_treaty_75 rfl ?_
    refine go_iload_n (k := 2) d_Mo_treaty_77 rfl rfl ?_
    refine go_cmp_gt (tgt := 184) d_Mo_treaty_78 (by decide) (fun hc => ?_) (fun hc => ?_)
    · rw [if_pos hc] at h
      exact go_lv [0, 1] rfl (hX _ (Option.some.inj h).symm)
    · rw [if_neg hc] at h
      refine go_iload (k := 4) d_Mo_treaty_81 rfl ?_
      refine go_istore (lv' := [(5, .inl x4), (0, .inr (some 0)), (1, .inl x1), (2, .inl x2), (3, .inl x3), (4, .inl x4)]) d_Mo_treaty_83 (by decide) rfl ?_
      refine go_lv [1, 2, 3, 4, 5, 0] (lv' := [(0, .inr (some 0)), (1, .inl x1), (2, .inl x2), (3, .inl x3), (4, .inl x4), (5, .inl x4)]) rfl ?_
      obtain ⟨I7, w1, h⟩ := fbd_e h
      refine l_Mo_treaty_85 l d0 x1 x2 x3 x4 5000 x4 I w1 (fun I7_ e => ?_)
      cases e
      exact go_lv [0, 1, 2, 3, 4] rfl (j_Mo_treaty_129 l d0 (L_Mo_treaty_75 x1 x2 x3 n) x1 x2 x3 x4 I7 h (fun z4 Iw hh => ih z4 Iw hh hX) hX)
def F_Mo_treaty (x1 x2 x3 : Int32) (I : gb_Mem) : Option (Int32 × gb_Mem) :=
  fstf I 0 0 0 fun I1 =>
  if (F_Mo_isIn x1 1 40 I1) = 0 then
    some ((-1), I1)
  else
    if (F_Mo_isIn x2 1 9 I1) = 0 then
      some ((-1), I1)
    else
      if (F_Mo_isIn x3 0 1 I1) = 0 then
        some ((-1), I1)
      else
        fbd (L_Mo_treaty_42 x1 x2 x3 5000 0 I1) fun I3 =>
        fbd (L_Mo_treaty_75 x1 x2 x3 5000 1 I3) fun I12 =>
        flod I12 33 41 x1 fun v13 =>
        some (v13, I12)
set_option maxRecDepth 4000 in
theorem c_Mo_treaty (l : Launch) (d0 : Nat) (x1 x2 x3 : Int32) (I : gb_Mem) {rz : Int32} {Iz : gb_Mem} (h : F_Mo_treaty x1 x2 x3 I = some (rz, Iz)) : gb_Cs l yMo_treaty (d0 + 1) [.inr (some 0), .inl x1, .inl x2, .inl x3] shM I (some (.inl rz)) Iz := by
  refine gb_Ct.of (lv := [(0, .inr (some 0)), (1, .inl x1), (2, .inl x2), (3, .inl x3)]) rfl (Nat.le_of_ble_eq_true rfl) rfl ?_
  unfold F_Mo_treaty at h
  show gb_Go l yMo_treaty (d0 + 1) 0 0 0 [(0, .inr (some 0)), (1, .inl x1), (2, .inl x2), (3, .inl x3)] [] shM I (gb_po shM (some (.inl rz)) Iz)
  refine go_aload_n (k := 0) d_Mo_treaty_0 rfl rfl ?_
  refine go_iconst (v := 0) d_Mo_treaty_1 (by decide) ?_
  obtain ⟨I1, eI1, h⟩ := fstf_e h
  refine go_putT (ci := 10) (k := 0) (I' := I1) d_Mo_treaty_2 a_M_0 rfl (by decide) f_Mo_137 rfl rfl rfl rfl rfl eI1 ?_
  refine go_aload_n (k := 0) d_Mo_treaty_5 rfl rfl ?_
  refine go_iload_n (k := 1) d_Mo_treaty_6 rfl rfl ?_
  refine go_iconst (v := 1) d_Mo_treaty_7 (by decide) ?_
  refine go_bipush (v := 40) d_Mo_treaty_8 (by decide) ?_
  refine go_callV (y := yMo_isIn) (asr := [.inl x1, .inl 1, .inl 40]) (v := some (.inl (F_Mo_isIn x1 1 40 I1))) (I' := I1) (st1 := [.inl (F_Mo_isIn x1 1 40 I1)]) d_Mo_treaty_10 s_yMo_isIn m_Mo_157 a_M_0 rfl rfl rfl (Nat.le_of_ble_eq_true rfl) rfl rfl (c_Mo_isIn l (d0 + 0) x1 1 40 I1) ?_
  refine go_if_eq (tgt := 37) d_Mo_treaty_13 (by decide) (fun hc => ?_) (fun hc => ?_)
  · rw [if_pos hc] at h
    refine go_iconst (v := (-1)) d_Mo_treaty_37 (by decide) ?_
    cases h
    exact go_ireturn d_Mo_treaty_38 rfl gb_po_i
  · rw [if_neg hc] at h
    refine go_aload_n (k := 0) d_Mo_treaty_16 rfl rfl ?_
    refine go_iload_n (k := 2) d_Mo_treaty_17 rfl rfl ?_
    refine go_iconst (v := 1) d_Mo_treaty_18 (by decide) ?_
    refine go_bipush (v := 9) d_Mo_treaty_19 (by decide) ?_
    refine go_callV (y := yMo_isIn) (asr := [.inl x2, .inl 1, .inl 9]) (v := some (.inl (F_Mo_isIn x2 1 9 I1))) (I' := I1) (st1 := [.inl (F_Mo_isIn x2 1 9 I1)]) d_Mo_treaty_21 s_yMo_isIn m_Mo_157 a_M_0 rfl rfl rfl (Nat.le_of_ble_eq_true rfl) rfl rfl (c_Mo_isIn l (d0 + 0) x2 1 9 I1) ?_
    refine go_if_eq (tgt := 37) d_Mo_treaty_24 (by decide) (fun hc => ?_) (fun hc => ?_)
    · rw [if_pos hc] at h
      refine go_iconst (v := (-1)) d_Mo_treaty_37 (by decide) ?_
      cases h
      exact go_ireturn d_Mo_treaty_38 rfl gb_po_i
    · rw [if_neg hc] at h
      refine go_aload_n (k := 0) d_Mo_treaty_27 rfl rfl ?_
      refine go_iload_n (k := 3) d_Mo_treaty_28 rfl rfl ?_
      refine go_iconst (v := 0) d_Mo_treaty_29 (by decide) ?_
      refine go_iconst (v := 1) d_Mo_treaty_30 (by decide) ?_
      refine go_callV (y := yMo_isIn) (asr := [.inl x3, .inl 0, .inl 1]) (v := some (.inl (F_Mo_isIn x3 0 1 I1))) (I' := I1) (st1 := [.inl (F_Mo_isIn x3 0 1 I1)]) d_Mo_treaty_31 s_yMo_isIn m_Mo_157 a_M_0 rfl rfl rfl (Nat.le_of_ble_eq_true rfl) rfl rfl (c_Mo_isIn l (d0 + 0) x3 0 1 I1) ?_
      refine go_if_ne (tgt := 39) d_Mo_treaty_34 (by decide) (fun hc => ?_) (fun hc => ?_)
      · rw [if_neg hc] at h
        refine go_iconst (v := 0) d_Mo_treaty_39 (by decide) ?_
        refine go_istore (lv' := [(4, .inl 0), (0, .inr (some 0)), (1, .inl x1), (2, .inl x2), (3, .inl x3)]) d_Mo_treaty_40 (by decide) rfl ?_
        refine go_lv [1, 2, 3, 4, 0] (lv' := [(0, .inr (some 0)), (1, .inl x1), (2, .inl x2), (3, .inl x3), (4, .inl 0)]) rfl ?_
        obtain ⟨I3, w1, h⟩ := fbd_e h
        refine l_Mo_treaty_42 l d0 x1 x2 x3 5000 0 I1 w1 (fun I3_ e => ?_)
        cases e
        refine go_iconst (v := 1) d_Mo_treaty_72 (by decide) ?_
        refine go_istore (lv' := [(4, .inl 1), (0, .inr (some 0)), (1, .inl x1), (2, .inl x2), (3, .inl x3)]) d_Mo_treaty_73 (by decide) rfl ?_
        refine go_lv [1, 2, 3, 4, 0] (lv' := [(0, .inr (some 0)), (1, .inl x1), (2, .inl x2), (3, .inl x3), (4, .inl 1)]) rfl ?_
        obtain ⟨I12, w1, h⟩ := fbd_e h
        refine l_Mo_treaty_75 l d0 x1 x2 x3 5000 1 I3 w1 (fun I12_ e => ?_)
        cases e
        refine go_aload_n (k := 0) d_Mo_treaty_184 rfl rfl ?_
        refine go_getr (ci := 10) (k := 55) (r := 33) d_Mo_treaty_185 a_M_0 rfl (by decide) f_Mo_110 rfl ?_
        refine go_iload_n (k := 1) d_Mo_treaty_188 rfl rfl ?_
        obtain ⟨hi, v13, ev13, h⟩ := flod_e h
        refine go_iald2 d_Mo_treaty_189 a_M_33 hi ev13 ?_
        cases h
        exact go_ireturn d_Mo_treaty_190 rfl gb_po_i
      · rw [if_pos hc] at h
        refine go_iconst (v := (-1)) d_Mo_treaty_37 (by decide) ?_
        cases h
        exact go_ireturn d_Mo_treaty_38 rfl gb_po_i
theorem d_Mo_wrongIn_0 : decode yMo_wrongIn.2.1 0 = .ok (.iconst 0, 1) := by decide +kernel
theorem d_Mo_wrongIn_1 : decode yMo_wrongIn.2.1 1 = .ok (.istore_n 2, 1) := by decide +kernel
theorem d_Mo_wrongIn_2 : decode yMo_wrongIn.2.1 2 = .ok (.iconst 0, 1) := by decide +kernel
theorem d_Mo_wrongIn_3 : decode yMo_wrongIn.2.1 3 = .ok (.istore_n 3, 1) := by decide +kernel
theorem d_Mo_wrongIn_4 : decode yMo_wrongIn.2.1 4 = .ok (.iload_n 3, 1) := by decide +kernel
theorem d_Mo_wrongIn_5 : decode yMo_wrongIn.2.1 5 = .ok (.iconst 4, 1) := by decide +kernel
theorem d_Mo_wrongIn_6 : decode yMo_wrongIn.2.1 6 = .ok (.if_icmp .ge 31, 3) := by decide +kernel
theorem d_Mo_wrongIn_9 : decode yMo_wrongIn.2.1 9 = .ok (.aload_n 0, 1) := by decide +kernel
theorem d_Mo_wrongIn_10 : decode yMo_wrongIn.2.1 10 = .ok (.iload_n 1, 1) := by decide +kernel
theorem d_Mo_wrongIn_11 : decode yMo_wrongIn.2.1 11 = .ok (.iconst 3, 1) := by decide +kernel
theorem d_Mo_wrongIn_12 : decode yMo_wrongIn.2.1 12 = .ok (.iload_n 3, 1) := by decide +kernel
theorem d_Mo_wrongIn_13 : decode yMo_wrongIn.2.1 13 = .ok (.imul, 1) := by decide +kernel
theorem d_Mo_wrongIn_14 : decode yMo_wrongIn.2.1 14 = .ok (.ishr, 1) := by decide +kernel
theorem d_Mo_wrongIn_15 : decode yMo_wrongIn.2.1 15 = .ok (.bipush 7, 2) := by decide +kernel
theorem d_Mo_wrongIn_17 : decode yMo_wrongIn.2.1 17 = .ok (.iand, 1) := by decide +kernel
theorem d_Mo_wrongIn_18 : decode yMo_wrongIn.2.1 18 = .ok (.iconst 1, 1) := by decide +kernel
theorem d_Mo_wrongIn_19 : decode yMo_wrongIn.2.1 19 = .ok (.bipush 6, 2) := by decide +kernel
theorem d_Mo_wrongIn_21 : decode yMo_wrongIn.2.1 21 = .ok (.invokevirtual 157, 3) := by decide +kernel
theorem d_Mo_wrongIn_24 : decode yMo_wrongIn.2.1 24 = .ok (.ifCond .eq 7, 3) := by decide +kernel
theorem d_Mo_wrongIn_27 : decode yMo_wrongIn.2.1 27 = .ok (.iload_n 2, 1) := by decide +kernel
theorem d_Mo_wrongIn_28 : decode yMo_wrongIn.2.1 28 = .ok (.iconst 1, 1) := by decide +kernel
theorem d_Mo_wrongIn_29 : decode yMo_wrongIn.2.1 29 = .ok (.iadd, 1) := by decide +kernel
theorem d_Mo_wrongIn_30 : decode yMo_wrongIn.2.1 30 = .ok (.istore_n 2, 1) := by decide +kernel
theorem d_Mo_wrongIn_31 : decode yMo_wrongIn.2.1 31 = .ok (.iinc 3 1, 3) := by decide +kernel
theorem d_Mo_wrongIn_34 : decode yMo_wrongIn.2.1 34 = .ok (.goto (-30), 3) := by decide +kernel
theorem d_Mo_wrongIn_37 : decode yMo_wrongIn.2.1 37 = .ok (.iload_n 2, 1) := by decide +kernel
theorem d_Mo_wrongIn_38 : decode yMo_wrongIn.2.1 38 = .ok (.ireturn, 1) := by decide +kernel
def J_Mo_wrongIn_31 (k : Int32 → Int32 → Option (Int32)) (x1 x2 x3 : Int32) (I : gb_Mem) : Option (Int32) :=
  k x2 (x3 + 1)
set_option maxRecDepth 4000 in
theorem j_Mo_wrongIn_31 (l : Launch) (d0 : Nat) {post : Option gb_AV → List gb_Ce → gb_Mem → Prop} (k : Int32 → Int32 → Option (Int32)) (x1 x2 x3 : Int32) (I : gb_Mem) {ρ : Int32} (h : J_Mo_wrongIn_31 k x1 x2 x3 I = some ρ) (hk : ∀ (z2 z3 : Int32), k z2 z3 = some ρ → gb_Go l yMo_wrongIn (d0 + 1) 0 0 4 [(0, .inr (some 0)), (1, .inl x1), (2, .inl z2), (3, .inl z3)] [] shM I post) (hX : ∀ (o2 : Int32), ρ = o2 → gb_Go l yMo_wrongIn (d0 + 1) 0 0 37 [(2, .inl o2)] [] shM I post) : gb_Go l yMo_wrongIn (d0 + 1) 0 0 31 [(0, .inr (some 0)), (1, .inl x1), (2, .inl x2), (3, .inl x3)] [] shM I post := by
  unfold J_Mo_wrongIn_31 at h
  refine go_iinc (k := 3) (v := x3 + 1) (lv' := [(3, .inl (x3 + 1)), (0, .inr (some 0)), (1, .inl x1), (2, .inl x2)]) d_Mo_wrongIn_31 rfl rfl (by decide) rfl ?_
  refine go_goto (tgt := 4) d_Mo_wrongIn_34 (by decide) ?_
  exact go_lv [1, 2, 3, 0] rfl (hk _ _ h)
def L_Mo_wrongIn_4 (x1 : Int32) (I : gb_Mem) : Nat → Int32 → Int32 → Option (Int32)
  | 0, _, _ => none
  | n + 1, x2, x3 =>
    if 4 ≤ x3 then
      some x2
    else
      if (F_Mo_isIn ((x1 >>> ((3 * x3) &&& 31)) &&& 7) 1 6 I) = 0 then
        J_Mo_wrongIn_31 (L_Mo_wrongIn_4 x1 I n) x1 x2 x3 I
      else
        J_Mo_wrongIn_31 (L_Mo_wrongIn_4 x1 I n) x1 (x2 + 1) x3 I
set_option maxRecDepth 4000 in
theorem l_Mo_wrongIn_4 (l : Launch) (d0 : Nat) (x1 : Int32) (I : gb_Mem) {post : Option gb_AV → List gb_Ce → gb_Mem → Prop} : ∀ (n : Nat) (x2 x3 : Int32) {ρ : Int32} (h : L_Mo_wrongIn_4 x1 I n x2 x3 = some ρ) (hX : ∀ (o2 : Int32), ρ = o2 → gb_Go l yMo_wrongIn (d0 + 1) 0 0 37 [(2, .inl o2)] [] shM I post) , gb_Go l yMo_wrongIn (d0 + 1) 0 0 4 [(0, .inr (some 0)), (1, .inl x1), (2, .inl x2), (3, .inl x3)] [] shM I post := by
  intro n
  induction n with
  | zero => intro x2 x3 ρ h hX; cases h
  | succ n ih =>
    intro x2 x3 ρ h hX
    rw [L_Mo_wrongIn_4] at h
    refine go_iload_n (k := 3) d_Mo_wrongIn_4 rfl rfl ?_
    refine go_iconst (v := 4) d_Mo_wrongIn_5 (by decide) ?_
    refine go_cmp_ge (tgt := 37) d_Mo_wrongIn_6 (by decide) (fun hc => ?_) (fun hc => ?_)
    · rw [if_pos hc] at h
      exact go_lv [2] rfl (hX _ (Option.some.inj h).symm)
    · rw [if_neg hc] at h
      refine go_aload_n (k := 0) d_Mo_wrongIn_9 rfl rfl ?_
      refine go_iload_n (k := 1) d_Mo_wrongIn_10 rfl rfl ?_
      refine go_iconst (v := 3) d_Mo_wrongIn_11 (by decide) ?_
      refine go_iload_n (k := 3) d_Mo_wrongIn_12 rfl rfl ?_
      refine go_imul d_Mo_wrongIn_13 ?_
      refine go_ishr d_Mo_wrongIn_14 ?_
      refine go_bipush (v := 7) d_Mo_wrongIn_15 (by decide) ?_
      refine go_iand d_Mo_wrongIn_17 ?_
      refine go_iconst (v := 1) d_Mo_wrongIn_18 (by decide) ?_
      refine go_bipush (v := 6) d_Mo_wrongIn_19 (by decide) ?_
      refine go_callV (y := yMo_isIn) (asr := [.inl ((x1 >>> ((3 * x3) &&& 31)) &&& 7), .inl 1, .inl 6]) (v := some (.inl (F_Mo_isIn ((x1 >>> ((3 * x3) &&& 31)) &&& 7) 1 6 I))) (I' := I) (st1 := [.inl (F_Mo_isIn ((x1 >>> ((3 * x3) &&& 31)) &&& 7) 1 6 I)]) d_Mo_wrongIn_21 s_yMo_isIn m_Mo_157 a_M_0 rfl rfl rfl (Nat.le_of_ble_eq_true rfl) rfl rfl (c_Mo_isIn l (d0 + 0) ((x1 >>> ((3 * x3) &&& 31)) &&& 7) 1 6 I) ?_
      refine go_if_eq (tgt := 31) d_Mo_wrongIn_24 (by decide) (fun hc => ?_) (fun hc => ?_)
      · rw [if_pos hc] at h
        exact go_lv [0, 1, 2, 3] rfl (j_Mo_wrongIn_31 l d0 (L_Mo_wrongIn_4 x1 I n) x1 x2 x3 I h (fun z2 z3 hh => ih z2 z3 hh hX) hX)
      · rw [if_neg hc] at h
        refine go_iload_n (k := 2) d_Mo_wrongIn_27 rfl rfl ?_
        refine go_iconst (v := 1) d_Mo_wrongIn_28 (by decide) ?_
        refine go_iadd d_Mo_wrongIn_29 ?_
        refine go_istore_n (lv' := [(2, .inl (x2 + 1)), (0, .inr (some 0)), (1, .inl x1), (3, .inl x3)]) d_Mo_wrongIn_30 rfl (by decide) rfl ?_
        exact go_lv [1, 2, 0, 3] rfl (j_Mo_wrongIn_31 l d0 (L_Mo_wrongIn_4 x1 I n) x1 (x2 + 1) x3 I h (fun z2 z3 hh => ih z2 z3 hh hX) hX)
def F_Mo_wrongIn (x1 : Int32) (I : gb_Mem) : Option (Int32) :=
  fbd (L_Mo_wrongIn_4 x1 I 5000 0 0) fun o1 =>
  some o1
set_option maxRecDepth 4000 in
theorem c_Mo_wrongIn (l : Launch) (d0 : Nat) (x1 : Int32) (I : gb_Mem) {rz : Int32} (h : F_Mo_wrongIn x1 I = some rz) : gb_Cs l yMo_wrongIn (d0 + 1) [.inr (some 0), .inl x1] shM I (some (.inl rz)) I := by
  refine gb_Ct.of (lv := [(0, .inr (some 0)), (1, .inl x1)]) rfl (Nat.le_of_ble_eq_true rfl) rfl ?_
  unfold F_Mo_wrongIn at h
  show gb_Go l yMo_wrongIn (d0 + 1) 0 0 0 [(0, .inr (some 0)), (1, .inl x1)] [] shM I (gb_po shM (some (.inl rz)) I)
  refine go_iconst (v := 0) d_Mo_wrongIn_0 (by decide) ?_
  refine go_istore_n (lv' := [(2, .inl 0), (0, .inr (some 0)), (1, .inl x1)]) d_Mo_wrongIn_1 rfl (by decide) rfl ?_
  refine go_iconst (v := 0) d_Mo_wrongIn_2 (by decide) ?_
  refine go_istore_n (lv' := [(3, .inl 0), (2, .inl 0), (0, .inr (some 0)), (1, .inl x1)]) d_Mo_wrongIn_3 rfl (by decide) rfl ?_
  refine go_lv [2, 3, 1, 0] (lv' := [(0, .inr (some 0)), (1, .inl x1), (2, .inl 0), (3, .inl 0)]) rfl ?_
  obtain ⟨o1, w1, h⟩ := fbd_e h
  refine l_Mo_wrongIn_4 l d0 x1 I 5000 0 0 w1 (fun o1_ e => ?_)
  cases e
  refine go_iload_n (k := 0) d_Mo_wrongIn_37 rfl rfl ?_
  cases h
  exact go_ireturn d_Mo_wrongIn_38 rfl gb_po_i
theorem d_Mo_both_0 : decode yMo_both.2.1 0 = .ok (.aload_n 0, 1) := by decide +kernel
theorem d_Mo_both_1 : decode yMo_both.2.1 1 = .ok (.iconst 0, 1) := by decide +kernel
theorem d_Mo_both_2 : decode yMo_both.2.1 2 = .ok (.putfield 137, 3) := by decide +kernel
theorem d_Mo_both_5 : decode yMo_both.2.1 5 = .ok (.aload_n 0, 1) := by decide +kernel
theorem d_Mo_both_6 : decode yMo_both.2.1 6 = .ok (.iload_n 1, 1) := by decide +kernel
theorem d_Mo_both_7 : decode yMo_both.2.1 7 = .ok (.iconst 0, 1) := by decide +kernel
theorem d_Mo_both_8 : decode yMo_both.2.1 8 = .ok (.iconst 2, 1) := by decide +kernel
theorem d_Mo_both_9 : decode yMo_both.2.1 9 = .ok (.invokevirtual 157, 3) := by decide +kernel
theorem d_Mo_both_12 : decode yMo_both.2.1 12 = .ok (.ifCond .ne 5, 3) := by decide +kernel
theorem d_Mo_both_15 : decode yMo_both.2.1 15 = .ok (.iconst (-1), 1) := by decide +kernel
theorem d_Mo_both_16 : decode yMo_both.2.1 16 = .ok (.ireturn, 1) := by decide +kernel
theorem d_Mo_both_17 : decode yMo_both.2.1 17 = .ok (.aload_n 0, 1) := by decide +kernel
theorem d_Mo_both_18 : decode yMo_both.2.1 18 = .ok (.invokevirtual 429, 3) := by decide +kernel
theorem d_Mo_both_21 : decode yMo_both.2.1 21 = .ok (.bipush 13, 2) := by decide +kernel
theorem d_Mo_both_23 : decode yMo_both.2.1 23 = .ok (.aload_n 0, 1) := by decide +kernel
theorem d_Mo_both_24 : decode yMo_both.2.1 24 = .ok (.getfield 89, 3) := by decide +kernel
theorem d_Mo_both_27 : decode yMo_both.2.1 27 = .ok (.iconst 0, 1) := by decide +kernel
theorem d_Mo_both_28 : decode yMo_both.2.1 28 = .ok (.iaload, 1) := by decide +kernel
theorem d_Mo_both_29 : decode yMo_both.2.1 29 = .ok (.imul, 1) := by decide +kernel
theorem d_Mo_both_30 : decode yMo_both.2.1 30 = .ok (.aload_n 0, 1) := by decide +kernel
theorem d_Mo_both_31 : decode yMo_both.2.1 31 = .ok (.getfield 89, 3) := by decide +kernel
theorem d_Mo_both_34 : decode yMo_both.2.1 34 = .ok (.iconst 1, 1) := by decide +kernel
theorem d_Mo_both_35 : decode yMo_both.2.1 35 = .ok (.iaload, 1) := by decide +kernel
theorem d_Mo_both_36 : decode yMo_both.2.1 36 = .ok (.iadd, 1) := by decide +kernel
theorem d_Mo_both_37 : decode yMo_both.2.1 37 = .ok (.istore_n 2, 1) := by decide +kernel
theorem d_Mo_both_38 : decode yMo_both.2.1 38 = .ok (.iload_n 1, 1) := by decide +kernel
theorem d_Mo_both_39 : decode yMo_both.2.1 39 = .ok (.ifCond .ne 12, 3) := by decide +kernel
theorem d_Mo_both_42 : decode yMo_both.2.1 42 = .ok (.aload_n 0, 1) := by decide +kernel
theorem d_Mo_both_43 : decode yMo_both.2.1 43 = .ok (.getfield 95, 3) := by decide +kernel
theorem d_Mo_both_46 : decode yMo_both.2.1 46 = .ok (.iload_n 2, 1) := by decide +kernel
theorem d_Mo_both_47 : decode yMo_both.2.1 47 = .ok (.iaload, 1) := by decide +kernel
theorem d_Mo_both_48 : decode yMo_both.2.1 48 = .ok (.goto 37, 3) := by decide +kernel
theorem d_Mo_both_51 : decode yMo_both.2.1 51 = .ok (.iload_n 1, 1) := by decide +kernel
theorem d_Mo_both_52 : decode yMo_both.2.1 52 = .ok (.iconst 1, 1) := by decide +kernel
theorem d_Mo_both_53 : decode yMo_both.2.1 53 = .ok (.if_icmp .ne 12, 3) := by decide +kernel
theorem d_Mo_both_56 : decode yMo_both.2.1 56 = .ok (.aload_n 0, 1) := by decide +kernel
theorem d_Mo_both_57 : decode yMo_both.2.1 57 = .ok (.getfield 98, 3) := by decide +kernel
theorem d_Mo_both_60 : decode yMo_both.2.1 60 = .ok (.iload_n 2, 1) := by decide +kernel
theorem d_Mo_both_61 : decode yMo_both.2.1 61 = .ok (.iaload, 1) := by decide +kernel
theorem d_Mo_both_62 : decode yMo_both.2.1 62 = .ok (.goto 23, 3) := by decide +kernel
theorem d_Mo_both_65 : decode yMo_both.2.1 65 = .ok (.aload_n 0, 1) := by decide +kernel
theorem d_Mo_both_66 : decode yMo_both.2.1 66 = .ok (.getfield 89, 3) := by decide +kernel
theorem d_Mo_both_69 : decode yMo_both.2.1 69 = .ok (.iconst 0, 1) := by decide +kernel
theorem d_Mo_both_70 : decode yMo_both.2.1 70 = .ok (.iaload, 1) := by decide +kernel
theorem d_Mo_both_71 : decode yMo_both.2.1 71 = .ok (.aload_n 0, 1) := by decide +kernel
theorem d_Mo_both_72 : decode yMo_both.2.1 72 = .ok (.getfield 89, 3) := by decide +kernel
theorem d_Mo_both_75 : decode yMo_both.2.1 75 = .ok (.iconst 1, 1) := by decide +kernel
theorem d_Mo_both_76 : decode yMo_both.2.1 76 = .ok (.iaload, 1) := by decide +kernel
theorem d_Mo_both_77 : decode yMo_both.2.1 77 = .ok (.iadd, 1) := by decide +kernel
theorem d_Mo_both_78 : decode yMo_both.2.1 78 = .ok (.aload_n 0, 1) := by decide +kernel
theorem d_Mo_both_79 : decode yMo_both.2.1 79 = .ok (.getfield 95, 3) := by decide +kernel
theorem d_Mo_both_82 : decode yMo_both.2.1 82 = .ok (.iload_n 2, 1) := by decide +kernel
theorem d_Mo_both_83 : decode yMo_both.2.1 83 = .ok (.iaload, 1) := by decide +kernel
theorem d_Mo_both_84 : decode yMo_both.2.1 84 = .ok (.isub, 1) := by decide +kernel
theorem d_Mo_both_85 : decode yMo_both.2.1 85 = .ok (.ireturn, 1) := by decide +kernel
def F_Mo_both (x1 : Int32) (I : gb_Mem) : Option (Int32 × gb_Mem) :=
  fstf I 0 0 0 fun I1 =>
  if (F_Mo_isIn x1 0 2 I1) = 0 then
    some ((-1), I1)
  else
    fbd (F_Mo_findsBoth  I1) fun I2 =>
    flt ((13 * (I2 26 0)) + (I2 26 1)) fun y3 =>
    if x1 = 0 then
      flod I2 28 169 y3 fun v6 =>
      some (v6, I2)
    else
      if x1 = 1 then
        flod I2 29 169 y3 fun v5 =>
        some (v5, I2)
      else
        flod I2 28 169 y3 fun v4 =>
        some (((I2 26 0) + (I2 26 1)) - v4, I2)
set_option maxRecDepth 4000 in
theorem c_Mo_both (l : Launch) (d0 : Nat) (x1 : Int32) (I : gb_Mem) {rz : Int32} {Iz : gb_Mem} (h : F_Mo_both x1 I = some (rz, Iz)) : gb_Cs l yMo_both (d0 + 2) [.inr (some 0), .inl x1] shM I (some (.inl rz)) Iz := by
  refine gb_Ct.of (lv := [(0, .inr (some 0)), (1, .inl x1)]) rfl (Nat.le_of_ble_eq_true rfl) rfl ?_
  unfold F_Mo_both at h
  show gb_Go l yMo_both (d0 + 2) 0 0 0 [(0, .inr (some 0)), (1, .inl x1)] [] shM I (gb_po shM (some (.inl rz)) Iz)
  refine go_aload_n (k := 0) d_Mo_both_0 rfl rfl ?_
  refine go_iconst (v := 0) d_Mo_both_1 (by decide) ?_
  obtain ⟨I1, eI1, h⟩ := fstf_e h
  refine go_putT (ci := 10) (k := 0) (I' := I1) d_Mo_both_2 a_M_0 rfl (by decide) f_Mo_137 rfl rfl rfl rfl rfl eI1 ?_
  refine go_aload_n (k := 0) d_Mo_both_5 rfl rfl ?_
  refine go_iload_n (k := 1) d_Mo_both_6 rfl rfl ?_
  refine go_iconst (v := 0) d_Mo_both_7 (by decide) ?_
  refine go_iconst (v := 2) d_Mo_both_8 (by decide) ?_
  refine go_callV (y := yMo_isIn) (asr := [.inl x1, .inl 0, .inl 2]) (v := some (.inl (F_Mo_isIn x1 0 2 I1))) (I' := I1) (st1 := [.inl (F_Mo_isIn x1 0 2 I1)]) d_Mo_both_9 s_yMo_isIn m_Mo_157 a_M_0 rfl rfl rfl (Nat.le_of_ble_eq_true rfl) rfl rfl (c_Mo_isIn l (d0 + 1) x1 0 2 I1) ?_
  refine go_if_ne (tgt := 17) d_Mo_both_12 (by decide) (fun hc => ?_) (fun hc => ?_)
  · rw [if_neg hc] at h
    refine go_aload_n (k := 0) d_Mo_both_17 rfl rfl ?_
    obtain ⟨I2, w1, h⟩ := fbd_e h
    refine go_callV (y := yMo_findsBoth) (asr := []) (v := none) (I' := I2) (st1 := []) d_Mo_both_18 s_yMo_findsBoth m_Mo_429 a_M_0 rfl rfl rfl (Nat.le_of_ble_eq_true rfl) rfl rfl (c_Mo_findsBoth l (d0 + 0)  I1 w1) ?_
    refine go_bipush (v := 13) d_Mo_both_21 (by decide) ?_
    refine go_aload_n (k := 0) d_Mo_both_23 rfl rfl ?_
    refine go_getr (ci := 10) (k := 46) (r := 26) d_Mo_both_24 a_M_0 rfl (by decide) f_Mo_89 rfl ?_
    refine go_iconst (v := 0) d_Mo_both_27 (by decide) ?_
    refine go_iald2 (v := I2 26 0) d_Mo_both_28 a_M_26 (inb_iff.mp (by decide)) rfl ?_
    refine go_imul d_Mo_both_29 ?_
    refine go_aload_n (k := 0) d_Mo_both_30 rfl rfl ?_
    refine go_getr (ci := 10) (k := 46) (r := 26) d_Mo_both_31 a_M_0 rfl (by decide) f_Mo_89 rfl ?_
    refine go_iconst (v := 1) d_Mo_both_34 (by decide) ?_
    refine go_iald2 (v := I2 26 1) d_Mo_both_35 a_M_26 (inb_iff.mp (by decide)) rfl ?_
    refine go_iadd d_Mo_both_36 ?_
    obtain ⟨y3, ey3, h⟩ := flt_e h
    refine go_top ey3 ?_
    refine go_istore_n (lv' := [(2, .inl y3), (0, .inr (some 0)), (1, .inl x1)]) d_Mo_both_37 rfl (by decide) rfl ?_
    refine go_iload_n (k := 2) d_Mo_both_38 rfl rfl ?_
    refine go_if_ne (tgt := 51) d_Mo_both_39 (by decide) (fun hc => ?_) (fun hc => ?_)
    · rw [if_neg hc] at h
      refine go_iload_n (k := 2) d_Mo_both_51 rfl rfl ?_
      refine go_iconst (v := 1) d_Mo_both_52 (by decide) ?_
      refine go_cmp_ne (tgt := 65) d_Mo_both_53 (by decide) (fun hc => ?_) (fun hc => ?_)
      · rw [if_neg hc] at h
        refine go_aload_n (k := 1) d_Mo_both_65 rfl rfl ?_
        refine go_getr (ci := 10) (k := 46) (r := 26) d_Mo_both_66 a_M_0 rfl (by decide) f_Mo_89 rfl ?_
        refine go_iconst (v := 0) d_Mo_both_69 (by decide) ?_
        refine go_iald2 (v := I2 26 0) d_Mo_both_70 a_M_26 (inb_iff.mp (by decide)) rfl ?_
        refine go_aload_n (k := 1) d_Mo_both_71 rfl rfl ?_
        refine go_getr (ci := 10) (k := 46) (r := 26) d_Mo_both_72 a_M_0 rfl (by decide) f_Mo_89 rfl ?_
        refine go_iconst (v := 1) d_Mo_both_75 (by decide) ?_
        refine go_iald2 (v := I2 26 1) d_Mo_both_76 a_M_26 (inb_iff.mp (by decide)) rfl ?_
        refine go_iadd d_Mo_both_77 ?_
        refine go_aload_n (k := 1) d_Mo_both_78 rfl rfl ?_
        refine go_getr (ci := 10) (k := 48) (r := 28) d_Mo_both_79 a_M_0 rfl (by decide) f_Mo_95 rfl ?_
        refine go_iload_n (k := 0) d_Mo_both_82 rfl rfl ?_
        obtain ⟨hi, v4, ev4, h⟩ := flod_e h
        refine go_iald2 d_Mo_both_83 a_M_28 hi ev4 ?_
        refine go_isub d_Mo_both_84 ?_
        cases h
        exact go_ireturn d_Mo_both_85 rfl gb_po_i
      · rw [if_pos hc] at h
        refine go_aload_n (k := 1) d_Mo_both_56 rfl rfl ?_
        refine go_getr (ci := 10) (k := 49) (r := 29) d_Mo_both_57 a_M_0 rfl (by decide) f_Mo_98 rfl ?_
        refine go_iload_n (k := 0) d_Mo_both_60 rfl rfl ?_
        obtain ⟨hi, v5, ev5, h⟩ := flod_e h
        refine go_iald2 d_Mo_both_61 a_M_29 hi ev5 ?_
        refine go_goto (tgt := 85) d_Mo_both_62 (by decide) ?_
        cases h
        exact go_ireturn d_Mo_both_85 rfl gb_po_i
    · rw [if_pos hc] at h
      refine go_aload_n (k := 1) d_Mo_both_42 rfl rfl ?_
      refine go_getr (ci := 10) (k := 48) (r := 28) d_Mo_both_43 a_M_0 rfl (by decide) f_Mo_95 rfl ?_
      refine go_iload_n (k := 0) d_Mo_both_46 rfl rfl ?_
      obtain ⟨hi, v6, ev6, h⟩ := flod_e h
      refine go_iald2 d_Mo_both_47 a_M_28 hi ev6 ?_
      refine go_goto (tgt := 85) d_Mo_both_48 (by decide) ?_
      cases h
      exact go_ireturn d_Mo_both_85 rfl gb_po_i
  · rw [if_pos hc] at h
    refine go_iconst (v := (-1)) d_Mo_both_15 (by decide) ?_
    cases h
    exact go_ireturn d_Mo_both_16 rfl gb_po_i
theorem d_Mo_candles_0 : decode yMo_candles.2.1 0 = .ok (.aload_n 0, 1) := by decide +kernel
theorem d_Mo_candles_1 : decode yMo_candles.2.1 1 = .ok (.iconst 0, 1) := by decide +kernel
theorem d_Mo_candles_2 : decode yMo_candles.2.1 2 = .ok (.putfield 137, 3) := by decide +kernel
theorem d_Mo_candles_5 : decode yMo_candles.2.1 5 = .ok (.aload_n 0, 1) := by decide +kernel
theorem d_Mo_candles_6 : decode yMo_candles.2.1 6 = .ok (.iload_n 1, 1) := by decide +kernel
theorem d_Mo_candles_7 : decode yMo_candles.2.1 7 = .ok (.iconst 0, 1) := by decide +kernel
theorem d_Mo_candles_8 : decode yMo_candles.2.1 8 = .ok (.sipush 4095, 3) := by decide +kernel
theorem d_Mo_candles_11 : decode yMo_candles.2.1 11 = .ok (.invokevirtual 157, 3) := by decide +kernel
theorem d_Mo_candles_14 : decode yMo_candles.2.1 14 = .ok (.ifCond .eq 24, 3) := by decide +kernel
theorem d_Mo_candles_17 : decode yMo_candles.2.1 17 = .ok (.aload_n 0, 1) := by decide +kernel
theorem d_Mo_candles_18 : decode yMo_candles.2.1 18 = .ok (.iload_n 2, 1) := by decide +kernel
theorem d_Mo_candles_19 : decode yMo_candles.2.1 19 = .ok (.iconst 0, 1) := by decide +kernel
theorem d_Mo_candles_20 : decode yMo_candles.2.1 20 = .ok (.bipush 11, 2) := by decide +kernel
theorem d_Mo_candles_22 : decode yMo_candles.2.1 22 = .ok (.invokevirtual 157, 3) := by decide +kernel
theorem d_Mo_candles_25 : decode yMo_candles.2.1 25 = .ok (.ifCond .eq 13, 3) := by decide +kernel
theorem d_Mo_candles_28 : decode yMo_candles.2.1 28 = .ok (.aload_n 0, 1) := by decide +kernel
theorem d_Mo_candles_29 : decode yMo_candles.2.1 29 = .ok (.iload_n 3, 1) := by decide +kernel
theorem d_Mo_candles_30 : decode yMo_candles.2.1 30 = .ok (.iconst 0, 1) := by decide +kernel
theorem d_Mo_candles_31 : decode yMo_candles.2.1 31 = .ok (.iconst 1, 1) := by decide +kernel
theorem d_Mo_candles_32 : decode yMo_candles.2.1 32 = .ok (.invokevirtual 157, 3) := by decide +kernel
theorem d_Mo_candles_35 : decode yMo_candles.2.1 35 = .ok (.ifCond .ne 5, 3) := by decide +kernel
theorem d_Mo_candles_38 : decode yMo_candles.2.1 38 = .ok (.iconst (-1), 1) := by decide +kernel
theorem d_Mo_candles_39 : decode yMo_candles.2.1 39 = .ok (.ireturn, 1) := by decide +kernel
theorem d_Mo_candles_40 : decode yMo_candles.2.1 40 = .ok (.aload_n 0, 1) := by decide +kernel
theorem d_Mo_candles_41 : decode yMo_candles.2.1 41 = .ok (.iload_n 1, 1) := by decide +kernel
theorem d_Mo_candles_42 : decode yMo_candles.2.1 42 = .ok (.iload_n 2, 1) := by decide +kernel
theorem d_Mo_candles_43 : decode yMo_candles.2.1 43 = .ok (.invokevirtual 435, 3) := by decide +kernel
theorem d_Mo_candles_46 : decode yMo_candles.2.1 46 = .ok (.istore 4, 2) := by decide +kernel
theorem d_Mo_candles_48 : decode yMo_candles.2.1 48 = .ok (.sipush 4095, 3) := by decide +kernel
theorem d_Mo_candles_51 : decode yMo_candles.2.1 51 = .ok (.istore 5, 2) := by decide +kernel
theorem d_Mo_candles_53 : decode yMo_candles.2.1 53 = .ok (.iconst 0, 1) := by decide +kernel
theorem d_Mo_candles_54 : decode yMo_candles.2.1 54 = .ok (.istore 6, 2) := by decide +kernel
theorem d_Mo_candles_56 : decode yMo_candles.2.1 56 = .ok (.iload 6, 2) := by decide +kernel
theorem d_Mo_candles_58 : decode yMo_candles.2.1 58 = .ok (.sipush 4096, 3) := by decide +kernel
theorem d_Mo_candles_61 : decode yMo_candles.2.1 61 = .ok (.if_icmp .ge 44, 3) := by decide +kernel
theorem d_Mo_candles_64 : decode yMo_candles.2.1 64 = .ok (.aload_n 0, 1) := by decide +kernel
theorem d_Mo_candles_65 : decode yMo_candles.2.1 65 = .ok (.iload 6, 2) := by decide +kernel
theorem d_Mo_candles_67 : decode yMo_candles.2.1 67 = .ok (.invokevirtual 438, 3) := by decide +kernel
theorem d_Mo_candles_70 : decode yMo_candles.2.1 70 = .ok (.aload_n 0, 1) := by decide +kernel
theorem d_Mo_candles_71 : decode yMo_candles.2.1 71 = .ok (.iload 5, 2) := by decide +kernel
theorem d_Mo_candles_73 : decode yMo_candles.2.1 73 = .ok (.invokevirtual 438, 3) := by decide +kernel
theorem d_Mo_candles_76 : decode yMo_candles.2.1 76 = .ok (.if_icmp .ge 23, 3) := by decide +kernel
theorem d_Mo_candles_79 : decode yMo_candles.2.1 79 = .ok (.iload 4, 2) := by decide +kernel
theorem d_Mo_candles_81 : decode yMo_candles.2.1 81 = .ok (.aload_n 0, 1) := by decide +kernel
theorem d_Mo_candles_82 : decode yMo_candles.2.1 82 = .ok (.iload 6, 2) := by decide +kernel
theorem d_Mo_candles_84 : decode yMo_candles.2.1 84 = .ok (.iload_n 2, 1) := by decide +kernel
theorem d_Mo_candles_85 : decode yMo_candles.2.1 85 = .ok (.invokevirtual 435, 3) := by decide +kernel
theorem d_Mo_candles_88 : decode yMo_candles.2.1 88 = .ok (.ior, 1) := by decide +kernel
theorem d_Mo_candles_89 : decode yMo_candles.2.1 89 = .ok (.sipush 4095, 3) := by decide +kernel
theorem d_Mo_candles_92 : decode yMo_candles.2.1 92 = .ok (.if_icmp .ne 7, 3) := by decide +kernel
theorem d_Mo_candles_95 : decode yMo_candles.2.1 95 = .ok (.iload 6, 2) := by decide +kernel
theorem d_Mo_candles_97 : decode yMo_candles.2.1 97 = .ok (.istore 5, 2) := by decide +kernel
theorem d_Mo_candles_99 : decode yMo_candles.2.1 99 = .ok (.iinc 6 1, 3) := by decide +kernel
theorem d_Mo_candles_102 : decode yMo_candles.2.1 102 = .ok (.goto (-46), 3) := by decide +kernel
theorem d_Mo_candles_105 : decode yMo_candles.2.1 105 = .ok (.iload_n 3, 1) := by decide +kernel
theorem d_Mo_candles_106 : decode yMo_candles.2.1 106 = .ok (.ifCond .ne 12, 3) := by decide +kernel
theorem d_Mo_candles_109 : decode yMo_candles.2.1 109 = .ok (.aload_n 0, 1) := by decide +kernel
theorem d_Mo_candles_110 : decode yMo_candles.2.1 110 = .ok (.iload 5, 2) := by decide +kernel
theorem d_Mo_candles_112 : decode yMo_candles.2.1 112 = .ok (.invokevirtual 438, 3) := by decide +kernel
theorem d_Mo_candles_115 : decode yMo_candles.2.1 115 = .ok (.goto 5, 3) := by decide +kernel
theorem d_Mo_candles_118 : decode yMo_candles.2.1 118 = .ok (.iload 5, 2) := by decide +kernel
theorem d_Mo_candles_120 : decode yMo_candles.2.1 120 = .ok (.ireturn, 1) := by decide +kernel
def J_Mo_candles_99 (k : Int32 → Int32 → Option (Int32)) (x2 x3 x4 x5 x6 : Int32) (I : gb_Mem) : Option (Int32) :=
  k x5 (x6 + 1)
set_option maxRecDepth 4000 in
theorem j_Mo_candles_99 (l : Launch) (d0 : Nat) {post : Option gb_AV → List gb_Ce → gb_Mem → Prop} (k : Int32 → Int32 → Option (Int32)) (x2 x3 x4 x5 x6 : Int32) (I : gb_Mem) {ρ : Int32} (h : J_Mo_candles_99 k x2 x3 x4 x5 x6 I = some ρ) (hk : ∀ (z5 z6 : Int32), k z5 z6 = some ρ → gb_Go l yMo_candles (d0 + 2) 0 0 56 [(0, .inr (some 0)), (2, .inl x2), (3, .inl x3), (4, .inl x4), (5, .inl z5), (6, .inl z6)] [] shM I post) (hX : ∀ (o5 : Int32), ρ = o5 → gb_Go l yMo_candles (d0 + 2) 0 0 105 [(0, .inr (some 0)), (3, .inl x3), (5, .inl o5)] [] shM I post) : gb_Go l yMo_candles (d0 + 2) 0 0 99 [(0, .inr (some 0)), (2, .inl x2), (3, .inl x3), (4, .inl x4), (5, .inl x5), (6, .inl x6)] [] shM I post := by
  unfold J_Mo_candles_99 at h
  refine go_iinc (k := 5) (v := x6 + 1) (lv' := [(6, .inl (x6 + 1)), (0, .inr (some 0)), (2, .inl x2), (3, .inl x3), (4, .inl x4), (5, .inl x5)]) d_Mo_candles_99 rfl rfl (by decide) rfl ?_
  refine go_goto (tgt := 56) d_Mo_candles_102 (by decide) ?_
  exact go_lv [1, 2, 3, 4, 5, 0] rfl (hk _ _ h)
def L_Mo_candles_56 (x2 x3 x4 : Int32) (I : gb_Mem) : Nat → Int32 → Int32 → Option (Int32)
  | 0, _, _ => none
  | n + 1, x5, x6 =>
    if 4096 ≤ x6 then
      some x5
    else
      fbd (F_Mo_onesOf x6 I) fun r3 =>
      fbd (F_Mo_onesOf x5 I) fun r4 =>
      if r4 ≤ r3 then
        J_Mo_candles_99 (L_Mo_candles_56 x2 x3 x4 I n) x2 x3 x4 x5 x6 I
      else
        fbd (F_Mo_litBy x6 x2 I) fun r5 =>
        if (x4 ||| r5) = 4095 then
          J_Mo_candles_99 (L_Mo_candles_56 x2 x3 x4 I n) x2 x3 x4 x6 x6 I
        else
          J_Mo_candles_99 (L_Mo_candles_56 x2 x3 x4 I n) x2 x3 x4 x5 x6 I
set_option maxRecDepth 4000 in
theorem l_Mo_candles_56 (l : Launch) (d0 : Nat) (x2 x3 x4 : Int32) (I : gb_Mem) {post : Option gb_AV → List gb_Ce → gb_Mem → Prop} : ∀ (n : Nat) (x5 x6 : Int32) {ρ : Int32} (h : L_Mo_candles_56 x2 x3 x4 I n x5 x6 = some ρ) (hX : ∀ (o5 : Int32), ρ = o5 → gb_Go l yMo_candles (d0 + 2) 0 0 105 [(0, .inr (some 0)), (3, .inl x3), (5, .inl o5)] [] shM I post) , gb_Go l yMo_candles (d0 + 2) 0 0 56 [(0, .inr (some 0)), (2, .inl x2), (3, .inl x3), (4, .inl x4), (5, .inl x5), (6, .inl x6)] [] shM I post := by
  intro n
  induction n with
  | zero => intro x5 x6 ρ h hX; cases h
  | succ n ih =>
    intro x5 x6 ρ h hX
    rw [L_Mo_candles_56] at h
    refine go_iload (k := 5) d_Mo_candles_56 rfl ?_
    refine go_sipush (v := 4096) d_Mo_candles_58 (by decide) ?_
    refine go_cmp_ge (tgt := 105) d_Mo_candles_61 (by decide) (fun hc => ?_) (fun hc => ?_)
    · rw [if_pos hc] at h
      exact go_lv [0, 2, 4] rfl (hX _ (Option.some.inj h).symm)
    · rw [if_neg hc] at h
      refine go_aload_n (k := 0) d_Mo_candles_64 rfl rfl ?_
      refine go_iload (k := 5) d_Mo_candles_65 rfl ?_
      obtain ⟨r3, w1, h⟩ := fbd_e h
      refine go_callV (y := yMo_onesOf) (asr := [.inl x6]) (v := some (.inl r3)) (I' := I) (st1 := [.inl r3]) d_Mo_candles_67 s_yMo_onesOf m_Mo_438 a_M_0 rfl rfl rfl (Nat.le_of_ble_eq_true rfl) rfl rfl (c_Mo_onesOf l (d0 + 1) x6 I w1) ?_
      refine go_aload_n (k := 0) d_Mo_candles_70 rfl rfl ?_
      refine go_iload (k := 4) d_Mo_candles_71 rfl ?_
      obtain ⟨r4, w1, h⟩ := fbd_e h
      refine go_callV (y := yMo_onesOf) (asr := [.inl x5]) (v := some (.inl r4)) (I' := I) (st1 := [.inl r4, .inl r3]) d_Mo_candles_73 s_yMo_onesOf m_Mo_438 a_M_0 rfl rfl rfl (Nat.le_of_ble_eq_true rfl) rfl rfl (c_Mo_onesOf l (d0 + 1) x5 I w1) ?_
      refine go_cmp_ge (tgt := 99) d_Mo_candles_76 (by decide) (fun hc => ?_) (fun hc => ?_)
      · rw [if_pos hc] at h
        exact go_lv [0, 1, 2, 3, 4, 5] rfl (j_Mo_candles_99 l d0 (L_Mo_candles_56 x2 x3 x4 I n) x2 x3 x4 x5 x6 I h (fun z5 z6 hh => ih z5 z6 hh hX) hX)
      · rw [if_neg hc] at h
        refine go_iload (k := 3) d_Mo_candles_79 rfl ?_
        refine go_aload_n (k := 0) d_Mo_candles_81 rfl rfl ?_
        refine go_iload (k := 5) d_Mo_candles_82 rfl ?_
        refine go_iload_n (k := 1) d_Mo_candles_84 rfl rfl ?_
        obtain ⟨r5, w1, h⟩ := fbd_e h
        refine go_callV (y := yMo_litBy) (asr := [.inl x6, .inl x2]) (v := some (.inl r5)) (I' := I) (st1 := [.inl r5, .inl x4]) d_Mo_candles_85 s_yMo_litBy m_Mo_435 a_M_0 rfl rfl rfl (Nat.le_of_ble_eq_true rfl) rfl rfl (c_Mo_litBy l (d0 + 0) x6 x2 I w1) ?_
        refine go_ior d_Mo_candles_88 ?_
        refine go_sipush (v := 4095) d_Mo_candles_89 (by decide) ?_
        refine go_cmp_ne (tgt := 99) d_Mo_candles_92 (by decide) (fun hc => ?_) (fun hc => ?_)
        · rw [if_neg hc] at h
          exact go_lv [0, 1, 2, 3, 4, 5] rfl (j_Mo_candles_99 l d0 (L_Mo_candles_56 x2 x3 x4 I n) x2 x3 x4 x5 x6 I h (fun z5 z6 hh => ih z5 z6 hh hX) hX)
        · rw [if_pos hc] at h
          refine go_iload (k := 5) d_Mo_candles_95 rfl ?_
          refine go_istore (lv' := [(5, .inl x6), (0, .inr (some 0)), (2, .inl x2), (3, .inl x3), (4, .inl x4), (6, .inl x6)]) d_Mo_candles_97 (by decide) rfl ?_
          exact go_lv [1, 2, 3, 4, 0, 5] rfl (j_Mo_candles_99 l d0 (L_Mo_candles_56 x2 x3 x4 I n) x2 x3 x4 x6 x6 I h (fun z5 z6 hh => ih z5 z6 hh hX) hX)
def F_Mo_candles (x1 x2 x3 : Int32) (I : gb_Mem) : Option (Int32 × gb_Mem) :=
  fstf I 0 0 0 fun I1 =>
  if (F_Mo_isIn x1 0 4095 I1) = 0 then
    some ((-1), I1)
  else
    if (F_Mo_isIn x2 0 11 I1) = 0 then
      some ((-1), I1)
    else
      if (F_Mo_isIn x3 0 1 I1) = 0 then
        some ((-1), I1)
      else
        fbd (F_Mo_litBy x1 x2 I1) fun r2 =>
        fbd (L_Mo_candles_56 x2 x3 r2 I1 5000 4095 0) fun o6 =>
        if x3 = 0 then
          fbd (F_Mo_onesOf o6 I1) fun r7 =>
          some (r7, I1)
        else
          some (o6, I1)
set_option maxRecDepth 4000 in
theorem c_Mo_candles (l : Launch) (d0 : Nat) (x1 x2 x3 : Int32) (I : gb_Mem) {rz : Int32} {Iz : gb_Mem} (h : F_Mo_candles x1 x2 x3 I = some (rz, Iz)) : gb_Cs l yMo_candles (d0 + 2) [.inr (some 0), .inl x1, .inl x2, .inl x3] shM I (some (.inl rz)) Iz := by
  refine gb_Ct.of (lv := [(0, .inr (some 0)), (1, .inl x1), (2, .inl x2), (3, .inl x3)]) rfl (Nat.le_of_ble_eq_true rfl) rfl ?_
  unfold F_Mo_candles at h
  show gb_Go l yMo_candles (d0 + 2) 0 0 0 [(0, .inr (some 0)), (1, .inl x1), (2, .inl x2), (3, .inl x3)] [] shM I (gb_po shM (some (.inl rz)) Iz)
  refine go_aload_n (k := 0) d_Mo_candles_0 rfl rfl ?_
  refine go_iconst (v := 0) d_Mo_candles_1 (by decide) ?_
  obtain ⟨I1, eI1, h⟩ := fstf_e h
  refine go_putT (ci := 10) (k := 0) (I' := I1) d_Mo_candles_2 a_M_0 rfl (by decide) f_Mo_137 rfl rfl rfl rfl rfl eI1 ?_
  refine go_aload_n (k := 0) d_Mo_candles_5 rfl rfl ?_
  refine go_iload_n (k := 1) d_Mo_candles_6 rfl rfl ?_
  refine go_iconst (v := 0) d_Mo_candles_7 (by decide) ?_
  refine go_sipush (v := 4095) d_Mo_candles_8 (by decide) ?_
  refine go_callV (y := yMo_isIn) (asr := [.inl x1, .inl 0, .inl 4095]) (v := some (.inl (F_Mo_isIn x1 0 4095 I1))) (I' := I1) (st1 := [.inl (F_Mo_isIn x1 0 4095 I1)]) d_Mo_candles_11 s_yMo_isIn m_Mo_157 a_M_0 rfl rfl rfl (Nat.le_of_ble_eq_true rfl) rfl rfl (c_Mo_isIn l (d0 + 1) x1 0 4095 I1) ?_
  refine go_if_eq (tgt := 38) d_Mo_candles_14 (by decide) (fun hc => ?_) (fun hc => ?_)
  · rw [if_pos hc] at h
    refine go_iconst (v := (-1)) d_Mo_candles_38 (by decide) ?_
    cases h
    exact go_ireturn d_Mo_candles_39 rfl gb_po_i
  · rw [if_neg hc] at h
    refine go_aload_n (k := 0) d_Mo_candles_17 rfl rfl ?_
    refine go_iload_n (k := 2) d_Mo_candles_18 rfl rfl ?_
    refine go_iconst (v := 0) d_Mo_candles_19 (by decide) ?_
    refine go_bipush (v := 11) d_Mo_candles_20 (by decide) ?_
    refine go_callV (y := yMo_isIn) (asr := [.inl x2, .inl 0, .inl 11]) (v := some (.inl (F_Mo_isIn x2 0 11 I1))) (I' := I1) (st1 := [.inl (F_Mo_isIn x2 0 11 I1)]) d_Mo_candles_22 s_yMo_isIn m_Mo_157 a_M_0 rfl rfl rfl (Nat.le_of_ble_eq_true rfl) rfl rfl (c_Mo_isIn l (d0 + 1) x2 0 11 I1) ?_
    refine go_if_eq (tgt := 38) d_Mo_candles_25 (by decide) (fun hc => ?_) (fun hc => ?_)
    · rw [if_pos hc] at h
      refine go_iconst (v := (-1)) d_Mo_candles_38 (by decide) ?_
      cases h
      exact go_ireturn d_Mo_candles_39 rfl gb_po_i
    · rw [if_neg hc] at h
      refine go_aload_n (k := 0) d_Mo_candles_28 rfl rfl ?_
      refine go_iload_n (k := 3) d_Mo_candles_29 rfl rfl ?_
      refine go_iconst (v := 0) d_Mo_candles_30 (by decide) ?_
      refine go_iconst (v := 1) d_Mo_candles_31 (by decide) ?_
      refine go_callV (y := yMo_isIn) (asr := [.inl x3, .inl 0, .inl 1]) (v := some (.inl (F_Mo_isIn x3 0 1 I1))) (I' := I1) (st1 := [.inl (F_Mo_isIn x3 0 1 I1)]) d_Mo_candles_32 s_yMo_isIn m_Mo_157 a_M_0 rfl rfl rfl (Nat.le_of_ble_eq_true rfl) rfl rfl (c_Mo_isIn l (d0 + 1) x3 0 1 I1) ?_
      refine go_if_ne (tgt := 40) d_Mo_candles_35 (by decide) (fun hc => ?_) (fun hc => ?_)
      · rw [if_neg hc] at h
        refine go_aload_n (k := 0) d_Mo_candles_40 rfl rfl ?_
        refine go_iload_n (k := 1) d_Mo_candles_41 rfl rfl ?_
        refine go_iload_n (k := 2) d_Mo_candles_42 rfl rfl ?_
        obtain ⟨r2, w1, h⟩ := fbd_e h
        refine go_callV (y := yMo_litBy) (asr := [.inl x1, .inl x2]) (v := some (.inl r2)) (I' := I1) (st1 := [.inl r2]) d_Mo_candles_43 s_yMo_litBy m_Mo_435 a_M_0 rfl rfl rfl (Nat.le_of_ble_eq_true rfl) rfl rfl (c_Mo_litBy l (d0 + 0) x1 x2 I1 w1) ?_
        refine go_istore (lv' := [(4, .inl r2), (0, .inr (some 0)), (1, .inl x1), (2, .inl x2), (3, .inl x3)]) d_Mo_candles_46 (by decide) rfl ?_
        refine go_sipush (v := 4095) d_Mo_candles_48 (by decide) ?_
        refine go_istore (lv' := [(5, .inl 4095), (4, .inl r2), (0, .inr (some 0)), (1, .inl x1), (2, .inl x2), (3, .inl x3)]) d_Mo_candles_51 (by decide) rfl ?_
        refine go_iconst (v := 0) d_Mo_candles_53 (by decide) ?_
        refine go_istore (lv' := [(6, .inl 0), (5, .inl 4095), (4, .inl r2), (0, .inr (some 0)), (1, .inl x1), (2, .inl x2), (3, .inl x3)]) d_Mo_candles_54 (by decide) rfl ?_
        refine go_lv [3, 5, 6, 2, 1, 0] (lv' := [(0, .inr (some 0)), (2, .inl x2), (3, .inl x3), (4, .inl r2), (5, .inl 4095), (6, .inl 0)]) rfl ?_
        obtain ⟨o6, w1, h⟩ := fbd_e h
        refine l_Mo_candles_56 l d0 x2 x3 r2 I1 5000 4095 0 w1 (fun o6_ e => ?_)
        cases e
        refine go_iload_n (k := 1) d_Mo_candles_105 rfl rfl ?_
        refine go_if_ne (tgt := 118) d_Mo_candles_106 (by decide) (fun hc => ?_) (fun hc => ?_)
        · rw [if_neg hc] at h
          refine go_iload (k := 2) d_Mo_candles_118 rfl ?_
          cases h
          exact go_ireturn d_Mo_candles_120 rfl gb_po_i
        · rw [if_pos hc] at h
          refine go_aload_n (k := 0) d_Mo_candles_109 rfl rfl ?_
          refine go_iload (k := 2) d_Mo_candles_110 rfl ?_
          obtain ⟨r7, w1, h⟩ := fbd_e h
          refine go_callV (y := yMo_onesOf) (asr := [.inl o6]) (v := some (.inl r7)) (I' := I1) (st1 := [.inl r7]) d_Mo_candles_112 s_yMo_onesOf m_Mo_438 a_M_0 rfl rfl rfl (Nat.le_of_ble_eq_true rfl) rfl rfl (c_Mo_onesOf l (d0 + 1) o6 I1 w1) ?_
          refine go_goto (tgt := 120) d_Mo_candles_115 (by decide) ?_
          cases h
          exact go_ireturn d_Mo_candles_120 rfl gb_po_i
      · rw [if_pos hc] at h
        refine go_iconst (v := (-1)) d_Mo_candles_38 (by decide) ?_
        cases h
        exact go_ireturn d_Mo_candles_39 rfl gb_po_i
theorem d_Mo_comesRound_0 : decode yMo_comesRound.2.1 0 = .ok (.aload_n 0, 1) := by decide +kernel
theorem d_Mo_comesRound_1 : decode yMo_comesRound.2.1 1 = .ok (.getfield 113, 3) := by decide +kernel
theorem d_Mo_comesRound_4 : decode yMo_comesRound.2.1 4 = .ok (.iload_n 1, 1) := by decide +kernel
theorem d_Mo_comesRound_5 : decode yMo_comesRound.2.1 5 = .ok (.iaload, 1) := by decide +kernel
theorem d_Mo_comesRound_6 : decode yMo_comesRound.2.1 6 = .ok (.istore_n 2, 1) := by decide +kernel
theorem d_Mo_comesRound_7 : decode yMo_comesRound.2.1 7 = .ok (.iconst 0, 1) := by decide +kernel
theorem d_Mo_comesRound_8 : decode yMo_comesRound.2.1 8 = .ok (.istore_n 3, 1) := by decide +kernel
theorem d_Mo_comesRound_9 : decode yMo_comesRound.2.1 9 = .ok (.iload_n 3, 1) := by decide +kernel
theorem d_Mo_comesRound_10 : decode yMo_comesRound.2.1 10 = .ok (.bipush 8, 2) := by decide +kernel
theorem d_Mo_comesRound_12 : decode yMo_comesRound.2.1 12 = .ok (.if_icmp .ge 17, 3) := by decide +kernel
theorem d_Mo_comesRound_15 : decode yMo_comesRound.2.1 15 = .ok (.iload_n 2, 1) := by decide +kernel
theorem d_Mo_comesRound_16 : decode yMo_comesRound.2.1 16 = .ok (.aload_n 0, 1) := by decide +kernel
theorem d_Mo_comesRound_17 : decode yMo_comesRound.2.1 17 = .ok (.iload_n 2, 1) := by decide +kernel
theorem d_Mo_comesRound_18 : decode yMo_comesRound.2.1 18 = .ok (.invokevirtual 459, 3) := by decide +kernel
theorem d_Mo_comesRound_21 : decode yMo_comesRound.2.1 21 = .ok (.ior, 1) := by decide +kernel
theorem d_Mo_comesRound_22 : decode yMo_comesRound.2.1 22 = .ok (.istore_n 2, 1) := by decide +kernel
theorem d_Mo_comesRound_23 : decode yMo_comesRound.2.1 23 = .ok (.iinc 3 1, 3) := by decide +kernel
theorem d_Mo_comesRound_26 : decode yMo_comesRound.2.1 26 = .ok (.goto (-17), 3) := by decide +kernel
theorem d_Mo_comesRound_29 : decode yMo_comesRound.2.1 29 = .ok (.aload_n 0, 1) := by decide +kernel
theorem d_Mo_comesRound_30 : decode yMo_comesRound.2.1 30 = .ok (.iload_n 2, 1) := by decide +kernel
theorem d_Mo_comesRound_31 : decode yMo_comesRound.2.1 31 = .ok (.iload_n 1, 1) := by decide +kernel
theorem d_Mo_comesRound_32 : decode yMo_comesRound.2.1 32 = .ok (.invokevirtual 391, 3) := by decide +kernel
theorem d_Mo_comesRound_35 : decode yMo_comesRound.2.1 35 = .ok (.ireturn, 1) := by decide +kernel
def L_Mo_comesRound_9 (x1 : Int32) (I : gb_Mem) : Nat → Int32 → Int32 → Option (Int32)
  | 0, _, _ => none
  | n + 1, x2, x3 =>
    if 8 ≤ x3 then
      some x2
    else
      fbd (F_Mo_givenBy x2 I) fun r2 =>
      L_Mo_comesRound_9 x1 I n (x2 ||| r2) (x3 + 1)
set_option maxRecDepth 4000 in
theorem l_Mo_comesRound_9 (l : Launch) (d0 : Nat) (x1 : Int32) (I : gb_Mem) {post : Option gb_AV → List gb_Ce → gb_Mem → Prop} : ∀ (n : Nat) (x2 x3 : Int32) {ρ : Int32} (h : L_Mo_comesRound_9 x1 I n x2 x3 = some ρ) (hX : ∀ (o2 : Int32), ρ = o2 → gb_Go l yMo_comesRound (d0 + 2) 0 0 29 [(0, .inr (some 0)), (1, .inl x1), (2, .inl o2)] [] shM I post) , gb_Go l yMo_comesRound (d0 + 2) 0 0 9 [(0, .inr (some 0)), (1, .inl x1), (2, .inl x2), (3, .inl x3)] [] shM I post := by
  intro n
  induction n with
  | zero => intro x2 x3 ρ h hX; cases h
  | succ n ih =>
    intro x2 x3 ρ h hX
    rw [L_Mo_comesRound_9] at h
    refine go_iload_n (k := 3) d_Mo_comesRound_9 rfl rfl ?_
    refine go_bipush (v := 8) d_Mo_comesRound_10 (by decide) ?_
    refine go_cmp_ge (tgt := 29) d_Mo_comesRound_12 (by decide) (fun hc => ?_) (fun hc => ?_)
    · rw [if_pos hc] at h
      exact go_lv [0, 1, 2] rfl (hX _ (Option.some.inj h).symm)
    · rw [if_neg hc] at h
      refine go_iload_n (k := 2) d_Mo_comesRound_15 rfl rfl ?_
      refine go_aload_n (k := 0) d_Mo_comesRound_16 rfl rfl ?_
      refine go_iload_n (k := 2) d_Mo_comesRound_17 rfl rfl ?_
      obtain ⟨r2, w1, h⟩ := fbd_e h
      refine go_callV (y := yMo_givenBy) (asr := [.inl x2]) (v := some (.inl r2)) (I' := I) (st1 := [.inl r2, .inl x2]) d_Mo_comesRound_18 s_yMo_givenBy m_Mo_459 a_M_0 rfl rfl rfl (Nat.le_of_ble_eq_true rfl) rfl rfl (c_Mo_givenBy l (d0 + 0) x2 I w1) ?_
      refine go_ior d_Mo_comesRound_21 ?_
      refine go_istore_n (lv' := [(2, .inl (x2 ||| r2)), (0, .inr (some 0)), (1, .inl x1), (3, .inl x3)]) d_Mo_comesRound_22 rfl (by decide) rfl ?_
      refine go_iinc (k := 3) (v := x3 + 1) (lv' := [(3, .inl (x3 + 1)), (2, .inl (x2 ||| r2)), (0, .inr (some 0)), (1, .inl x1)]) d_Mo_comesRound_23 rfl rfl (by decide) rfl ?_
      refine go_goto (tgt := 9) d_Mo_comesRound_26 (by decide) ?_
      exact go_lv [2, 3, 1, 0] rfl (ih (x2 ||| r2) (x3 + 1) h hX)
def F_Mo_comesRound (x1 : Int32) (I : gb_Mem) : Option (Int32) :=
  flod I 34 8 x1 fun v1 =>
  fbd (L_Mo_comesRound_9 x1 I 5000 v1 0) fun o3 =>
  some (F_Mo_has o3 x1 I)
set_option maxRecDepth 4000 in
theorem c_Mo_comesRound (l : Launch) (d0 : Nat) (x1 : Int32) (I : gb_Mem) {rz : Int32} (h : F_Mo_comesRound x1 I = some rz) : gb_Cs l yMo_comesRound (d0 + 2) [.inr (some 0), .inl x1] shM I (some (.inl rz)) I := by
  refine gb_Ct.of (lv := [(0, .inr (some 0)), (1, .inl x1)]) rfl (Nat.le_of_ble_eq_true rfl) rfl ?_
  unfold F_Mo_comesRound at h
  show gb_Go l yMo_comesRound (d0 + 2) 0 0 0 [(0, .inr (some 0)), (1, .inl x1)] [] shM I (gb_po shM (some (.inl rz)) I)
  refine go_aload_n (k := 0) d_Mo_comesRound_0 rfl rfl ?_
  refine go_getr (ci := 10) (k := 57) (r := 34) d_Mo_comesRound_1 a_M_0 rfl (by decide) f_Mo_113 rfl ?_
  refine go_iload_n (k := 1) d_Mo_comesRound_4 rfl rfl ?_
  obtain ⟨hi, v1, ev1, h⟩ := flod_e h
  refine go_iald2 d_Mo_comesRound_5 a_M_34 hi ev1 ?_
  refine go_istore_n (lv' := [(2, .inl v1), (0, .inr (some 0)), (1, .inl x1)]) d_Mo_comesRound_6 rfl (by decide) rfl ?_
  refine go_iconst (v := 0) d_Mo_comesRound_7 (by decide) ?_
  refine go_istore_n (lv' := [(3, .inl 0), (2, .inl v1), (0, .inr (some 0)), (1, .inl x1)]) d_Mo_comesRound_8 rfl (by decide) rfl ?_
  refine go_lv [2, 3, 1, 0] (lv' := [(0, .inr (some 0)), (1, .inl x1), (2, .inl v1), (3, .inl 0)]) rfl ?_
  obtain ⟨o3, w1, h⟩ := fbd_e h
  refine l_Mo_comesRound_9 l d0 x1 I 5000 v1 0 w1 (fun o3_ e => ?_)
  cases e
  refine go_aload_n (k := 0) d_Mo_comesRound_29 rfl rfl ?_
  refine go_iload_n (k := 2) d_Mo_comesRound_30 rfl rfl ?_
  refine go_iload_n (k := 1) d_Mo_comesRound_31 rfl rfl ?_
  refine go_callV (y := yMo_has) (asr := [.inl o3, .inl x1]) (v := some (.inl (F_Mo_has o3 x1 I))) (I' := I) (st1 := [.inl (F_Mo_has o3 x1 I)]) d_Mo_comesRound_32 s_yMo_has m_Mo_391 a_M_0 rfl rfl rfl (Nat.le_of_ble_eq_true rfl) rfl rfl (c_Mo_has l (d0 + 1) o3 x1 I) ?_
  cases h
  exact go_zreturn d_Mo_comesRound_35 rfl (zb_Mo_has o3 x1 I) gb_po_i
theorem d_Mo_does_0 : decode yMo_does.2.1 0 = .ok (.aload_n 0, 1) := by decide +kernel
theorem d_Mo_does_1 : decode yMo_does.2.1 1 = .ok (.getfield 71, 3) := by decide +kernel
theorem d_Mo_does_4 : decode yMo_does.2.1 4 = .ok (.iload_n 1, 1) := by decide +kernel
theorem d_Mo_does_5 : decode yMo_does.2.1 5 = .ok (.iconst 1, 1) := by decide +kernel
theorem d_Mo_does_6 : decode yMo_does.2.1 6 = .ok (.iadd, 1) := by decide +kernel
theorem d_Mo_does_7 : decode yMo_does.2.1 7 = .ok (.iaload, 1) := by decide +kernel
theorem d_Mo_does_8 : decode yMo_does.2.1 8 = .ok (.istore_n 2, 1) := by decide +kernel
theorem d_Mo_does_9 : decode yMo_does.2.1 9 = .ok (.aload_n 0, 1) := by decide +kernel
theorem d_Mo_does_10 : decode yMo_does.2.1 10 = .ok (.getfield 71, 3) := by decide +kernel
theorem d_Mo_does_13 : decode yMo_does.2.1 13 = .ok (.iload_n 1, 1) := by decide +kernel
theorem d_Mo_does_14 : decode yMo_does.2.1 14 = .ok (.iconst 2, 1) := by decide +kernel
theorem d_Mo_does_15 : decode yMo_does.2.1 15 = .ok (.iadd, 1) := by decide +kernel
theorem d_Mo_does_16 : decode yMo_does.2.1 16 = .ok (.iaload, 1) := by decide +kernel
theorem d_Mo_does_17 : decode yMo_does.2.1 17 = .ok (.istore_n 3, 1) := by decide +kernel
theorem d_Mo_does_18 : decode yMo_does.2.1 18 = .ok (.iload_n 2, 1) := by decide +kernel
theorem d_Mo_does_19 : decode yMo_does.2.1 19 = .ok (.ifCond .ne 10, 3) := by decide +kernel
theorem d_Mo_does_22 : decode yMo_does.2.1 22 = .ok (.aload_n 0, 1) := by decide +kernel
theorem d_Mo_does_23 : decode yMo_does.2.1 23 = .ok (.getfield 7, 3) := by decide +kernel
theorem d_Mo_does_26 : decode yMo_does.2.1 26 = .ok (.iconst 5, 1) := by decide +kernel
theorem d_Mo_does_27 : decode yMo_does.2.1 27 = .ok (.iload_n 3, 1) := by decide +kernel
theorem d_Mo_does_28 : decode yMo_does.2.1 28 = .ok (.iastore, 1) := by decide +kernel
theorem d_Mo_does_29 : decode yMo_does.2.1 29 = .ok (.iload_n 2, 1) := by decide +kernel
theorem d_Mo_does_30 : decode yMo_does.2.1 30 = .ok (.iconst 1, 1) := by decide +kernel
theorem d_Mo_does_31 : decode yMo_does.2.1 31 = .ok (.if_icmp .ne 10, 3) := by decide +kernel
theorem d_Mo_does_34 : decode yMo_does.2.1 34 = .ok (.aload_n 0, 1) := by decide +kernel
theorem d_Mo_does_35 : decode yMo_does.2.1 35 = .ok (.getfield 7, 3) := by decide +kernel
theorem d_Mo_does_38 : decode yMo_does.2.1 38 = .ok (.iconst 4, 1) := by decide +kernel
theorem d_Mo_does_39 : decode yMo_does.2.1 39 = .ok (.iload_n 3, 1) := by decide +kernel
theorem d_Mo_does_40 : decode yMo_does.2.1 40 = .ok (.iastore, 1) := by decide +kernel
theorem d_Mo_does_41 : decode yMo_does.2.1 41 = .ok (.iload_n 2, 1) := by decide +kernel
theorem d_Mo_does_42 : decode yMo_does.2.1 42 = .ok (.iconst 2, 1) := by decide +kernel
theorem d_Mo_does_43 : decode yMo_does.2.1 43 = .ok (.if_icmp .ne 8, 3) := by decide +kernel
theorem d_Mo_does_46 : decode yMo_does.2.1 46 = .ok (.aload_n 0, 1) := by decide +kernel
theorem d_Mo_does_47 : decode yMo_does.2.1 47 = .ok (.iload_n 3, 1) := by decide +kernel
theorem d_Mo_does_48 : decode yMo_does.2.1 48 = .ok (.invokevirtual 401, 3) := by decide +kernel
theorem d_Mo_does_51 : decode yMo_does.2.1 51 = .ok (.iload_n 2, 1) := by decide +kernel
theorem d_Mo_does_52 : decode yMo_does.2.1 52 = .ok (.iconst 3, 1) := by decide +kernel
theorem d_Mo_does_53 : decode yMo_does.2.1 53 = .ok (.if_icmp .ne 30, 3) := by decide +kernel
theorem d_Mo_does_56 : decode yMo_does.2.1 56 = .ok (.aload_n 0, 1) := by decide +kernel
theorem d_Mo_does_57 : decode yMo_does.2.1 57 = .ok (.getfield 7, 3) := by decide +kernel
theorem d_Mo_does_60 : decode yMo_does.2.1 60 = .ok (.bipush 40, 2) := by decide +kernel
theorem d_Mo_does_62 : decode yMo_does.2.1 62 = .ok (.iload_n 3, 1) := by decide +kernel
theorem d_Mo_does_63 : decode yMo_does.2.1 63 = .ok (.iadd, 1) := by decide +kernel
theorem d_Mo_does_64 : decode yMo_does.2.1 64 = .ok (.aload_n 0, 1) := by decide +kernel
theorem d_Mo_does_65 : decode yMo_does.2.1 65 = .ok (.getfield 71, 3) := by decide +kernel
theorem d_Mo_does_68 : decode yMo_does.2.1 68 = .ok (.iload_n 1, 1) := by decide +kernel
theorem d_Mo_does_69 : decode yMo_does.2.1 69 = .ok (.iconst 3, 1) := by decide +kernel
theorem d_Mo_does_70 : decode yMo_does.2.1 70 = .ok (.iadd, 1) := by decide +kernel
theorem d_Mo_does_71 : decode yMo_does.2.1 71 = .ok (.iaload, 1) := by decide +kernel
theorem d_Mo_does_72 : decode yMo_does.2.1 72 = .ok (.iastore, 1) := by decide +kernel
theorem d_Mo_does_73 : decode yMo_does.2.1 73 = .ok (.aload_n 0, 1) := by decide +kernel
theorem d_Mo_does_74 : decode yMo_does.2.1 74 = .ok (.getfield 7, 3) := by decide +kernel
theorem d_Mo_does_77 : decode yMo_does.2.1 77 = .ok (.bipush 64, 2) := by decide +kernel
theorem d_Mo_does_79 : decode yMo_does.2.1 79 = .ok (.iload_n 3, 1) := by decide +kernel
theorem d_Mo_does_80 : decode yMo_does.2.1 80 = .ok (.iadd, 1) := by decide +kernel
theorem d_Mo_does_81 : decode yMo_does.2.1 81 = .ok (.iconst 0, 1) := by decide +kernel
theorem d_Mo_does_82 : decode yMo_does.2.1 82 = .ok (.iastore, 1) := by decide +kernel
theorem d_Mo_does_83 : decode yMo_does.2.1 83 = .ok (.iload_n 2, 1) := by decide +kernel
theorem d_Mo_does_84 : decode yMo_does.2.1 84 = .ok (.iconst 4, 1) := by decide +kernel
theorem d_Mo_does_85 : decode yMo_does.2.1 85 = .ok (.if_icmp .ne 23, 3) := by decide +kernel
theorem d_Mo_does_88 : decode yMo_does.2.1 88 = .ok (.aload_n 0, 1) := by decide +kernel
theorem d_Mo_does_89 : decode yMo_does.2.1 89 = .ok (.getfield 7, 3) := by decide +kernel
theorem d_Mo_does_92 : decode yMo_does.2.1 92 = .ok (.bipush 56, 2) := by decide +kernel
theorem d_Mo_does_94 : decode yMo_does.2.1 94 = .ok (.iload_n 3, 1) := by decide +kernel
theorem d_Mo_does_95 : decode yMo_does.2.1 95 = .ok (.iadd, 1) := by decide +kernel
theorem d_Mo_does_96 : decode yMo_does.2.1 96 = .ok (.iconst 1, 1) := by decide +kernel
theorem d_Mo_does_97 : decode yMo_does.2.1 97 = .ok (.aload_n 0, 1) := by decide +kernel
theorem d_Mo_does_98 : decode yMo_does.2.1 98 = .ok (.getfield 7, 3) := by decide +kernel
theorem d_Mo_does_101 : decode yMo_does.2.1 101 = .ok (.bipush 56, 2) := by decide +kernel
theorem d_Mo_does_103 : decode yMo_does.2.1 103 = .ok (.iload_n 3, 1) := by decide +kernel
theorem d_Mo_does_104 : decode yMo_does.2.1 104 = .ok (.iadd, 1) := by decide +kernel
theorem d_Mo_does_105 : decode yMo_does.2.1 105 = .ok (.iaload, 1) := by decide +kernel
theorem d_Mo_does_106 : decode yMo_does.2.1 106 = .ok (.isub, 1) := by decide +kernel
theorem d_Mo_does_107 : decode yMo_does.2.1 107 = .ok (.iastore, 1) := by decide +kernel
theorem d_Mo_does_108 : decode yMo_does.2.1 108 = .ok (.return_, 1) := by decide +kernel
def J_Mo_does_83 (x2 x3 : Int32) (I : gb_Mem) : Option (gb_Mem) :=
  if x2 = 4 then
    flod I 1 80 (56 + x3) fun v3 =>
    fsto I 1 80 (56 + x3) (1 - v3) fun I4 =>
    some I4
  else
    some I
set_option maxRecDepth 4000 in
theorem j_Mo_does_83 (l : Launch) (d0 : Nat) (x2 x3 : Int32) (I : gb_Mem) {Iz : gb_Mem} (h : J_Mo_does_83 x2 x3 I = some Iz) : gb_Go l yMo_does (d0 + 2) 0 0 83 [(0, .inr (some 0)), (2, .inl x2), (3, .inl x3)] [] shM I (gb_po shM none Iz) := by
  unfold J_Mo_does_83 at h
  refine go_iload_n (k := 1) d_Mo_does_83 rfl rfl ?_
  refine go_iconst (v := 4) d_Mo_does_84 (by decide) ?_
  refine go_cmp_ne (tgt := 108) d_Mo_does_85 (by decide) (fun hc => ?_) (fun hc => ?_)
  · rw [if_neg hc] at h
    cases h
    exact go_return d_Mo_does_108 rfl gb_po_i
  · rw [if_pos hc] at h
    refine go_aload_n (k := 0) d_Mo_does_88 rfl rfl ?_
    refine go_getr (ci := 10) (k := 1) (r := 1) d_Mo_does_89 a_M_0 rfl (by decide) f_Mo_7 rfl ?_
    refine go_bipush (v := 56) d_Mo_does_92 (by decide) ?_
    refine go_iload_n (k := 2) d_Mo_does_94 rfl rfl ?_
    refine go_iadd d_Mo_does_95 ?_
    refine go_iconst (v := 1) d_Mo_does_96 (by decide) ?_
    refine go_aload_n (k := 0) d_Mo_does_97 rfl rfl ?_
    refine go_getr (ci := 10) (k := 1) (r := 1) d_Mo_does_98 a_M_0 rfl (by decide) f_Mo_7 rfl ?_
    refine go_bipush (v := 56) d_Mo_does_101 (by decide) ?_
    refine go_iload_n (k := 2) d_Mo_does_103 rfl rfl ?_
    refine go_iadd d_Mo_does_104 ?_
    obtain ⟨hi, v3, ev3, h⟩ := flod_e h
    refine go_iald2 d_Mo_does_105 a_M_1 hi ev3 ?_
    refine go_isub d_Mo_does_106 ?_
    obtain ⟨hi, I4, eI4, h⟩ := fsto_e h
    refine go_iast (I' := I4) d_Mo_does_107 a_M_1 hi eI4 ?_
    cases h
    exact go_return d_Mo_does_108 rfl gb_po_i
def J_Mo_does_51 (x1 x2 x3 : Int32) (I : gb_Mem) : Option (gb_Mem) :=
  if x2 = 3 then
    flod I 20 128 (x1 + 3) fun v5 =>
    fsto I 1 80 (40 + x3) v5 fun I6 =>
    fsto I6 1 80 (64 + x3) 0 fun I7 =>
    J_Mo_does_83 x2 x3 I7
  else
    J_Mo_does_83 x2 x3 I
set_option maxRecDepth 4000 in
theorem j_Mo_does_51 (l : Launch) (d0 : Nat) (x1 x2 x3 : Int32) (I : gb_Mem) {Iz : gb_Mem} (h : J_Mo_does_51 x1 x2 x3 I = some Iz) : gb_Go l yMo_does (d0 + 2) 0 0 51 [(0, .inr (some 0)), (1, .inl x1), (2, .inl x2), (3, .inl x3)] [] shM I (gb_po shM none Iz) := by
  unfold J_Mo_does_51 at h
  refine go_iload_n (k := 2) d_Mo_does_51 rfl rfl ?_
  refine go_iconst (v := 3) d_Mo_does_52 (by decide) ?_
  refine go_cmp_ne (tgt := 83) d_Mo_does_53 (by decide) (fun hc => ?_) (fun hc => ?_)
  · rw [if_neg hc] at h
    exact go_lv [0, 2, 3] rfl (j_Mo_does_83 l d0 x2 x3 I h)
  · rw [if_pos hc] at h
    refine go_aload_n (k := 0) d_Mo_does_56 rfl rfl ?_
    refine go_getr (ci := 10) (k := 1) (r := 1) d_Mo_does_57 a_M_0 rfl (by decide) f_Mo_7 rfl ?_
    refine go_bipush (v := 40) d_Mo_does_60 (by decide) ?_
    refine go_iload_n (k := 3) d_Mo_does_62 rfl rfl ?_
    refine go_iadd d_Mo_does_63 ?_
    refine go_aload_n (k := 0) d_Mo_does_64 rfl rfl ?_
    refine go_getr (ci := 10) (k := 38) (r := 20) d_Mo_does_65 a_M_0 rfl (by decide) f_Mo_71 rfl ?_
    refine go_iload_n (k := 1) d_Mo_does_68 rfl rfl ?_
    refine go_iconst (v := 3) d_Mo_does_69 (by decide) ?_
    refine go_iadd d_Mo_does_70 ?_
    obtain ⟨hi, v5, ev5, h⟩ := flod_e h
    refine go_iald2 d_Mo_does_71 a_M_20 hi ev5 ?_
    obtain ⟨hi, I6, eI6, h⟩ := fsto_e h
    refine go_iast (I' := I6) d_Mo_does_72 a_M_1 hi eI6 ?_
    refine go_aload_n (k := 0) d_Mo_does_73 rfl rfl ?_
    refine go_getr (ci := 10) (k := 1) (r := 1) d_Mo_does_74 a_M_0 rfl (by decide) f_Mo_7 rfl ?_
    refine go_bipush (v := 64) d_Mo_does_77 (by decide) ?_
    refine go_iload_n (k := 3) d_Mo_does_79 rfl rfl ?_
    refine go_iadd d_Mo_does_80 ?_
    refine go_iconst (v := 0) d_Mo_does_81 (by decide) ?_
    obtain ⟨hi, I7, eI7, h⟩ := fsto_e h
    refine go_iast (I' := I7) d_Mo_does_82 a_M_1 hi eI7 ?_
    exact go_lv [0, 2, 3] rfl (j_Mo_does_83 l d0 x2 x3 I7 h)
def J_Mo_does_41 (x1 x2 x3 : Int32) (I : gb_Mem) : Option (gb_Mem) :=
  if x2 = 2 then
    fbd (F_Mo_salts x3 I) fun I8 =>
    J_Mo_does_51 x1 x2 x3 I8
  else
    J_Mo_does_51 x1 x2 x3 I
set_option maxRecDepth 4000 in
theorem j_Mo_does_41 (l : Launch) (d0 : Nat) (x1 x2 x3 : Int32) (I : gb_Mem) {Iz : gb_Mem} (h : J_Mo_does_41 x1 x2 x3 I = some Iz) : gb_Go l yMo_does (d0 + 2) 0 0 41 [(0, .inr (some 0)), (1, .inl x1), (2, .inl x2), (3, .inl x3)] [] shM I (gb_po shM none Iz) := by
  unfold J_Mo_does_41 at h
  refine go_iload_n (k := 2) d_Mo_does_41 rfl rfl ?_
  refine go_iconst (v := 2) d_Mo_does_42 (by decide) ?_
  refine go_cmp_ne (tgt := 51) d_Mo_does_43 (by decide) (fun hc => ?_) (fun hc => ?_)
  · rw [if_neg hc] at h
    exact go_lv [0, 1, 2, 3] rfl (j_Mo_does_51 l d0 x1 x2 x3 I h)
  · rw [if_pos hc] at h
    refine go_aload_n (k := 0) d_Mo_does_46 rfl rfl ?_
    refine go_iload_n (k := 3) d_Mo_does_47 rfl rfl ?_
    obtain ⟨I8, w1, h⟩ := fbd_e h
    refine go_callV (y := yMo_salts) (asr := [.inl x3]) (v := none) (I' := I8) (st1 := []) d_Mo_does_48 s_yMo_salts m_Mo_401 a_M_0 rfl rfl rfl (Nat.le_of_ble_eq_true rfl) rfl rfl (c_Mo_salts l (d0 + 0) x3 I w1) ?_
    exact go_lv [0, 1, 2, 3] rfl (j_Mo_does_51 l d0 x1 x2 x3 I8 h)
def J_Mo_does_29 (x1 x2 x3 : Int32) (I : gb_Mem) : Option (gb_Mem) :=
  if x2 = 1 then
    fstf I 1 4 x3 fun I9 =>
    J_Mo_does_41 x1 x2 x3 I9
  else
    J_Mo_does_41 x1 x2 x3 I
set_option maxRecDepth 4000 in
theorem j_Mo_does_29 (l : Launch) (d0 : Nat) (x1 x2 x3 : Int32) (I : gb_Mem) {Iz : gb_Mem} (h : J_Mo_does_29 x1 x2 x3 I = some Iz) : gb_Go l yMo_does (d0 + 2) 0 0 29 [(0, .inr (some 0)), (1, .inl x1), (2, .inl x2), (3, .inl x3)] [] shM I (gb_po shM none Iz) := by
  unfold J_Mo_does_29 at h
  refine go_iload_n (k := 2) d_Mo_does_29 rfl rfl ?_
  refine go_iconst (v := 1) d_Mo_does_30 (by decide) ?_
  refine go_cmp_ne (tgt := 41) d_Mo_does_31 (by decide) (fun hc => ?_) (fun hc => ?_)
  · rw [if_neg hc] at h
    exact go_lv [0, 1, 2, 3] rfl (j_Mo_does_41 l d0 x1 x2 x3 I h)
  · rw [if_pos hc] at h
    refine go_aload_n (k := 0) d_Mo_does_34 rfl rfl ?_
    refine go_getr (ci := 10) (k := 1) (r := 1) d_Mo_does_35 a_M_0 rfl (by decide) f_Mo_7 rfl ?_
    refine go_iconst (v := 4) d_Mo_does_38 (by decide) ?_
    refine go_iload_n (k := 3) d_Mo_does_39 rfl rfl ?_
    obtain ⟨I9, eI9, h⟩ := fstf_e h
    refine go_iast (I' := I9) d_Mo_does_40 a_M_1 (inb_iff.mp (by decide)) eI9 ?_
    exact go_lv [0, 1, 2, 3] rfl (j_Mo_does_41 l d0 x1 x2 x3 I9 h)
def F_Mo_does (x1 : Int32) (I : gb_Mem) : Option (gb_Mem) :=
  flod I 20 128 (x1 + 1) fun v1 =>
  flod I 20 128 (x1 + 2) fun v2 =>
  if v1 = 0 then
    fstf I 1 5 v2 fun I10 =>
    J_Mo_does_29 x1 v1 v2 I10
  else
    J_Mo_does_29 x1 v1 v2 I
set_option maxRecDepth 4000 in
theorem c_Mo_does (l : Launch) (d0 : Nat) (x1 : Int32) (I : gb_Mem) {Iz : gb_Mem} (h : F_Mo_does x1 I = some Iz) : gb_Cs l yMo_does (d0 + 2) [.inr (some 0), .inl x1] shM I none Iz := by
  refine gb_Ct.of (lv := [(0, .inr (some 0)), (1, .inl x1)]) rfl (Nat.le_of_ble_eq_true rfl) rfl ?_
  unfold F_Mo_does at h
  show gb_Go l yMo_does (d0 + 2) 0 0 0 [(0, .inr (some 0)), (1, .inl x1)] [] shM I (gb_po shM none Iz)
  refine go_aload_n (k := 0) d_Mo_does_0 rfl rfl ?_
  refine go_getr (ci := 10) (k := 38) (r := 20) d_Mo_does_1 a_M_0 rfl (by decide) f_Mo_71 rfl ?_
  refine go_iload_n (k := 1) d_Mo_does_4 rfl rfl ?_
  refine go_iconst (v := 1) d_Mo_does_5 (by decide) ?_
  refine go_iadd d_Mo_does_6 ?_
  obtain ⟨hi, v1, ev1, h⟩ := flod_e h
  refine go_iald2 d_Mo_does_7 a_M_20 hi ev1 ?_
  refine go_istore_n (lv' := [(2, .inl v1), (0, .inr (some 0)), (1, .inl x1)]) d_Mo_does_8 rfl (by decide) rfl ?_
  refine go_aload_n (k := 1) d_Mo_does_9 rfl rfl ?_
  refine go_getr (ci := 10) (k := 38) (r := 20) d_Mo_does_10 a_M_0 rfl (by decide) f_Mo_71 rfl ?_
  refine go_iload_n (k := 2) d_Mo_does_13 rfl rfl ?_
  refine go_iconst (v := 2) d_Mo_does_14 (by decide) ?_
  refine go_iadd d_Mo_does_15 ?_
  obtain ⟨hi, v2, ev2, h⟩ := flod_e h
  refine go_iald2 d_Mo_does_16 a_M_20 hi ev2 ?_
  refine go_istore_n (lv' := [(3, .inl v2), (2, .inl v1), (0, .inr (some 0)), (1, .inl x1)]) d_Mo_does_17 rfl (by decide) rfl ?_
  refine go_iload_n (k := 1) d_Mo_does_18 rfl rfl ?_
  refine go_if_ne (tgt := 29) d_Mo_does_19 (by decide) (fun hc => ?_) (fun hc => ?_)
  · rw [if_neg hc] at h
    exact go_lv [2, 3, 1, 0] rfl (j_Mo_does_29 l d0 x1 v1 v2 I h)
  · rw [if_pos hc] at h
    refine go_aload_n (k := 2) d_Mo_does_22 rfl rfl ?_
    refine go_getr (ci := 10) (k := 1) (r := 1) d_Mo_does_23 a_M_0 rfl (by decide) f_Mo_7 rfl ?_
    refine go_iconst (v := 5) d_Mo_does_26 (by decide) ?_
    refine go_iload_n (k := 0) d_Mo_does_27 rfl rfl ?_
    obtain ⟨I10, eI10, h⟩ := fstf_e h
    refine go_iast (I' := I10) d_Mo_does_28 a_M_1 (inb_iff.mp (by decide)) eI10 ?_
    exact go_lv [2, 3, 1, 0] rfl (j_Mo_does_29 l d0 x1 v1 v2 I10 h)
theorem d_Mo_firstHold_0 : decode yMo_firstHold.2.1 0 = .ok (.iconst 0, 1) := by decide +kernel
theorem d_Mo_firstHold_1 : decode yMo_firstHold.2.1 1 = .ok (.istore 4, 2) := by decide +kernel
theorem d_Mo_firstHold_3 : decode yMo_firstHold.2.1 3 = .ok (.iload 4, 2) := by decide +kernel
theorem d_Mo_firstHold_5 : decode yMo_firstHold.2.1 5 = .ok (.iload_n 1, 1) := by decide +kernel
theorem d_Mo_firstHold_6 : decode yMo_firstHold.2.1 6 = .ok (.if_icmp .gt 47, 3) := by decide +kernel
theorem d_Mo_firstHold_9 : decode yMo_firstHold.2.1 9 = .ok (.iload 4, 2) := by decide +kernel
theorem d_Mo_firstHold_11 : decode yMo_firstHold.2.1 11 = .ok (.iload_n 1, 1) := by decide +kernel
theorem d_Mo_firstHold_12 : decode yMo_firstHold.2.1 12 = .ok (.iconst (-1), 1) := by decide +kernel
theorem d_Mo_firstHold_13 : decode yMo_firstHold.2.1 13 = .ok (.ixor, 1) := by decide +kernel
theorem d_Mo_firstHold_14 : decode yMo_firstHold.2.1 14 = .ok (.iand, 1) := by decide +kernel
theorem d_Mo_firstHold_15 : decode yMo_firstHold.2.1 15 = .ok (.ifCond .ne 32, 3) := by decide +kernel
theorem d_Mo_firstHold_18 : decode yMo_firstHold.2.1 18 = .ok (.aload_n 0, 1) := by decide +kernel
theorem d_Mo_firstHold_19 : decode yMo_firstHold.2.1 19 = .ok (.iload 4, 2) := by decide +kernel
theorem d_Mo_firstHold_21 : decode yMo_firstHold.2.1 21 = .ok (.iconst 1, 1) := by decide +kernel
theorem d_Mo_firstHold_22 : decode yMo_firstHold.2.1 22 = .ok (.invokevirtual 480, 3) := by decide +kernel
theorem d_Mo_firstHold_25 : decode yMo_firstHold.2.1 25 = .ok (.iload_n 2, 1) := by decide +kernel
theorem d_Mo_firstHold_26 : decode yMo_firstHold.2.1 26 = .ok (.if_icmp .gt 21, 3) := by decide +kernel
theorem d_Mo_firstHold_29 : decode yMo_firstHold.2.1 29 = .ok (.aload_n 0, 1) := by decide +kernel
theorem d_Mo_firstHold_30 : decode yMo_firstHold.2.1 30 = .ok (.iload_n 1, 1) := by decide +kernel
theorem d_Mo_firstHold_31 : decode yMo_firstHold.2.1 31 = .ok (.iload 4, 2) := by decide +kernel
theorem d_Mo_firstHold_33 : decode yMo_firstHold.2.1 33 = .ok (.iconst (-1), 1) := by decide +kernel
theorem d_Mo_firstHold_34 : decode yMo_firstHold.2.1 34 = .ok (.ixor, 1) := by decide +kernel
theorem d_Mo_firstHold_35 : decode yMo_firstHold.2.1 35 = .ok (.iand, 1) := by decide +kernel
theorem d_Mo_firstHold_36 : decode yMo_firstHold.2.1 36 = .ok (.iconst 1, 1) := by decide +kernel
theorem d_Mo_firstHold_37 : decode yMo_firstHold.2.1 37 = .ok (.invokevirtual 480, 3) := by decide +kernel
theorem d_Mo_firstHold_40 : decode yMo_firstHold.2.1 40 = .ok (.iload_n 3, 1) := by decide +kernel
theorem d_Mo_firstHold_41 : decode yMo_firstHold.2.1 41 = .ok (.if_icmp .gt 6, 3) := by decide +kernel
theorem d_Mo_firstHold_44 : decode yMo_firstHold.2.1 44 = .ok (.iload 4, 2) := by decide +kernel
theorem d_Mo_firstHold_46 : decode yMo_firstHold.2.1 46 = .ok (.ireturn, 1) := by decide +kernel
theorem d_Mo_firstHold_47 : decode yMo_firstHold.2.1 47 = .ok (.iinc 4 1, 3) := by decide +kernel
theorem d_Mo_firstHold_50 : decode yMo_firstHold.2.1 50 = .ok (.goto (-47), 3) := by decide +kernel
theorem d_Mo_firstHold_53 : decode yMo_firstHold.2.1 53 = .ok (.iconst (-1), 1) := by decide +kernel
theorem d_Mo_firstHold_54 : decode yMo_firstHold.2.1 54 = .ok (.ireturn, 1) := by decide +kernel
def J_Mo_firstHold_47 (k : Int32 → Option ((Unit) ⊕ (Int32))) (x1 x2 x3 x4 : Int32) (I : gb_Mem) : Option ((Unit) ⊕ (Int32)) :=
  k (x4 + 1)
set_option maxRecDepth 4000 in
theorem j_Mo_firstHold_47 (l : Launch) (d0 : Nat) {post : Option gb_AV → List gb_Ce → gb_Mem → Prop} (k : Int32 → Option ((Unit) ⊕ (Int32))) (x1 x2 x3 x4 : Int32) (I : gb_Mem) {ρ : (Unit) ⊕ (Int32)} (h : J_Mo_firstHold_47 k x1 x2 x3 x4 I = some ρ) (hk : ∀ (z4 : Int32), k z4 = some ρ → gb_Go l yMo_firstHold (d0 + 2) 0 0 3 [(0, .inr (some 0)), (1, .inl x1), (2, .inl x2), (3, .inl x3), (4, .inl z4)] [] shM I post) (hX : ρ = .inl () → gb_Go l yMo_firstHold (d0 + 2) 0 0 53 [] [] shM I post) (hR : ∀ (v : Int32), ρ = .inr v → post (some (.inl v)) shM I) : gb_Go l yMo_firstHold (d0 + 2) 0 0 47 [(0, .inr (some 0)), (1, .inl x1), (2, .inl x2), (3, .inl x3), (4, .inl x4)] [] shM I post := by
  unfold J_Mo_firstHold_47 at h
  refine go_iinc (k := 4) (v := x4 + 1) (lv' := [(4, .inl (x4 + 1)), (0, .inr (some 0)), (1, .inl x1), (2, .inl x2), (3, .inl x3)]) d_Mo_firstHold_47 rfl rfl (by decide) rfl ?_
  refine go_goto (tgt := 3) d_Mo_firstHold_50 (by decide) ?_
  exact go_lv [1, 2, 3, 4, 0] rfl (hk _ h)
def L_Mo_firstHold_3 (x1 x2 x3 : Int32) (I : gb_Mem) : Nat → Int32 → Option ((Unit) ⊕ (Int32))
  | 0, _ => none
  | n + 1, x4 =>
    if x1 < x4 then
      some (.inl ())
    else
      if (x4 &&& (x1 ^^^ (-1))) = 0 then
        fbd (F_Mo_jarsOf x4 1 I) fun r1 =>
        if x2 < r1 then
          J_Mo_firstHold_47 (L_Mo_firstHold_3 x1 x2 x3 I n) x1 x2 x3 x4 I
        else
          fbd (F_Mo_jarsOf (x1 &&& (x4 ^^^ (-1))) 1 I) fun r2 =>
          if x3 < r2 then
            J_Mo_firstHold_47 (L_Mo_firstHold_3 x1 x2 x3 I n) x1 x2 x3 x4 I
          else
            some (.inr x4)
      else
        J_Mo_firstHold_47 (L_Mo_firstHold_3 x1 x2 x3 I n) x1 x2 x3 x4 I
set_option maxRecDepth 4000 in
theorem l_Mo_firstHold_3 (l : Launch) (d0 : Nat) (x1 x2 x3 : Int32) (I : gb_Mem) {post : Option gb_AV → List gb_Ce → gb_Mem → Prop} : ∀ (n : Nat) (x4 : Int32) {ρ : (Unit) ⊕ (Int32)} (h : L_Mo_firstHold_3 x1 x2 x3 I n x4 = some ρ) (hX : ρ = .inl () → gb_Go l yMo_firstHold (d0 + 2) 0 0 53 [] [] shM I post) (hR : ∀ (v : Int32), ρ = .inr v → post (some (.inl v)) shM I) , gb_Go l yMo_firstHold (d0 + 2) 0 0 3 [(0, .inr (some 0)), (1, .inl x1), (2, .inl x2), (3, .inl x3), (4, .inl x4)] [] shM I post := by
  intro n
  induction n with
  | zero => intro x4 ρ h hX hR; cases h
  | succ n ih =>
    intro x4 ρ h hX hR
    rw [L_Mo_firstHold_3] at h
    refine go_iload (k := 4) d_Mo_firstHold_3 rfl ?_
    refine go_iload_n (k := 1) d_Mo_firstHold_5 rfl rfl ?_
    refine go_cmp_gt (tgt := 53) d_Mo_firstHold_6 (by decide) (fun hc => ?_) (fun hc => ?_)
    · rw [if_pos hc] at h
      exact go_lv [] rfl (hX (Option.some.inj h).symm)
    · rw [if_neg hc] at h
      refine go_iload (k := 4) d_Mo_firstHold_9 rfl ?_
      refine go_iload_n (k := 1) d_Mo_firstHold_11 rfl rfl ?_
      refine go_iconst (v := (-1)) d_Mo_firstHold_12 (by decide) ?_
      refine go_ixor d_Mo_firstHold_13 ?_
      refine go_iand d_Mo_firstHold_14 ?_
      refine go_if_ne (tgt := 47) d_Mo_firstHold_15 (by decide) (fun hc => ?_) (fun hc => ?_)
      · rw [if_neg hc] at h
        exact go_lv [0, 1, 2, 3, 4] rfl (j_Mo_firstHold_47 l d0 (L_Mo_firstHold_3 x1 x2 x3 I n) x1 x2 x3 x4 I h (fun z4 hh => ih z4 hh hX hR) hX hR)
      · rw [if_pos hc] at h
        refine go_aload_n (k := 0) d_Mo_firstHold_18 rfl rfl ?_
        refine go_iload (k := 4) d_Mo_firstHold_19 rfl ?_
        refine go_iconst (v := 1) d_Mo_firstHold_21 (by decide) ?_
        obtain ⟨r1, w1, h⟩ := fbd_e h
        refine go_callV (y := yMo_jarsOf) (asr := [.inl x4, .inl 1]) (v := some (.inl r1)) (I' := I) (st1 := [.inl r1]) d_Mo_firstHold_22 s_yMo_jarsOf m_Mo_480 a_M_0 rfl rfl rfl (Nat.le_of_ble_eq_true rfl) rfl rfl (c_Mo_jarsOf l (d0 + 0) x4 1 I w1) ?_
        refine go_iload_n (k := 2) d_Mo_firstHold_25 rfl rfl ?_
        refine go_cmp_gt (tgt := 47) d_Mo_firstHold_26 (by decide) (fun hc => ?_) (fun hc => ?_)
        · rw [if_pos hc] at h
          exact go_lv [0, 1, 2, 3, 4] rfl (j_Mo_firstHold_47 l d0 (L_Mo_firstHold_3 x1 x2 x3 I n) x1 x2 x3 x4 I h (fun z4 hh => ih z4 hh hX hR) hX hR)
        · rw [if_neg hc] at h
          refine go_aload_n (k := 0) d_Mo_firstHold_29 rfl rfl ?_
          refine go_iload_n (k := 1) d_Mo_firstHold_30 rfl rfl ?_
          refine go_iload (k := 4) d_Mo_firstHold_31 rfl ?_
          refine go_iconst (v := (-1)) d_Mo_firstHold_33 (by decide) ?_
          refine go_ixor d_Mo_firstHold_34 ?_
          refine go_iand d_Mo_firstHold_35 ?_
          refine go_iconst (v := 1) d_Mo_firstHold_36 (by decide) ?_
          obtain ⟨r2, w1, h⟩ := fbd_e h
          refine go_callV (y := yMo_jarsOf) (asr := [.inl (x1 &&& (x4 ^^^ (-1))), .inl 1]) (v := some (.inl r2)) (I' := I) (st1 := [.inl r2]) d_Mo_firstHold_37 s_yMo_jarsOf m_Mo_480 a_M_0 rfl rfl rfl (Nat.le_of_ble_eq_true rfl) rfl rfl (c_Mo_jarsOf l (d0 + 0) (x1 &&& (x4 ^^^ (-1))) 1 I w1) ?_
          refine go_iload_n (k := 3) d_Mo_firstHold_40 rfl rfl ?_
          refine go_cmp_gt (tgt := 47) d_Mo_firstHold_41 (by decide) (fun hc => ?_) (fun hc => ?_)
          · rw [if_pos hc] at h
            exact go_lv [0, 1, 2, 3, 4] rfl (j_Mo_firstHold_47 l d0 (L_Mo_firstHold_3 x1 x2 x3 I n) x1 x2 x3 x4 I h (fun z4 hh => ih z4 hh hX hR) hX hR)
          · rw [if_neg hc] at h
            refine go_iload (k := 4) d_Mo_firstHold_44 rfl ?_
            exact go_ireturn d_Mo_firstHold_46 rfl (hR _ (Option.some.inj h).symm)
def F_Mo_firstHold (x1 x2 x3 : Int32) (I : gb_Mem) : Option (Int32) :=
  fbr (L_Mo_firstHold_3 x1 x2 x3 I 5000 0) (fun _ =>
    some (-1))
    (fun q3 => some q3)
set_option maxRecDepth 4000 in
theorem c_Mo_firstHold (l : Launch) (d0 : Nat) (x1 x2 x3 : Int32) (I : gb_Mem) {rz : Int32} (h : F_Mo_firstHold x1 x2 x3 I = some rz) : gb_Cs l yMo_firstHold (d0 + 2) [.inr (some 0), .inl x1, .inl x2, .inl x3] shM I (some (.inl rz)) I := by
  refine gb_Ct.of (lv := [(0, .inr (some 0)), (1, .inl x1), (2, .inl x2), (3, .inl x3)]) rfl (Nat.le_of_ble_eq_true rfl) rfl ?_
  unfold F_Mo_firstHold at h
  show gb_Go l yMo_firstHold (d0 + 2) 0 0 0 [(0, .inr (some 0)), (1, .inl x1), (2, .inl x2), (3, .inl x3)] [] shM I (gb_po shM (some (.inl rz)) I)
  refine go_iconst (v := 0) d_Mo_firstHold_0 (by decide) ?_
  refine go_istore (lv' := [(4, .inl 0), (0, .inr (some 0)), (1, .inl x1), (2, .inl x2), (3, .inl x3)]) d_Mo_firstHold_1 (by decide) rfl ?_
  refine go_lv [1, 2, 3, 4, 0] (lv' := [(0, .inr (some 0)), (1, .inl x1), (2, .inl x2), (3, .inl x3), (4, .inl 0)]) rfl ?_
  obtain ⟨ρ, w1, w2, w3⟩ := fbr_e2 h
  refine l_Mo_firstHold_3 l d0 x1 x2 x3 I 5000 0 w1 (fun  e => ?_) (fun q3 e => ?_)
  · have h := w2 _ e
    try dsimp only at h
    refine go_iconst (v := (-1)) d_Mo_firstHold_53 (by decide) ?_
    cases h
    exact go_ireturn d_Mo_firstHold_54 rfl gb_po_i
  · have h := w3 _ e
    try dsimp only at h
    cases h
    exact gb_po_i
theorem d_Mo_hands_0 : decode yMo_hands.2.1 0 = .ok (.aload_n 0, 1) := by decide +kernel
theorem d_Mo_hands_1 : decode yMo_hands.2.1 1 = .ok (.iconst 0, 1) := by decide +kernel
theorem d_Mo_hands_2 : decode yMo_hands.2.1 2 = .ok (.putfield 137, 3) := by decide +kernel
theorem d_Mo_hands_5 : decode yMo_hands.2.1 5 = .ok (.aload_n 0, 1) := by decide +kernel
theorem d_Mo_hands_6 : decode yMo_hands.2.1 6 = .ok (.iload_n 1, 1) := by decide +kernel
theorem d_Mo_hands_7 : decode yMo_hands.2.1 7 = .ok (.invokevirtual 161, 3) := by decide +kernel
theorem d_Mo_hands_10 : decode yMo_hands.2.1 10 = .ok (.ifCond .eq 21, 3) := by decide +kernel
theorem d_Mo_hands_13 : decode yMo_hands.2.1 13 = .ok (.aload_n 0, 1) := by decide +kernel
theorem d_Mo_hands_14 : decode yMo_hands.2.1 14 = .ok (.iload_n 2, 1) := by decide +kernel
theorem d_Mo_hands_15 : decode yMo_hands.2.1 15 = .ok (.invokevirtual 161, 3) := by decide +kernel
theorem d_Mo_hands_18 : decode yMo_hands.2.1 18 = .ok (.ifCond .eq 13, 3) := by decide +kernel
theorem d_Mo_hands_21 : decode yMo_hands.2.1 21 = .ok (.aload_n 0, 1) := by decide +kernel
theorem d_Mo_hands_22 : decode yMo_hands.2.1 22 = .ok (.iload_n 3, 1) := by decide +kernel
theorem d_Mo_hands_23 : decode yMo_hands.2.1 23 = .ok (.iconst 0, 1) := by decide +kernel
theorem d_Mo_hands_24 : decode yMo_hands.2.1 24 = .ok (.iconst 1, 1) := by decide +kernel
theorem d_Mo_hands_25 : decode yMo_hands.2.1 25 = .ok (.invokevirtual 157, 3) := by decide +kernel
theorem d_Mo_hands_28 : decode yMo_hands.2.1 28 = .ok (.ifCond .ne 5, 3) := by decide +kernel
theorem d_Mo_hands_31 : decode yMo_hands.2.1 31 = .ok (.iconst (-1), 1) := by decide +kernel
theorem d_Mo_hands_32 : decode yMo_hands.2.1 32 = .ok (.ireturn, 1) := by decide +kernel
theorem d_Mo_hands_33 : decode yMo_hands.2.1 33 = .ok (.aload_n 0, 1) := by decide +kernel
theorem d_Mo_hands_34 : decode yMo_hands.2.1 34 = .ok (.iload_n 1, 1) := by decide +kernel
theorem d_Mo_hands_35 : decode yMo_hands.2.1 35 = .ok (.invokevirtual 426, 3) := by decide +kernel
theorem d_Mo_hands_38 : decode yMo_hands.2.1 38 = .ok (.iload_n 3, 1) := by decide +kernel
theorem d_Mo_hands_39 : decode yMo_hands.2.1 39 = .ok (.ifCond .ne 12, 3) := by decide +kernel
theorem d_Mo_hands_42 : decode yMo_hands.2.1 42 = .ok (.aload_n 0, 1) := by decide +kernel
theorem d_Mo_hands_43 : decode yMo_hands.2.1 43 = .ok (.getfield 83, 3) := by decide +kernel
theorem d_Mo_hands_46 : decode yMo_hands.2.1 46 = .ok (.iload_n 2, 1) := by decide +kernel
theorem d_Mo_hands_47 : decode yMo_hands.2.1 47 = .ok (.iaload, 1) := by decide +kernel
theorem d_Mo_hands_48 : decode yMo_hands.2.1 48 = .ok (.goto 9, 3) := by decide +kernel
theorem d_Mo_hands_51 : decode yMo_hands.2.1 51 = .ok (.aload_n 0, 1) := by decide +kernel
theorem d_Mo_hands_52 : decode yMo_hands.2.1 52 = .ok (.getfield 86, 3) := by decide +kernel
theorem d_Mo_hands_55 : decode yMo_hands.2.1 55 = .ok (.iload_n 2, 1) := by decide +kernel
theorem d_Mo_hands_56 : decode yMo_hands.2.1 56 = .ok (.iaload, 1) := by decide +kernel
theorem d_Mo_hands_57 : decode yMo_hands.2.1 57 = .ok (.ireturn, 1) := by decide +kernel
def F_Mo_hands (x1 x2 x3 : Int32) (I : gb_Mem) : Option (Int32 × gb_Mem) :=
  fstf I 0 0 0 fun I1 =>
  if (F_Mo_isSeat x1 I1) = 0 then
    some ((-1), I1)
  else
    if (F_Mo_isSeat x2 I1) = 0 then
      some ((-1), I1)
    else
      if (F_Mo_isIn x3 0 1 I1) = 0 then
        some ((-1), I1)
      else
        fbd (F_Mo_findsHands x1 I1) fun I2 =>
        if x3 = 0 then
          flod I2 24 12 x2 fun v4 =>
          some (v4, I2)
        else
          flod I2 25 12 x2 fun v3 =>
          some (v3, I2)
set_option maxRecDepth 4000 in
theorem c_Mo_hands (l : Launch) (d0 : Nat) (x1 x2 x3 : Int32) (I : gb_Mem) {rz : Int32} {Iz : gb_Mem} (h : F_Mo_hands x1 x2 x3 I = some (rz, Iz)) : gb_Cs l yMo_hands (d0 + 2) [.inr (some 0), .inl x1, .inl x2, .inl x3] shM I (some (.inl rz)) Iz := by
  refine gb_Ct.of (lv := [(0, .inr (some 0)), (1, .inl x1), (2, .inl x2), (3, .inl x3)]) rfl (Nat.le_of_ble_eq_true rfl) rfl ?_
  unfold F_Mo_hands at h
  show gb_Go l yMo_hands (d0 + 2) 0 0 0 [(0, .inr (some 0)), (1, .inl x1), (2, .inl x2), (3, .inl x3)] [] shM I (gb_po shM (some (.inl rz)) Iz)
  refine go_aload_n (k := 0) d_Mo_hands_0 rfl rfl ?_
  refine go_iconst (v := 0) d_Mo_hands_1 (by decide) ?_
  obtain ⟨I1, eI1, h⟩ := fstf_e h
  refine go_putT (ci := 10) (k := 0) (I' := I1) d_Mo_hands_2 a_M_0 rfl (by decide) f_Mo_137 rfl rfl rfl rfl rfl eI1 ?_
  refine go_aload_n (k := 0) d_Mo_hands_5 rfl rfl ?_
  refine go_iload_n (k := 1) d_Mo_hands_6 rfl rfl ?_
  refine go_callV (y := yMo_isSeat) (asr := [.inl x1]) (v := some (.inl (F_Mo_isSeat x1 I1))) (I' := I1) (st1 := [.inl (F_Mo_isSeat x1 I1)]) d_Mo_hands_7 s_yMo_isSeat m_Mo_161 a_M_0 rfl rfl rfl (Nat.le_of_ble_eq_true rfl) rfl rfl (c_Mo_isSeat l (d0 + 1) x1 I1) ?_
  refine go_if_eq (tgt := 31) d_Mo_hands_10 (by decide) (fun hc => ?_) (fun hc => ?_)
  · rw [if_pos hc] at h
    refine go_iconst (v := (-1)) d_Mo_hands_31 (by decide) ?_
    cases h
    exact go_ireturn d_Mo_hands_32 rfl gb_po_i
  · rw [if_neg hc] at h
    refine go_aload_n (k := 0) d_Mo_hands_13 rfl rfl ?_
    refine go_iload_n (k := 2) d_Mo_hands_14 rfl rfl ?_
    refine go_callV (y := yMo_isSeat) (asr := [.inl x2]) (v := some (.inl (F_Mo_isSeat x2 I1))) (I' := I1) (st1 := [.inl (F_Mo_isSeat x2 I1)]) d_Mo_hands_15 s_yMo_isSeat m_Mo_161 a_M_0 rfl rfl rfl (Nat.le_of_ble_eq_true rfl) rfl rfl (c_Mo_isSeat l (d0 + 1) x2 I1) ?_
    refine go_if_eq (tgt := 31) d_Mo_hands_18 (by decide) (fun hc => ?_) (fun hc => ?_)
    · rw [if_pos hc] at h
      refine go_iconst (v := (-1)) d_Mo_hands_31 (by decide) ?_
      cases h
      exact go_ireturn d_Mo_hands_32 rfl gb_po_i
    · rw [if_neg hc] at h
      refine go_aload_n (k := 0) d_Mo_hands_21 rfl rfl ?_
      refine go_iload_n (k := 3) d_Mo_hands_22 rfl rfl ?_
      refine go_iconst (v := 0) d_Mo_hands_23 (by decide) ?_
      refine go_iconst (v := 1) d_Mo_hands_24 (by decide) ?_
      refine go_callV (y := yMo_isIn) (asr := [.inl x3, .inl 0, .inl 1]) (v := some (.inl (F_Mo_isIn x3 0 1 I1))) (I' := I1) (st1 := [.inl (F_Mo_isIn x3 0 1 I1)]) d_Mo_hands_25 s_yMo_isIn m_Mo_157 a_M_0 rfl rfl rfl (Nat.le_of_ble_eq_true rfl) rfl rfl (c_Mo_isIn l (d0 + 1) x3 0 1 I1) ?_
      refine go_if_ne (tgt := 33) d_Mo_hands_28 (by decide) (fun hc => ?_) (fun hc => ?_)
      · rw [if_neg hc] at h
        refine go_aload_n (k := 0) d_Mo_hands_33 rfl rfl ?_
        refine go_iload_n (k := 1) d_Mo_hands_34 rfl rfl ?_
        obtain ⟨I2, w1, h⟩ := fbd_e h
        refine go_callV (y := yMo_findsHands) (asr := [.inl x1]) (v := none) (I' := I2) (st1 := []) d_Mo_hands_35 s_yMo_findsHands m_Mo_426 a_M_0 rfl rfl rfl (Nat.le_of_ble_eq_true rfl) rfl rfl (c_Mo_findsHands l (d0 + 0) x1 I1 w1) ?_
        refine go_iload_n (k := 3) d_Mo_hands_38 rfl rfl ?_
        refine go_if_ne (tgt := 51) d_Mo_hands_39 (by decide) (fun hc => ?_) (fun hc => ?_)
        · rw [if_neg hc] at h
          refine go_aload_n (k := 0) d_Mo_hands_51 rfl rfl ?_
          refine go_getr (ci := 10) (k := 45) (r := 25) d_Mo_hands_52 a_M_0 rfl (by decide) f_Mo_86 rfl ?_
          refine go_iload_n (k := 2) d_Mo_hands_55 rfl rfl ?_
          obtain ⟨hi, v3, ev3, h⟩ := flod_e h
          refine go_iald2 d_Mo_hands_56 a_M_25 hi ev3 ?_
          cases h
          exact go_ireturn d_Mo_hands_57 rfl gb_po_i
        · rw [if_pos hc] at h
          refine go_aload_n (k := 0) d_Mo_hands_42 rfl rfl ?_
          refine go_getr (ci := 10) (k := 44) (r := 24) d_Mo_hands_43 a_M_0 rfl (by decide) f_Mo_83 rfl ?_
          refine go_iload_n (k := 2) d_Mo_hands_46 rfl rfl ?_
          obtain ⟨hi, v4, ev4, h⟩ := flod_e h
          refine go_iald2 d_Mo_hands_47 a_M_24 hi ev4 ?_
          refine go_goto (tgt := 57) d_Mo_hands_48 (by decide) ?_
          cases h
          exact go_ireturn d_Mo_hands_57 rfl gb_po_i
      · rw [if_pos hc] at h
        refine go_iconst (v := (-1)) d_Mo_hands_31 (by decide) ?_
        cases h
        exact go_ireturn d_Mo_hands_32 rfl gb_po_i
theorem d_Mo_image_0 : decode yMo_image.2.1 0 = .ok (.aload_n 0, 1) := by decide +kernel
theorem d_Mo_image_1 : decode yMo_image.2.1 1 = .ok (.iconst 0, 1) := by decide +kernel
theorem d_Mo_image_2 : decode yMo_image.2.1 2 = .ok (.putfield 137, 3) := by decide +kernel
theorem d_Mo_image_5 : decode yMo_image.2.1 5 = .ok (.iload_n 1, 1) := by decide +kernel
theorem d_Mo_image_6 : decode yMo_image.2.1 6 = .ok (.ifCond .ne 12, 3) := by decide +kernel
theorem d_Mo_image_9 : decode yMo_image.2.1 9 = .ok (.aload_n 0, 1) := by decide +kernel
theorem d_Mo_image_10 : decode yMo_image.2.1 10 = .ok (.getfield 499, 3) := by decide +kernel
theorem d_Mo_image_13 : decode yMo_image.2.1 13 = .ok (.ifCond .ne 5, 3) := by decide +kernel
theorem d_Mo_image_16 : decode yMo_image.2.1 16 = .ok (.iconst 0, 1) := by decide +kernel
theorem d_Mo_image_17 : decode yMo_image.2.1 17 = .ok (.ireturn, 1) := by decide +kernel
theorem d_Mo_image_18 : decode yMo_image.2.1 18 = .ok (.aload_n 0, 1) := by decide +kernel
theorem d_Mo_image_19 : decode yMo_image.2.1 19 = .ok (.iload_n 1, 1) := by decide +kernel
theorem d_Mo_image_20 : decode yMo_image.2.1 20 = .ok (.putfield 493, 3) := by decide +kernel
theorem d_Mo_image_23 : decode yMo_image.2.1 23 = .ok (.aload_n 0, 1) := by decide +kernel
theorem d_Mo_image_24 : decode yMo_image.2.1 24 = .ok (.iconst 1, 1) := by decide +kernel
theorem d_Mo_image_25 : decode yMo_image.2.1 25 = .ok (.putfield 499, 3) := by decide +kernel
theorem d_Mo_image_28 : decode yMo_image.2.1 28 = .ok (.aload_n 0, 1) := by decide +kernel
theorem d_Mo_image_29 : decode yMo_image.2.1 29 = .ok (.iconst 0, 1) := by decide +kernel
theorem d_Mo_image_30 : decode yMo_image.2.1 30 = .ok (.putfield 490, 3) := by decide +kernel
theorem d_Mo_image_33 : decode yMo_image.2.1 33 = .ok (.iconst 0, 1) := by decide +kernel
theorem d_Mo_image_34 : decode yMo_image.2.1 34 = .ok (.istore_n 2, 1) := by decide +kernel
theorem d_Mo_image_35 : decode yMo_image.2.1 35 = .ok (.iload_n 2, 1) := by decide +kernel
theorem d_Mo_image_36 : decode yMo_image.2.1 36 = .ok (.bipush 80, 2) := by decide +kernel
theorem d_Mo_image_38 : decode yMo_image.2.1 38 = .ok (.if_icmp .ge 25, 3) := by decide +kernel
theorem d_Mo_image_41 : decode yMo_image.2.1 41 = .ok (.aload_n 0, 1) := by decide +kernel
theorem d_Mo_image_42 : decode yMo_image.2.1 42 = .ok (.getfield 7, 3) := by decide +kernel
theorem d_Mo_image_45 : decode yMo_image.2.1 45 = .ok (.iload_n 2, 1) := by decide +kernel
theorem d_Mo_image_46 : decode yMo_image.2.1 46 = .ok (.aload_n 0, 1) := by decide +kernel
theorem d_Mo_image_47 : decode yMo_image.2.1 47 = .ok (.aload_n 0, 1) := by decide +kernel
theorem d_Mo_image_48 : decode yMo_image.2.1 48 = .ok (.getfield 7, 3) := by decide +kernel
theorem d_Mo_image_51 : decode yMo_image.2.1 51 = .ok (.iload_n 2, 1) := by decide +kernel
theorem d_Mo_image_52 : decode yMo_image.2.1 52 = .ok (.iaload, 1) := by decide +kernel
theorem d_Mo_image_53 : decode yMo_image.2.1 53 = .ok (.invokevirtual 496, 3) := by decide +kernel
theorem d_Mo_image_56 : decode yMo_image.2.1 56 = .ok (.iastore, 1) := by decide +kernel
theorem d_Mo_image_57 : decode yMo_image.2.1 57 = .ok (.iinc 2 1, 3) := by decide +kernel
theorem d_Mo_image_60 : decode yMo_image.2.1 60 = .ok (.goto (-25), 3) := by decide +kernel
theorem d_Mo_image_63 : decode yMo_image.2.1 63 = .ok (.aload_n 0, 1) := by decide +kernel
theorem d_Mo_image_64 : decode yMo_image.2.1 64 = .ok (.invokevirtual 502, 3) := by decide +kernel
theorem d_Mo_image_67 : decode yMo_image.2.1 67 = .ok (.aload_n 0, 1) := by decide +kernel
theorem d_Mo_image_68 : decode yMo_image.2.1 68 = .ok (.invokevirtual 505, 3) := by decide +kernel
theorem d_Mo_image_71 : decode yMo_image.2.1 71 = .ok (.iconst 0, 1) := by decide +kernel
theorem d_Mo_image_72 : decode yMo_image.2.1 72 = .ok (.istore_n 2, 1) := by decide +kernel
theorem d_Mo_image_73 : decode yMo_image.2.1 73 = .ok (.iload_n 2, 1) := by decide +kernel
theorem d_Mo_image_74 : decode yMo_image.2.1 74 = .ok (.sipush 600, 3) := by decide +kernel
theorem d_Mo_image_77 : decode yMo_image.2.1 77 = .ok (.if_icmp .ge 25, 3) := by decide +kernel
theorem d_Mo_image_80 : decode yMo_image.2.1 80 = .ok (.aload_n 0, 1) := by decide +kernel
theorem d_Mo_image_81 : decode yMo_image.2.1 81 = .ok (.getfield 31, 3) := by decide +kernel
theorem d_Mo_image_84 : decode yMo_image.2.1 84 = .ok (.iload_n 2, 1) := by decide +kernel
theorem d_Mo_image_85 : decode yMo_image.2.1 85 = .ok (.aload_n 0, 1) := by decide +kernel
theorem d_Mo_image_86 : decode yMo_image.2.1 86 = .ok (.aload_n 0, 1) := by decide +kernel
theorem d_Mo_image_87 : decode yMo_image.2.1 87 = .ok (.getfield 31, 3) := by decide +kernel
theorem d_Mo_image_90 : decode yMo_image.2.1 90 = .ok (.iload_n 2, 1) := by decide +kernel
theorem d_Mo_image_91 : decode yMo_image.2.1 91 = .ok (.iaload, 1) := by decide +kernel
theorem d_Mo_image_92 : decode yMo_image.2.1 92 = .ok (.invokevirtual 496, 3) := by decide +kernel
theorem d_Mo_image_95 : decode yMo_image.2.1 95 = .ok (.iastore, 1) := by decide +kernel
theorem d_Mo_image_96 : decode yMo_image.2.1 96 = .ok (.iinc 2 1, 3) := by decide +kernel
theorem d_Mo_image_99 : decode yMo_image.2.1 99 = .ok (.goto (-26), 3) := by decide +kernel
theorem d_Mo_image_102 : decode yMo_image.2.1 102 = .ok (.aload_n 0, 1) := by decide +kernel
theorem d_Mo_image_103 : decode yMo_image.2.1 103 = .ok (.invokevirtual 508, 3) := by decide +kernel
theorem d_Mo_image_106 : decode yMo_image.2.1 106 = .ok (.iload_n 1, 1) := by decide +kernel
theorem d_Mo_image_107 : decode yMo_image.2.1 107 = .ok (.ifCond .ne 8, 3) := by decide +kernel
theorem d_Mo_image_110 : decode yMo_image.2.1 110 = .ok (.aload_n 0, 1) := by decide +kernel
theorem d_Mo_image_111 : decode yMo_image.2.1 111 = .ok (.iconst 0, 1) := by decide +kernel
theorem d_Mo_image_112 : decode yMo_image.2.1 112 = .ok (.putfield 141, 3) := by decide +kernel
theorem d_Mo_image_115 : decode yMo_image.2.1 115 = .ok (.iconst 1, 1) := by decide +kernel
theorem d_Mo_image_116 : decode yMo_image.2.1 116 = .ok (.ireturn, 1) := by decide +kernel
def L_Mo_image_35 (x1 : Int32) : Nat → Int32 → gb_Mem → Option (gb_Mem)
  | 0, _, _ => none
  | n + 1, x2, I =>
    if 80 ≤ x2 then
      some I
    else
      flod I 1 80 x2 fun v5 =>
      fbd (F_Mo_keeps v5 I) fun (r7, I6) =>
      fsto I6 1 80 x2 r7 fun I8 =>
      L_Mo_image_35 x1 n (x2 + 1) I8
set_option maxRecDepth 4000 in
theorem l_Mo_image_35 (l : Launch) (d0 : Nat) (x1 : Int32) {post : Option gb_AV → List gb_Ce → gb_Mem → Prop} : ∀ (n : Nat) (x2 : Int32) (I : gb_Mem) {ρ : gb_Mem} (h : L_Mo_image_35 x1 n x2 I = some ρ) (hX : ∀ (I2 : gb_Mem), ρ = I2 → gb_Go l yMo_image (d0 + 2) 0 0 63 [(0, .inr (some 0)), (1, .inl x1)] [] shM I2 post) , gb_Go l yMo_image (d0 + 2) 0 0 35 [(0, .inr (some 0)), (1, .inl x1), (2, .inl x2)] [] shM I post := by
  intro n
  induction n with
  | zero => intro x2 I ρ h hX; cases h
  | succ n ih =>
    intro x2 I ρ h hX
    rw [L_Mo_image_35] at h
    refine go_iload_n (k := 2) d_Mo_image_35 rfl rfl ?_
    refine go_bipush (v := 80) d_Mo_image_36 (by decide) ?_
    refine go_cmp_ge (tgt := 63) d_Mo_image_38 (by decide) (fun hc => ?_) (fun hc => ?_)
    · rw [if_pos hc] at h
      exact go_lv [0, 1] rfl (hX _ (Option.some.inj h).symm)
    · rw [if_neg hc] at h
      refine go_aload_n (k := 0) d_Mo_image_41 rfl rfl ?_
      refine go_getr (ci := 10) (k := 1) (r := 1) d_Mo_image_42 a_M_0 rfl (by decide) f_Mo_7 rfl ?_
      refine go_iload_n (k := 2) d_Mo_image_45 rfl rfl ?_
      refine go_aload_n (k := 0) d_Mo_image_46 rfl rfl ?_
      refine go_aload_n (k := 0) d_Mo_image_47 rfl rfl ?_
      refine go_getr (ci := 10) (k := 1) (r := 1) d_Mo_image_48 a_M_0 rfl (by decide) f_Mo_7 rfl ?_
      refine go_iload_n (k := 2) d_Mo_image_51 rfl rfl ?_
      obtain ⟨hi, v5, ev5, h⟩ := flod_e h
      refine go_iald2 d_Mo_image_52 a_M_1 hi ev5 ?_
      obtain ⟨⟨r7, I6⟩, w1, h⟩ := fbd_e h
      try dsimp only at h
      refine go_callV (y := yMo_keeps) (asr := [.inl v5]) (v := some (.inl r7)) (I' := I6) (st1 := [.inl r7, .inl x2, .inr (some 1)]) d_Mo_image_53 s_yMo_keeps m_Mo_496 a_M_0 rfl rfl rfl (Nat.le_of_ble_eq_true rfl) rfl rfl (c_Mo_keeps l (d0 + 1) v5 I w1) ?_
      obtain ⟨hi, I8, eI8, h⟩ := fsto_e h
      refine go_iast (I' := I8) d_Mo_image_56 a_M_1 hi eI8 ?_
      refine go_iinc (k := 2) (v := x2 + 1) (lv' := [(2, .inl (x2 + 1)), (0, .inr (some 0)), (1, .inl x1)]) d_Mo_image_57 rfl rfl (by decide) rfl ?_
      refine go_goto (tgt := 35) d_Mo_image_60 (by decide) ?_
      exact go_lv [1, 2, 0] rfl (ih (x2 + 1) I8 h hX)
def L_Mo_image_73 (x1 : Int32) : Nat → Int32 → gb_Mem → Option (gb_Mem)
  | 0, _, _ => none
  | n + 1, x2, I =>
    if 600 ≤ x2 then
      some I
    else
      flod I 8 600 x2 fun v12 =>
      fbd (F_Mo_keeps v12 I) fun (r14, I13) =>
      fsto I13 8 600 x2 r14 fun I15 =>
      L_Mo_image_73 x1 n (x2 + 1) I15
set_option maxRecDepth 4000 in
theorem l_Mo_image_73 (l : Launch) (d0 : Nat) (x1 : Int32) {post : Option gb_AV → List gb_Ce → gb_Mem → Prop} : ∀ (n : Nat) (x2 : Int32) (I : gb_Mem) {ρ : gb_Mem} (h : L_Mo_image_73 x1 n x2 I = some ρ) (hX : ∀ (I2 : gb_Mem), ρ = I2 → gb_Go l yMo_image (d0 + 2) 0 0 102 [(0, .inr (some 0)), (1, .inl x1)] [] shM I2 post) , gb_Go l yMo_image (d0 + 2) 0 0 73 [(0, .inr (some 0)), (1, .inl x1), (2, .inl x2)] [] shM I post := by
  intro n
  induction n with
  | zero => intro x2 I ρ h hX; cases h
  | succ n ih =>
    intro x2 I ρ h hX
    rw [L_Mo_image_73] at h
    refine go_iload_n (k := 2) d_Mo_image_73 rfl rfl ?_
    refine go_sipush (v := 600) d_Mo_image_74 (by decide) ?_
    refine go_cmp_ge (tgt := 102) d_Mo_image_77 (by decide) (fun hc => ?_) (fun hc => ?_)
    · rw [if_pos hc] at h
      exact go_lv [0, 1] rfl (hX _ (Option.some.inj h).symm)
    · rw [if_neg hc] at h
      refine go_aload_n (k := 0) d_Mo_image_80 rfl rfl ?_
      refine go_getr (ci := 10) (k := 11) (r := 8) d_Mo_image_81 a_M_0 rfl (by decide) f_Mo_31 rfl ?_
      refine go_iload_n (k := 2) d_Mo_image_84 rfl rfl ?_
      refine go_aload_n (k := 0) d_Mo_image_85 rfl rfl ?_
      refine go_aload_n (k := 0) d_Mo_image_86 rfl rfl ?_
      refine go_getr (ci := 10) (k := 11) (r := 8) d_Mo_image_87 a_M_0 rfl (by decide) f_Mo_31 rfl ?_
      refine go_iload_n (k := 2) d_Mo_image_90 rfl rfl ?_
      obtain ⟨hi, v12, ev12, h⟩ := flod_e h
      refine go_iald2 d_Mo_image_91 a_M_8 hi ev12 ?_
      obtain ⟨⟨r14, I13⟩, w1, h⟩ := fbd_e h
      try dsimp only at h
      refine go_callV (y := yMo_keeps) (asr := [.inl v12]) (v := some (.inl r14)) (I' := I13) (st1 := [.inl r14, .inl x2, .inr (some 8)]) d_Mo_image_92 s_yMo_keeps m_Mo_496 a_M_0 rfl rfl rfl (Nat.le_of_ble_eq_true rfl) rfl rfl (c_Mo_keeps l (d0 + 1) v12 I w1) ?_
      obtain ⟨hi, I15, eI15, h⟩ := fsto_e h
      refine go_iast (I' := I15) d_Mo_image_95 a_M_8 hi eI15 ?_
      refine go_iinc (k := 2) (v := x2 + 1) (lv' := [(2, .inl (x2 + 1)), (0, .inr (some 0)), (1, .inl x1)]) d_Mo_image_96 rfl rfl (by decide) rfl ?_
      refine go_goto (tgt := 73) d_Mo_image_99 (by decide) ?_
      exact go_lv [1, 2, 0] rfl (ih (x2 + 1) I15 h hX)
def J_Mo_image_18 (x1 : Int32) (I : gb_Mem) : Option (Int32 × gb_Mem) :=
  fgd (decide (x1 = 0 ∨ x1 = 1)) <|
  fstf I 0 67 x1 fun I2 =>
  fstf I2 0 68 1 fun I3 =>
  fstf I3 0 69 0 fun I4 =>
  fbd (L_Mo_image_35 x1 5000 0 I4) fun I9 =>
  fbd (F_Mo_keepsMany  I9) fun I10 =>
  fbd (F_Mo_keepsTold  I10) fun I11 =>
  fbd (L_Mo_image_73 x1 5000 0 I11) fun I16 =>
  fbd (F_Mo_keepsLaw  I16) fun I17 =>
  if x1 = 0 then
    fstf I17 0 3 0 fun I18 =>
    some (1, I18)
  else
    some (1, I17)
set_option maxRecDepth 4000 in
theorem j_Mo_image_18 (l : Launch) (d0 : Nat) (x1 : Int32) (I : gb_Mem) {rz : Int32} {Iz : gb_Mem} (h : J_Mo_image_18 x1 I = some (rz, Iz)) : gb_Go l yMo_image (d0 + 2) 0 0 18 [(0, .inr (some 0)), (1, .inl x1)] [] shM I (gb_po shM (some (.inl rz)) Iz) := by
  unfold J_Mo_image_18 at h
  refine go_aload_n (k := 0) d_Mo_image_18 rfl rfl ?_
  refine go_iload_n (k := 1) d_Mo_image_19 rfl rfl ?_
  obtain ⟨hz, h⟩ := fgd_e h
  obtain ⟨I2, eI2, h⟩ := fstf_e h
  refine go_putT (ci := 10) (k := 67) (I' := I2) d_Mo_image_20 a_M_0 rfl (by decide) f_Mo_493 rfl rfl rfl (gb_narZ (of_decide_eq_true hz)) (gb_fitZ (of_decide_eq_true hz)) eI2 ?_
  refine go_aload_n (k := 0) d_Mo_image_23 rfl rfl ?_
  refine go_iconst (v := 1) d_Mo_image_24 (by decide) ?_
  obtain ⟨I3, eI3, h⟩ := fstf_e h
  refine go_putT (ci := 10) (k := 68) (I' := I3) d_Mo_image_25 a_M_0 rfl (by decide) f_Mo_499 rfl rfl rfl (gb_narZ (Or.inr rfl)) (gb_fitZ (Or.inr rfl)) eI3 ?_
  refine go_aload_n (k := 0) d_Mo_image_28 rfl rfl ?_
  refine go_iconst (v := 0) d_Mo_image_29 (by decide) ?_
  obtain ⟨I4, eI4, h⟩ := fstf_e h
  refine go_putT (ci := 10) (k := 69) (I' := I4) d_Mo_image_30 a_M_0 rfl (by decide) f_Mo_490 rfl rfl rfl rfl rfl eI4 ?_
  refine go_iconst (v := 0) d_Mo_image_33 (by decide) ?_
  refine go_istore_n (lv' := [(2, .inl 0), (0, .inr (some 0)), (1, .inl x1)]) d_Mo_image_34 rfl (by decide) rfl ?_
  refine go_lv [1, 2, 0] (lv' := [(0, .inr (some 0)), (1, .inl x1), (2, .inl 0)]) rfl ?_
  obtain ⟨I9, w1, h⟩ := fbd_e h
  refine l_Mo_image_35 l d0 x1 5000 0 I4 w1 (fun I9_ e => ?_)
  cases e
  refine go_aload_n (k := 0) d_Mo_image_63 rfl rfl ?_
  obtain ⟨I10, w1, h⟩ := fbd_e h
  refine go_callV (y := yMo_keepsMany) (asr := []) (v := none) (I' := I10) (st1 := []) d_Mo_image_64 s_yMo_keepsMany m_Mo_502 a_M_0 rfl rfl rfl (Nat.le_of_ble_eq_true rfl) rfl rfl (c_Mo_keepsMany l (d0 + 0)  I9 w1) ?_
  refine go_aload_n (k := 0) d_Mo_image_67 rfl rfl ?_
  obtain ⟨I11, w1, h⟩ := fbd_e h
  refine go_callV (y := yMo_keepsTold) (asr := []) (v := none) (I' := I11) (st1 := []) d_Mo_image_68 s_yMo_keepsTold m_Mo_505 a_M_0 rfl rfl rfl (Nat.le_of_ble_eq_true rfl) rfl rfl (c_Mo_keepsTold l (d0 + 0)  I10 w1) ?_
  refine go_iconst (v := 0) d_Mo_image_71 (by decide) ?_
  refine go_istore_n (lv' := [(2, .inl 0), (0, .inr (some 0)), (1, .inl x1)]) d_Mo_image_72 rfl (by decide) rfl ?_
  refine go_lv [1, 2, 0] (lv' := [(0, .inr (some 0)), (1, .inl x1), (2, .inl 0)]) rfl ?_
  obtain ⟨I16, w1, h⟩ := fbd_e h
  refine l_Mo_image_73 l d0 x1 5000 0 I11 w1 (fun I16_ e => ?_)
  cases e
  refine go_aload_n (k := 0) d_Mo_image_102 rfl rfl ?_
  obtain ⟨I17, w1, h⟩ := fbd_e h
  refine go_callV (y := yMo_keepsLaw) (asr := []) (v := none) (I' := I17) (st1 := []) d_Mo_image_103 s_yMo_keepsLaw m_Mo_508 a_M_0 rfl rfl rfl (Nat.le_of_ble_eq_true rfl) rfl rfl (c_Mo_keepsLaw l (d0 + 0)  I16 w1) ?_
  refine go_iload_n (k := 1) d_Mo_image_106 rfl rfl ?_
  refine go_if_ne (tgt := 115) d_Mo_image_107 (by decide) (fun hc => ?_) (fun hc => ?_)
  · rw [if_neg hc] at h
    refine go_iconst (v := 1) d_Mo_image_115 (by decide) ?_
    cases h
    exact go_zreturn d_Mo_image_116 rfl (Or.inr rfl) gb_po_i
  · rw [if_pos hc] at h
    refine go_aload_n (k := 0) d_Mo_image_110 rfl rfl ?_
    refine go_iconst (v := 0) d_Mo_image_111 (by decide) ?_
    obtain ⟨I18, eI18, h⟩ := fstf_e h
    refine go_putT (ci := 10) (k := 3) (I' := I18) d_Mo_image_112 a_M_0 rfl (by decide) f_Mo_141 rfl rfl rfl rfl rfl eI18 ?_
    refine go_iconst (v := 1) d_Mo_image_115 (by decide) ?_
    cases h
    exact go_zreturn d_Mo_image_116 rfl (Or.inr rfl) gb_po_i
def F_Mo_image (x1 : Int32) (I : gb_Mem) : Option (Int32 × gb_Mem) :=
  fstf I 0 0 0 fun I1 =>
  if x1 = 0 then
    if (I1 0 68) = 0 then
      some (0, I1)
    else
      J_Mo_image_18 x1 I1
  else
    J_Mo_image_18 x1 I1
set_option maxRecDepth 4000 in
theorem c_Mo_image (l : Launch) (d0 : Nat) (x1 : Int32) (I : gb_Mem) {rz : Int32} {Iz : gb_Mem} (h : F_Mo_image x1 I = some (rz, Iz)) : gb_Cs l yMo_image (d0 + 2) [.inr (some 0), .inl x1] shM I (some (.inl rz)) Iz := by
  refine gb_Ct.of (lv := [(0, .inr (some 0)), (1, .inl x1)]) rfl (Nat.le_of_ble_eq_true rfl) rfl ?_
  unfold F_Mo_image at h
  show gb_Go l yMo_image (d0 + 2) 0 0 0 [(0, .inr (some 0)), (1, .inl x1)] [] shM I (gb_po shM (some (.inl rz)) Iz)
  refine go_aload_n (k := 0) d_Mo_image_0 rfl rfl ?_
  refine go_iconst (v := 0) d_Mo_image_1 (by decide) ?_
  obtain ⟨I1, eI1, h⟩ := fstf_e h
  refine go_putT (ci := 10) (k := 0) (I' := I1) d_Mo_image_2 a_M_0 rfl (by decide) f_Mo_137 rfl rfl rfl rfl rfl eI1 ?_
  refine go_iload_n (k := 1) d_Mo_image_5 rfl rfl ?_
  refine go_if_ne (tgt := 18) d_Mo_image_6 (by decide) (fun hc => ?_) (fun hc => ?_)
  · rw [if_neg hc] at h
    exact go_lv [0, 1] rfl (j_Mo_image_18 l d0 x1 I1 h)
  · rw [if_pos hc] at h
    refine go_aload_n (k := 0) d_Mo_image_9 rfl rfl ?_
    refine go_geti (ci := 10) (k := 68) d_Mo_image_10 a_M_0 rfl (by decide) f_Mo_499 rfl ?_
    refine go_if_ne (tgt := 18) d_Mo_image_13 (by decide) (fun hc => ?_) (fun hc => ?_)
    · rw [if_neg hc] at h
      exact go_lv [0, 1] rfl (j_Mo_image_18 l d0 x1 I1 h)
    · rw [if_pos hc] at h
      refine go_iconst (v := 0) d_Mo_image_16 (by decide) ?_
      cases h
      exact go_zreturn d_Mo_image_17 rfl (Or.inl rfl) gb_po_i
theorem d_Mo_lands_0 : decode yMo_lands.2.1 0 = .ok (.aload_n 0, 1) := by decide +kernel
theorem d_Mo_lands_1 : decode yMo_lands.2.1 1 = .ok (.iload_n 1, 1) := by decide +kernel
theorem d_Mo_lands_2 : decode yMo_lands.2.1 2 = .ok (.invokevirtual 348, 3) := by decide +kernel
theorem d_Mo_lands_5 : decode yMo_lands.2.1 5 = .ok (.ifCond .ne 5, 3) := by decide +kernel
theorem d_Mo_lands_8 : decode yMo_lands.2.1 8 = .ok (.iconst 0, 1) := by decide +kernel
theorem d_Mo_lands_9 : decode yMo_lands.2.1 9 = .ok (.ireturn, 1) := by decide +kernel
theorem d_Mo_lands_10 : decode yMo_lands.2.1 10 = .ok (.aload_n 0, 1) := by decide +kernel
theorem d_Mo_lands_11 : decode yMo_lands.2.1 11 = .ok (.iconst 0, 1) := by decide +kernel
theorem d_Mo_lands_12 : decode yMo_lands.2.1 12 = .ok (.aload_n 0, 1) := by decide +kernel
theorem d_Mo_lands_13 : decode yMo_lands.2.1 13 = .ok (.getfield 7, 3) := by decide +kernel
theorem d_Mo_lands_16 : decode yMo_lands.2.1 16 = .ok (.bipush 40, 2) := by decide +kernel
theorem d_Mo_lands_18 : decode yMo_lands.2.1 18 = .ok (.iload_n 1, 1) := by decide +kernel
theorem d_Mo_lands_19 : decode yMo_lands.2.1 19 = .ok (.iadd, 1) := by decide +kernel
theorem d_Mo_lands_20 : decode yMo_lands.2.1 20 = .ok (.iaload, 1) := by decide +kernel
theorem d_Mo_lands_21 : decode yMo_lands.2.1 21 = .ok (.aload_n 0, 1) := by decide +kernel
theorem d_Mo_lands_22 : decode yMo_lands.2.1 22 = .ok (.getfield 7, 3) := by decide +kernel
theorem d_Mo_lands_25 : decode yMo_lands.2.1 25 = .ok (.bipush 64, 2) := by decide +kernel
theorem d_Mo_lands_27 : decode yMo_lands.2.1 27 = .ok (.iload_n 1, 1) := by decide +kernel
theorem d_Mo_lands_28 : decode yMo_lands.2.1 28 = .ok (.iadd, 1) := by decide +kernel
theorem d_Mo_lands_29 : decode yMo_lands.2.1 29 = .ok (.iaload, 1) := by decide +kernel
theorem d_Mo_lands_30 : decode yMo_lands.2.1 30 = .ok (.isub, 1) := by decide +kernel
theorem d_Mo_lands_31 : decode yMo_lands.2.1 31 = .ok (.invokevirtual 351, 3) := by decide +kernel
theorem d_Mo_lands_34 : decode yMo_lands.2.1 34 = .ok (.istore_n 2, 1) := by decide +kernel
theorem d_Mo_lands_35 : decode yMo_lands.2.1 35 = .ok (.bipush 30, 2) := by decide +kernel
theorem d_Mo_lands_37 : decode yMo_lands.2.1 37 = .ok (.iconst 5, 1) := by decide +kernel
theorem d_Mo_lands_38 : decode yMo_lands.2.1 38 = .ok (.aload_n 0, 1) := by decide +kernel
theorem d_Mo_lands_39 : decode yMo_lands.2.1 39 = .ok (.getfield 7, 3) := by decide +kernel
theorem d_Mo_lands_42 : decode yMo_lands.2.1 42 = .ok (.bipush 56, 2) := by decide +kernel
theorem d_Mo_lands_44 : decode yMo_lands.2.1 44 = .ok (.iload_n 1, 1) := by decide +kernel
theorem d_Mo_lands_45 : decode yMo_lands.2.1 45 = .ok (.iadd, 1) := by decide +kernel
theorem d_Mo_lands_46 : decode yMo_lands.2.1 46 = .ok (.iaload, 1) := by decide +kernel
theorem d_Mo_lands_47 : decode yMo_lands.2.1 47 = .ok (.imul, 1) := by decide +kernel
theorem d_Mo_lands_48 : decode yMo_lands.2.1 48 = .ok (.iadd, 1) := by decide +kernel
theorem d_Mo_lands_49 : decode yMo_lands.2.1 49 = .ok (.aload_n 0, 1) := by decide +kernel
theorem d_Mo_lands_50 : decode yMo_lands.2.1 50 = .ok (.getfield 28, 3) := by decide +kernel
theorem d_Mo_lands_53 : decode yMo_lands.2.1 53 = .ok (.iload_n 1, 1) := by decide +kernel
theorem d_Mo_lands_54 : decode yMo_lands.2.1 54 = .ok (.iaload, 1) := by decide +kernel
theorem d_Mo_lands_55 : decode yMo_lands.2.1 55 = .ok (.iadd, 1) := by decide +kernel
theorem d_Mo_lands_56 : decode yMo_lands.2.1 56 = .ok (.istore_n 3, 1) := by decide +kernel
theorem d_Mo_lands_57 : decode yMo_lands.2.1 57 = .ok (.aload_n 0, 1) := by decide +kernel
theorem d_Mo_lands_58 : decode yMo_lands.2.1 58 = .ok (.getfield 7, 3) := by decide +kernel
theorem d_Mo_lands_61 : decode yMo_lands.2.1 61 = .ok (.iload_n 3, 1) := by decide +kernel
theorem d_Mo_lands_62 : decode yMo_lands.2.1 62 = .ok (.aload_n 0, 1) := by decide +kernel
theorem d_Mo_lands_63 : decode yMo_lands.2.1 63 = .ok (.getfield 7, 3) := by decide +kernel
theorem d_Mo_lands_66 : decode yMo_lands.2.1 66 = .ok (.iload_n 3, 1) := by decide +kernel
theorem d_Mo_lands_67 : decode yMo_lands.2.1 67 = .ok (.iaload, 1) := by decide +kernel
theorem d_Mo_lands_68 : decode yMo_lands.2.1 68 = .ok (.iload_n 2, 1) := by decide +kernel
theorem d_Mo_lands_69 : decode yMo_lands.2.1 69 = .ok (.iadd, 1) := by decide +kernel
theorem d_Mo_lands_70 : decode yMo_lands.2.1 70 = .ok (.iastore, 1) := by decide +kernel
theorem d_Mo_lands_71 : decode yMo_lands.2.1 71 = .ok (.aload_n 0, 1) := by decide +kernel
theorem d_Mo_lands_72 : decode yMo_lands.2.1 72 = .ok (.getfield 7, 3) := by decide +kernel
theorem d_Mo_lands_75 : decode yMo_lands.2.1 75 = .ok (.bipush 72, 2) := by decide +kernel
theorem d_Mo_lands_77 : decode yMo_lands.2.1 77 = .ok (.iload_n 1, 1) := by decide +kernel
theorem d_Mo_lands_78 : decode yMo_lands.2.1 78 = .ok (.iadd, 1) := by decide +kernel
theorem d_Mo_lands_79 : decode yMo_lands.2.1 79 = .ok (.aload_n 0, 1) := by decide +kernel
theorem d_Mo_lands_80 : decode yMo_lands.2.1 80 = .ok (.getfield 7, 3) := by decide +kernel
theorem d_Mo_lands_83 : decode yMo_lands.2.1 83 = .ok (.bipush 72, 2) := by decide +kernel
theorem d_Mo_lands_85 : decode yMo_lands.2.1 85 = .ok (.iload_n 1, 1) := by decide +kernel
theorem d_Mo_lands_86 : decode yMo_lands.2.1 86 = .ok (.iadd, 1) := by decide +kernel
theorem d_Mo_lands_87 : decode yMo_lands.2.1 87 = .ok (.iaload, 1) := by decide +kernel
theorem d_Mo_lands_88 : decode yMo_lands.2.1 88 = .ok (.iconst 1, 1) := by decide +kernel
theorem d_Mo_lands_89 : decode yMo_lands.2.1 89 = .ok (.iadd, 1) := by decide +kernel
theorem d_Mo_lands_90 : decode yMo_lands.2.1 90 = .ok (.iastore, 1) := by decide +kernel
theorem d_Mo_lands_91 : decode yMo_lands.2.1 91 = .ok (.aload_n 0, 1) := by decide +kernel
theorem d_Mo_lands_92 : decode yMo_lands.2.1 92 = .ok (.getfield 7, 3) := by decide +kernel
theorem d_Mo_lands_95 : decode yMo_lands.2.1 95 = .ok (.bipush 40, 2) := by decide +kernel
theorem d_Mo_lands_97 : decode yMo_lands.2.1 97 = .ok (.iload_n 1, 1) := by decide +kernel
theorem d_Mo_lands_98 : decode yMo_lands.2.1 98 = .ok (.iadd, 1) := by decide +kernel
theorem d_Mo_lands_99 : decode yMo_lands.2.1 99 = .ok (.iconst 0, 1) := by decide +kernel
theorem d_Mo_lands_100 : decode yMo_lands.2.1 100 = .ok (.iastore, 1) := by decide +kernel
theorem d_Mo_lands_101 : decode yMo_lands.2.1 101 = .ok (.aload_n 0, 1) := by decide +kernel
theorem d_Mo_lands_102 : decode yMo_lands.2.1 102 = .ok (.getfield 7, 3) := by decide +kernel
theorem d_Mo_lands_105 : decode yMo_lands.2.1 105 = .ok (.bipush 64, 2) := by decide +kernel
theorem d_Mo_lands_107 : decode yMo_lands.2.1 107 = .ok (.iload_n 1, 1) := by decide +kernel
theorem d_Mo_lands_108 : decode yMo_lands.2.1 108 = .ok (.iadd, 1) := by decide +kernel
theorem d_Mo_lands_109 : decode yMo_lands.2.1 109 = .ok (.iconst 0, 1) := by decide +kernel
theorem d_Mo_lands_110 : decode yMo_lands.2.1 110 = .ok (.iastore, 1) := by decide +kernel
theorem d_Mo_lands_111 : decode yMo_lands.2.1 111 = .ok (.aload_n 0, 1) := by decide +kernel
theorem d_Mo_lands_112 : decode yMo_lands.2.1 112 = .ok (.iconst 2, 1) := by decide +kernel
theorem d_Mo_lands_113 : decode yMo_lands.2.1 113 = .ok (.iload_n 1, 1) := by decide +kernel
theorem d_Mo_lands_114 : decode yMo_lands.2.1 114 = .ok (.iload_n 2, 1) := by decide +kernel
theorem d_Mo_lands_115 : decode yMo_lands.2.1 115 = .ok (.invokevirtual 354, 3) := by decide +kernel
theorem d_Mo_lands_118 : decode yMo_lands.2.1 118 = .ok (.aload_n 0, 1) := by decide +kernel
theorem d_Mo_lands_119 : decode yMo_lands.2.1 119 = .ok (.iload_n 2, 1) := by decide +kernel
theorem d_Mo_lands_120 : decode yMo_lands.2.1 120 = .ok (.putfield 358, 3) := by decide +kernel
theorem d_Mo_lands_123 : decode yMo_lands.2.1 123 = .ok (.aload_n 0, 1) := by decide +kernel
theorem d_Mo_lands_124 : decode yMo_lands.2.1 124 = .ok (.getfield 68, 3) := by decide +kernel
theorem d_Mo_lands_127 : decode yMo_lands.2.1 127 = .ok (.iload_n 1, 1) := by decide +kernel
theorem d_Mo_lands_128 : decode yMo_lands.2.1 128 = .ok (.iaload, 1) := by decide +kernel
theorem d_Mo_lands_129 : decode yMo_lands.2.1 129 = .ok (.ifCond .ne 5, 3) := by decide +kernel
theorem d_Mo_lands_132 : decode yMo_lands.2.1 132 = .ok (.iconst 1, 1) := by decide +kernel
theorem d_Mo_lands_133 : decode yMo_lands.2.1 133 = .ok (.ireturn, 1) := by decide +kernel
theorem d_Mo_lands_134 : decode yMo_lands.2.1 134 = .ok (.aload_n 0, 1) := by decide +kernel
theorem d_Mo_lands_135 : decode yMo_lands.2.1 135 = .ok (.getfield 7, 3) := by decide +kernel
theorem d_Mo_lands_138 : decode yMo_lands.2.1 138 = .ok (.bipush 40, 2) := by decide +kernel
theorem d_Mo_lands_140 : decode yMo_lands.2.1 140 = .ok (.iload_n 1, 1) := by decide +kernel
theorem d_Mo_lands_141 : decode yMo_lands.2.1 141 = .ok (.iadd, 1) := by decide +kernel
theorem d_Mo_lands_142 : decode yMo_lands.2.1 142 = .ok (.aload_n 0, 1) := by decide +kernel
theorem d_Mo_lands_143 : decode yMo_lands.2.1 143 = .ok (.getfield 68, 3) := by decide +kernel
theorem d_Mo_lands_146 : decode yMo_lands.2.1 146 = .ok (.iload_n 1, 1) := by decide +kernel
theorem d_Mo_lands_147 : decode yMo_lands.2.1 147 = .ok (.iaload, 1) := by decide +kernel
theorem d_Mo_lands_148 : decode yMo_lands.2.1 148 = .ok (.iastore, 1) := by decide +kernel
theorem d_Mo_lands_149 : decode yMo_lands.2.1 149 = .ok (.aload_n 0, 1) := by decide +kernel
theorem d_Mo_lands_150 : decode yMo_lands.2.1 150 = .ok (.getfield 7, 3) := by decide +kernel
theorem d_Mo_lands_153 : decode yMo_lands.2.1 153 = .ok (.bipush 56, 2) := by decide +kernel
theorem d_Mo_lands_155 : decode yMo_lands.2.1 155 = .ok (.iload_n 1, 1) := by decide +kernel
theorem d_Mo_lands_156 : decode yMo_lands.2.1 156 = .ok (.iadd, 1) := by decide +kernel
theorem d_Mo_lands_157 : decode yMo_lands.2.1 157 = .ok (.iconst 1, 1) := by decide +kernel
theorem d_Mo_lands_158 : decode yMo_lands.2.1 158 = .ok (.aload_n 0, 1) := by decide +kernel
theorem d_Mo_lands_159 : decode yMo_lands.2.1 159 = .ok (.getfield 7, 3) := by decide +kernel
theorem d_Mo_lands_162 : decode yMo_lands.2.1 162 = .ok (.bipush 56, 2) := by decide +kernel
theorem d_Mo_lands_164 : decode yMo_lands.2.1 164 = .ok (.iload_n 1, 1) := by decide +kernel
theorem d_Mo_lands_165 : decode yMo_lands.2.1 165 = .ok (.iadd, 1) := by decide +kernel
theorem d_Mo_lands_166 : decode yMo_lands.2.1 166 = .ok (.iaload, 1) := by decide +kernel
theorem d_Mo_lands_167 : decode yMo_lands.2.1 167 = .ok (.isub, 1) := by decide +kernel
theorem d_Mo_lands_168 : decode yMo_lands.2.1 168 = .ok (.iastore, 1) := by decide +kernel
theorem d_Mo_lands_169 : decode yMo_lands.2.1 169 = .ok (.iconst 1, 1) := by decide +kernel
theorem d_Mo_lands_170 : decode yMo_lands.2.1 170 = .ok (.ireturn, 1) := by decide +kernel
def F_Mo_lands (x1 : Int32) (I : gb_Mem) : Option (Int32 × gb_Mem) :=
  fbd (F_Mo_isAshore x1 I) fun r1 =>
  if r1 = 0 then
    some (0, I)
  else
    flod I 1 80 (40 + x1) fun v2 =>
    flod I 1 80 (64 + x1) fun v3 =>
    flt (F_Mo_greater 0 (v2 - v3) I) fun y4 =>
    flod I 1 80 (56 + x1) fun v5 =>
    flod I 7 8 x1 fun v6 =>
    flt ((30 + (5 * v5)) + v6) fun y7 =>
    flod I 1 80 y7 fun v8 =>
    fsto I 1 80 y7 (v8 + y4) fun I9 =>
    flod I9 1 80 (72 + x1) fun v10 =>
    fsto I9 1 80 (72 + x1) (v10 + 1) fun I11 =>
    fsto I11 1 80 (40 + x1) 0 fun I12 =>
    fsto I12 1 80 (64 + x1) 0 fun I13 =>
    fbd (F_Mo_notes 2 x1 y4 I13) fun I14 =>
    fstf I14 0 43 y4 fun I15 =>
    flod I15 19 16 x1 fun v16 =>
    if v16 = 0 then
      some (1, I15)
    else
      flod I15 19 16 x1 fun v17 =>
      fsto I15 1 80 (40 + x1) v17 fun I18 =>
      flod I18 1 80 (56 + x1) fun v19 =>
      fsto I18 1 80 (56 + x1) (1 - v19) fun I20 =>
      some (1, I20)
set_option maxRecDepth 4000 in
theorem c_Mo_lands (l : Launch) (d0 : Nat) (x1 : Int32) (I : gb_Mem) {rz : Int32} {Iz : gb_Mem} (h : F_Mo_lands x1 I = some (rz, Iz)) : gb_Cs l yMo_lands (d0 + 2) [.inr (some 0), .inl x1] shM I (some (.inl rz)) Iz := by
  refine gb_Ct.of (lv := [(0, .inr (some 0)), (1, .inl x1)]) rfl (Nat.le_of_ble_eq_true rfl) rfl ?_
  unfold F_Mo_lands at h
  show gb_Go l yMo_lands (d0 + 2) 0 0 0 [(0, .inr (some 0)), (1, .inl x1)] [] shM I (gb_po shM (some (.inl rz)) Iz)
  refine go_aload_n (k := 0) d_Mo_lands_0 rfl rfl ?_
  refine go_iload_n (k := 1) d_Mo_lands_1 rfl rfl ?_
  obtain ⟨r1, w1, h⟩ := fbd_e h
  refine go_callV (y := yMo_isAshore) (asr := [.inl x1]) (v := some (.inl r1)) (I' := I) (st1 := [.inl r1]) d_Mo_lands_2 s_yMo_isAshore m_Mo_348 a_M_0 rfl rfl rfl (Nat.le_of_ble_eq_true rfl) rfl rfl (c_Mo_isAshore l (d0 + 0) x1 I w1) ?_
  refine go_if_ne (tgt := 10) d_Mo_lands_5 (by decide) (fun hc => ?_) (fun hc => ?_)
  · rw [if_neg hc] at h
    refine go_aload_n (k := 0) d_Mo_lands_10 rfl rfl ?_
    refine go_iconst (v := 0) d_Mo_lands_11 (by decide) ?_
    refine go_aload_n (k := 0) d_Mo_lands_12 rfl rfl ?_
    refine go_getr (ci := 10) (k := 1) (r := 1) d_Mo_lands_13 a_M_0 rfl (by decide) f_Mo_7 rfl ?_
    refine go_bipush (v := 40) d_Mo_lands_16 (by decide) ?_
    refine go_iload_n (k := 1) d_Mo_lands_18 rfl rfl ?_
    refine go_iadd d_Mo_lands_19 ?_
    obtain ⟨hi, v2, ev2, h⟩ := flod_e h
    refine go_iald2 d_Mo_lands_20 a_M_1 hi ev2 ?_
    refine go_aload_n (k := 0) d_Mo_lands_21 rfl rfl ?_
    refine go_getr (ci := 10) (k := 1) (r := 1) d_Mo_lands_22 a_M_0 rfl (by decide) f_Mo_7 rfl ?_
    refine go_bipush (v := 64) d_Mo_lands_25 (by decide) ?_
    refine go_iload_n (k := 1) d_Mo_lands_27 rfl rfl ?_
    refine go_iadd d_Mo_lands_28 ?_
    obtain ⟨hi, v3, ev3, h⟩ := flod_e h
    refine go_iald2 d_Mo_lands_29 a_M_1 hi ev3 ?_
    refine go_isub d_Mo_lands_30 ?_
    refine go_callV (y := yMo_greater) (asr := [.inl 0, .inl (v2 - v3)]) (v := some (.inl (F_Mo_greater 0 (v2 - v3) I))) (I' := I) (st1 := [.inl (F_Mo_greater 0 (v2 - v3) I)]) d_Mo_lands_31 s_yMo_greater m_Mo_351 a_M_0 rfl rfl rfl (Nat.le_of_ble_eq_true rfl) rfl rfl (c_Mo_greater l (d0 + 1) 0 (v2 - v3) I) ?_
    obtain ⟨y4, ey4, h⟩ := flt_e h
    refine go_top ey4 ?_
    refine go_istore_n (lv' := [(2, .inl y4), (0, .inr (some 0)), (1, .inl x1)]) d_Mo_lands_34 rfl (by decide) rfl ?_
    refine go_bipush (v := 30) d_Mo_lands_35 (by decide) ?_
    refine go_iconst (v := 5) d_Mo_lands_37 (by decide) ?_
    refine go_aload_n (k := 1) d_Mo_lands_38 rfl rfl ?_
    refine go_getr (ci := 10) (k := 1) (r := 1) d_Mo_lands_39 a_M_0 rfl (by decide) f_Mo_7 rfl ?_
    refine go_bipush (v := 56) d_Mo_lands_42 (by decide) ?_
    refine go_iload_n (k := 2) d_Mo_lands_44 rfl rfl ?_
    refine go_iadd d_Mo_lands_45 ?_
    obtain ⟨hi, v5, ev5, h⟩ := flod_e h
    refine go_iald2 d_Mo_lands_46 a_M_1 hi ev5 ?_
    refine go_imul d_Mo_lands_47 ?_
    refine go_iadd d_Mo_lands_48 ?_
    refine go_aload_n (k := 1) d_Mo_lands_49 rfl rfl ?_
    refine go_getr (ci := 10) (k := 10) (r := 7) d_Mo_lands_50 a_M_0 rfl (by decide) f_Mo_28 rfl ?_
    refine go_iload_n (k := 2) d_Mo_lands_53 rfl rfl ?_
    obtain ⟨hi, v6, ev6, h⟩ := flod_e h
    refine go_iald2 d_Mo_lands_54 a_M_7 hi ev6 ?_
    refine go_iadd d_Mo_lands_55 ?_
    obtain ⟨y7, ey7, h⟩ := flt_e h
    refine go_top ey7 ?_
    refine go_istore_n (lv' := [(3, .inl y7), (2, .inl y4), (0, .inr (some 0)), (1, .inl x1)]) d_Mo_lands_56 rfl (by decide) rfl ?_
    refine go_aload_n (k := 2) d_Mo_lands_57 rfl rfl ?_
    refine go_getr (ci := 10) (k := 1) (r := 1) d_Mo_lands_58 a_M_0 rfl (by decide) f_Mo_7 rfl ?_
    refine go_iload_n (k := 0) d_Mo_lands_61 rfl rfl ?_
    refine go_aload_n (k := 2) d_Mo_lands_62 rfl rfl ?_
    refine go_getr (ci := 10) (k := 1) (r := 1) d_Mo_lands_63 a_M_0 rfl (by decide) f_Mo_7 rfl ?_
    refine go_iload_n (k := 0) d_Mo_lands_66 rfl rfl ?_
    obtain ⟨hi, v8, ev8, h⟩ := flod_e h
    refine go_iald2 d_Mo_lands_67 a_M_1 hi ev8 ?_
    refine go_iload_n (k := 1) d_Mo_lands_68 rfl rfl ?_
    refine go_iadd d_Mo_lands_69 ?_
    obtain ⟨hi, I9, eI9, h⟩ := fsto_e h
    refine go_iast (I' := I9) d_Mo_lands_70 a_M_1 hi eI9 ?_
    refine go_aload_n (k := 2) d_Mo_lands_71 rfl rfl ?_
    refine go_getr (ci := 10) (k := 1) (r := 1) d_Mo_lands_72 a_M_0 rfl (by decide) f_Mo_7 rfl ?_
    refine go_bipush (v := 72) d_Mo_lands_75 (by decide) ?_
    refine go_iload_n (k := 3) d_Mo_lands_77 rfl rfl ?_
    refine go_iadd d_Mo_lands_78 ?_
    refine go_aload_n (k := 2) d_Mo_lands_79 rfl rfl ?_
    refine go_getr (ci := 10) (k := 1) (r := 1) d_Mo_lands_80 a_M_0 rfl (by decide) f_Mo_7 rfl ?_
    refine go_bipush (v := 72) d_Mo_lands_83 (by decide) ?_
    refine go_iload_n (k := 3) d_Mo_lands_85 rfl rfl ?_
    refine go_iadd d_Mo_lands_86 ?_
    obtain ⟨hi, v10, ev10, h⟩ := flod_e h
    refine go_iald2 d_Mo_lands_87 a_M_1 hi ev10 ?_
    refine go_iconst (v := 1) d_Mo_lands_88 (by decide) ?_
    refine go_iadd d_Mo_lands_89 ?_
    obtain ⟨hi, I11, eI11, h⟩ := fsto_e h
    refine go_iast (I' := I11) d_Mo_lands_90 a_M_1 hi eI11 ?_
    refine go_aload_n (k := 2) d_Mo_lands_91 rfl rfl ?_
    refine go_getr (ci := 10) (k := 1) (r := 1) d_Mo_lands_92 a_M_0 rfl (by decide) f_Mo_7 rfl ?_
    refine go_bipush (v := 40) d_Mo_lands_95 (by decide) ?_
    refine go_iload_n (k := 3) d_Mo_lands_97 rfl rfl ?_
    refine go_iadd d_Mo_lands_98 ?_
    refine go_iconst (v := 0) d_Mo_lands_99 (by decide) ?_
    obtain ⟨hi, I12, eI12, h⟩ := fsto_e h
    refine go_iast (I' := I12) d_Mo_lands_100 a_M_1 hi eI12 ?_
    refine go_aload_n (k := 2) d_Mo_lands_101 rfl rfl ?_
    refine go_getr (ci := 10) (k := 1) (r := 1) d_Mo_lands_102 a_M_0 rfl (by decide) f_Mo_7 rfl ?_
    refine go_bipush (v := 64) d_Mo_lands_105 (by decide) ?_
    refine go_iload_n (k := 3) d_Mo_lands_107 rfl rfl ?_
    refine go_iadd d_Mo_lands_108 ?_
    refine go_iconst (v := 0) d_Mo_lands_109 (by decide) ?_
    obtain ⟨hi, I13, eI13, h⟩ := fsto_e h
    refine go_iast (I' := I13) d_Mo_lands_110 a_M_1 hi eI13 ?_
    refine go_aload_n (k := 2) d_Mo_lands_111 rfl rfl ?_
    refine go_iconst (v := 2) d_Mo_lands_112 (by decide) ?_
    refine go_iload_n (k := 3) d_Mo_lands_113 rfl rfl ?_
    refine go_iload_n (k := 1) d_Mo_lands_114 rfl rfl ?_
    obtain ⟨I14, w1, h⟩ := fbd_e h
    refine go_callV (y := yMo_notes) (asr := [.inl 2, .inl x1, .inl y4]) (v := none) (I' := I14) (st1 := []) d_Mo_lands_115 s_yMo_notes m_Mo_354 a_M_0 rfl rfl rfl (Nat.le_of_ble_eq_true rfl) rfl rfl (c_Mo_notes l (d0 + 1) 2 x1 y4 I13 w1) ?_
    refine go_aload_n (k := 2) d_Mo_lands_118 rfl rfl ?_
    refine go_iload_n (k := 1) d_Mo_lands_119 rfl rfl ?_
    obtain ⟨I15, eI15, h⟩ := fstf_e h
    refine go_putT (ci := 10) (k := 43) (I' := I15) d_Mo_lands_120 a_M_0 rfl (by decide) f_Mo_358 rfl rfl rfl rfl rfl eI15 ?_
    refine go_aload_n (k := 2) d_Mo_lands_123 rfl rfl ?_
    refine go_getr (ci := 10) (k := 36) (r := 19) d_Mo_lands_124 a_M_0 rfl (by decide) f_Mo_68 rfl ?_
    refine go_iload_n (k := 3) d_Mo_lands_127 rfl rfl ?_
    obtain ⟨hi, v16, ev16, h⟩ := flod_e h
    refine go_iald2 d_Mo_lands_128 a_M_19 hi ev16 ?_
    refine go_if_ne (tgt := 134) d_Mo_lands_129 (by decide) (fun hc => ?_) (fun hc => ?_)
    · rw [if_neg hc] at h
      refine go_aload_n (k := 2) d_Mo_lands_134 rfl rfl ?_
      refine go_getr (ci := 10) (k := 1) (r := 1) d_Mo_lands_135 a_M_0 rfl (by decide) f_Mo_7 rfl ?_
      refine go_bipush (v := 40) d_Mo_lands_138 (by decide) ?_
      refine go_iload_n (k := 3) d_Mo_lands_140 rfl rfl ?_
      refine go_iadd d_Mo_lands_141 ?_
      refine go_aload_n (k := 2) d_Mo_lands_142 rfl rfl ?_
      refine go_getr (ci := 10) (k := 36) (r := 19) d_Mo_lands_143 a_M_0 rfl (by decide) f_Mo_68 rfl ?_
      refine go_iload_n (k := 3) d_Mo_lands_146 rfl rfl ?_
      obtain ⟨hi, v17, ev17, h⟩ := flod_e h
      refine go_iald2 d_Mo_lands_147 a_M_19 hi ev17 ?_
      obtain ⟨hi, I18, eI18, h⟩ := fsto_e h
      refine go_iast (I' := I18) d_Mo_lands_148 a_M_1 hi eI18 ?_
      refine go_aload_n (k := 2) d_Mo_lands_149 rfl rfl ?_
      refine go_getr (ci := 10) (k := 1) (r := 1) d_Mo_lands_150 a_M_0 rfl (by decide) f_Mo_7 rfl ?_
      refine go_bipush (v := 56) d_Mo_lands_153 (by decide) ?_
      refine go_iload_n (k := 3) d_Mo_lands_155 rfl rfl ?_
      refine go_iadd d_Mo_lands_156 ?_
      refine go_iconst (v := 1) d_Mo_lands_157 (by decide) ?_
      refine go_aload_n (k := 2) d_Mo_lands_158 rfl rfl ?_
      refine go_getr (ci := 10) (k := 1) (r := 1) d_Mo_lands_159 a_M_0 rfl (by decide) f_Mo_7 rfl ?_
      refine go_bipush (v := 56) d_Mo_lands_162 (by decide) ?_
      refine go_iload_n (k := 3) d_Mo_lands_164 rfl rfl ?_
      refine go_iadd d_Mo_lands_165 ?_
      obtain ⟨hi, v19, ev19, h⟩ := flod_e h
      refine go_iald2 d_Mo_lands_166 a_M_1 hi ev19 ?_
      refine go_isub d_Mo_lands_167 ?_
      obtain ⟨hi, I20, eI20, h⟩ := fsto_e h
      refine go_iast (I' := I20) d_Mo_lands_168 a_M_1 hi eI20 ?_
      refine go_iconst (v := 1) d_Mo_lands_169 (by decide) ?_
      cases h
      exact go_zreturn d_Mo_lands_170 rfl (Or.inr rfl) gb_po_i
    · rw [if_pos hc] at h
      refine go_iconst (v := 1) d_Mo_lands_132 (by decide) ?_
      cases h
      exact go_zreturn d_Mo_lands_133 rfl (Or.inr rfl) gb_po_i
  · rw [if_pos hc] at h
    refine go_iconst (v := 0) d_Mo_lands_8 (by decide) ?_
    cases h
    exact go_zreturn d_Mo_lands_9 rfl (Or.inl rfl) gb_po_i
theorem d_Mo_lineOf_0 : decode yMo_lineOf.2.1 0 = .ok (.iconst 0, 1) := by decide +kernel
theorem d_Mo_lineOf_1 : decode yMo_lineOf.2.1 1 = .ok (.istore_n 2, 1) := by decide +kernel
theorem d_Mo_lineOf_2 : decode yMo_lineOf.2.1 2 = .ok (.iload_n 2, 1) := by decide +kernel
theorem d_Mo_lineOf_3 : decode yMo_lineOf.2.1 3 = .ok (.aload_n 0, 1) := by decide +kernel
theorem d_Mo_lineOf_4 : decode yMo_lineOf.2.1 4 = .ok (.getfield 40, 3) := by decide +kernel
theorem d_Mo_lineOf_7 : decode yMo_lineOf.2.1 7 = .ok (.iconst 0, 1) := by decide +kernel
theorem d_Mo_lineOf_8 : decode yMo_lineOf.2.1 8 = .ok (.iaload, 1) := by decide +kernel
theorem d_Mo_lineOf_9 : decode yMo_lineOf.2.1 9 = .ok (.if_icmp .ge 56, 3) := by decide +kernel
theorem d_Mo_lineOf_12 : decode yMo_lineOf.2.1 12 = .ok (.aload_n 0, 1) := by decide +kernel
theorem d_Mo_lineOf_13 : decode yMo_lineOf.2.1 13 = .ok (.getfield 43, 3) := by decide +kernel
theorem d_Mo_lineOf_16 : decode yMo_lineOf.2.1 16 = .ok (.iload_n 2, 1) := by decide +kernel
theorem d_Mo_lineOf_17 : decode yMo_lineOf.2.1 17 = .ok (.iaload, 1) := by decide +kernel
theorem d_Mo_lineOf_18 : decode yMo_lineOf.2.1 18 = .ok (.iload_n 1, 1) := by decide +kernel
theorem d_Mo_lineOf_19 : decode yMo_lineOf.2.1 19 = .ok (.if_icmp .ne 40, 3) := by decide +kernel
theorem d_Mo_lineOf_22 : decode yMo_lineOf.2.1 22 = .ok (.aload_n 0, 1) := by decide +kernel
theorem d_Mo_lineOf_23 : decode yMo_lineOf.2.1 23 = .ok (.getfield 49, 3) := by decide +kernel
theorem d_Mo_lineOf_26 : decode yMo_lineOf.2.1 26 = .ok (.iload_n 2, 1) := by decide +kernel
theorem d_Mo_lineOf_27 : decode yMo_lineOf.2.1 27 = .ok (.iaload, 1) := by decide +kernel
theorem d_Mo_lineOf_28 : decode yMo_lineOf.2.1 28 = .ok (.aload_n 0, 1) := by decide +kernel
theorem d_Mo_lineOf_29 : decode yMo_lineOf.2.1 29 = .ok (.getfield 52, 3) := by decide +kernel
theorem d_Mo_lineOf_32 : decode yMo_lineOf.2.1 32 = .ok (.iload_n 2, 1) := by decide +kernel
theorem d_Mo_lineOf_33 : decode yMo_lineOf.2.1 33 = .ok (.iaload, 1) := by decide +kernel
theorem d_Mo_lineOf_34 : decode yMo_lineOf.2.1 34 = .ok (.if_icmp .eq 23, 3) := by decide +kernel
theorem d_Mo_lineOf_37 : decode yMo_lineOf.2.1 37 = .ok (.aload_n 0, 1) := by decide +kernel
theorem d_Mo_lineOf_38 : decode yMo_lineOf.2.1 38 = .ok (.iconst 0, 1) := by decide +kernel
theorem d_Mo_lineOf_39 : decode yMo_lineOf.2.1 39 = .ok (.aload_n 0, 1) := by decide +kernel
theorem d_Mo_lineOf_40 : decode yMo_lineOf.2.1 40 = .ok (.getfield 49, 3) := by decide +kernel
theorem d_Mo_lineOf_43 : decode yMo_lineOf.2.1 43 = .ok (.iload_n 2, 1) := by decide +kernel
theorem d_Mo_lineOf_44 : decode yMo_lineOf.2.1 44 = .ok (.iaload, 1) := by decide +kernel
theorem d_Mo_lineOf_45 : decode yMo_lineOf.2.1 45 = .ok (.aload_n 0, 1) := by decide +kernel
theorem d_Mo_lineOf_46 : decode yMo_lineOf.2.1 46 = .ok (.getfield 52, 3) := by decide +kernel
theorem d_Mo_lineOf_49 : decode yMo_lineOf.2.1 49 = .ok (.iload_n 2, 1) := by decide +kernel
theorem d_Mo_lineOf_50 : decode yMo_lineOf.2.1 50 = .ok (.iaload, 1) := by decide +kernel
theorem d_Mo_lineOf_51 : decode yMo_lineOf.2.1 51 = .ok (.invokevirtual 327, 3) := by decide +kernel
theorem d_Mo_lineOf_54 : decode yMo_lineOf.2.1 54 = .ok (.ifCond .eq 5, 3) := by decide +kernel
theorem d_Mo_lineOf_57 : decode yMo_lineOf.2.1 57 = .ok (.iload_n 2, 1) := by decide +kernel
theorem d_Mo_lineOf_58 : decode yMo_lineOf.2.1 58 = .ok (.ireturn, 1) := by decide +kernel
theorem d_Mo_lineOf_59 : decode yMo_lineOf.2.1 59 = .ok (.iinc 2 1, 3) := by decide +kernel
theorem d_Mo_lineOf_62 : decode yMo_lineOf.2.1 62 = .ok (.goto (-60), 3) := by decide +kernel
theorem d_Mo_lineOf_65 : decode yMo_lineOf.2.1 65 = .ok (.iconst (-1), 1) := by decide +kernel
theorem d_Mo_lineOf_66 : decode yMo_lineOf.2.1 66 = .ok (.ireturn, 1) := by decide +kernel
def J_Mo_lineOf_59 (k : Int32 → gb_Mem → Option ((gb_Mem) ⊕ (Int32 × gb_Mem))) (x1 x2 : Int32) (I : gb_Mem) : Option ((gb_Mem) ⊕ (Int32 × gb_Mem)) :=
  k (x2 + 1) I
set_option maxRecDepth 4000 in
theorem j_Mo_lineOf_59 (l : Launch) (d0 : Nat) {post : Option gb_AV → List gb_Ce → gb_Mem → Prop} (k : Int32 → gb_Mem → Option ((gb_Mem) ⊕ (Int32 × gb_Mem))) (x1 x2 : Int32) (I : gb_Mem) {ρ : (gb_Mem) ⊕ (Int32 × gb_Mem)} (h : J_Mo_lineOf_59 k x1 x2 I = some ρ) (hk : ∀ (z2 : Int32) (Iw : gb_Mem), k z2 Iw = some ρ → gb_Go l yMo_lineOf (d0 + 2) 0 0 2 [(0, .inr (some 0)), (1, .inl x1), (2, .inl z2)] [] shM Iw post) (hX : ∀ (I2 : gb_Mem), ρ = .inl I2 → gb_Go l yMo_lineOf (d0 + 2) 0 0 65 [] [] shM I2 post) (hR : ∀ (v : Int32) (I3 : gb_Mem), ρ = .inr (v, I3) → post (some (.inl v)) shM I3) : gb_Go l yMo_lineOf (d0 + 2) 0 0 59 [(0, .inr (some 0)), (1, .inl x1), (2, .inl x2)] [] shM I post := by
  unfold J_Mo_lineOf_59 at h
  refine go_iinc (k := 2) (v := x2 + 1) (lv' := [(2, .inl (x2 + 1)), (0, .inr (some 0)), (1, .inl x1)]) d_Mo_lineOf_59 rfl rfl (by decide) rfl ?_
  refine go_goto (tgt := 2) d_Mo_lineOf_62 (by decide) ?_
  exact go_lv [1, 2, 0] rfl (hk _ _ h)
def L_Mo_lineOf_2 (x1 : Int32) : Nat → Int32 → gb_Mem → Option ((gb_Mem) ⊕ (Int32 × gb_Mem))
  | 0, _, _ => none
  | n + 1, x2, I =>
    if (I 11 0) ≤ x2 then
      some (.inl I)
    else
      flod I 12 48 x2 fun v1 =>
      if v1 = x1 then
        flod I 14 48 x2 fun v2 =>
        flod I 15 48 x2 fun v3 =>
        if v2 = v3 then
          some (.inr (x2, I))
        else
          flod I 14 48 x2 fun v4 =>
          flod I 15 48 x2 fun v5 =>
          fbd (F_Mo_runs 0 v4 v5 I) fun (r7, I6) =>
          if r7 = 0 then
            J_Mo_lineOf_59 (L_Mo_lineOf_2 x1 n) x1 x2 I6
          else
            some (.inr (x2, I6))
      else
        J_Mo_lineOf_59 (L_Mo_lineOf_2 x1 n) x1 x2 I
set_option maxRecDepth 4000 in
theorem l_Mo_lineOf_2 (l : Launch) (d0 : Nat) (x1 : Int32) {post : Option gb_AV → List gb_Ce → gb_Mem → Prop} : ∀ (n : Nat) (x2 : Int32) (I : gb_Mem) {ρ : (gb_Mem) ⊕ (Int32 × gb_Mem)} (h : L_Mo_lineOf_2 x1 n x2 I = some ρ) (hX : ∀ (I2 : gb_Mem), ρ = .inl I2 → gb_Go l yMo_lineOf (d0 + 2) 0 0 65 [] [] shM I2 post) (hR : ∀ (v : Int32) (I3 : gb_Mem), ρ = .inr (v, I3) → post (some (.inl v)) shM I3) , gb_Go l yMo_lineOf (d0 + 2) 0 0 2 [(0, .inr (some 0)), (1, .inl x1), (2, .inl x2)] [] shM I post := by
  intro n
  induction n with
  | zero => intro x2 I ρ h hX hR; cases h
  | succ n ih =>
    intro x2 I ρ h hX hR
    rw [L_Mo_lineOf_2] at h
    refine go_iload_n (k := 2) d_Mo_lineOf_2 rfl rfl ?_
    refine go_aload_n (k := 0) d_Mo_lineOf_3 rfl rfl ?_
    refine go_getr (ci := 10) (k := 19) (r := 11) d_Mo_lineOf_4 a_M_0 rfl (by decide) f_Mo_40 rfl ?_
    refine go_iconst (v := 0) d_Mo_lineOf_7 (by decide) ?_
    refine go_iald2 (v := I 11 0) d_Mo_lineOf_8 a_M_11 (inb_iff.mp (by decide)) rfl ?_
    refine go_cmp_ge (tgt := 65) d_Mo_lineOf_9 (by decide) (fun hc => ?_) (fun hc => ?_)
    · rw [if_pos hc] at h
      exact go_lv [] rfl (hX _ (Option.some.inj h).symm)
    · rw [if_neg hc] at h
      refine go_aload_n (k := 0) d_Mo_lineOf_12 rfl rfl ?_
      refine go_getr (ci := 10) (k := 20) (r := 12) d_Mo_lineOf_13 a_M_0 rfl (by decide) f_Mo_43 rfl ?_
      refine go_iload_n (k := 2) d_Mo_lineOf_16 rfl rfl ?_
      obtain ⟨hi, v1, ev1, h⟩ := flod_e h
      refine go_iald2 d_Mo_lineOf_17 a_M_12 hi ev1 ?_
      refine go_iload_n (k := 1) d_Mo_lineOf_18 rfl rfl ?_
      refine go_cmp_ne (tgt := 59) d_Mo_lineOf_19 (by decide) (fun hc => ?_) (fun hc => ?_)
      · rw [if_neg hc] at h
        exact go_lv [0, 1, 2] rfl (j_Mo_lineOf_59 l d0 (L_Mo_lineOf_2 x1 n) x1 x2 I h (fun z2 Iw hh => ih z2 Iw hh hX hR) hX hR)
      · rw [if_pos hc] at h
        refine go_aload_n (k := 0) d_Mo_lineOf_22 rfl rfl ?_
        refine go_getr (ci := 10) (k := 22) (r := 14) d_Mo_lineOf_23 a_M_0 rfl (by decide) f_Mo_49 rfl ?_
        refine go_iload_n (k := 2) d_Mo_lineOf_26 rfl rfl ?_
        obtain ⟨hi, v2, ev2, h⟩ := flod_e h
        refine go_iald2 d_Mo_lineOf_27 a_M_14 hi ev2 ?_
        refine go_aload_n (k := 0) d_Mo_lineOf_28 rfl rfl ?_
        refine go_getr (ci := 10) (k := 23) (r := 15) d_Mo_lineOf_29 a_M_0 rfl (by decide) f_Mo_52 rfl ?_
        refine go_iload_n (k := 2) d_Mo_lineOf_32 rfl rfl ?_
        obtain ⟨hi, v3, ev3, h⟩ := flod_e h
        refine go_iald2 d_Mo_lineOf_33 a_M_15 hi ev3 ?_
        refine go_cmp_eq (tgt := 57) d_Mo_lineOf_34 (by decide) (fun hc => ?_) (fun hc => ?_)
        · rw [if_pos hc] at h
          refine go_iload_n (k := 2) d_Mo_lineOf_57 rfl rfl ?_
          exact go_ireturn d_Mo_lineOf_58 rfl (hR _ _ (Option.some.inj h).symm)
        · rw [if_neg hc] at h
          refine go_aload_n (k := 0) d_Mo_lineOf_37 rfl rfl ?_
          refine go_iconst (v := 0) d_Mo_lineOf_38 (by decide) ?_
          refine go_aload_n (k := 0) d_Mo_lineOf_39 rfl rfl ?_
          refine go_getr (ci := 10) (k := 22) (r := 14) d_Mo_lineOf_40 a_M_0 rfl (by decide) f_Mo_49 rfl ?_
          refine go_iload_n (k := 2) d_Mo_lineOf_43 rfl rfl ?_
          obtain ⟨hi, v4, ev4, h⟩ := flod_e h
          refine go_iald2 d_Mo_lineOf_44 a_M_14 hi ev4 ?_
          refine go_aload_n (k := 0) d_Mo_lineOf_45 rfl rfl ?_
          refine go_getr (ci := 10) (k := 23) (r := 15) d_Mo_lineOf_46 a_M_0 rfl (by decide) f_Mo_52 rfl ?_
          refine go_iload_n (k := 2) d_Mo_lineOf_49 rfl rfl ?_
          obtain ⟨hi, v5, ev5, h⟩ := flod_e h
          refine go_iald2 d_Mo_lineOf_50 a_M_15 hi ev5 ?_
          obtain ⟨⟨r7, I6⟩, w1, h⟩ := fbd_e h
          try dsimp only at h
          refine go_callV (y := yMo_runs) (asr := [.inl 0, .inl v4, .inl v5]) (v := some (.inl r7)) (I' := I6) (st1 := [.inl r7]) d_Mo_lineOf_51 s_yMo_runs m_Mo_327 a_M_0 rfl rfl rfl (Nat.le_of_ble_eq_true rfl) rfl rfl (c_Mo_runs l (d0 + 0) 0 v4 v5 I w1) ?_
          refine go_if_eq (tgt := 59) d_Mo_lineOf_54 (by decide) (fun hc => ?_) (fun hc => ?_)
          · rw [if_pos hc] at h
            exact go_lv [0, 1, 2] rfl (j_Mo_lineOf_59 l d0 (L_Mo_lineOf_2 x1 n) x1 x2 I6 h (fun z2 Iw hh => ih z2 Iw hh hX hR) hX hR)
          · rw [if_neg hc] at h
            refine go_iload_n (k := 2) d_Mo_lineOf_57 rfl rfl ?_
            exact go_ireturn d_Mo_lineOf_58 rfl (hR _ _ (Option.some.inj h).symm)
def F_Mo_lineOf (x1 : Int32) (I : gb_Mem) : Option (Int32 × gb_Mem) :=
  fbr (L_Mo_lineOf_2 x1 5000 0 I) (fun I8 =>
    some ((-1), I8))
    (fun (q9, I10) => some (q9, I10))
set_option maxRecDepth 4000 in
theorem c_Mo_lineOf (l : Launch) (d0 : Nat) (x1 : Int32) (I : gb_Mem) {rz : Int32} {Iz : gb_Mem} (h : F_Mo_lineOf x1 I = some (rz, Iz)) : gb_Cs l yMo_lineOf (d0 + 2) [.inr (some 0), .inl x1] shM I (some (.inl rz)) Iz := by
  refine gb_Ct.of (lv := [(0, .inr (some 0)), (1, .inl x1)]) rfl (Nat.le_of_ble_eq_true rfl) rfl ?_
  unfold F_Mo_lineOf at h
  show gb_Go l yMo_lineOf (d0 + 2) 0 0 0 [(0, .inr (some 0)), (1, .inl x1)] [] shM I (gb_po shM (some (.inl rz)) Iz)
  refine go_iconst (v := 0) d_Mo_lineOf_0 (by decide) ?_
  refine go_istore_n (lv' := [(2, .inl 0), (0, .inr (some 0)), (1, .inl x1)]) d_Mo_lineOf_1 rfl (by decide) rfl ?_
  refine go_lv [1, 2, 0] (lv' := [(0, .inr (some 0)), (1, .inl x1), (2, .inl 0)]) rfl ?_
  obtain ⟨ρ, w1, w2, w3⟩ := fbr_e2 h
  refine l_Mo_lineOf_2 l d0 x1 5000 0 I w1 (fun I8 e => ?_) (fun q9 I10 e => ?_)
  · have h := w2 _ e
    try dsimp only at h
    refine go_iconst (v := (-1)) d_Mo_lineOf_65 (by decide) ?_
    cases h
    exact go_ireturn d_Mo_lineOf_66 rfl gb_po_i
  · have h := w3 _ e
    try dsimp only at h
    cases h
    exact gb_po_i
theorem d_Mo_reads_0 : decode yMo_reads.2.1 0 = .ok (.aload_n 0, 1) := by decide +kernel
theorem d_Mo_reads_1 : decode yMo_reads.2.1 1 = .ok (.aload_n 0, 1) := by decide +kernel
theorem d_Mo_reads_2 : decode yMo_reads.2.1 2 = .ok (.getfield 178, 3) := by decide +kernel
theorem d_Mo_reads_5 : decode yMo_reads.2.1 5 = .ok (.invokevirtual 181, 3) := by decide +kernel
theorem d_Mo_reads_8 : decode yMo_reads.2.1 8 = .ok (.bipush 32, 2) := by decide +kernel
theorem d_Mo_reads_10 : decode yMo_reads.2.1 10 = .ok (.if_icmp .eq 16, 3) := by decide +kernel
theorem d_Mo_reads_13 : decode yMo_reads.2.1 13 = .ok (.aload_n 0, 1) := by decide +kernel
theorem d_Mo_reads_14 : decode yMo_reads.2.1 14 = .ok (.aload_n 0, 1) := by decide +kernel
theorem d_Mo_reads_15 : decode yMo_reads.2.1 15 = .ok (.getfield 178, 3) := by decide +kernel
theorem d_Mo_reads_18 : decode yMo_reads.2.1 18 = .ok (.invokevirtual 181, 3) := by decide +kernel
theorem d_Mo_reads_21 : decode yMo_reads.2.1 21 = .ok (.bipush 10, 2) := by decide +kernel
theorem d_Mo_reads_23 : decode yMo_reads.2.1 23 = .ok (.if_icmp .ne 16, 3) := by decide +kernel
theorem d_Mo_reads_26 : decode yMo_reads.2.1 26 = .ok (.aload_n 0, 1) := by decide +kernel
theorem d_Mo_reads_27 : decode yMo_reads.2.1 27 = .ok (.aload_n 0, 1) := by decide +kernel
theorem d_Mo_reads_28 : decode yMo_reads.2.1 28 = .ok (.getfield 178, 3) := by decide +kernel
theorem d_Mo_reads_31 : decode yMo_reads.2.1 31 = .ok (.iconst 1, 1) := by decide +kernel
theorem d_Mo_reads_32 : decode yMo_reads.2.1 32 = .ok (.iadd, 1) := by decide +kernel
theorem d_Mo_reads_33 : decode yMo_reads.2.1 33 = .ok (.putfield 178, 3) := by decide +kernel
theorem d_Mo_reads_36 : decode yMo_reads.2.1 36 = .ok (.goto (-36), 3) := by decide +kernel
theorem d_Mo_reads_39 : decode yMo_reads.2.1 39 = .ok (.aload_n 0, 1) := by decide +kernel
theorem d_Mo_reads_40 : decode yMo_reads.2.1 40 = .ok (.aload_n 0, 1) := by decide +kernel
theorem d_Mo_reads_41 : decode yMo_reads.2.1 41 = .ok (.getfield 178, 3) := by decide +kernel
theorem d_Mo_reads_44 : decode yMo_reads.2.1 44 = .ok (.putfield 184, 3) := by decide +kernel
theorem d_Mo_reads_47 : decode yMo_reads.2.1 47 = .ok (.aload_n 0, 1) := by decide +kernel
theorem d_Mo_reads_48 : decode yMo_reads.2.1 48 = .ok (.iconst 1, 1) := by decide +kernel
theorem d_Mo_reads_49 : decode yMo_reads.2.1 49 = .ok (.putfield 187, 3) := by decide +kernel
theorem d_Mo_reads_52 : decode yMo_reads.2.1 52 = .ok (.aload_n 0, 1) := by decide +kernel
theorem d_Mo_reads_53 : decode yMo_reads.2.1 53 = .ok (.aload_n 0, 1) := by decide +kernel
theorem d_Mo_reads_54 : decode yMo_reads.2.1 54 = .ok (.getfield 178, 3) := by decide +kernel
theorem d_Mo_reads_57 : decode yMo_reads.2.1 57 = .ok (.invokevirtual 181, 3) := by decide +kernel
theorem d_Mo_reads_60 : decode yMo_reads.2.1 60 = .ok (.istore_n 1, 1) := by decide +kernel
theorem d_Mo_reads_61 : decode yMo_reads.2.1 61 = .ok (.iload_n 1, 1) := by decide +kernel
theorem d_Mo_reads_62 : decode yMo_reads.2.1 62 = .ok (.iconst (-1), 1) := by decide +kernel
theorem d_Mo_reads_63 : decode yMo_reads.2.1 63 = .ok (.if_icmp .ne 9, 3) := by decide +kernel
theorem d_Mo_reads_66 : decode yMo_reads.2.1 66 = .ok (.aload_n 0, 1) := by decide +kernel
theorem d_Mo_reads_67 : decode yMo_reads.2.1 67 = .ok (.iconst 0, 1) := by decide +kernel
theorem d_Mo_reads_68 : decode yMo_reads.2.1 68 = .ok (.putfield 187, 3) := by decide +kernel
theorem d_Mo_reads_71 : decode yMo_reads.2.1 71 = .ok (.return_, 1) := by decide +kernel
theorem d_Mo_reads_72 : decode yMo_reads.2.1 72 = .ok (.aload_n 0, 1) := by decide +kernel
theorem d_Mo_reads_73 : decode yMo_reads.2.1 73 = .ok (.aload_n 0, 1) := by decide +kernel
theorem d_Mo_reads_74 : decode yMo_reads.2.1 74 = .ok (.getfield 178, 3) := by decide +kernel
theorem d_Mo_reads_77 : decode yMo_reads.2.1 77 = .ok (.iconst 1, 1) := by decide +kernel
theorem d_Mo_reads_78 : decode yMo_reads.2.1 78 = .ok (.iadd, 1) := by decide +kernel
theorem d_Mo_reads_79 : decode yMo_reads.2.1 79 = .ok (.putfield 178, 3) := by decide +kernel
theorem d_Mo_reads_82 : decode yMo_reads.2.1 82 = .ok (.aload_n 0, 1) := by decide +kernel
theorem d_Mo_reads_83 : decode yMo_reads.2.1 83 = .ok (.iload_n 1, 1) := by decide +kernel
theorem d_Mo_reads_84 : decode yMo_reads.2.1 84 = .ok (.putfield 190, 3) := by decide +kernel
theorem d_Mo_reads_87 : decode yMo_reads.2.1 87 = .ok (.aload_n 0, 1) := by decide +kernel
theorem d_Mo_reads_88 : decode yMo_reads.2.1 88 = .ok (.iload_n 1, 1) := by decide +kernel
theorem d_Mo_reads_89 : decode yMo_reads.2.1 89 = .ok (.invokevirtual 193, 3) := by decide +kernel
theorem d_Mo_reads_92 : decode yMo_reads.2.1 92 = .ok (.ifCond .eq 63, 3) := by decide +kernel
theorem d_Mo_reads_95 : decode yMo_reads.2.1 95 = .ok (.aload_n 0, 1) := by decide +kernel
theorem d_Mo_reads_96 : decode yMo_reads.2.1 96 = .ok (.aload_n 0, 1) := by decide +kernel
theorem d_Mo_reads_97 : decode yMo_reads.2.1 97 = .ok (.aload_n 0, 1) := by decide +kernel
theorem d_Mo_reads_98 : decode yMo_reads.2.1 98 = .ok (.getfield 178, 3) := by decide +kernel
theorem d_Mo_reads_101 : decode yMo_reads.2.1 101 = .ok (.invokevirtual 181, 3) := by decide +kernel
theorem d_Mo_reads_104 : decode yMo_reads.2.1 104 = .ok (.invokevirtual 193, 3) := by decide +kernel
theorem d_Mo_reads_107 : decode yMo_reads.2.1 107 = .ok (.ifCond .eq 16, 3) := by decide +kernel
theorem d_Mo_reads_110 : decode yMo_reads.2.1 110 = .ok (.aload_n 0, 1) := by decide +kernel
theorem d_Mo_reads_111 : decode yMo_reads.2.1 111 = .ok (.aload_n 0, 1) := by decide +kernel
theorem d_Mo_reads_112 : decode yMo_reads.2.1 112 = .ok (.getfield 178, 3) := by decide +kernel
theorem d_Mo_reads_115 : decode yMo_reads.2.1 115 = .ok (.iconst 1, 1) := by decide +kernel
theorem d_Mo_reads_116 : decode yMo_reads.2.1 116 = .ok (.iadd, 1) := by decide +kernel
theorem d_Mo_reads_117 : decode yMo_reads.2.1 117 = .ok (.putfield 178, 3) := by decide +kernel
theorem d_Mo_reads_120 : decode yMo_reads.2.1 120 = .ok (.goto (-25), 3) := by decide +kernel
theorem d_Mo_reads_123 : decode yMo_reads.2.1 123 = .ok (.aload_n 0, 1) := by decide +kernel
theorem d_Mo_reads_124 : decode yMo_reads.2.1 124 = .ok (.aload_n 0, 1) := by decide +kernel
theorem d_Mo_reads_125 : decode yMo_reads.2.1 125 = .ok (.aload_n 0, 1) := by decide +kernel
theorem d_Mo_reads_126 : decode yMo_reads.2.1 126 = .ok (.getfield 184, 3) := by decide +kernel
theorem d_Mo_reads_129 : decode yMo_reads.2.1 129 = .ok (.aload_n 0, 1) := by decide +kernel
theorem d_Mo_reads_130 : decode yMo_reads.2.1 130 = .ok (.getfield 178, 3) := by decide +kernel
theorem d_Mo_reads_133 : decode yMo_reads.2.1 133 = .ok (.invokevirtual 196, 3) := by decide +kernel
theorem d_Mo_reads_136 : decode yMo_reads.2.1 136 = .ok (.putfield 190, 3) := by decide +kernel
theorem d_Mo_reads_139 : decode yMo_reads.2.1 139 = .ok (.aload_n 0, 1) := by decide +kernel
theorem d_Mo_reads_140 : decode yMo_reads.2.1 140 = .ok (.getfield 190, 3) := by decide +kernel
theorem d_Mo_reads_143 : decode yMo_reads.2.1 143 = .ok (.iconst (-1), 1) := by decide +kernel
theorem d_Mo_reads_144 : decode yMo_reads.2.1 144 = .ok (.if_icmp .eq 129, 3) := by decide +kernel
theorem d_Mo_reads_147 : decode yMo_reads.2.1 147 = .ok (.aload_n 0, 1) := by decide +kernel
theorem d_Mo_reads_148 : decode yMo_reads.2.1 148 = .ok (.iconst 2, 1) := by decide +kernel
theorem d_Mo_reads_149 : decode yMo_reads.2.1 149 = .ok (.putfield 187, 3) := by decide +kernel
theorem d_Mo_reads_152 : decode yMo_reads.2.1 152 = .ok (.goto 121, 3) := by decide +kernel
theorem d_Mo_reads_155 : decode yMo_reads.2.1 155 = .ok (.aload_n 0, 1) := by decide +kernel
theorem d_Mo_reads_156 : decode yMo_reads.2.1 156 = .ok (.iload_n 1, 1) := by decide +kernel
theorem d_Mo_reads_157 : decode yMo_reads.2.1 157 = .ok (.invokevirtual 200, 3) := by decide +kernel
theorem d_Mo_reads_160 : decode yMo_reads.2.1 160 = .ok (.ifCond .eq 100, 3) := by decide +kernel
theorem d_Mo_reads_163 : decode yMo_reads.2.1 163 = .ok (.aload_n 0, 1) := by decide +kernel
theorem d_Mo_reads_164 : decode yMo_reads.2.1 164 = .ok (.iload_n 1, 1) := by decide +kernel
theorem d_Mo_reads_165 : decode yMo_reads.2.1 165 = .ok (.bipush 48, 2) := by decide +kernel
theorem d_Mo_reads_167 : decode yMo_reads.2.1 167 = .ok (.isub, 1) := by decide +kernel
theorem d_Mo_reads_168 : decode yMo_reads.2.1 168 = .ok (.putfield 190, 3) := by decide +kernel
theorem d_Mo_reads_171 : decode yMo_reads.2.1 171 = .ok (.aload_n 0, 1) := by decide +kernel
theorem d_Mo_reads_172 : decode yMo_reads.2.1 172 = .ok (.aload_n 0, 1) := by decide +kernel
theorem d_Mo_reads_173 : decode yMo_reads.2.1 173 = .ok (.aload_n 0, 1) := by decide +kernel
theorem d_Mo_reads_174 : decode yMo_reads.2.1 174 = .ok (.getfield 178, 3) := by decide +kernel
theorem d_Mo_reads_177 : decode yMo_reads.2.1 177 = .ok (.invokevirtual 181, 3) := by decide +kernel
theorem d_Mo_reads_180 : decode yMo_reads.2.1 180 = .ok (.invokevirtual 200, 3) := by decide +kernel
theorem d_Mo_reads_183 : decode yMo_reads.2.1 183 = .ok (.ifCond .eq 56, 3) := by decide +kernel
theorem d_Mo_reads_186 : decode yMo_reads.2.1 186 = .ok (.aload_n 0, 1) := by decide +kernel
theorem d_Mo_reads_187 : decode yMo_reads.2.1 187 = .ok (.aload_n 0, 1) := by decide +kernel
theorem d_Mo_reads_188 : decode yMo_reads.2.1 188 = .ok (.getfield 190, 3) := by decide +kernel
theorem d_Mo_reads_191 : decode yMo_reads.2.1 191 = .ok (.sipush 10000, 3) := by decide +kernel
theorem d_Mo_reads_194 : decode yMo_reads.2.1 194 = .ok (.if_icmp .ge 25, 3) := by decide +kernel
theorem d_Mo_reads_197 : decode yMo_reads.2.1 197 = .ok (.bipush 10, 2) := by decide +kernel
theorem d_Mo_reads_199 : decode yMo_reads.2.1 199 = .ok (.aload_n 0, 1) := by decide +kernel
theorem d_Mo_reads_200 : decode yMo_reads.2.1 200 = .ok (.getfield 190, 3) := by decide +kernel
theorem d_Mo_reads_203 : decode yMo_reads.2.1 203 = .ok (.imul, 1) := by decide +kernel
theorem d_Mo_reads_204 : decode yMo_reads.2.1 204 = .ok (.aload_n 0, 1) := by decide +kernel
theorem d_Mo_reads_205 : decode yMo_reads.2.1 205 = .ok (.aload_n 0, 1) := by decide +kernel
theorem d_Mo_reads_206 : decode yMo_reads.2.1 206 = .ok (.getfield 178, 3) := by decide +kernel
theorem d_Mo_reads_209 : decode yMo_reads.2.1 209 = .ok (.invokevirtual 181, 3) := by decide +kernel
theorem d_Mo_reads_212 : decode yMo_reads.2.1 212 = .ok (.iadd, 1) := by decide +kernel
theorem d_Mo_reads_213 : decode yMo_reads.2.1 213 = .ok (.bipush 48, 2) := by decide +kernel
theorem d_Mo_reads_215 : decode yMo_reads.2.1 215 = .ok (.isub, 1) := by decide +kernel
theorem d_Mo_reads_216 : decode yMo_reads.2.1 216 = .ok (.goto 7, 3) := by decide +kernel
theorem d_Mo_reads_219 : decode yMo_reads.2.1 219 = .ok (.aload_n 0, 1) := by decide +kernel
theorem d_Mo_reads_220 : decode yMo_reads.2.1 220 = .ok (.getfield 190, 3) := by decide +kernel
theorem d_Mo_reads_223 : decode yMo_reads.2.1 223 = .ok (.putfield 190, 3) := by decide +kernel
theorem d_Mo_reads_226 : decode yMo_reads.2.1 226 = .ok (.aload_n 0, 1) := by decide +kernel
theorem d_Mo_reads_227 : decode yMo_reads.2.1 227 = .ok (.aload_n 0, 1) := by decide +kernel
theorem d_Mo_reads_228 : decode yMo_reads.2.1 228 = .ok (.getfield 178, 3) := by decide +kernel
theorem d_Mo_reads_231 : decode yMo_reads.2.1 231 = .ok (.iconst 1, 1) := by decide +kernel
theorem d_Mo_reads_232 : decode yMo_reads.2.1 232 = .ok (.iadd, 1) := by decide +kernel
theorem d_Mo_reads_233 : decode yMo_reads.2.1 233 = .ok (.putfield 178, 3) := by decide +kernel
theorem d_Mo_reads_236 : decode yMo_reads.2.1 236 = .ok (.goto (-65), 3) := by decide +kernel
theorem d_Mo_reads_239 : decode yMo_reads.2.1 239 = .ok (.aload_n 0, 1) := by decide +kernel
theorem d_Mo_reads_240 : decode yMo_reads.2.1 240 = .ok (.getfield 178, 3) := by decide +kernel
theorem d_Mo_reads_243 : decode yMo_reads.2.1 243 = .ok (.aload_n 0, 1) := by decide +kernel
theorem d_Mo_reads_244 : decode yMo_reads.2.1 244 = .ok (.getfield 184, 3) := by decide +kernel
theorem d_Mo_reads_247 : decode yMo_reads.2.1 247 = .ok (.isub, 1) := by decide +kernel
theorem d_Mo_reads_248 : decode yMo_reads.2.1 248 = .ok (.iconst 5, 1) := by decide +kernel
theorem d_Mo_reads_249 : decode yMo_reads.2.1 249 = .ok (.if_icmp .ge 24, 3) := by decide +kernel
theorem d_Mo_reads_252 : decode yMo_reads.2.1 252 = .ok (.aload_n 0, 1) := by decide +kernel
theorem d_Mo_reads_253 : decode yMo_reads.2.1 253 = .ok (.iconst 3, 1) := by decide +kernel
theorem d_Mo_reads_254 : decode yMo_reads.2.1 254 = .ok (.putfield 187, 3) := by decide +kernel
theorem d_Mo_reads_257 : decode yMo_reads.2.1 257 = .ok (.goto 16, 3) := by decide +kernel
theorem d_Mo_reads_260 : decode yMo_reads.2.1 260 = .ok (.aload_n 0, 1) := by decide +kernel
theorem d_Mo_reads_261 : decode yMo_reads.2.1 261 = .ok (.iload_n 1, 1) := by decide +kernel
theorem d_Mo_reads_262 : decode yMo_reads.2.1 262 = .ok (.invokevirtual 203, 3) := by decide +kernel
theorem d_Mo_reads_265 : decode yMo_reads.2.1 265 = .ok (.ifCond .eq 8, 3) := by decide +kernel
theorem d_Mo_reads_268 : decode yMo_reads.2.1 268 = .ok (.aload_n 0, 1) := by decide +kernel
theorem d_Mo_reads_269 : decode yMo_reads.2.1 269 = .ok (.iconst 4, 1) := by decide +kernel
theorem d_Mo_reads_270 : decode yMo_reads.2.1 270 = .ok (.putfield 187, 3) := by decide +kernel
theorem d_Mo_reads_273 : decode yMo_reads.2.1 273 = .ok (.return_, 1) := by decide +kernel
def J_Mo_reads_26 (k : gb_Mem → Option (gb_Mem)) (I : gb_Mem) : Option (gb_Mem) :=
  fstf I 0 14 ((I 0 14) + 1) fun I2 =>
  k I2
set_option maxRecDepth 4000 in
theorem j_Mo_reads_26 (l : Launch) (d0 : Nat) {post : Option gb_AV → List gb_Ce → gb_Mem → Prop} (k : gb_Mem → Option (gb_Mem)) (I : gb_Mem) {ρ : gb_Mem} (h : J_Mo_reads_26 k I = some ρ) (hk : ∀ (Iw : gb_Mem), k  Iw = some ρ → gb_Go l yMo_reads (d0 + 2) 0 0 0 [(0, .inr (some 0))] [] shM Iw post) (hX : ∀ (I2 : gb_Mem), ρ = I2 → gb_Go l yMo_reads (d0 + 2) 0 0 39 [(0, .inr (some 0))] [] shM I2 post) : gb_Go l yMo_reads (d0 + 2) 0 0 26 [(0, .inr (some 0))] [] shM I post := by
  unfold J_Mo_reads_26 at h
  refine go_aload_n (k := 0) d_Mo_reads_26 rfl rfl ?_
  refine go_aload_n (k := 0) d_Mo_reads_27 rfl rfl ?_
  refine go_geti (ci := 10) (k := 14) d_Mo_reads_28 a_M_0 rfl (by decide) f_Mo_178 rfl ?_
  refine go_iconst (v := 1) d_Mo_reads_31 (by decide) ?_
  refine go_iadd d_Mo_reads_32 ?_
  obtain ⟨I2, eI2, h⟩ := fstf_e h
  refine go_putT (ci := 10) (k := 14) (I' := I2) d_Mo_reads_33 a_M_0 rfl (by decide) f_Mo_178 rfl rfl rfl rfl rfl eI2 ?_
  refine go_goto (tgt := 0) d_Mo_reads_36 (by decide) ?_
  exact go_lv [0] rfl (hk  _ h)
def L_Mo_reads_0 : Nat → gb_Mem → Option (gb_Mem)
  | 0, _ => none
  | n + 1, I =>
    fbd (F_Mo_raw (I 0 14) I) fun r1 =>
    if r1 = 32 then
      J_Mo_reads_26 (L_Mo_reads_0 n) I
    else
      fbd (F_Mo_raw (I 0 14) I) fun r3 =>
      if r3 = 10 then
        J_Mo_reads_26 (L_Mo_reads_0 n) I
      else
        some I
set_option maxRecDepth 4000 in
theorem l_Mo_reads_0 (l : Launch) (d0 : Nat) {post : Option gb_AV → List gb_Ce → gb_Mem → Prop} : ∀ (n : Nat) (I : gb_Mem) {ρ : gb_Mem} (h : L_Mo_reads_0 n I = some ρ) (hX : ∀ (I2 : gb_Mem), ρ = I2 → gb_Go l yMo_reads (d0 + 2) 0 0 39 [(0, .inr (some 0))] [] shM I2 post) , gb_Go l yMo_reads (d0 + 2) 0 0 0 [(0, .inr (some 0))] [] shM I post := by
  intro n
  induction n with
  | zero => intro I ρ h hX; cases h
  | succ n ih =>
    intro I ρ h hX
    rw [L_Mo_reads_0] at h
    refine go_aload_n (k := 0) d_Mo_reads_0 rfl rfl ?_
    refine go_aload_n (k := 0) d_Mo_reads_1 rfl rfl ?_
    refine go_geti (ci := 10) (k := 14) d_Mo_reads_2 a_M_0 rfl (by decide) f_Mo_178 rfl ?_
    obtain ⟨r1, w1, h⟩ := fbd_e h
    refine go_callV (y := yMo_raw) (asr := [.inl (I 0 14)]) (v := some (.inl r1)) (I' := I) (st1 := [.inl r1]) d_Mo_reads_5 s_yMo_raw m_Mo_181 a_M_0 rfl rfl rfl (Nat.le_of_ble_eq_true rfl) rfl rfl (c_Mo_raw l (d0 + 1) (I 0 14) I w1) ?_
    refine go_bipush (v := 32) d_Mo_reads_8 (by decide) ?_
    refine go_cmp_eq (tgt := 26) d_Mo_reads_10 (by decide) (fun hc => ?_) (fun hc => ?_)
    · rw [if_pos hc] at h
      exact go_lv [0] rfl (j_Mo_reads_26 l d0 (L_Mo_reads_0 n) I h (fun Iw hh => ih Iw hh hX) hX)
    · rw [if_neg hc] at h
      refine go_aload_n (k := 0) d_Mo_reads_13 rfl rfl ?_
      refine go_aload_n (k := 0) d_Mo_reads_14 rfl rfl ?_
      refine go_geti (ci := 10) (k := 14) d_Mo_reads_15 a_M_0 rfl (by decide) f_Mo_178 rfl ?_
      obtain ⟨r3, w1, h⟩ := fbd_e h
      refine go_callV (y := yMo_raw) (asr := [.inl (I 0 14)]) (v := some (.inl r3)) (I' := I) (st1 := [.inl r3]) d_Mo_reads_18 s_yMo_raw m_Mo_181 a_M_0 rfl rfl rfl (Nat.le_of_ble_eq_true rfl) rfl rfl (c_Mo_raw l (d0 + 1) (I 0 14) I w1) ?_
      refine go_bipush (v := 10) d_Mo_reads_21 (by decide) ?_
      refine go_cmp_ne (tgt := 39) d_Mo_reads_23 (by decide) (fun hc => ?_) (fun hc => ?_)
      · rw [if_neg hc] at h
        exact go_lv [0] rfl (hX _ (Option.some.inj h).symm)
      · rw [if_pos hc] at h
        exact go_lv [0] rfl (j_Mo_reads_26 l d0 (L_Mo_reads_0 n) I h (fun Iw hh => ih Iw hh hX) hX)
def J_Mo_reads_223 (k : gb_Mem → Option (gb_Mem)) (s0 : Int32) (I : gb_Mem) : Option (gb_Mem) :=
  fstf I 0 17 s0 fun I13 =>
  fstf I13 0 14 ((I13 0 14) + 1) fun I14 =>
  k I14
set_option maxRecDepth 4000 in
theorem j_Mo_reads_223 (l : Launch) (d0 : Nat) {post : Option gb_AV → List gb_Ce → gb_Mem → Prop} (k : gb_Mem → Option (gb_Mem)) (s0 : Int32) (I : gb_Mem) {ρ : gb_Mem} (h : J_Mo_reads_223 k s0 I = some ρ) (hk : ∀ (Iw : gb_Mem), k  Iw = some ρ → gb_Go l yMo_reads (d0 + 2) 0 0 171 [(0, .inr (some 0))] [] shM Iw post) (hX : ∀ (I2 : gb_Mem), ρ = I2 → gb_Go l yMo_reads (d0 + 2) 0 0 239 [(0, .inr (some 0))] [] shM I2 post) : gb_Go l yMo_reads (d0 + 2) 0 0 223 [(0, .inr (some 0))] [.inl s0, .inr (some 0)] shM I post := by
  unfold J_Mo_reads_223 at h
  obtain ⟨I13, eI13, h⟩ := fstf_e h
  refine go_putT (ci := 10) (k := 17) (I' := I13) d_Mo_reads_223 a_M_0 rfl (by decide) f_Mo_190 rfl rfl rfl rfl rfl eI13 ?_
  refine go_aload_n (k := 0) d_Mo_reads_226 rfl rfl ?_
  refine go_aload_n (k := 0) d_Mo_reads_227 rfl rfl ?_
  refine go_geti (ci := 10) (k := 14) d_Mo_reads_228 a_M_0 rfl (by decide) f_Mo_178 rfl ?_
  refine go_iconst (v := 1) d_Mo_reads_231 (by decide) ?_
  refine go_iadd d_Mo_reads_232 ?_
  obtain ⟨I14, eI14, h⟩ := fstf_e h
  refine go_putT (ci := 10) (k := 14) (I' := I14) d_Mo_reads_233 a_M_0 rfl (by decide) f_Mo_178 rfl rfl rfl rfl rfl eI14 ?_
  refine go_goto (tgt := 171) d_Mo_reads_236 (by decide) ?_
  exact go_lv [0] rfl (hk  _ h)
def L_Mo_reads_171 : Nat → gb_Mem → Option (gb_Mem)
  | 0, _ => none
  | n + 1, I =>
    fbd (F_Mo_raw (I 0 14) I) fun r12 =>
    if (F_Mo_isDigit r12 I) = 0 then
      some I
    else
      if 10000 ≤ (I 0 17) then
        J_Mo_reads_223 (L_Mo_reads_171 n) (I 0 17) I
      else
        fbd (F_Mo_raw (I 0 14) I) fun r15 =>
        J_Mo_reads_223 (L_Mo_reads_171 n) (((10 * (I 0 17)) + r15) - 48) I
set_option maxRecDepth 4000 in
theorem l_Mo_reads_171 (l : Launch) (d0 : Nat) {post : Option gb_AV → List gb_Ce → gb_Mem → Prop} : ∀ (n : Nat) (I : gb_Mem) {ρ : gb_Mem} (h : L_Mo_reads_171 n I = some ρ) (hX : ∀ (I2 : gb_Mem), ρ = I2 → gb_Go l yMo_reads (d0 + 2) 0 0 239 [(0, .inr (some 0))] [] shM I2 post) , gb_Go l yMo_reads (d0 + 2) 0 0 171 [(0, .inr (some 0))] [] shM I post := by
  intro n
  induction n with
  | zero => intro I ρ h hX; cases h
  | succ n ih =>
    intro I ρ h hX
    rw [L_Mo_reads_171] at h
    refine go_aload_n (k := 0) d_Mo_reads_171 rfl rfl ?_
    refine go_aload_n (k := 0) d_Mo_reads_172 rfl rfl ?_
    refine go_aload_n (k := 0) d_Mo_reads_173 rfl rfl ?_
    refine go_geti (ci := 10) (k := 14) d_Mo_reads_174 a_M_0 rfl (by decide) f_Mo_178 rfl ?_
    obtain ⟨r12, w1, h⟩ := fbd_e h
    refine go_callV (y := yMo_raw) (asr := [.inl (I 0 14)]) (v := some (.inl r12)) (I' := I) (st1 := [.inl r12, .inr (some 0)]) d_Mo_reads_177 s_yMo_raw m_Mo_181 a_M_0 rfl rfl rfl (Nat.le_of_ble_eq_true rfl) rfl rfl (c_Mo_raw l (d0 + 1) (I 0 14) I w1) ?_
    refine go_callV (y := yMo_isDigit) (asr := [.inl r12]) (v := some (.inl (F_Mo_isDigit r12 I))) (I' := I) (st1 := [.inl (F_Mo_isDigit r12 I)]) d_Mo_reads_180 s_yMo_isDigit m_Mo_200 a_M_0 rfl rfl rfl (Nat.le_of_ble_eq_true rfl) rfl rfl (c_Mo_isDigit l (d0 + 0) r12 I) ?_
    refine go_if_eq (tgt := 239) d_Mo_reads_183 (by decide) (fun hc => ?_) (fun hc => ?_)
    · rw [if_pos hc] at h
      exact go_lv [0] rfl (hX _ (Option.some.inj h).symm)
    · rw [if_neg hc] at h
      refine go_aload_n (k := 0) d_Mo_reads_186 rfl rfl ?_
      refine go_aload_n (k := 0) d_Mo_reads_187 rfl rfl ?_
      refine go_geti (ci := 10) (k := 17) d_Mo_reads_188 a_M_0 rfl (by decide) f_Mo_190 rfl ?_
      refine go_sipush (v := 10000) d_Mo_reads_191 (by decide) ?_
      refine go_cmp_ge (tgt := 219) d_Mo_reads_194 (by decide) (fun hc => ?_) (fun hc => ?_)
      · rw [if_pos hc] at h
        refine go_aload_n (k := 0) d_Mo_reads_219 rfl rfl ?_
        refine go_geti (ci := 10) (k := 17) d_Mo_reads_220 a_M_0 rfl (by decide) f_Mo_190 rfl ?_
        exact go_lv [0] rfl (j_Mo_reads_223 l d0 (L_Mo_reads_171 n) (I 0 17) I h (fun Iw hh => ih Iw hh hX) hX)
      · rw [if_neg hc] at h
        refine go_bipush (v := 10) d_Mo_reads_197 (by decide) ?_
        refine go_aload_n (k := 0) d_Mo_reads_199 rfl rfl ?_
        refine go_geti (ci := 10) (k := 17) d_Mo_reads_200 a_M_0 rfl (by decide) f_Mo_190 rfl ?_
        refine go_imul d_Mo_reads_203 ?_
        refine go_aload_n (k := 0) d_Mo_reads_204 rfl rfl ?_
        refine go_aload_n (k := 0) d_Mo_reads_205 rfl rfl ?_
        refine go_geti (ci := 10) (k := 14) d_Mo_reads_206 a_M_0 rfl (by decide) f_Mo_178 rfl ?_
        obtain ⟨r15, w1, h⟩ := fbd_e h
        refine go_callV (y := yMo_raw) (asr := [.inl (I 0 14)]) (v := some (.inl r15)) (I' := I) (st1 := [.inl r15, .inl (10 * (I 0 17)), .inr (some 0)]) d_Mo_reads_209 s_yMo_raw m_Mo_181 a_M_0 rfl rfl rfl (Nat.le_of_ble_eq_true rfl) rfl rfl (c_Mo_raw l (d0 + 1) (I 0 14) I w1) ?_
        refine go_iadd d_Mo_reads_212 ?_
        refine go_bipush (v := 48) d_Mo_reads_213 (by decide) ?_
        refine go_isub d_Mo_reads_215 ?_
        refine go_goto (tgt := 223) d_Mo_reads_216 (by decide) ?_
        exact go_lv [0] rfl (j_Mo_reads_223 l d0 (L_Mo_reads_171 n) (((10 * (I 0 17)) + r15) - 48) I h (fun Iw hh => ih Iw hh hX) hX)
def L_Mo_reads_95 : Nat → gb_Mem → Option (gb_Mem)
  | 0, _ => none
  | n + 1, I =>
    fbd (F_Mo_raw (I 0 14) I) fun r18 =>
    if (F_Mo_isLetter r18 I) = 0 then
      some I
    else
      fstf I 0 14 ((I 0 14) + 1) fun I19 =>
      L_Mo_reads_95 n I19
set_option maxRecDepth 4000 in
theorem l_Mo_reads_95 (l : Launch) (d0 : Nat) {post : Option gb_AV → List gb_Ce → gb_Mem → Prop} : ∀ (n : Nat) (I : gb_Mem) {ρ : gb_Mem} (h : L_Mo_reads_95 n I = some ρ) (hX : ∀ (I2 : gb_Mem), ρ = I2 → gb_Go l yMo_reads (d0 + 2) 0 0 123 [(0, .inr (some 0))] [] shM I2 post) , gb_Go l yMo_reads (d0 + 2) 0 0 95 [(0, .inr (some 0))] [] shM I post := by
  intro n
  induction n with
  | zero => intro I ρ h hX; cases h
  | succ n ih =>
    intro I ρ h hX
    rw [L_Mo_reads_95] at h
    refine go_aload_n (k := 0) d_Mo_reads_95 rfl rfl ?_
    refine go_aload_n (k := 0) d_Mo_reads_96 rfl rfl ?_
    refine go_aload_n (k := 0) d_Mo_reads_97 rfl rfl ?_
    refine go_geti (ci := 10) (k := 14) d_Mo_reads_98 a_M_0 rfl (by decide) f_Mo_178 rfl ?_
    obtain ⟨r18, w1, h⟩ := fbd_e h
    refine go_callV (y := yMo_raw) (asr := [.inl (I 0 14)]) (v := some (.inl r18)) (I' := I) (st1 := [.inl r18, .inr (some 0)]) d_Mo_reads_101 s_yMo_raw m_Mo_181 a_M_0 rfl rfl rfl (Nat.le_of_ble_eq_true rfl) rfl rfl (c_Mo_raw l (d0 + 1) (I 0 14) I w1) ?_
    refine go_callV (y := yMo_isLetter) (asr := [.inl r18]) (v := some (.inl (F_Mo_isLetter r18 I))) (I' := I) (st1 := [.inl (F_Mo_isLetter r18 I)]) d_Mo_reads_104 s_yMo_isLetter m_Mo_193 a_M_0 rfl rfl rfl (Nat.le_of_ble_eq_true rfl) rfl rfl (c_Mo_isLetter l (d0 + 0) r18 I) ?_
    refine go_if_eq (tgt := 123) d_Mo_reads_107 (by decide) (fun hc => ?_) (fun hc => ?_)
    · rw [if_pos hc] at h
      exact go_lv [0] rfl (hX _ (Option.some.inj h).symm)
    · rw [if_neg hc] at h
      refine go_aload_n (k := 0) d_Mo_reads_110 rfl rfl ?_
      refine go_aload_n (k := 0) d_Mo_reads_111 rfl rfl ?_
      refine go_geti (ci := 10) (k := 14) d_Mo_reads_112 a_M_0 rfl (by decide) f_Mo_178 rfl ?_
      refine go_iconst (v := 1) d_Mo_reads_115 (by decide) ?_
      refine go_iadd d_Mo_reads_116 ?_
      obtain ⟨I19, eI19, h⟩ := fstf_e h
      refine go_putT (ci := 10) (k := 14) (I' := I19) d_Mo_reads_117 a_M_0 rfl (by decide) f_Mo_178 rfl rfl rfl rfl rfl eI19 ?_
      refine go_goto (tgt := 95) d_Mo_reads_120 (by decide) ?_
      exact go_lv [0] rfl (ih  I19 h hX)
def F_Mo_reads (I : gb_Mem) : Option (gb_Mem) :=
  fbd (L_Mo_reads_0 5000 I) fun I4 =>
  fstf I4 0 15 (I4 0 14) fun I5 =>
  fstf I5 0 16 1 fun I6 =>
  fbd (F_Mo_raw (I6 0 14) I6) fun r7 =>
  if r7 = (-1) then
    fstf I6 0 16 0 fun I24 =>
    some I24
  else
    fstf I6 0 14 ((I6 0 14) + 1) fun I8 =>
    fstf I8 0 17 r7 fun I9 =>
    if (F_Mo_isLetter r7 I9) = 0 then
      if (F_Mo_isDigit r7 I9) = 0 then
        if (F_Mo_isMarkSign r7 I9) = 0 then
          some I9
        else
          fstf I9 0 16 4 fun I10 =>
          some I10
      else
        fstf I9 0 17 (r7 - 48) fun I11 =>
        fbd (L_Mo_reads_171 5000 I11) fun I16 =>
        if 5 ≤ ((I16 0 14) - (I16 0 15)) then
          some I16
        else
          fstf I16 0 16 3 fun I17 =>
          some I17
    else
      fbd (L_Mo_reads_95 5000 I9) fun I20 =>
      fbd (F_Mo_wordAt (I20 0 15) (I20 0 14) I20) fun r21 =>
      fstf I20 0 17 r21 fun I22 =>
      if (I22 0 17) = (-1) then
        some I22
      else
        fstf I22 0 16 2 fun I23 =>
        some I23
set_option maxRecDepth 4000 in
theorem c_Mo_reads (l : Launch) (d0 : Nat) (I : gb_Mem) {Iz : gb_Mem} (h : F_Mo_reads I = some Iz) : gb_Cs l yMo_reads (d0 + 2) [.inr (some 0)] shM I none Iz := by
  refine gb_Ct.of (lv := [(0, .inr (some 0))]) rfl (Nat.le_of_ble_eq_true rfl) rfl ?_
  unfold F_Mo_reads at h
  show gb_Go l yMo_reads (d0 + 2) 0 0 0 [(0, .inr (some 0))] [] shM I (gb_po shM none Iz)
  refine go_lv [0] (lv' := [(0, .inr (some 0))]) rfl ?_
  obtain ⟨I4, w1, h⟩ := fbd_e h
  refine l_Mo_reads_0 l d0  5000  I w1 (fun I4_ e => ?_)
  cases e
  refine go_aload_n (k := 0) d_Mo_reads_39 rfl rfl ?_
  refine go_aload_n (k := 0) d_Mo_reads_40 rfl rfl ?_
  refine go_geti (ci := 10) (k := 14) d_Mo_reads_41 a_M_0 rfl (by decide) f_Mo_178 rfl ?_
  obtain ⟨I5, eI5, h⟩ := fstf_e h
  refine go_putT (ci := 10) (k := 15) (I' := I5) d_Mo_reads_44 a_M_0 rfl (by decide) f_Mo_184 rfl rfl rfl rfl rfl eI5 ?_
  refine go_aload_n (k := 0) d_Mo_reads_47 rfl rfl ?_
  refine go_iconst (v := 1) d_Mo_reads_48 (by decide) ?_
  obtain ⟨I6, eI6, h⟩ := fstf_e h
  refine go_putT (ci := 10) (k := 16) (I' := I6) d_Mo_reads_49 a_M_0 rfl (by decide) f_Mo_187 rfl rfl rfl rfl rfl eI6 ?_
  refine go_aload_n (k := 0) d_Mo_reads_52 rfl rfl ?_
  refine go_aload_n (k := 0) d_Mo_reads_53 rfl rfl ?_
  refine go_geti (ci := 10) (k := 14) d_Mo_reads_54 a_M_0 rfl (by decide) f_Mo_178 rfl ?_
  obtain ⟨r7, w1, h⟩ := fbd_e h
  refine go_callV (y := yMo_raw) (asr := [.inl (I6 0 14)]) (v := some (.inl r7)) (I' := I6) (st1 := [.inl r7]) d_Mo_reads_57 s_yMo_raw m_Mo_181 a_M_0 rfl rfl rfl (Nat.le_of_ble_eq_true rfl) rfl rfl (c_Mo_raw l (d0 + 1) (I6 0 14) I6 w1) ?_
  refine go_istore_n (lv' := [(1, .inl r7), (0, .inr (some 0))]) d_Mo_reads_60 rfl (by decide) rfl ?_
  refine go_iload_n (k := 0) d_Mo_reads_61 rfl rfl ?_
  refine go_iconst (v := (-1)) d_Mo_reads_62 (by decide) ?_
  refine go_cmp_ne (tgt := 72) d_Mo_reads_63 (by decide) (fun hc => ?_) (fun hc => ?_)
  · rw [if_neg hc] at h
    refine go_aload_n (k := 1) d_Mo_reads_72 rfl rfl ?_
    refine go_aload_n (k := 1) d_Mo_reads_73 rfl rfl ?_
    refine go_geti (ci := 10) (k := 14) d_Mo_reads_74 a_M_0 rfl (by decide) f_Mo_178 rfl ?_
    refine go_iconst (v := 1) d_Mo_reads_77 (by decide) ?_
    refine go_iadd d_Mo_reads_78 ?_
    obtain ⟨I8, eI8, h⟩ := fstf_e h
    refine go_putT (ci := 10) (k := 14) (I' := I8) d_Mo_reads_79 a_M_0 rfl (by decide) f_Mo_178 rfl rfl rfl rfl rfl eI8 ?_
    refine go_aload_n (k := 1) d_Mo_reads_82 rfl rfl ?_
    refine go_iload_n (k := 0) d_Mo_reads_83 rfl rfl ?_
    obtain ⟨I9, eI9, h⟩ := fstf_e h
    refine go_putT (ci := 10) (k := 17) (I' := I9) d_Mo_reads_84 a_M_0 rfl (by decide) f_Mo_190 rfl rfl rfl rfl rfl eI9 ?_
    refine go_aload_n (k := 1) d_Mo_reads_87 rfl rfl ?_
    refine go_iload_n (k := 0) d_Mo_reads_88 rfl rfl ?_
    refine go_callV (y := yMo_isLetter) (asr := [.inl r7]) (v := some (.inl (F_Mo_isLetter r7 I9))) (I' := I9) (st1 := [.inl (F_Mo_isLetter r7 I9)]) d_Mo_reads_89 s_yMo_isLetter m_Mo_193 a_M_0 rfl rfl rfl (Nat.le_of_ble_eq_true rfl) rfl rfl (c_Mo_isLetter l (d0 + 0) r7 I9) ?_
    refine go_if_eq (tgt := 155) d_Mo_reads_92 (by decide) (fun hc => ?_) (fun hc => ?_)
    · rw [if_pos hc] at h
      refine go_aload_n (k := 1) d_Mo_reads_155 rfl rfl ?_
      refine go_iload_n (k := 0) d_Mo_reads_156 rfl rfl ?_
      refine go_callV (y := yMo_isDigit) (asr := [.inl r7]) (v := some (.inl (F_Mo_isDigit r7 I9))) (I' := I9) (st1 := [.inl (F_Mo_isDigit r7 I9)]) d_Mo_reads_157 s_yMo_isDigit m_Mo_200 a_M_0 rfl rfl rfl (Nat.le_of_ble_eq_true rfl) rfl rfl (c_Mo_isDigit l (d0 + 0) r7 I9) ?_
      refine go_if_eq (tgt := 260) d_Mo_reads_160 (by decide) (fun hc => ?_) (fun hc => ?_)
      · rw [if_pos hc] at h
        refine go_aload_n (k := 1) d_Mo_reads_260 rfl rfl ?_
        refine go_iload_n (k := 0) d_Mo_reads_261 rfl rfl ?_
        refine go_callV (y := yMo_isMarkSign) (asr := [.inl r7]) (v := some (.inl (F_Mo_isMarkSign r7 I9))) (I' := I9) (st1 := [.inl (F_Mo_isMarkSign r7 I9)]) d_Mo_reads_262 s_yMo_isMarkSign m_Mo_203 a_M_0 rfl rfl rfl (Nat.le_of_ble_eq_true rfl) rfl rfl (c_Mo_isMarkSign l (d0 + 1) r7 I9) ?_
        refine go_if_eq (tgt := 273) d_Mo_reads_265 (by decide) (fun hc => ?_) (fun hc => ?_)
        · rw [if_pos hc] at h
          cases h
          exact go_return d_Mo_reads_273 rfl gb_po_i
        · rw [if_neg hc] at h
          refine go_aload_n (k := 1) d_Mo_reads_268 rfl rfl ?_
          refine go_iconst (v := 4) d_Mo_reads_269 (by decide) ?_
          obtain ⟨I10, eI10, h⟩ := fstf_e h
          refine go_putT (ci := 10) (k := 16) (I' := I10) d_Mo_reads_270 a_M_0 rfl (by decide) f_Mo_187 rfl rfl rfl rfl rfl eI10 ?_
          cases h
          exact go_return d_Mo_reads_273 rfl gb_po_i
      · rw [if_neg hc] at h
        refine go_aload_n (k := 1) d_Mo_reads_163 rfl rfl ?_
        refine go_iload_n (k := 0) d_Mo_reads_164 rfl rfl ?_
        refine go_bipush (v := 48) d_Mo_reads_165 (by decide) ?_
        refine go_isub d_Mo_reads_167 ?_
        obtain ⟨I11, eI11, h⟩ := fstf_e h
        refine go_putT (ci := 10) (k := 17) (I' := I11) d_Mo_reads_168 a_M_0 rfl (by decide) f_Mo_190 rfl rfl rfl rfl rfl eI11 ?_
        refine go_lv [1] (lv' := [(0, .inr (some 0))]) rfl ?_
        obtain ⟨I16, w1, h⟩ := fbd_e h
        refine l_Mo_reads_171 l d0  5000  I11 w1 (fun I16_ e => ?_)
        cases e
        refine go_aload_n (k := 0) d_Mo_reads_239 rfl rfl ?_
        refine go_geti (ci := 10) (k := 14) d_Mo_reads_240 a_M_0 rfl (by decide) f_Mo_178 rfl ?_
        refine go_aload_n (k := 0) d_Mo_reads_243 rfl rfl ?_
        refine go_geti (ci := 10) (k := 15) d_Mo_reads_244 a_M_0 rfl (by decide) f_Mo_184 rfl ?_
        refine go_isub d_Mo_reads_247 ?_
        refine go_iconst (v := 5) d_Mo_reads_248 (by decide) ?_
        refine go_cmp_ge (tgt := 273) d_Mo_reads_249 (by decide) (fun hc => ?_) (fun hc => ?_)
        · rw [if_pos hc] at h
          cases h
          exact go_return d_Mo_reads_273 rfl gb_po_i
        · rw [if_neg hc] at h
          refine go_aload_n (k := 0) d_Mo_reads_252 rfl rfl ?_
          refine go_iconst (v := 3) d_Mo_reads_253 (by decide) ?_
          obtain ⟨I17, eI17, h⟩ := fstf_e h
          refine go_putT (ci := 10) (k := 16) (I' := I17) d_Mo_reads_254 a_M_0 rfl (by decide) f_Mo_187 rfl rfl rfl rfl rfl eI17 ?_
          refine go_goto (tgt := 273) d_Mo_reads_257 (by decide) ?_
          cases h
          exact go_return d_Mo_reads_273 rfl gb_po_i
    · rw [if_neg hc] at h
      refine go_lv [1] (lv' := [(0, .inr (some 0))]) rfl ?_
      obtain ⟨I20, w1, h⟩ := fbd_e h
      refine l_Mo_reads_95 l d0  5000  I9 w1 (fun I20_ e => ?_)
      cases e
      refine go_aload_n (k := 0) d_Mo_reads_123 rfl rfl ?_
      refine go_aload_n (k := 0) d_Mo_reads_124 rfl rfl ?_
      refine go_aload_n (k := 0) d_Mo_reads_125 rfl rfl ?_
      refine go_geti (ci := 10) (k := 15) d_Mo_reads_126 a_M_0 rfl (by decide) f_Mo_184 rfl ?_
      refine go_aload_n (k := 0) d_Mo_reads_129 rfl rfl ?_
      refine go_geti (ci := 10) (k := 14) d_Mo_reads_130 a_M_0 rfl (by decide) f_Mo_178 rfl ?_
      obtain ⟨r21, w1, h⟩ := fbd_e h
      refine go_callV (y := yMo_wordAt) (asr := [.inl (I20 0 15), .inl (I20 0 14)]) (v := some (.inl r21)) (I' := I20) (st1 := [.inl r21, .inr (some 0)]) d_Mo_reads_133 s_yMo_wordAt m_Mo_196 a_M_0 rfl rfl rfl (Nat.le_of_ble_eq_true rfl) rfl rfl (c_Mo_wordAt l (d0 + 1) (I20 0 15) (I20 0 14) I20 w1) ?_
      obtain ⟨I22, eI22, h⟩ := fstf_e h
      refine go_putT (ci := 10) (k := 17) (I' := I22) d_Mo_reads_136 a_M_0 rfl (by decide) f_Mo_190 rfl rfl rfl rfl rfl eI22 ?_
      refine go_aload_n (k := 0) d_Mo_reads_139 rfl rfl ?_
      refine go_geti (ci := 10) (k := 17) d_Mo_reads_140 a_M_0 rfl (by decide) f_Mo_190 rfl ?_
      refine go_iconst (v := (-1)) d_Mo_reads_143 (by decide) ?_
      refine go_cmp_eq (tgt := 273) d_Mo_reads_144 (by decide) (fun hc => ?_) (fun hc => ?_)
      · rw [if_pos hc] at h
        cases h
        exact go_return d_Mo_reads_273 rfl gb_po_i
      · rw [if_neg hc] at h
        refine go_aload_n (k := 0) d_Mo_reads_147 rfl rfl ?_
        refine go_iconst (v := 2) d_Mo_reads_148 (by decide) ?_
        obtain ⟨I23, eI23, h⟩ := fstf_e h
        refine go_putT (ci := 10) (k := 16) (I' := I23) d_Mo_reads_149 a_M_0 rfl (by decide) f_Mo_187 rfl rfl rfl rfl rfl eI23 ?_
        refine go_goto (tgt := 273) d_Mo_reads_152 (by decide) ?_
        cases h
        exact go_return d_Mo_reads_273 rfl gb_po_i
  · rw [if_pos hc] at h
    refine go_aload_n (k := 1) d_Mo_reads_66 rfl rfl ?_
    refine go_iconst (v := 0) d_Mo_reads_67 (by decide) ?_
    obtain ⟨I24, eI24, h⟩ := fstf_e h
    refine go_putT (ci := 10) (k := 16) (I' := I24) d_Mo_reads_68 a_M_0 rfl (by decide) f_Mo_187 rfl rfl rfl rfl rfl eI24 ?_
    cases h
    exact go_return d_Mo_reads_71 rfl gb_po_i
theorem d_Mo_set_0 : decode yMo_set.2.1 0 = .ok (.aload_n 0, 1) := by decide +kernel
theorem d_Mo_set_1 : decode yMo_set.2.1 1 = .ok (.iconst 0, 1) := by decide +kernel
theorem d_Mo_set_2 : decode yMo_set.2.1 2 = .ok (.putfield 137, 3) := by decide +kernel
theorem d_Mo_set_5 : decode yMo_set.2.1 5 = .ok (.aload_n 0, 1) := by decide +kernel
theorem d_Mo_set_6 : decode yMo_set.2.1 6 = .ok (.iload_n 1, 1) := by decide +kernel
theorem d_Mo_set_7 : decode yMo_set.2.1 7 = .ok (.iload_n 2, 1) := by decide +kernel
theorem d_Mo_set_8 : decode yMo_set.2.1 8 = .ok (.iload_n 3, 1) := by decide +kernel
theorem d_Mo_set_9 : decode yMo_set.2.1 9 = .ok (.invokevirtual 168, 3) := by decide +kernel
theorem d_Mo_set_12 : decode yMo_set.2.1 12 = .ok (.ifCond .ne 5, 3) := by decide +kernel
theorem d_Mo_set_15 : decode yMo_set.2.1 15 = .ok (.iconst 0, 1) := by decide +kernel
theorem d_Mo_set_16 : decode yMo_set.2.1 16 = .ok (.ireturn, 1) := by decide +kernel
theorem d_Mo_set_17 : decode yMo_set.2.1 17 = .ok (.iload_n 1, 1) := by decide +kernel
theorem d_Mo_set_18 : decode yMo_set.2.1 18 = .ok (.ifCond .ne 12, 3) := by decide +kernel
theorem d_Mo_set_21 : decode yMo_set.2.1 21 = .ok (.aload_n 0, 1) := by decide +kernel
theorem d_Mo_set_22 : decode yMo_set.2.1 22 = .ok (.getfield 19, 3) := by decide +kernel
theorem d_Mo_set_25 : decode yMo_set.2.1 25 = .ok (.iload_n 2, 1) := by decide +kernel
theorem d_Mo_set_26 : decode yMo_set.2.1 26 = .ok (.iload_n 3, 1) := by decide +kernel
theorem d_Mo_set_27 : decode yMo_set.2.1 27 = .ok (.iconst 5, 1) := by decide +kernel
theorem d_Mo_set_28 : decode yMo_set.2.1 28 = .ok (.isub, 1) := by decide +kernel
theorem d_Mo_set_29 : decode yMo_set.2.1 29 = .ok (.iastore, 1) := by decide +kernel
theorem d_Mo_set_30 : decode yMo_set.2.1 30 = .ok (.iload_n 1, 1) := by decide +kernel
theorem d_Mo_set_31 : decode yMo_set.2.1 31 = .ok (.iconst 1, 1) := by decide +kernel
theorem d_Mo_set_32 : decode yMo_set.2.1 32 = .ok (.if_icmp .ne 10, 3) := by decide +kernel
theorem d_Mo_set_35 : decode yMo_set.2.1 35 = .ok (.aload_n 0, 1) := by decide +kernel
theorem d_Mo_set_36 : decode yMo_set.2.1 36 = .ok (.getfield 22, 3) := by decide +kernel
theorem d_Mo_set_39 : decode yMo_set.2.1 39 = .ok (.iload_n 2, 1) := by decide +kernel
theorem d_Mo_set_40 : decode yMo_set.2.1 40 = .ok (.iload_n 3, 1) := by decide +kernel
theorem d_Mo_set_41 : decode yMo_set.2.1 41 = .ok (.iastore, 1) := by decide +kernel
theorem d_Mo_set_42 : decode yMo_set.2.1 42 = .ok (.iload_n 1, 1) := by decide +kernel
theorem d_Mo_set_43 : decode yMo_set.2.1 43 = .ok (.iconst 2, 1) := by decide +kernel
theorem d_Mo_set_44 : decode yMo_set.2.1 44 = .ok (.if_icmp .ne 13, 3) := by decide +kernel
theorem d_Mo_set_47 : decode yMo_set.2.1 47 = .ok (.aload_n 0, 1) := by decide +kernel
theorem d_Mo_set_48 : decode yMo_set.2.1 48 = .ok (.getfield 7, 3) := by decide +kernel
theorem d_Mo_set_51 : decode yMo_set.2.1 51 = .ok (.bipush 6, 2) := by decide +kernel
theorem d_Mo_set_53 : decode yMo_set.2.1 53 = .ok (.iload_n 2, 1) := by decide +kernel
theorem d_Mo_set_54 : decode yMo_set.2.1 54 = .ok (.iadd, 1) := by decide +kernel
theorem d_Mo_set_55 : decode yMo_set.2.1 55 = .ok (.iload_n 3, 1) := by decide +kernel
theorem d_Mo_set_56 : decode yMo_set.2.1 56 = .ok (.iastore, 1) := by decide +kernel
theorem d_Mo_set_57 : decode yMo_set.2.1 57 = .ok (.iload_n 1, 1) := by decide +kernel
theorem d_Mo_set_58 : decode yMo_set.2.1 58 = .ok (.iconst 3, 1) := by decide +kernel
theorem d_Mo_set_59 : decode yMo_set.2.1 59 = .ok (.if_icmp .ne 10, 3) := by decide +kernel
theorem d_Mo_set_62 : decode yMo_set.2.1 62 = .ok (.aload_n 0, 1) := by decide +kernel
theorem d_Mo_set_63 : decode yMo_set.2.1 63 = .ok (.getfield 25, 3) := by decide +kernel
theorem d_Mo_set_66 : decode yMo_set.2.1 66 = .ok (.iload_n 2, 1) := by decide +kernel
theorem d_Mo_set_67 : decode yMo_set.2.1 67 = .ok (.iload_n 3, 1) := by decide +kernel
theorem d_Mo_set_68 : decode yMo_set.2.1 68 = .ok (.iastore, 1) := by decide +kernel
theorem d_Mo_set_69 : decode yMo_set.2.1 69 = .ok (.iload_n 1, 1) := by decide +kernel
theorem d_Mo_set_70 : decode yMo_set.2.1 70 = .ok (.iconst 4, 1) := by decide +kernel
theorem d_Mo_set_71 : decode yMo_set.2.1 71 = .ok (.if_icmp .ne 13, 3) := by decide +kernel
theorem d_Mo_set_74 : decode yMo_set.2.1 74 = .ok (.aload_n 0, 1) := by decide +kernel
theorem d_Mo_set_75 : decode yMo_set.2.1 75 = .ok (.getfield 7, 3) := by decide +kernel
theorem d_Mo_set_78 : decode yMo_set.2.1 78 = .ok (.bipush 18, 2) := by decide +kernel
theorem d_Mo_set_80 : decode yMo_set.2.1 80 = .ok (.iload_n 2, 1) := by decide +kernel
theorem d_Mo_set_81 : decode yMo_set.2.1 81 = .ok (.iadd, 1) := by decide +kernel
theorem d_Mo_set_82 : decode yMo_set.2.1 82 = .ok (.iload_n 3, 1) := by decide +kernel
theorem d_Mo_set_83 : decode yMo_set.2.1 83 = .ok (.iastore, 1) := by decide +kernel
theorem d_Mo_set_84 : decode yMo_set.2.1 84 = .ok (.iload_n 1, 1) := by decide +kernel
theorem d_Mo_set_85 : decode yMo_set.2.1 85 = .ok (.iconst 5, 1) := by decide +kernel
theorem d_Mo_set_86 : decode yMo_set.2.1 86 = .ok (.if_icmp .ne 13, 3) := by decide +kernel
theorem d_Mo_set_89 : decode yMo_set.2.1 89 = .ok (.aload_n 0, 1) := by decide +kernel
theorem d_Mo_set_90 : decode yMo_set.2.1 90 = .ok (.getfield 7, 3) := by decide +kernel
theorem d_Mo_set_93 : decode yMo_set.2.1 93 = .ok (.bipush 40, 2) := by decide +kernel
theorem d_Mo_set_95 : decode yMo_set.2.1 95 = .ok (.iload_n 2, 1) := by decide +kernel
theorem d_Mo_set_96 : decode yMo_set.2.1 96 = .ok (.iadd, 1) := by decide +kernel
theorem d_Mo_set_97 : decode yMo_set.2.1 97 = .ok (.iload_n 3, 1) := by decide +kernel
theorem d_Mo_set_98 : decode yMo_set.2.1 98 = .ok (.iastore, 1) := by decide +kernel
theorem d_Mo_set_99 : decode yMo_set.2.1 99 = .ok (.iload_n 1, 1) := by decide +kernel
theorem d_Mo_set_100 : decode yMo_set.2.1 100 = .ok (.bipush 6, 2) := by decide +kernel
theorem d_Mo_set_102 : decode yMo_set.2.1 102 = .ok (.if_icmp .ne 13, 3) := by decide +kernel
theorem d_Mo_set_105 : decode yMo_set.2.1 105 = .ok (.aload_n 0, 1) := by decide +kernel
theorem d_Mo_set_106 : decode yMo_set.2.1 106 = .ok (.getfield 7, 3) := by decide +kernel
theorem d_Mo_set_109 : decode yMo_set.2.1 109 = .ok (.bipush 64, 2) := by decide +kernel
theorem d_Mo_set_111 : decode yMo_set.2.1 111 = .ok (.iload_n 2, 1) := by decide +kernel
theorem d_Mo_set_112 : decode yMo_set.2.1 112 = .ok (.iadd, 1) := by decide +kernel
theorem d_Mo_set_113 : decode yMo_set.2.1 113 = .ok (.iload_n 3, 1) := by decide +kernel
theorem d_Mo_set_114 : decode yMo_set.2.1 114 = .ok (.iastore, 1) := by decide +kernel
theorem d_Mo_set_115 : decode yMo_set.2.1 115 = .ok (.iload_n 1, 1) := by decide +kernel
theorem d_Mo_set_116 : decode yMo_set.2.1 116 = .ok (.bipush 7, 2) := by decide +kernel
theorem d_Mo_set_118 : decode yMo_set.2.1 118 = .ok (.if_icmp .ne 10, 3) := by decide +kernel
theorem d_Mo_set_121 : decode yMo_set.2.1 121 = .ok (.aload_n 0, 1) := by decide +kernel
theorem d_Mo_set_122 : decode yMo_set.2.1 122 = .ok (.getfield 7, 3) := by decide +kernel
theorem d_Mo_set_125 : decode yMo_set.2.1 125 = .ok (.iconst 5, 1) := by decide +kernel
theorem d_Mo_set_126 : decode yMo_set.2.1 126 = .ok (.iload_n 3, 1) := by decide +kernel
theorem d_Mo_set_127 : decode yMo_set.2.1 127 = .ok (.iastore, 1) := by decide +kernel
theorem d_Mo_set_128 : decode yMo_set.2.1 128 = .ok (.aload_n 0, 1) := by decide +kernel
theorem d_Mo_set_129 : decode yMo_set.2.1 129 = .ok (.iconst 0, 1) := by decide +kernel
theorem d_Mo_set_130 : decode yMo_set.2.1 130 = .ok (.putfield 141, 3) := by decide +kernel
theorem d_Mo_set_133 : decode yMo_set.2.1 133 = .ok (.iconst 1, 1) := by decide +kernel
theorem d_Mo_set_134 : decode yMo_set.2.1 134 = .ok (.ireturn, 1) := by decide +kernel
def J_Mo_set_128 (I : gb_Mem) : Option (Int32 × gb_Mem) :=
  fstf I 0 3 0 fun I2 =>
  some (1, I2)
set_option maxRecDepth 4000 in
theorem j_Mo_set_128 (l : Launch) (d0 : Nat) (I : gb_Mem) {rz : Int32} {Iz : gb_Mem} (h : J_Mo_set_128 I = some (rz, Iz)) : gb_Go l yMo_set (d0 + 2) 0 0 128 [(0, .inr (some 0))] [] shM I (gb_po shM (some (.inl rz)) Iz) := by
  unfold J_Mo_set_128 at h
  refine go_aload_n (k := 0) d_Mo_set_128 rfl rfl ?_
  refine go_iconst (v := 0) d_Mo_set_129 (by decide) ?_
  obtain ⟨I2, eI2, h⟩ := fstf_e h
  refine go_putT (ci := 10) (k := 3) (I' := I2) d_Mo_set_130 a_M_0 rfl (by decide) f_Mo_141 rfl rfl rfl rfl rfl eI2 ?_
  refine go_iconst (v := 1) d_Mo_set_133 (by decide) ?_
  cases h
  exact go_zreturn d_Mo_set_134 rfl (Or.inr rfl) gb_po_i
def J_Mo_set_115 (x1 x3 : Int32) (I : gb_Mem) : Option (Int32 × gb_Mem) :=
  if x1 = 7 then
    fstf I 1 5 x3 fun I3 =>
    J_Mo_set_128 I3
  else
    J_Mo_set_128 I
set_option maxRecDepth 4000 in
theorem j_Mo_set_115 (l : Launch) (d0 : Nat) (x1 x3 : Int32) (I : gb_Mem) {rz : Int32} {Iz : gb_Mem} (h : J_Mo_set_115 x1 x3 I = some (rz, Iz)) : gb_Go l yMo_set (d0 + 2) 0 0 115 [(0, .inr (some 0)), (1, .inl x1), (3, .inl x3)] [] shM I (gb_po shM (some (.inl rz)) Iz) := by
  unfold J_Mo_set_115 at h
  refine go_iload_n (k := 1) d_Mo_set_115 rfl rfl ?_
  refine go_bipush (v := 7) d_Mo_set_116 (by decide) ?_
  refine go_cmp_ne (tgt := 128) d_Mo_set_118 (by decide) (fun hc => ?_) (fun hc => ?_)
  · rw [if_neg hc] at h
    exact go_lv [0] rfl (j_Mo_set_128 l d0 I h)
  · rw [if_pos hc] at h
    refine go_aload_n (k := 0) d_Mo_set_121 rfl rfl ?_
    refine go_getr (ci := 10) (k := 1) (r := 1) d_Mo_set_122 a_M_0 rfl (by decide) f_Mo_7 rfl ?_
    refine go_iconst (v := 5) d_Mo_set_125 (by decide) ?_
    refine go_iload_n (k := 2) d_Mo_set_126 rfl rfl ?_
    obtain ⟨I3, eI3, h⟩ := fstf_e h
    refine go_iast (I' := I3) d_Mo_set_127 a_M_1 (inb_iff.mp (by decide)) eI3 ?_
    exact go_lv [0] rfl (j_Mo_set_128 l d0 I3 h)
def J_Mo_set_99 (x1 x2 x3 : Int32) (I : gb_Mem) : Option (Int32 × gb_Mem) :=
  if x1 = 6 then
    fsto I 1 80 (64 + x2) x3 fun I4 =>
    J_Mo_set_115 x1 x3 I4
  else
    J_Mo_set_115 x1 x3 I
set_option maxRecDepth 4000 in
theorem j_Mo_set_99 (l : Launch) (d0 : Nat) (x1 x2 x3 : Int32) (I : gb_Mem) {rz : Int32} {Iz : gb_Mem} (h : J_Mo_set_99 x1 x2 x3 I = some (rz, Iz)) : gb_Go l yMo_set (d0 + 2) 0 0 99 [(0, .inr (some 0)), (1, .inl x1), (2, .inl x2), (3, .inl x3)] [] shM I (gb_po shM (some (.inl rz)) Iz) := by
  unfold J_Mo_set_99 at h
  refine go_iload_n (k := 1) d_Mo_set_99 rfl rfl ?_
  refine go_bipush (v := 6) d_Mo_set_100 (by decide) ?_
  refine go_cmp_ne (tgt := 115) d_Mo_set_102 (by decide) (fun hc => ?_) (fun hc => ?_)
  · rw [if_neg hc] at h
    exact go_lv [0, 1, 3] rfl (j_Mo_set_115 l d0 x1 x3 I h)
  · rw [if_pos hc] at h
    refine go_aload_n (k := 0) d_Mo_set_105 rfl rfl ?_
    refine go_getr (ci := 10) (k := 1) (r := 1) d_Mo_set_106 a_M_0 rfl (by decide) f_Mo_7 rfl ?_
    refine go_bipush (v := 64) d_Mo_set_109 (by decide) ?_
    refine go_iload_n (k := 2) d_Mo_set_111 rfl rfl ?_
    refine go_iadd d_Mo_set_112 ?_
    refine go_iload_n (k := 3) d_Mo_set_113 rfl rfl ?_
    obtain ⟨hi, I4, eI4, h⟩ := fsto_e h
    refine go_iast (I' := I4) d_Mo_set_114 a_M_1 hi eI4 ?_
    exact go_lv [0, 1, 3] rfl (j_Mo_set_115 l d0 x1 x3 I4 h)
def J_Mo_set_84 (x1 x2 x3 : Int32) (I : gb_Mem) : Option (Int32 × gb_Mem) :=
  if x1 = 5 then
    fsto I 1 80 (40 + x2) x3 fun I5 =>
    J_Mo_set_99 x1 x2 x3 I5
  else
    J_Mo_set_99 x1 x2 x3 I
set_option maxRecDepth 4000 in
theorem j_Mo_set_84 (l : Launch) (d0 : Nat) (x1 x2 x3 : Int32) (I : gb_Mem) {rz : Int32} {Iz : gb_Mem} (h : J_Mo_set_84 x1 x2 x3 I = some (rz, Iz)) : gb_Go l yMo_set (d0 + 2) 0 0 84 [(0, .inr (some 0)), (1, .inl x1), (2, .inl x2), (3, .inl x3)] [] shM I (gb_po shM (some (.inl rz)) Iz) := by
  unfold J_Mo_set_84 at h
  refine go_iload_n (k := 1) d_Mo_set_84 rfl rfl ?_
  refine go_iconst (v := 5) d_Mo_set_85 (by decide) ?_
  refine go_cmp_ne (tgt := 99) d_Mo_set_86 (by decide) (fun hc => ?_) (fun hc => ?_)
  · rw [if_neg hc] at h
    exact go_lv [0, 1, 2, 3] rfl (j_Mo_set_99 l d0 x1 x2 x3 I h)
  · rw [if_pos hc] at h
    refine go_aload_n (k := 0) d_Mo_set_89 rfl rfl ?_
    refine go_getr (ci := 10) (k := 1) (r := 1) d_Mo_set_90 a_M_0 rfl (by decide) f_Mo_7 rfl ?_
    refine go_bipush (v := 40) d_Mo_set_93 (by decide) ?_
    refine go_iload_n (k := 2) d_Mo_set_95 rfl rfl ?_
    refine go_iadd d_Mo_set_96 ?_
    refine go_iload_n (k := 3) d_Mo_set_97 rfl rfl ?_
    obtain ⟨hi, I5, eI5, h⟩ := fsto_e h
    refine go_iast (I' := I5) d_Mo_set_98 a_M_1 hi eI5 ?_
    exact go_lv [0, 1, 2, 3] rfl (j_Mo_set_99 l d0 x1 x2 x3 I5 h)
def J_Mo_set_69 (x1 x2 x3 : Int32) (I : gb_Mem) : Option (Int32 × gb_Mem) :=
  if x1 = 4 then
    fsto I 1 80 (18 + x2) x3 fun I6 =>
    J_Mo_set_84 x1 x2 x3 I6
  else
    J_Mo_set_84 x1 x2 x3 I
set_option maxRecDepth 4000 in
theorem j_Mo_set_69 (l : Launch) (d0 : Nat) (x1 x2 x3 : Int32) (I : gb_Mem) {rz : Int32} {Iz : gb_Mem} (h : J_Mo_set_69 x1 x2 x3 I = some (rz, Iz)) : gb_Go l yMo_set (d0 + 2) 0 0 69 [(0, .inr (some 0)), (1, .inl x1), (2, .inl x2), (3, .inl x3)] [] shM I (gb_po shM (some (.inl rz)) Iz) := by
  unfold J_Mo_set_69 at h
  refine go_iload_n (k := 1) d_Mo_set_69 rfl rfl ?_
  refine go_iconst (v := 4) d_Mo_set_70 (by decide) ?_
  refine go_cmp_ne (tgt := 84) d_Mo_set_71 (by decide) (fun hc => ?_) (fun hc => ?_)
  · rw [if_neg hc] at h
    exact go_lv [0, 1, 2, 3] rfl (j_Mo_set_84 l d0 x1 x2 x3 I h)
  · rw [if_pos hc] at h
    refine go_aload_n (k := 0) d_Mo_set_74 rfl rfl ?_
    refine go_getr (ci := 10) (k := 1) (r := 1) d_Mo_set_75 a_M_0 rfl (by decide) f_Mo_7 rfl ?_
    refine go_bipush (v := 18) d_Mo_set_78 (by decide) ?_
    refine go_iload_n (k := 2) d_Mo_set_80 rfl rfl ?_
    refine go_iadd d_Mo_set_81 ?_
    refine go_iload_n (k := 3) d_Mo_set_82 rfl rfl ?_
    obtain ⟨hi, I6, eI6, h⟩ := fsto_e h
    refine go_iast (I' := I6) d_Mo_set_83 a_M_1 hi eI6 ?_
    exact go_lv [0, 1, 2, 3] rfl (j_Mo_set_84 l d0 x1 x2 x3 I6 h)
def J_Mo_set_57 (x1 x2 x3 : Int32) (I : gb_Mem) : Option (Int32 × gb_Mem) :=
  if x1 = 3 then
    fsto I 6 12 x2 x3 fun I7 =>
    J_Mo_set_69 x1 x2 x3 I7
  else
    J_Mo_set_69 x1 x2 x3 I
set_option maxRecDepth 4000 in
theorem j_Mo_set_57 (l : Launch) (d0 : Nat) (x1 x2 x3 : Int32) (I : gb_Mem) {rz : Int32} {Iz : gb_Mem} (h : J_Mo_set_57 x1 x2 x3 I = some (rz, Iz)) : gb_Go l yMo_set (d0 + 2) 0 0 57 [(0, .inr (some 0)), (1, .inl x1), (2, .inl x2), (3, .inl x3)] [] shM I (gb_po shM (some (.inl rz)) Iz) := by
  unfold J_Mo_set_57 at h
  refine go_iload_n (k := 1) d_Mo_set_57 rfl rfl ?_
  refine go_iconst (v := 3) d_Mo_set_58 (by decide) ?_
  refine go_cmp_ne (tgt := 69) d_Mo_set_59 (by decide) (fun hc => ?_) (fun hc => ?_)
  · rw [if_neg hc] at h
    exact go_lv [0, 1, 2, 3] rfl (j_Mo_set_69 l d0 x1 x2 x3 I h)
  · rw [if_pos hc] at h
    refine go_aload_n (k := 0) d_Mo_set_62 rfl rfl ?_
    refine go_getr (ci := 10) (k := 9) (r := 6) d_Mo_set_63 a_M_0 rfl (by decide) f_Mo_25 rfl ?_
    refine go_iload_n (k := 2) d_Mo_set_66 rfl rfl ?_
    refine go_iload_n (k := 3) d_Mo_set_67 rfl rfl ?_
    obtain ⟨hi, I7, eI7, h⟩ := fsto_e h
    refine go_iast (I' := I7) d_Mo_set_68 a_M_6 hi eI7 ?_
    exact go_lv [0, 1, 2, 3] rfl (j_Mo_set_69 l d0 x1 x2 x3 I7 h)
def J_Mo_set_42 (x1 x2 x3 : Int32) (I : gb_Mem) : Option (Int32 × gb_Mem) :=
  if x1 = 2 then
    fsto I 1 80 (6 + x2) x3 fun I8 =>
    J_Mo_set_57 x1 x2 x3 I8
  else
    J_Mo_set_57 x1 x2 x3 I
set_option maxRecDepth 4000 in
theorem j_Mo_set_42 (l : Launch) (d0 : Nat) (x1 x2 x3 : Int32) (I : gb_Mem) {rz : Int32} {Iz : gb_Mem} (h : J_Mo_set_42 x1 x2 x3 I = some (rz, Iz)) : gb_Go l yMo_set (d0 + 2) 0 0 42 [(0, .inr (some 0)), (1, .inl x1), (2, .inl x2), (3, .inl x3)] [] shM I (gb_po shM (some (.inl rz)) Iz) := by
  unfold J_Mo_set_42 at h
  refine go_iload_n (k := 1) d_Mo_set_42 rfl rfl ?_
  refine go_iconst (v := 2) d_Mo_set_43 (by decide) ?_
  refine go_cmp_ne (tgt := 57) d_Mo_set_44 (by decide) (fun hc => ?_) (fun hc => ?_)
  · rw [if_neg hc] at h
    exact go_lv [0, 1, 2, 3] rfl (j_Mo_set_57 l d0 x1 x2 x3 I h)
  · rw [if_pos hc] at h
    refine go_aload_n (k := 0) d_Mo_set_47 rfl rfl ?_
    refine go_getr (ci := 10) (k := 1) (r := 1) d_Mo_set_48 a_M_0 rfl (by decide) f_Mo_7 rfl ?_
    refine go_bipush (v := 6) d_Mo_set_51 (by decide) ?_
    refine go_iload_n (k := 2) d_Mo_set_53 rfl rfl ?_
    refine go_iadd d_Mo_set_54 ?_
    refine go_iload_n (k := 3) d_Mo_set_55 rfl rfl ?_
    obtain ⟨hi, I8, eI8, h⟩ := fsto_e h
    refine go_iast (I' := I8) d_Mo_set_56 a_M_1 hi eI8 ?_
    exact go_lv [0, 1, 2, 3] rfl (j_Mo_set_57 l d0 x1 x2 x3 I8 h)
def J_Mo_set_30 (x1 x2 x3 : Int32) (I : gb_Mem) : Option (Int32 × gb_Mem) :=
  if x1 = 1 then
    fsto I 5 12 x2 x3 fun I9 =>
    J_Mo_set_42 x1 x2 x3 I9
  else
    J_Mo_set_42 x1 x2 x3 I
set_option maxRecDepth 4000 in
theorem j_Mo_set_30 (l : Launch) (d0 : Nat) (x1 x2 x3 : Int32) (I : gb_Mem) {rz : Int32} {Iz : gb_Mem} (h : J_Mo_set_30 x1 x2 x3 I = some (rz, Iz)) : gb_Go l yMo_set (d0 + 2) 0 0 30 [(0, .inr (some 0)), (1, .inl x1), (2, .inl x2), (3, .inl x3)] [] shM I (gb_po shM (some (.inl rz)) Iz) := by
  unfold J_Mo_set_30 at h
  refine go_iload_n (k := 1) d_Mo_set_30 rfl rfl ?_
  refine go_iconst (v := 1) d_Mo_set_31 (by decide) ?_
  refine go_cmp_ne (tgt := 42) d_Mo_set_32 (by decide) (fun hc => ?_) (fun hc => ?_)
  · rw [if_neg hc] at h
    exact go_lv [0, 1, 2, 3] rfl (j_Mo_set_42 l d0 x1 x2 x3 I h)
  · rw [if_pos hc] at h
    refine go_aload_n (k := 0) d_Mo_set_35 rfl rfl ?_
    refine go_getr (ci := 10) (k := 8) (r := 5) d_Mo_set_36 a_M_0 rfl (by decide) f_Mo_22 rfl ?_
    refine go_iload_n (k := 2) d_Mo_set_39 rfl rfl ?_
    refine go_iload_n (k := 3) d_Mo_set_40 rfl rfl ?_
    obtain ⟨hi, I9, eI9, h⟩ := fsto_e h
    refine go_iast (I' := I9) d_Mo_set_41 a_M_5 hi eI9 ?_
    exact go_lv [0, 1, 2, 3] rfl (j_Mo_set_42 l d0 x1 x2 x3 I9 h)
def F_Mo_set (x1 x2 x3 : Int32) (I : gb_Mem) : Option (Int32 × gb_Mem) :=
  fstf I 0 0 0 fun I1 =>
  if (F_Mo_canSet x1 x2 x3 I1) = 0 then
    some (0, I1)
  else
    if x1 = 0 then
      fsto I1 4 12 x2 (x3 - 5) fun I10 =>
      J_Mo_set_30 x1 x2 x3 I10
    else
      J_Mo_set_30 x1 x2 x3 I1
set_option maxRecDepth 4000 in
theorem c_Mo_set (l : Launch) (d0 : Nat) (x1 x2 x3 : Int32) (I : gb_Mem) {rz : Int32} {Iz : gb_Mem} (h : F_Mo_set x1 x2 x3 I = some (rz, Iz)) : gb_Cs l yMo_set (d0 + 2) [.inr (some 0), .inl x1, .inl x2, .inl x3] shM I (some (.inl rz)) Iz := by
  refine gb_Ct.of (lv := [(0, .inr (some 0)), (1, .inl x1), (2, .inl x2), (3, .inl x3)]) rfl (Nat.le_of_ble_eq_true rfl) rfl ?_
  unfold F_Mo_set at h
  show gb_Go l yMo_set (d0 + 2) 0 0 0 [(0, .inr (some 0)), (1, .inl x1), (2, .inl x2), (3, .inl x3)] [] shM I (gb_po shM (some (.inl rz)) Iz)
  refine go_aload_n (k := 0) d_Mo_set_0 rfl rfl ?_
  refine go_iconst (v := 0) d_Mo_set_1 (by decide) ?_
  obtain ⟨I1, eI1, h⟩ := fstf_e h
  refine go_putT (ci := 10) (k := 0) (I' := I1) d_Mo_set_2 a_M_0 rfl (by decide) f_Mo_137 rfl rfl rfl rfl rfl eI1 ?_
  refine go_aload_n (k := 0) d_Mo_set_5 rfl rfl ?_
  refine go_iload_n (k := 1) d_Mo_set_6 rfl rfl ?_
  refine go_iload_n (k := 2) d_Mo_set_7 rfl rfl ?_
  refine go_iload_n (k := 3) d_Mo_set_8 rfl rfl ?_
  refine go_callV (y := yMo_canSet) (asr := [.inl x1, .inl x2, .inl x3]) (v := some (.inl (F_Mo_canSet x1 x2 x3 I1))) (I' := I1) (st1 := [.inl (F_Mo_canSet x1 x2 x3 I1)]) d_Mo_set_9 s_yMo_canSet m_Mo_168 a_M_0 rfl rfl rfl (Nat.le_of_ble_eq_true rfl) rfl rfl (c_Mo_canSet l (d0 + 0) x1 x2 x3 I1) ?_
  refine go_if_ne (tgt := 17) d_Mo_set_12 (by decide) (fun hc => ?_) (fun hc => ?_)
  · rw [if_neg hc] at h
    refine go_iload_n (k := 1) d_Mo_set_17 rfl rfl ?_
    refine go_if_ne (tgt := 30) d_Mo_set_18 (by decide) (fun hc => ?_) (fun hc => ?_)
    · rw [if_neg hc] at h
      exact go_lv [0, 1, 2, 3] rfl (j_Mo_set_30 l d0 x1 x2 x3 I1 h)
    · rw [if_pos hc] at h
      refine go_aload_n (k := 0) d_Mo_set_21 rfl rfl ?_
      refine go_getr (ci := 10) (k := 7) (r := 4) d_Mo_set_22 a_M_0 rfl (by decide) f_Mo_19 rfl ?_
      refine go_iload_n (k := 2) d_Mo_set_25 rfl rfl ?_
      refine go_iload_n (k := 3) d_Mo_set_26 rfl rfl ?_
      refine go_iconst (v := 5) d_Mo_set_27 (by decide) ?_
      refine go_isub d_Mo_set_28 ?_
      obtain ⟨hi, I10, eI10, h⟩ := fsto_e h
      refine go_iast (I' := I10) d_Mo_set_29 a_M_4 hi eI10 ?_
      exact go_lv [0, 1, 2, 3] rfl (j_Mo_set_30 l d0 x1 x2 x3 I10 h)
  · rw [if_pos hc] at h
    refine go_iconst (v := 0) d_Mo_set_15 (by decide) ?_
    cases h
    exact go_zreturn d_Mo_set_16 rfl (Or.inl rfl) gb_po_i
