theorem d_Mo_findsBoth_0 : decode yMo_findsBoth.2.1 0 = .ok (.iconst 0, 1) := by decide +kernel
theorem d_Mo_findsBoth_1 : decode yMo_findsBoth.2.1 1 = .ok (.istore_n 1, 1) := by decide +kernel
theorem d_Mo_findsBoth_2 : decode yMo_findsBoth.2.1 2 = .ok (.iload_n 1, 1) := by decide +kernel
theorem d_Mo_findsBoth_3 : decode yMo_findsBoth.2.1 3 = .ok (.aload_n 0, 1) := by decide +kernel
theorem d_Mo_findsBoth_4 : decode yMo_findsBoth.2.1 4 = .ok (.getfield 89, 3) := by decide +kernel
theorem d_Mo_findsBoth_7 : decode yMo_findsBoth.2.1 7 = .ok (.iconst 0, 1) := by decide +kernel
theorem d_Mo_findsBoth_8 : decode yMo_findsBoth.2.1 8 = .ok (.iaload, 1) := by decide +kernel
theorem d_Mo_findsBoth_9 : decode yMo_findsBoth.2.1 9 = .ok (.if_icmp .gt 189, 3) := by decide +kernel
theorem d_Mo_findsBoth_12 : decode yMo_findsBoth.2.1 12 = .ok (.iconst 0, 1) := by decide +kernel
theorem d_Mo_findsBoth_13 : decode yMo_findsBoth.2.1 13 = .ok (.istore_n 2, 1) := by decide +kernel
theorem d_Mo_findsBoth_14 : decode yMo_findsBoth.2.1 14 = .ok (.iload_n 2, 1) := by decide +kernel
theorem d_Mo_findsBoth_15 : decode yMo_findsBoth.2.1 15 = .ok (.aload_n 0, 1) := by decide +kernel
theorem d_Mo_findsBoth_16 : decode yMo_findsBoth.2.1 16 = .ok (.getfield 89, 3) := by decide +kernel
theorem d_Mo_findsBoth_19 : decode yMo_findsBoth.2.1 19 = .ok (.iconst 1, 1) := by decide +kernel
theorem d_Mo_findsBoth_20 : decode yMo_findsBoth.2.1 20 = .ok (.iaload, 1) := by decide +kernel
theorem d_Mo_findsBoth_21 : decode yMo_findsBoth.2.1 21 = .ok (.if_icmp .gt 171, 3) := by decide +kernel
theorem d_Mo_findsBoth_24 : decode yMo_findsBoth.2.1 24 = .ok (.bipush 13, 2) := by decide +kernel
theorem d_Mo_findsBoth_26 : decode yMo_findsBoth.2.1 26 = .ok (.iload_n 1, 1) := by decide +kernel
theorem d_Mo_findsBoth_27 : decode yMo_findsBoth.2.1 27 = .ok (.imul, 1) := by decide +kernel
theorem d_Mo_findsBoth_28 : decode yMo_findsBoth.2.1 28 = .ok (.iload_n 2, 1) := by decide +kernel
theorem d_Mo_findsBoth_29 : decode yMo_findsBoth.2.1 29 = .ok (.iadd, 1) := by decide +kernel
theorem d_Mo_findsBoth_30 : decode yMo_findsBoth.2.1 30 = .ok (.istore_n 3, 1) := by decide +kernel
theorem d_Mo_findsBoth_31 : decode yMo_findsBoth.2.1 31 = .ok (.iload_n 1, 1) := by decide +kernel
theorem d_Mo_findsBoth_32 : decode yMo_findsBoth.2.1 32 = .ok (.ifCond .eq 7, 3) := by decide +kernel
theorem d_Mo_findsBoth_35 : decode yMo_findsBoth.2.1 35 = .ok (.iload_n 2, 1) := by decide +kernel
theorem d_Mo_findsBoth_36 : decode yMo_findsBoth.2.1 36 = .ok (.ifCond .ne 22, 3) := by decide +kernel
theorem d_Mo_findsBoth_39 : decode yMo_findsBoth.2.1 39 = .ok (.aload_n 0, 1) := by decide +kernel
theorem d_Mo_findsBoth_40 : decode yMo_findsBoth.2.1 40 = .ok (.getfield 95, 3) := by decide +kernel
theorem d_Mo_findsBoth_43 : decode yMo_findsBoth.2.1 43 = .ok (.iload_n 3, 1) := by decide +kernel
theorem d_Mo_findsBoth_44 : decode yMo_findsBoth.2.1 44 = .ok (.iconst 0, 1) := by decide +kernel
theorem d_Mo_findsBoth_45 : decode yMo_findsBoth.2.1 45 = .ok (.iastore, 1) := by decide +kernel
theorem d_Mo_findsBoth_46 : decode yMo_findsBoth.2.1 46 = .ok (.aload_n 0, 1) := by decide +kernel
theorem d_Mo_findsBoth_47 : decode yMo_findsBoth.2.1 47 = .ok (.getfield 98, 3) := by decide +kernel
theorem d_Mo_findsBoth_50 : decode yMo_findsBoth.2.1 50 = .ok (.iload_n 3, 1) := by decide +kernel
theorem d_Mo_findsBoth_51 : decode yMo_findsBoth.2.1 51 = .ok (.iload_n 1, 1) := by decide +kernel
theorem d_Mo_findsBoth_52 : decode yMo_findsBoth.2.1 52 = .ok (.iload_n 2, 1) := by decide +kernel
theorem d_Mo_findsBoth_53 : decode yMo_findsBoth.2.1 53 = .ok (.iadd, 1) := by decide +kernel
theorem d_Mo_findsBoth_54 : decode yMo_findsBoth.2.1 54 = .ok (.iastore, 1) := by decide +kernel
theorem d_Mo_findsBoth_55 : decode yMo_findsBoth.2.1 55 = .ok (.goto 131, 3) := by decide +kernel
theorem d_Mo_findsBoth_58 : decode yMo_findsBoth.2.1 58 = .ok (.aload_n 0, 1) := by decide +kernel
theorem d_Mo_findsBoth_59 : decode yMo_findsBoth.2.1 59 = .ok (.getfield 92, 3) := by decide +kernel
theorem d_Mo_findsBoth_62 : decode yMo_findsBoth.2.1 62 = .ok (.iload_n 1, 1) := by decide +kernel
theorem d_Mo_findsBoth_63 : decode yMo_findsBoth.2.1 63 = .ok (.iconst 1, 1) := by decide +kernel
theorem d_Mo_findsBoth_64 : decode yMo_findsBoth.2.1 64 = .ok (.isub, 1) := by decide +kernel
theorem d_Mo_findsBoth_65 : decode yMo_findsBoth.2.1 65 = .ok (.iaload, 1) := by decide +kernel
theorem d_Mo_findsBoth_66 : decode yMo_findsBoth.2.1 66 = .ok (.aload_n 0, 1) := by decide +kernel
theorem d_Mo_findsBoth_67 : decode yMo_findsBoth.2.1 67 = .ok (.getfield 92, 3) := by decide +kernel
theorem d_Mo_findsBoth_70 : decode yMo_findsBoth.2.1 70 = .ok (.bipush 12, 2) := by decide +kernel
theorem d_Mo_findsBoth_72 : decode yMo_findsBoth.2.1 72 = .ok (.iload_n 2, 1) := by decide +kernel
theorem d_Mo_findsBoth_73 : decode yMo_findsBoth.2.1 73 = .ok (.iadd, 1) := by decide +kernel
theorem d_Mo_findsBoth_74 : decode yMo_findsBoth.2.1 74 = .ok (.iconst 1, 1) := by decide +kernel
theorem d_Mo_findsBoth_75 : decode yMo_findsBoth.2.1 75 = .ok (.isub, 1) := by decide +kernel
theorem d_Mo_findsBoth_76 : decode yMo_findsBoth.2.1 76 = .ok (.iaload, 1) := by decide +kernel
theorem d_Mo_findsBoth_77 : decode yMo_findsBoth.2.1 77 = .ok (.if_icmp .ne 7, 3) := by decide +kernel
theorem d_Mo_findsBoth_80 : decode yMo_findsBoth.2.1 80 = .ok (.iconst 1, 1) := by decide +kernel
theorem d_Mo_findsBoth_81 : decode yMo_findsBoth.2.1 81 = .ok (.goto 4, 3) := by decide +kernel
theorem d_Mo_findsBoth_84 : decode yMo_findsBoth.2.1 84 = .ok (.iconst 0, 1) := by decide +kernel
theorem d_Mo_findsBoth_85 : decode yMo_findsBoth.2.1 85 = .ok (.istore 4, 2) := by decide +kernel
theorem d_Mo_findsBoth_87 : decode yMo_findsBoth.2.1 87 = .ok (.aload_n 0, 1) := by decide +kernel
theorem d_Mo_findsBoth_88 : decode yMo_findsBoth.2.1 88 = .ok (.getfield 95, 3) := by decide +kernel
theorem d_Mo_findsBoth_91 : decode yMo_findsBoth.2.1 91 = .ok (.iload_n 3, 1) := by decide +kernel
theorem d_Mo_findsBoth_92 : decode yMo_findsBoth.2.1 92 = .ok (.iload 4, 2) := by decide +kernel
theorem d_Mo_findsBoth_94 : decode yMo_findsBoth.2.1 94 = .ok (.ifCond .eq 17, 3) := by decide +kernel
theorem d_Mo_findsBoth_97 : decode yMo_findsBoth.2.1 97 = .ok (.aload_n 0, 1) := by decide +kernel
theorem d_Mo_findsBoth_98 : decode yMo_findsBoth.2.1 98 = .ok (.getfield 95, 3) := by decide +kernel
theorem d_Mo_findsBoth_101 : decode yMo_findsBoth.2.1 101 = .ok (.iload_n 3, 1) := by decide +kernel
theorem d_Mo_findsBoth_102 : decode yMo_findsBoth.2.1 102 = .ok (.bipush 14, 2) := by decide +kernel
theorem d_Mo_findsBoth_104 : decode yMo_findsBoth.2.1 104 = .ok (.isub, 1) := by decide +kernel
theorem d_Mo_findsBoth_105 : decode yMo_findsBoth.2.1 105 = .ok (.iaload, 1) := by decide +kernel
theorem d_Mo_findsBoth_106 : decode yMo_findsBoth.2.1 106 = .ok (.iconst 1, 1) := by decide +kernel
theorem d_Mo_findsBoth_107 : decode yMo_findsBoth.2.1 107 = .ok (.iadd, 1) := by decide +kernel
theorem d_Mo_findsBoth_108 : decode yMo_findsBoth.2.1 108 = .ok (.goto 24, 3) := by decide +kernel
theorem d_Mo_findsBoth_111 : decode yMo_findsBoth.2.1 111 = .ok (.aload_n 0, 1) := by decide +kernel
theorem d_Mo_findsBoth_112 : decode yMo_findsBoth.2.1 112 = .ok (.aload_n 0, 1) := by decide +kernel
theorem d_Mo_findsBoth_113 : decode yMo_findsBoth.2.1 113 = .ok (.getfield 95, 3) := by decide +kernel
theorem d_Mo_findsBoth_116 : decode yMo_findsBoth.2.1 116 = .ok (.iload_n 3, 1) := by decide +kernel
theorem d_Mo_findsBoth_117 : decode yMo_findsBoth.2.1 117 = .ok (.bipush 13, 2) := by decide +kernel
theorem d_Mo_findsBoth_119 : decode yMo_findsBoth.2.1 119 = .ok (.isub, 1) := by decide +kernel
theorem d_Mo_findsBoth_120 : decode yMo_findsBoth.2.1 120 = .ok (.iaload, 1) := by decide +kernel
theorem d_Mo_findsBoth_121 : decode yMo_findsBoth.2.1 121 = .ok (.aload_n 0, 1) := by decide +kernel
theorem d_Mo_findsBoth_122 : decode yMo_findsBoth.2.1 122 = .ok (.getfield 95, 3) := by decide +kernel
theorem d_Mo_findsBoth_125 : decode yMo_findsBoth.2.1 125 = .ok (.iload_n 3, 1) := by decide +kernel
theorem d_Mo_findsBoth_126 : decode yMo_findsBoth.2.1 126 = .ok (.iconst 1, 1) := by decide +kernel
theorem d_Mo_findsBoth_127 : decode yMo_findsBoth.2.1 127 = .ok (.isub, 1) := by decide +kernel
theorem d_Mo_findsBoth_128 : decode yMo_findsBoth.2.1 128 = .ok (.iaload, 1) := by decide +kernel
theorem d_Mo_findsBoth_129 : decode yMo_findsBoth.2.1 129 = .ok (.invokevirtual 351, 3) := by decide +kernel
theorem d_Mo_findsBoth_132 : decode yMo_findsBoth.2.1 132 = .ok (.iastore, 1) := by decide +kernel
theorem d_Mo_findsBoth_133 : decode yMo_findsBoth.2.1 133 = .ok (.aload_n 0, 1) := by decide +kernel
theorem d_Mo_findsBoth_134 : decode yMo_findsBoth.2.1 134 = .ok (.getfield 98, 3) := by decide +kernel
theorem d_Mo_findsBoth_137 : decode yMo_findsBoth.2.1 137 = .ok (.iload_n 3, 1) := by decide +kernel
theorem d_Mo_findsBoth_138 : decode yMo_findsBoth.2.1 138 = .ok (.aload_n 0, 1) := by decide +kernel
theorem d_Mo_findsBoth_139 : decode yMo_findsBoth.2.1 139 = .ok (.aload_n 0, 1) := by decide +kernel
theorem d_Mo_findsBoth_140 : decode yMo_findsBoth.2.1 140 = .ok (.getfield 98, 3) := by decide +kernel
theorem d_Mo_findsBoth_143 : decode yMo_findsBoth.2.1 143 = .ok (.iload_n 3, 1) := by decide +kernel
theorem d_Mo_findsBoth_144 : decode yMo_findsBoth.2.1 144 = .ok (.bipush 14, 2) := by decide +kernel
theorem d_Mo_findsBoth_146 : decode yMo_findsBoth.2.1 146 = .ok (.isub, 1) := by decide +kernel
theorem d_Mo_findsBoth_147 : decode yMo_findsBoth.2.1 147 = .ok (.iaload, 1) := by decide +kernel
theorem d_Mo_findsBoth_148 : decode yMo_findsBoth.2.1 148 = .ok (.iload 4, 2) := by decide +kernel
theorem d_Mo_findsBoth_150 : decode yMo_findsBoth.2.1 150 = .ok (.ifCond .eq 7, 3) := by decide +kernel
theorem d_Mo_findsBoth_153 : decode yMo_findsBoth.2.1 153 = .ok (.iconst 0, 1) := by decide +kernel
theorem d_Mo_findsBoth_154 : decode yMo_findsBoth.2.1 154 = .ok (.goto 4, 3) := by decide +kernel
theorem d_Mo_findsBoth_157 : decode yMo_findsBoth.2.1 157 = .ok (.iconst 1, 1) := by decide +kernel
theorem d_Mo_findsBoth_158 : decode yMo_findsBoth.2.1 158 = .ok (.iadd, 1) := by decide +kernel
theorem d_Mo_findsBoth_159 : decode yMo_findsBoth.2.1 159 = .ok (.aload_n 0, 1) := by decide +kernel
theorem d_Mo_findsBoth_160 : decode yMo_findsBoth.2.1 160 = .ok (.aload_n 0, 1) := by decide +kernel
theorem d_Mo_findsBoth_161 : decode yMo_findsBoth.2.1 161 = .ok (.getfield 98, 3) := by decide +kernel
theorem d_Mo_findsBoth_164 : decode yMo_findsBoth.2.1 164 = .ok (.iload_n 3, 1) := by decide +kernel
theorem d_Mo_findsBoth_165 : decode yMo_findsBoth.2.1 165 = .ok (.bipush 13, 2) := by decide +kernel
theorem d_Mo_findsBoth_167 : decode yMo_findsBoth.2.1 167 = .ok (.isub, 1) := by decide +kernel
theorem d_Mo_findsBoth_168 : decode yMo_findsBoth.2.1 168 = .ok (.iaload, 1) := by decide +kernel
theorem d_Mo_findsBoth_169 : decode yMo_findsBoth.2.1 169 = .ok (.aload_n 0, 1) := by decide +kernel
theorem d_Mo_findsBoth_170 : decode yMo_findsBoth.2.1 170 = .ok (.getfield 98, 3) := by decide +kernel
theorem d_Mo_findsBoth_173 : decode yMo_findsBoth.2.1 173 = .ok (.iload_n 3, 1) := by decide +kernel
theorem d_Mo_findsBoth_174 : decode yMo_findsBoth.2.1 174 = .ok (.iconst 1, 1) := by decide +kernel
theorem d_Mo_findsBoth_175 : decode yMo_findsBoth.2.1 175 = .ok (.isub, 1) := by decide +kernel
theorem d_Mo_findsBoth_176 : decode yMo_findsBoth.2.1 176 = .ok (.iaload, 1) := by decide +kernel
theorem d_Mo_findsBoth_177 : decode yMo_findsBoth.2.1 177 = .ok (.invokevirtual 364, 3) := by decide +kernel
theorem d_Mo_findsBoth_180 : decode yMo_findsBoth.2.1 180 = .ok (.iconst 1, 1) := by decide +kernel
theorem d_Mo_findsBoth_181 : decode yMo_findsBoth.2.1 181 = .ok (.iadd, 1) := by decide +kernel
theorem d_Mo_findsBoth_182 : decode yMo_findsBoth.2.1 182 = .ok (.invokevirtual 364, 3) := by decide +kernel
theorem d_Mo_findsBoth_185 : decode yMo_findsBoth.2.1 185 = .ok (.iastore, 1) := by decide +kernel
theorem d_Mo_findsBoth_186 : decode yMo_findsBoth.2.1 186 = .ok (.iinc 2 1, 3) := by decide +kernel
theorem d_Mo_findsBoth_189 : decode yMo_findsBoth.2.1 189 = .ok (.goto (-175), 3) := by decide +kernel
theorem d_Mo_findsBoth_192 : decode yMo_findsBoth.2.1 192 = .ok (.iinc 1 1, 3) := by decide +kernel
theorem d_Mo_findsBoth_195 : decode yMo_findsBoth.2.1 195 = .ok (.goto (-193), 3) := by decide +kernel
theorem d_Mo_findsBoth_198 : decode yMo_findsBoth.2.1 198 = .ok (.return_, 1) := by decide +kernel
def J_Mo_findsBoth_186 (k : Int32 → gb_Mem → Option (gb_Mem)) (x1 x2 : Int32) (I : gb_Mem) : Option (gb_Mem) :=
  k (x2 + 1) I
set_option maxRecDepth 4000 in
theorem j_Mo_findsBoth_186 (l : Launch) (d0 : Nat) {post : Option gb_AV → List gb_Ce → gb_Mem → Prop} (k : Int32 → gb_Mem → Option (gb_Mem)) (x1 x2 : Int32) (I : gb_Mem) {ρ : gb_Mem} (h : J_Mo_findsBoth_186 k x1 x2 I = some ρ) (hk : ∀ (z2 : Int32) (Iw : gb_Mem), k z2 Iw = some ρ → gb_Go l yMo_findsBoth (d0 + 1) 0 0 14 [(0, .inr (some 0)), (1, .inl x1), (2, .inl z2)] [] shM Iw post) (hX : ∀ (I2 : gb_Mem), ρ = I2 → gb_Go l yMo_findsBoth (d0 + 1) 0 0 192 [(0, .inr (some 0)), (1, .inl x1)] [] shM I2 post) : gb_Go l yMo_findsBoth (d0 + 1) 0 0 186 [(0, .inr (some 0)), (1, .inl x1), (2, .inl x2)] [] shM I post := by
  unfold J_Mo_findsBoth_186 at h
  refine go_iinc (k := 2) (v := x2 + 1) (lv' := [(2, .inl (x2 + 1)), (0, .inr (some 0)), (1, .inl x1)]) d_Mo_findsBoth_186 rfl rfl (by decide) rfl ?_
  refine go_goto (tgt := 14) d_Mo_findsBoth_189 (by decide) ?_
  exact go_lv [1, 2, 0] rfl (hk _ _ h)
def J_Mo_findsBoth_39 (k : Int32 → gb_Mem → Option (gb_Mem)) (x1 x2 x3 : Int32) (I : gb_Mem) : Option (gb_Mem) :=
  fsto I 28 169 x3 0 fun I1 =>
  fsto I1 29 169 x3 (x1 + x2) fun I2 =>
  J_Mo_findsBoth_186 k x1 x2 I2
set_option maxRecDepth 4000 in
theorem j_Mo_findsBoth_39 (l : Launch) (d0 : Nat) {post : Option gb_AV → List gb_Ce → gb_Mem → Prop} (k : Int32 → gb_Mem → Option (gb_Mem)) (x1 x2 x3 : Int32) (I : gb_Mem) {ρ : gb_Mem} (h : J_Mo_findsBoth_39 k x1 x2 x3 I = some ρ) (hk : ∀ (z2 : Int32) (Iw : gb_Mem), k z2 Iw = some ρ → gb_Go l yMo_findsBoth (d0 + 1) 0 0 14 [(0, .inr (some 0)), (1, .inl x1), (2, .inl z2)] [] shM Iw post) (hX : ∀ (I2 : gb_Mem), ρ = I2 → gb_Go l yMo_findsBoth (d0 + 1) 0 0 192 [(0, .inr (some 0)), (1, .inl x1)] [] shM I2 post) : gb_Go l yMo_findsBoth (d0 + 1) 0 0 39 [(0, .inr (some 0)), (1, .inl x1), (2, .inl x2), (3, .inl x3)] [] shM I post := by
  unfold J_Mo_findsBoth_39 at h
  refine go_aload_n (k := 0) d_Mo_findsBoth_39 rfl rfl ?_
  refine go_getr (ci := 10) (k := 48) (r := 28) d_Mo_findsBoth_40 a_M_0 rfl (by decide) f_Mo_95 rfl ?_
  refine go_iload_n (k := 3) d_Mo_findsBoth_43 rfl rfl ?_
  refine go_iconst (v := 0) d_Mo_findsBoth_44 (by decide) ?_
  obtain ⟨hi, I1, eI1, h⟩ := fsto_e h
  refine go_iast (I' := I1) d_Mo_findsBoth_45 a_M_28 hi eI1 ?_
  refine go_aload_n (k := 0) d_Mo_findsBoth_46 rfl rfl ?_
  refine go_getr (ci := 10) (k := 49) (r := 29) d_Mo_findsBoth_47 a_M_0 rfl (by decide) f_Mo_98 rfl ?_
  refine go_iload_n (k := 3) d_Mo_findsBoth_50 rfl rfl ?_
  refine go_iload_n (k := 1) d_Mo_findsBoth_51 rfl rfl ?_
  refine go_iload_n (k := 2) d_Mo_findsBoth_52 rfl rfl ?_
  refine go_iadd d_Mo_findsBoth_53 ?_
  obtain ⟨hi, I2, eI2, h⟩ := fsto_e h
  refine go_iast (I' := I2) d_Mo_findsBoth_54 a_M_29 hi eI2 ?_
  refine go_goto (tgt := 186) d_Mo_findsBoth_55 (by decide) ?_
  exact go_lv [0, 1, 2] rfl (j_Mo_findsBoth_186 l d0 k x1 x2 I2 h hk hX)
def J_Mo_findsBoth_158 (k : Int32 → gb_Mem → Option (gb_Mem)) (x1 x2 x3 s0 s1 s2 : Int32) (I : gb_Mem) : Option (gb_Mem) :=
  flod I 29 169 (x3 - 13) fun v9 =>
  flod I 29 169 (x3 - 1) fun v10 =>
  fsto I 29 169 s2 (F_Mo_lesser (s1 + s0) ((F_Mo_lesser v9 v10 I) + 1) I) fun I11 =>
  J_Mo_findsBoth_186 k x1 x2 I11
set_option maxRecDepth 4000 in
theorem j_Mo_findsBoth_158 (l : Launch) (d0 : Nat) {post : Option gb_AV → List gb_Ce → gb_Mem → Prop} (k : Int32 → gb_Mem → Option (gb_Mem)) (x1 x2 x3 s0 s1 s2 : Int32) (I : gb_Mem) {ρ : gb_Mem} (h : J_Mo_findsBoth_158 k x1 x2 x3 s0 s1 s2 I = some ρ) (hk : ∀ (z2 : Int32) (Iw : gb_Mem), k z2 Iw = some ρ → gb_Go l yMo_findsBoth (d0 + 1) 0 0 14 [(0, .inr (some 0)), (1, .inl x1), (2, .inl z2)] [] shM Iw post) (hX : ∀ (I2 : gb_Mem), ρ = I2 → gb_Go l yMo_findsBoth (d0 + 1) 0 0 192 [(0, .inr (some 0)), (1, .inl x1)] [] shM I2 post) : gb_Go l yMo_findsBoth (d0 + 1) 0 0 158 [(0, .inr (some 0)), (1, .inl x1), (2, .inl x2), (3, .inl x3)] [.inl s0, .inl s1, .inr (some 0), .inl s2, .inr (some 29)] shM I post := by
  unfold J_Mo_findsBoth_158 at h
  refine go_iadd d_Mo_findsBoth_158 ?_
  refine go_aload_n (k := 0) d_Mo_findsBoth_159 rfl rfl ?_
  refine go_aload_n (k := 0) d_Mo_findsBoth_160 rfl rfl ?_
  refine go_getr (ci := 10) (k := 49) (r := 29) d_Mo_findsBoth_161 a_M_0 rfl (by decide) f_Mo_98 rfl ?_
  refine go_iload_n (k := 3) d_Mo_findsBoth_164 rfl rfl ?_
  refine go_bipush (v := 13) d_Mo_findsBoth_165 (by decide) ?_
  refine go_isub d_Mo_findsBoth_167 ?_
  obtain ⟨hi, v9, ev9, h⟩ := flod_e h
  refine go_iald2 d_Mo_findsBoth_168 a_M_29 hi ev9 ?_
  refine go_aload_n (k := 0) d_Mo_findsBoth_169 rfl rfl ?_
  refine go_getr (ci := 10) (k := 49) (r := 29) d_Mo_findsBoth_170 a_M_0 rfl (by decide) f_Mo_98 rfl ?_
  refine go_iload_n (k := 3) d_Mo_findsBoth_173 rfl rfl ?_
  refine go_iconst (v := 1) d_Mo_findsBoth_174 (by decide) ?_
  refine go_isub d_Mo_findsBoth_175 ?_
  obtain ⟨hi, v10, ev10, h⟩ := flod_e h
  refine go_iald2 d_Mo_findsBoth_176 a_M_29 hi ev10 ?_
  refine go_callV (y := yMo_lesser) (asr := [.inl v9, .inl v10]) (v := some (.inl (F_Mo_lesser v9 v10 I))) (I' := I) (st1 := [.inl (F_Mo_lesser v9 v10 I), .inl (s1 + s0), .inr (some 0), .inl s2, .inr (some 29)]) d_Mo_findsBoth_177 s_yMo_lesser m_Mo_364 a_M_0 rfl rfl rfl (Nat.le_of_ble_eq_true rfl) rfl rfl (c_Mo_lesser l (d0 + 0) v9 v10 I) ?_
  refine go_iconst (v := 1) d_Mo_findsBoth_180 (by decide) ?_
  refine go_iadd d_Mo_findsBoth_181 ?_
  refine go_callV (y := yMo_lesser) (asr := [.inl (s1 + s0), .inl ((F_Mo_lesser v9 v10 I) + 1)]) (v := some (.inl (F_Mo_lesser (s1 + s0) ((F_Mo_lesser v9 v10 I) + 1) I))) (I' := I) (st1 := [.inl (F_Mo_lesser (s1 + s0) ((F_Mo_lesser v9 v10 I) + 1) I), .inl s2, .inr (some 29)]) d_Mo_findsBoth_182 s_yMo_lesser m_Mo_364 a_M_0 rfl rfl rfl (Nat.le_of_ble_eq_true rfl) rfl rfl (c_Mo_lesser l (d0 + 0) (s1 + s0) ((F_Mo_lesser v9 v10 I) + 1) I) ?_
  obtain ⟨hi, I11, eI11, h⟩ := fsto_e h
  refine go_iast (I' := I11) d_Mo_findsBoth_185 a_M_29 hi eI11 ?_
  exact go_lv [0, 1, 2] rfl (j_Mo_findsBoth_186 l d0 k x1 x2 I11 h hk hX)
def J_Mo_findsBoth_132 (k : Int32 → gb_Mem → Option (gb_Mem)) (x1 x2 x3 x4 s0 s1 : Int32) (I : gb_Mem) : Option (gb_Mem) :=
  fsto I 28 169 s1 s0 fun I7 =>
  flod I7 29 169 (x3 - 14) fun v8 =>
  if x4 = 0 then
    J_Mo_findsBoth_158 k x1 x2 x3 1 v8 x3 I7
  else
    J_Mo_findsBoth_158 k x1 x2 x3 0 v8 x3 I7
set_option maxRecDepth 4000 in
theorem j_Mo_findsBoth_132 (l : Launch) (d0 : Nat) {post : Option gb_AV → List gb_Ce → gb_Mem → Prop} (k : Int32 → gb_Mem → Option (gb_Mem)) (x1 x2 x3 x4 s0 s1 : Int32) (I : gb_Mem) {ρ : gb_Mem} (h : J_Mo_findsBoth_132 k x1 x2 x3 x4 s0 s1 I = some ρ) (hk : ∀ (z2 : Int32) (Iw : gb_Mem), k z2 Iw = some ρ → gb_Go l yMo_findsBoth (d0 + 1) 0 0 14 [(0, .inr (some 0)), (1, .inl x1), (2, .inl z2)] [] shM Iw post) (hX : ∀ (I2 : gb_Mem), ρ = I2 → gb_Go l yMo_findsBoth (d0 + 1) 0 0 192 [(0, .inr (some 0)), (1, .inl x1)] [] shM I2 post) : gb_Go l yMo_findsBoth (d0 + 1) 0 0 132 [(0, .inr (some 0)), (1, .inl x1), (2, .inl x2), (3, .inl x3), (4, .inl x4)] [.inl s0, .inl s1, .inr (some 28)] shM I post := by
  unfold J_Mo_findsBoth_132 at h
  obtain ⟨hi, I7, eI7, h⟩ := fsto_e h
  refine go_iast (I' := I7) d_Mo_findsBoth_132 a_M_28 hi eI7 ?_
  refine go_aload_n (k := 0) d_Mo_findsBoth_133 rfl rfl ?_
  refine go_getr (ci := 10) (k := 49) (r := 29) d_Mo_findsBoth_134 a_M_0 rfl (by decide) f_Mo_98 rfl ?_
  refine go_iload_n (k := 3) d_Mo_findsBoth_137 rfl rfl ?_
  refine go_aload_n (k := 0) d_Mo_findsBoth_138 rfl rfl ?_
  refine go_aload_n (k := 0) d_Mo_findsBoth_139 rfl rfl ?_
  refine go_getr (ci := 10) (k := 49) (r := 29) d_Mo_findsBoth_140 a_M_0 rfl (by decide) f_Mo_98 rfl ?_
  refine go_iload_n (k := 3) d_Mo_findsBoth_143 rfl rfl ?_
  refine go_bipush (v := 14) d_Mo_findsBoth_144 (by decide) ?_
  refine go_isub d_Mo_findsBoth_146 ?_
  obtain ⟨hi, v8, ev8, h⟩ := flod_e h
  refine go_iald2 d_Mo_findsBoth_147 a_M_29 hi ev8 ?_
  refine go_iload (k := 4) d_Mo_findsBoth_148 rfl ?_
  refine go_if_eq (tgt := 157) d_Mo_findsBoth_150 (by decide) (fun hc => ?_) (fun hc => ?_)
  · rw [if_pos hc] at h
    refine go_iconst (v := 1) d_Mo_findsBoth_157 (by decide) ?_
    exact go_lv [0, 1, 2, 3] rfl (j_Mo_findsBoth_158 l d0 k x1 x2 x3 1 v8 x3 I7 h hk hX)
  · rw [if_neg hc] at h
    refine go_iconst (v := 0) d_Mo_findsBoth_153 (by decide) ?_
    refine go_goto (tgt := 158) d_Mo_findsBoth_154 (by decide) ?_
    exact go_lv [0, 1, 2, 3] rfl (j_Mo_findsBoth_158 l d0 k x1 x2 x3 0 v8 x3 I7 h hk hX)
def J_Mo_findsBoth_85 (k : Int32 → gb_Mem → Option (gb_Mem)) (x1 x2 x3 s0 : Int32) (I : gb_Mem) : Option (gb_Mem) :=
  if s0 = 0 then
    flod I 28 169 (x3 - 13) fun v5 =>
    flod I 28 169 (x3 - 1) fun v6 =>
    J_Mo_findsBoth_132 k x1 x2 x3 s0 (F_Mo_greater v5 v6 I) x3 I
  else
    flod I 28 169 (x3 - 14) fun v12 =>
    J_Mo_findsBoth_132 k x1 x2 x3 s0 (v12 + 1) x3 I
set_option maxRecDepth 4000 in
theorem j_Mo_findsBoth_85 (l : Launch) (d0 : Nat) {post : Option gb_AV → List gb_Ce → gb_Mem → Prop} (k : Int32 → gb_Mem → Option (gb_Mem)) (x1 x2 x3 s0 : Int32) (I : gb_Mem) {ρ : gb_Mem} (h : J_Mo_findsBoth_85 k x1 x2 x3 s0 I = some ρ) (hk : ∀ (z2 : Int32) (Iw : gb_Mem), k z2 Iw = some ρ → gb_Go l yMo_findsBoth (d0 + 1) 0 0 14 [(0, .inr (some 0)), (1, .inl x1), (2, .inl z2)] [] shM Iw post) (hX : ∀ (I2 : gb_Mem), ρ = I2 → gb_Go l yMo_findsBoth (d0 + 1) 0 0 192 [(0, .inr (some 0)), (1, .inl x1)] [] shM I2 post) : gb_Go l yMo_findsBoth (d0 + 1) 0 0 85 [(0, .inr (some 0)), (1, .inl x1), (2, .inl x2), (3, .inl x3)] [.inl s0] shM I post := by
  unfold J_Mo_findsBoth_85 at h
  refine go_istore (lv' := [(4, .inl s0), (0, .inr (some 0)), (1, .inl x1), (2, .inl x2), (3, .inl x3)]) d_Mo_findsBoth_85 (by decide) rfl ?_
  refine go_aload_n (k := 1) d_Mo_findsBoth_87 rfl rfl ?_
  refine go_getr (ci := 10) (k := 48) (r := 28) d_Mo_findsBoth_88 a_M_0 rfl (by decide) f_Mo_95 rfl ?_
  refine go_iload_n (k := 4) d_Mo_findsBoth_91 rfl rfl ?_
  refine go_iload (k := 0) d_Mo_findsBoth_92 rfl ?_
  refine go_if_eq (tgt := 111) d_Mo_findsBoth_94 (by decide) (fun hc => ?_) (fun hc => ?_)
  · rw [if_pos hc] at h
    refine go_aload_n (k := 1) d_Mo_findsBoth_111 rfl rfl ?_
    refine go_aload_n (k := 1) d_Mo_findsBoth_112 rfl rfl ?_
    refine go_getr (ci := 10) (k := 48) (r := 28) d_Mo_findsBoth_113 a_M_0 rfl (by decide) f_Mo_95 rfl ?_
    refine go_iload_n (k := 4) d_Mo_findsBoth_116 rfl rfl ?_
    refine go_bipush (v := 13) d_Mo_findsBoth_117 (by decide) ?_
    refine go_isub d_Mo_findsBoth_119 ?_
    obtain ⟨hi, v5, ev5, h⟩ := flod_e h
    refine go_iald2 d_Mo_findsBoth_120 a_M_28 hi ev5 ?_
    refine go_aload_n (k := 1) d_Mo_findsBoth_121 rfl rfl ?_
    refine go_getr (ci := 10) (k := 48) (r := 28) d_Mo_findsBoth_122 a_M_0 rfl (by decide) f_Mo_95 rfl ?_
    refine go_iload_n (k := 4) d_Mo_findsBoth_125 rfl rfl ?_
    refine go_iconst (v := 1) d_Mo_findsBoth_126 (by decide) ?_
    refine go_isub d_Mo_findsBoth_127 ?_
    obtain ⟨hi, v6, ev6, h⟩ := flod_e h
    refine go_iald2 d_Mo_findsBoth_128 a_M_28 hi ev6 ?_
    refine go_callV (y := yMo_greater) (asr := [.inl v5, .inl v6]) (v := some (.inl (F_Mo_greater v5 v6 I))) (I' := I) (st1 := [.inl (F_Mo_greater v5 v6 I), .inl x3, .inr (some 28)]) d_Mo_findsBoth_129 s_yMo_greater m_Mo_351 a_M_0 rfl rfl rfl (Nat.le_of_ble_eq_true rfl) rfl rfl (c_Mo_greater l (d0 + 0) v5 v6 I) ?_
    exact go_lv [1, 2, 3, 4, 0] rfl (j_Mo_findsBoth_132 l d0 k x1 x2 x3 s0 (F_Mo_greater v5 v6 I) x3 I h hk hX)
  · rw [if_neg hc] at h
    refine go_aload_n (k := 1) d_Mo_findsBoth_97 rfl rfl ?_
    refine go_getr (ci := 10) (k := 48) (r := 28) d_Mo_findsBoth_98 a_M_0 rfl (by decide) f_Mo_95 rfl ?_
    refine go_iload_n (k := 4) d_Mo_findsBoth_101 rfl rfl ?_
    refine go_bipush (v := 14) d_Mo_findsBoth_102 (by decide) ?_
    refine go_isub d_Mo_findsBoth_104 ?_
    obtain ⟨hi, v12, ev12, h⟩ := flod_e h
    refine go_iald2 d_Mo_findsBoth_105 a_M_28 hi ev12 ?_
    refine go_iconst (v := 1) d_Mo_findsBoth_106 (by decide) ?_
    refine go_iadd d_Mo_findsBoth_107 ?_
    refine go_goto (tgt := 132) d_Mo_findsBoth_108 (by decide) ?_
    exact go_lv [1, 2, 3, 4, 0] rfl (j_Mo_findsBoth_132 l d0 k x1 x2 x3 s0 (v12 + 1) x3 I h hk hX)
def L_Mo_findsBoth_14 (x1 : Int32) : Nat → Int32 → gb_Mem → Option (gb_Mem)
  | 0, _, _ => none
  | n + 1, x2, I =>
    if (I 26 1) < x2 then
      some I
    else
      if x1 = 0 then
        J_Mo_findsBoth_39 (L_Mo_findsBoth_14 x1 n) x1 x2 ((13 * x1) + x2) I
      else
        if x2 = 0 then
          J_Mo_findsBoth_39 (L_Mo_findsBoth_14 x1 n) x1 x2 ((13 * x1) + x2) I
        else
          flod I 27 24 (x1 - 1) fun v3 =>
          flod I 27 24 ((12 + x2) - 1) fun v4 =>
          if v3 = v4 then
            J_Mo_findsBoth_85 (L_Mo_findsBoth_14 x1 n) x1 x2 ((13 * x1) + x2) 1 I
          else
            J_Mo_findsBoth_85 (L_Mo_findsBoth_14 x1 n) x1 x2 ((13 * x1) + x2) 0 I
set_option maxRecDepth 4000 in
theorem l_Mo_findsBoth_14 (l : Launch) (d0 : Nat) (x1 : Int32) {post : Option gb_AV → List gb_Ce → gb_Mem → Prop} : ∀ (n : Nat) (x2 : Int32) (I : gb_Mem) {ρ : gb_Mem} (h : L_Mo_findsBoth_14 x1 n x2 I = some ρ) (hX : ∀ (I2 : gb_Mem), ρ = I2 → gb_Go l yMo_findsBoth (d0 + 1) 0 0 192 [(0, .inr (some 0)), (1, .inl x1)] [] shM I2 post) , gb_Go l yMo_findsBoth (d0 + 1) 0 0 14 [(0, .inr (some 0)), (1, .inl x1), (2, .inl x2)] [] shM I post := by
  intro n
  induction n with
  | zero => intro x2 I ρ h hX; cases h
  | succ n ih =>
    intro x2 I ρ h hX
    rw [L_Mo_findsBoth_14] at h
    refine go_iload_n (k := 2) d_Mo_findsBoth_14 rfl rfl ?_
    refine go_aload_n (k := 0) d_Mo_findsBoth_15 rfl rfl ?_
    refine go_getr (ci := 10) (k := 46) (r := 26) d_Mo_findsBoth_16 a_M_0 rfl (by decide) f_Mo_89 rfl ?_
    refine go_iconst (v := 1) d_Mo_findsBoth_19 (by decide) ?_
    refine go_iald2 (v := I 26 1) d_Mo_findsBoth_20 a_M_26 (inb_iff.mp (by decide)) rfl ?_
    refine go_cmp_gt (tgt := 192) d_Mo_findsBoth_21 (by decide) (fun hc => ?_) (fun hc => ?_)
    · rw [if_pos hc] at h
      exact go_lv [0, 1] rfl (hX _ (Option.some.inj h).symm)
    · rw [if_neg hc] at h
      refine go_bipush (v := 13) d_Mo_findsBoth_24 (by decide) ?_
      refine go_iload_n (k := 1) d_Mo_findsBoth_26 rfl rfl ?_
      refine go_imul d_Mo_findsBoth_27 ?_
      refine go_iload_n (k := 2) d_Mo_findsBoth_28 rfl rfl ?_
      refine go_iadd d_Mo_findsBoth_29 ?_
      refine go_istore_n (lv' := [(3, .inl ((13 * x1) + x2)), (0, .inr (some 0)), (1, .inl x1), (2, .inl x2)]) d_Mo_findsBoth_30 rfl (by decide) rfl ?_
      refine go_iload_n (k := 2) d_Mo_findsBoth_31 rfl rfl ?_
      refine go_if_eq (tgt := 39) d_Mo_findsBoth_32 (by decide) (fun hc => ?_) (fun hc => ?_)
      · rw [if_pos hc] at h
        exact go_lv [1, 2, 3, 0] rfl (j_Mo_findsBoth_39 l d0 (L_Mo_findsBoth_14 x1 n) x1 x2 ((13 * x1) + x2) I h (fun z2 Iw hh => ih z2 Iw hh hX) hX)
      · rw [if_neg hc] at h
        refine go_iload_n (k := 3) d_Mo_findsBoth_35 rfl rfl ?_
        refine go_if_ne (tgt := 58) d_Mo_findsBoth_36 (by decide) (fun hc => ?_) (fun hc => ?_)
        · rw [if_neg hc] at h
          refine go_aload_n (k := 1) d_Mo_findsBoth_58 rfl rfl ?_
          refine go_getr (ci := 10) (k := 47) (r := 27) d_Mo_findsBoth_59 a_M_0 rfl (by decide) f_Mo_92 rfl ?_
          refine go_iload_n (k := 2) d_Mo_findsBoth_62 rfl rfl ?_
          refine go_iconst (v := 1) d_Mo_findsBoth_63 (by decide) ?_
          refine go_isub d_Mo_findsBoth_64 ?_
          obtain ⟨hi, v3, ev3, h⟩ := flod_e h
          refine go_iald2 d_Mo_findsBoth_65 a_M_27 hi ev3 ?_
          refine go_aload_n (k := 1) d_Mo_findsBoth_66 rfl rfl ?_
          refine go_getr (ci := 10) (k := 47) (r := 27) d_Mo_findsBoth_67 a_M_0 rfl (by decide) f_Mo_92 rfl ?_
          refine go_bipush (v := 12) d_Mo_findsBoth_70 (by decide) ?_
          refine go_iload_n (k := 3) d_Mo_findsBoth_72 rfl rfl ?_
          refine go_iadd d_Mo_findsBoth_73 ?_
          refine go_iconst (v := 1) d_Mo_findsBoth_74 (by decide) ?_
          refine go_isub d_Mo_findsBoth_75 ?_
          obtain ⟨hi, v4, ev4, h⟩ := flod_e h
          refine go_iald2 d_Mo_findsBoth_76 a_M_27 hi ev4 ?_
          refine go_cmp_ne (tgt := 84) d_Mo_findsBoth_77 (by decide) (fun hc => ?_) (fun hc => ?_)
          · rw [if_neg hc] at h
            refine go_iconst (v := 0) d_Mo_findsBoth_84 (by decide) ?_
            exact go_lv [1, 2, 3, 0] rfl (j_Mo_findsBoth_85 l d0 (L_Mo_findsBoth_14 x1 n) x1 x2 ((13 * x1) + x2) 0 I h (fun z2 Iw hh => ih z2 Iw hh hX) hX)
          · rw [if_pos hc] at h
            refine go_iconst (v := 1) d_Mo_findsBoth_80 (by decide) ?_
            refine go_goto (tgt := 85) d_Mo_findsBoth_81 (by decide) ?_
            exact go_lv [1, 2, 3, 0] rfl (j_Mo_findsBoth_85 l d0 (L_Mo_findsBoth_14 x1 n) x1 x2 ((13 * x1) + x2) 1 I h (fun z2 Iw hh => ih z2 Iw hh hX) hX)
        · rw [if_pos hc] at h
          exact go_lv [1, 2, 3, 0] rfl (j_Mo_findsBoth_39 l d0 (L_Mo_findsBoth_14 x1 n) x1 x2 ((13 * x1) + x2) I h (fun z2 Iw hh => ih z2 Iw hh hX) hX)
def L_Mo_findsBoth_2 : Nat → Int32 → gb_Mem → Option (gb_Mem)
  | 0, _, _ => none
  | n + 1, x1, I =>
    if (I 26 0) < x1 then
      some I
    else
      fbd (L_Mo_findsBoth_14 x1 5000 0 I) fun I13 =>
      L_Mo_findsBoth_2 n (x1 + 1) I13
set_option maxRecDepth 4000 in
theorem l_Mo_findsBoth_2 (l : Launch) (d0 : Nat) {post : Option gb_AV → List gb_Ce → gb_Mem → Prop} : ∀ (n : Nat) (x1 : Int32) (I : gb_Mem) {ρ : gb_Mem} (h : L_Mo_findsBoth_2 n x1 I = some ρ) (hX : ∀ (I2 : gb_Mem), ρ = I2 → gb_Go l yMo_findsBoth (d0 + 1) 0 0 198 [] [] shM I2 post) , gb_Go l yMo_findsBoth (d0 + 1) 0 0 2 [(0, .inr (some 0)), (1, .inl x1)] [] shM I post := by
  intro n
  induction n with
  | zero => intro x1 I ρ h hX; cases h
  | succ n ih =>
    intro x1 I ρ h hX
    rw [L_Mo_findsBoth_2] at h
    refine go_iload_n (k := 1) d_Mo_findsBoth_2 rfl rfl ?_
    refine go_aload_n (k := 0) d_Mo_findsBoth_3 rfl rfl ?_
    refine go_getr (ci := 10) (k := 46) (r := 26) d_Mo_findsBoth_4 a_M_0 rfl (by decide) f_Mo_89 rfl ?_
    refine go_iconst (v := 0) d_Mo_findsBoth_7 (by decide) ?_
    refine go_iald2 (v := I 26 0) d_Mo_findsBoth_8 a_M_26 (inb_iff.mp (by decide)) rfl ?_
    refine go_cmp_gt (tgt := 198) d_Mo_findsBoth_9 (by decide) (fun hc => ?_) (fun hc => ?_)
    · rw [if_pos hc] at h
      exact go_lv [] rfl (hX _ (Option.some.inj h).symm)
    · rw [if_neg hc] at h
      refine go_iconst (v := 0) d_Mo_findsBoth_12 (by decide) ?_
      refine go_istore_n (lv' := [(2, .inl 0), (0, .inr (some 0)), (1, .inl x1)]) d_Mo_findsBoth_13 rfl (by decide) rfl ?_
      refine go_lv [1, 2, 0] (lv' := [(0, .inr (some 0)), (1, .inl x1), (2, .inl 0)]) rfl ?_
      obtain ⟨I13, w1, h⟩ := fbd_e h
      refine l_Mo_findsBoth_14 l d0 x1 5000 0 I w1 (fun I13_ e => ?_)
      cases e
      refine go_iinc (k := 1) (v := x1 + 1) (lv' := [(1, .inl (x1 + 1)), (0, .inr (some 0))]) d_Mo_findsBoth_192 rfl rfl (by decide) rfl ?_
      refine go_goto (tgt := 2) d_Mo_findsBoth_195 (by decide) ?_
      exact go_lv [1, 0] rfl (ih (x1 + 1) I13 h hX)
def F_Mo_findsBoth (I : gb_Mem) : Option (gb_Mem) :=
  fbd (L_Mo_findsBoth_2 5000 0 I) fun I14 =>
  some I14
set_option maxRecDepth 4000 in
theorem c_Mo_findsBoth (l : Launch) (d0 : Nat) (I : gb_Mem) {Iz : gb_Mem} (h : F_Mo_findsBoth I = some Iz) : gb_Cs l yMo_findsBoth (d0 + 1) [.inr (some 0)] shM I none Iz := by
  refine gb_Ct.of (lv := [(0, .inr (some 0))]) rfl (Nat.le_of_ble_eq_true rfl) rfl ?_
  unfold F_Mo_findsBoth at h
  show gb_Go l yMo_findsBoth (d0 + 1) 0 0 0 [(0, .inr (some 0))] [] shM I (gb_po shM none Iz)
  refine go_iconst (v := 0) d_Mo_findsBoth_0 (by decide) ?_
  refine go_istore_n (lv' := [(1, .inl 0), (0, .inr (some 0))]) d_Mo_findsBoth_1 rfl (by decide) rfl ?_
  refine go_lv [1, 0] (lv' := [(0, .inr (some 0)), (1, .inl 0)]) rfl ?_
  obtain ⟨I14, w1, h⟩ := fbd_e h
  refine l_Mo_findsBoth_2 l d0  5000 0 I w1 (fun I14_ e => ?_)
  cases e
  cases h
  exact go_return d_Mo_findsBoth_198 rfl gb_po_i
theorem d_Mo_findsHands_0 : decode yMo_findsHands.2.1 0 = .ok (.iconst 0, 1) := by decide +kernel
theorem d_Mo_findsHands_1 : decode yMo_findsHands.2.1 1 = .ok (.istore_n 2, 1) := by decide +kernel
theorem d_Mo_findsHands_2 : decode yMo_findsHands.2.1 2 = .ok (.iload_n 2, 1) := by decide +kernel
theorem d_Mo_findsHands_3 : decode yMo_findsHands.2.1 3 = .ok (.bipush 12, 2) := by decide +kernel
theorem d_Mo_findsHands_5 : decode yMo_findsHands.2.1 5 = .ok (.if_icmp .ge 34, 3) := by decide +kernel
theorem d_Mo_findsHands_8 : decode yMo_findsHands.2.1 8 = .ok (.aload_n 0, 1) := by decide +kernel
theorem d_Mo_findsHands_9 : decode yMo_findsHands.2.1 9 = .ok (.getfield 83, 3) := by decide +kernel
theorem d_Mo_findsHands_12 : decode yMo_findsHands.2.1 12 = .ok (.iload_n 2, 1) := by decide +kernel
theorem d_Mo_findsHands_13 : decode yMo_findsHands.2.1 13 = .ok (.iload_n 2, 1) := by decide +kernel
theorem d_Mo_findsHands_14 : decode yMo_findsHands.2.1 14 = .ok (.iload_n 1, 1) := by decide +kernel
theorem d_Mo_findsHands_15 : decode yMo_findsHands.2.1 15 = .ok (.if_icmp .ne 7, 3) := by decide +kernel
theorem d_Mo_findsHands_18 : decode yMo_findsHands.2.1 18 = .ok (.iconst 0, 1) := by decide +kernel
theorem d_Mo_findsHands_19 : decode yMo_findsHands.2.1 19 = .ok (.goto 6, 3) := by decide +kernel
theorem d_Mo_findsHands_22 : decode yMo_findsHands.2.1 22 = .ok (.ldc_w 425, 3) := by decide +kernel
theorem d_Mo_findsHands_25 : decode yMo_findsHands.2.1 25 = .ok (.iastore, 1) := by decide +kernel
theorem d_Mo_findsHands_26 : decode yMo_findsHands.2.1 26 = .ok (.aload_n 0, 1) := by decide +kernel
theorem d_Mo_findsHands_27 : decode yMo_findsHands.2.1 27 = .ok (.getfield 86, 3) := by decide +kernel
theorem d_Mo_findsHands_30 : decode yMo_findsHands.2.1 30 = .ok (.iload_n 2, 1) := by decide +kernel
theorem d_Mo_findsHands_31 : decode yMo_findsHands.2.1 31 = .ok (.iconst 0, 1) := by decide +kernel
theorem d_Mo_findsHands_32 : decode yMo_findsHands.2.1 32 = .ok (.iastore, 1) := by decide +kernel
theorem d_Mo_findsHands_33 : decode yMo_findsHands.2.1 33 = .ok (.iinc 2 1, 3) := by decide +kernel
theorem d_Mo_findsHands_36 : decode yMo_findsHands.2.1 36 = .ok (.goto (-34), 3) := by decide +kernel
theorem d_Mo_findsHands_39 : decode yMo_findsHands.2.1 39 = .ok (.iconst 0, 1) := by decide +kernel
theorem d_Mo_findsHands_40 : decode yMo_findsHands.2.1 40 = .ok (.istore_n 2, 1) := by decide +kernel
theorem d_Mo_findsHands_41 : decode yMo_findsHands.2.1 41 = .ok (.iload_n 2, 1) := by decide +kernel
theorem d_Mo_findsHands_42 : decode yMo_findsHands.2.1 42 = .ok (.bipush 12, 2) := by decide +kernel
theorem d_Mo_findsHands_44 : decode yMo_findsHands.2.1 44 = .ok (.if_icmp .ge 121, 3) := by decide +kernel
theorem d_Mo_findsHands_47 : decode yMo_findsHands.2.1 47 = .ok (.iconst 0, 1) := by decide +kernel
theorem d_Mo_findsHands_48 : decode yMo_findsHands.2.1 48 = .ok (.istore_n 3, 1) := by decide +kernel
theorem d_Mo_findsHands_49 : decode yMo_findsHands.2.1 49 = .ok (.iload_n 3, 1) := by decide +kernel
theorem d_Mo_findsHands_50 : decode yMo_findsHands.2.1 50 = .ok (.bipush 12, 2) := by decide +kernel
theorem d_Mo_findsHands_52 : decode yMo_findsHands.2.1 52 = .ok (.if_icmp .ge 107, 3) := by decide +kernel
theorem d_Mo_findsHands_55 : decode yMo_findsHands.2.1 55 = .ok (.aload_n 0, 1) := by decide +kernel
theorem d_Mo_findsHands_56 : decode yMo_findsHands.2.1 56 = .ok (.getfield 83, 3) := by decide +kernel
theorem d_Mo_findsHands_59 : decode yMo_findsHands.2.1 59 = .ok (.iload_n 3, 1) := by decide +kernel
theorem d_Mo_findsHands_60 : decode yMo_findsHands.2.1 60 = .ok (.iaload, 1) := by decide +kernel
theorem d_Mo_findsHands_61 : decode yMo_findsHands.2.1 61 = .ok (.iload_n 2, 1) := by decide +kernel
theorem d_Mo_findsHands_62 : decode yMo_findsHands.2.1 62 = .ok (.if_icmp .eq 6, 3) := by decide +kernel
theorem d_Mo_findsHands_65 : decode yMo_findsHands.2.1 65 = .ok (.goto 88, 3) := by decide +kernel
theorem d_Mo_findsHands_68 : decode yMo_findsHands.2.1 68 = .ok (.iconst 0, 1) := by decide +kernel
theorem d_Mo_findsHands_69 : decode yMo_findsHands.2.1 69 = .ok (.istore 4, 2) := by decide +kernel
theorem d_Mo_findsHands_71 : decode yMo_findsHands.2.1 71 = .ok (.iload 4, 2) := by decide +kernel
theorem d_Mo_findsHands_73 : decode yMo_findsHands.2.1 73 = .ok (.bipush 12, 2) := by decide +kernel
theorem d_Mo_findsHands_75 : decode yMo_findsHands.2.1 75 = .ok (.if_icmp .ge 78, 3) := by decide +kernel
theorem d_Mo_findsHands_78 : decode yMo_findsHands.2.1 78 = .ok (.aload_n 0, 1) := by decide +kernel
theorem d_Mo_findsHands_79 : decode yMo_findsHands.2.1 79 = .ok (.aload_n 0, 1) := by decide +kernel
theorem d_Mo_findsHands_80 : decode yMo_findsHands.2.1 80 = .ok (.iload_n 3, 1) := by decide +kernel
theorem d_Mo_findsHands_81 : decode yMo_findsHands.2.1 81 = .ok (.invokevirtual 388, 3) := by decide +kernel
theorem d_Mo_findsHands_84 : decode yMo_findsHands.2.1 84 = .ok (.iload 4, 2) := by decide +kernel
theorem d_Mo_findsHands_86 : decode yMo_findsHands.2.1 86 = .ok (.invokevirtual 391, 3) := by decide +kernel
theorem d_Mo_findsHands_89 : decode yMo_findsHands.2.1 89 = .ok (.ifCond .eq 58, 3) := by decide +kernel
theorem d_Mo_findsHands_92 : decode yMo_findsHands.2.1 92 = .ok (.aload_n 0, 1) := by decide +kernel
theorem d_Mo_findsHands_93 : decode yMo_findsHands.2.1 93 = .ok (.getfield 83, 3) := by decide +kernel
theorem d_Mo_findsHands_96 : decode yMo_findsHands.2.1 96 = .ok (.iload 4, 2) := by decide +kernel
theorem d_Mo_findsHands_98 : decode yMo_findsHands.2.1 98 = .ok (.iaload, 1) := by decide +kernel
theorem d_Mo_findsHands_99 : decode yMo_findsHands.2.1 99 = .ok (.iload_n 2, 1) := by decide +kernel
theorem d_Mo_findsHands_100 : decode yMo_findsHands.2.1 100 = .ok (.if_icmp .gt 6, 3) := by decide +kernel
theorem d_Mo_findsHands_103 : decode yMo_findsHands.2.1 103 = .ok (.goto 44, 3) := by decide +kernel
theorem d_Mo_findsHands_106 : decode yMo_findsHands.2.1 106 = .ok (.aload_n 0, 1) := by decide +kernel
theorem d_Mo_findsHands_107 : decode yMo_findsHands.2.1 107 = .ok (.getfield 83, 3) := by decide +kernel
theorem d_Mo_findsHands_110 : decode yMo_findsHands.2.1 110 = .ok (.iload 4, 2) := by decide +kernel
theorem d_Mo_findsHands_112 : decode yMo_findsHands.2.1 112 = .ok (.iload_n 2, 1) := by decide +kernel
theorem d_Mo_findsHands_113 : decode yMo_findsHands.2.1 113 = .ok (.iconst 1, 1) := by decide +kernel
theorem d_Mo_findsHands_114 : decode yMo_findsHands.2.1 114 = .ok (.iadd, 1) := by decide +kernel
theorem d_Mo_findsHands_115 : decode yMo_findsHands.2.1 115 = .ok (.iastore, 1) := by decide +kernel
theorem d_Mo_findsHands_116 : decode yMo_findsHands.2.1 116 = .ok (.aload_n 0, 1) := by decide +kernel
theorem d_Mo_findsHands_117 : decode yMo_findsHands.2.1 117 = .ok (.getfield 86, 3) := by decide +kernel
theorem d_Mo_findsHands_120 : decode yMo_findsHands.2.1 120 = .ok (.iload 4, 2) := by decide +kernel
theorem d_Mo_findsHands_122 : decode yMo_findsHands.2.1 122 = .ok (.aload_n 0, 1) := by decide +kernel
theorem d_Mo_findsHands_123 : decode yMo_findsHands.2.1 123 = .ok (.aload_n 0, 1) := by decide +kernel
theorem d_Mo_findsHands_124 : decode yMo_findsHands.2.1 124 = .ok (.getfield 86, 3) := by decide +kernel
theorem d_Mo_findsHands_127 : decode yMo_findsHands.2.1 127 = .ok (.iload 4, 2) := by decide +kernel
theorem d_Mo_findsHands_129 : decode yMo_findsHands.2.1 129 = .ok (.iaload, 1) := by decide +kernel
theorem d_Mo_findsHands_130 : decode yMo_findsHands.2.1 130 = .ok (.aload_n 0, 1) := by decide +kernel
theorem d_Mo_findsHands_131 : decode yMo_findsHands.2.1 131 = .ok (.getfield 86, 3) := by decide +kernel
theorem d_Mo_findsHands_134 : decode yMo_findsHands.2.1 134 = .ok (.iload_n 3, 1) := by decide +kernel
theorem d_Mo_findsHands_135 : decode yMo_findsHands.2.1 135 = .ok (.iaload, 1) := by decide +kernel
theorem d_Mo_findsHands_136 : decode yMo_findsHands.2.1 136 = .ok (.aload_n 0, 1) := by decide +kernel
theorem d_Mo_findsHands_137 : decode yMo_findsHands.2.1 137 = .ok (.iload 4, 2) := by decide +kernel
theorem d_Mo_findsHands_139 : decode yMo_findsHands.2.1 139 = .ok (.invokevirtual 330, 3) := by decide +kernel
theorem d_Mo_findsHands_142 : decode yMo_findsHands.2.1 142 = .ok (.iadd, 1) := by decide +kernel
theorem d_Mo_findsHands_143 : decode yMo_findsHands.2.1 143 = .ok (.invokevirtual 351, 3) := by decide +kernel
theorem d_Mo_findsHands_146 : decode yMo_findsHands.2.1 146 = .ok (.iastore, 1) := by decide +kernel
theorem d_Mo_findsHands_147 : decode yMo_findsHands.2.1 147 = .ok (.iinc 4 1, 3) := by decide +kernel
theorem d_Mo_findsHands_150 : decode yMo_findsHands.2.1 150 = .ok (.goto (-79), 3) := by decide +kernel
theorem d_Mo_findsHands_153 : decode yMo_findsHands.2.1 153 = .ok (.iinc 3 1, 3) := by decide +kernel
theorem d_Mo_findsHands_156 : decode yMo_findsHands.2.1 156 = .ok (.goto (-107), 3) := by decide +kernel
theorem d_Mo_findsHands_159 : decode yMo_findsHands.2.1 159 = .ok (.iinc 2 1, 3) := by decide +kernel
theorem d_Mo_findsHands_162 : decode yMo_findsHands.2.1 162 = .ok (.goto (-121), 3) := by decide +kernel
theorem d_Mo_findsHands_165 : decode yMo_findsHands.2.1 165 = .ok (.return_, 1) := by decide +kernel
def J_Mo_findsHands_25 (k : Int32 → gb_Mem → Option (gb_Mem)) (x1 x2 s0 s1 : Int32) (I : gb_Mem) : Option (gb_Mem) :=
  fsto I 24 12 s1 s0 fun I1 =>
  fsto I1 25 12 x2 0 fun I2 =>
  k (x2 + 1) I2
set_option maxRecDepth 4000 in
theorem j_Mo_findsHands_25 (l : Launch) (d0 : Nat) {post : Option gb_AV → List gb_Ce → gb_Mem → Prop} (k : Int32 → gb_Mem → Option (gb_Mem)) (x1 x2 s0 s1 : Int32) (I : gb_Mem) {ρ : gb_Mem} (h : J_Mo_findsHands_25 k x1 x2 s0 s1 I = some ρ) (hk : ∀ (z2 : Int32) (Iw : gb_Mem), k z2 Iw = some ρ → gb_Go l yMo_findsHands (d0 + 1) 0 0 2 [(0, .inr (some 0)), (1, .inl x1), (2, .inl z2)] [] shM Iw post) (hX : ∀ (I2 : gb_Mem), ρ = I2 → gb_Go l yMo_findsHands (d0 + 1) 0 0 39 [(0, .inr (some 0))] [] shM I2 post) : gb_Go l yMo_findsHands (d0 + 1) 0 0 25 [(0, .inr (some 0)), (1, .inl x1), (2, .inl x2)] [.inl s0, .inl s1, .inr (some 24)] shM I post := by
  unfold J_Mo_findsHands_25 at h
  obtain ⟨hi, I1, eI1, h⟩ := fsto_e h
  refine go_iast (I' := I1) d_Mo_findsHands_25 a_M_24 hi eI1 ?_
  refine go_aload_n (k := 0) d_Mo_findsHands_26 rfl rfl ?_
  refine go_getr (ci := 10) (k := 45) (r := 25) d_Mo_findsHands_27 a_M_0 rfl (by decide) f_Mo_86 rfl ?_
  refine go_iload_n (k := 2) d_Mo_findsHands_30 rfl rfl ?_
  refine go_iconst (v := 0) d_Mo_findsHands_31 (by decide) ?_
  obtain ⟨hi, I2, eI2, h⟩ := fsto_e h
  refine go_iast (I' := I2) d_Mo_findsHands_32 a_M_25 hi eI2 ?_
  refine go_iinc (k := 2) (v := x2 + 1) (lv' := [(2, .inl (x2 + 1)), (0, .inr (some 0)), (1, .inl x1)]) d_Mo_findsHands_33 rfl rfl (by decide) rfl ?_
  refine go_goto (tgt := 2) d_Mo_findsHands_36 (by decide) ?_
  exact go_lv [1, 2, 0] rfl (hk _ _ h)
def L_Mo_findsHands_2 (x1 : Int32) : Nat → Int32 → gb_Mem → Option (gb_Mem)
  | 0, _, _ => none
  | n + 1, x2, I =>
    if 12 ≤ x2 then
      some I
    else
      if x2 = x1 then
        J_Mo_findsHands_25 (L_Mo_findsHands_2 x1 n) x1 x2 0 x2 I
      else
        J_Mo_findsHands_25 (L_Mo_findsHands_2 x1 n) x1 x2 100000000 x2 I
set_option maxRecDepth 4000 in
theorem l_Mo_findsHands_2 (l : Launch) (d0 : Nat) (x1 : Int32) {post : Option gb_AV → List gb_Ce → gb_Mem → Prop} : ∀ (n : Nat) (x2 : Int32) (I : gb_Mem) {ρ : gb_Mem} (h : L_Mo_findsHands_2 x1 n x2 I = some ρ) (hX : ∀ (I2 : gb_Mem), ρ = I2 → gb_Go l yMo_findsHands (d0 + 1) 0 0 39 [(0, .inr (some 0))] [] shM I2 post) , gb_Go l yMo_findsHands (d0 + 1) 0 0 2 [(0, .inr (some 0)), (1, .inl x1), (2, .inl x2)] [] shM I post := by
  intro n
  induction n with
  | zero => intro x2 I ρ h hX; cases h
  | succ n ih =>
    intro x2 I ρ h hX
    rw [L_Mo_findsHands_2] at h
    refine go_iload_n (k := 2) d_Mo_findsHands_2 rfl rfl ?_
    refine go_bipush (v := 12) d_Mo_findsHands_3 (by decide) ?_
    refine go_cmp_ge (tgt := 39) d_Mo_findsHands_5 (by decide) (fun hc => ?_) (fun hc => ?_)
    · rw [if_pos hc] at h
      exact go_lv [0] rfl (hX _ (Option.some.inj h).symm)
    · rw [if_neg hc] at h
      refine go_aload_n (k := 0) d_Mo_findsHands_8 rfl rfl ?_
      refine go_getr (ci := 10) (k := 44) (r := 24) d_Mo_findsHands_9 a_M_0 rfl (by decide) f_Mo_83 rfl ?_
      refine go_iload_n (k := 2) d_Mo_findsHands_12 rfl rfl ?_
      refine go_iload_n (k := 2) d_Mo_findsHands_13 rfl rfl ?_
      refine go_iload_n (k := 1) d_Mo_findsHands_14 rfl rfl ?_
      refine go_cmp_ne (tgt := 22) d_Mo_findsHands_15 (by decide) (fun hc => ?_) (fun hc => ?_)
      · rw [if_neg hc] at h
        refine go_ldcw (v := 100000000) d_Mo_findsHands_22 k_Mo_425 ?_
        exact go_lv [0, 1, 2] rfl (j_Mo_findsHands_25 l d0 (L_Mo_findsHands_2 x1 n) x1 x2 100000000 x2 I h (fun z2 Iw hh => ih z2 Iw hh hX) hX)
      · rw [if_pos hc] at h
        refine go_iconst (v := 0) d_Mo_findsHands_18 (by decide) ?_
        refine go_goto (tgt := 25) d_Mo_findsHands_19 (by decide) ?_
        exact go_lv [0, 1, 2] rfl (j_Mo_findsHands_25 l d0 (L_Mo_findsHands_2 x1 n) x1 x2 0 x2 I h (fun z2 Iw hh => ih z2 Iw hh hX) hX)
def J_Mo_findsHands_147 (k : Int32 → gb_Mem → Option (gb_Mem)) (x2 x3 x4 : Int32) (I : gb_Mem) : Option (gb_Mem) :=
  k (x4 + 1) I
set_option maxRecDepth 4000 in
theorem j_Mo_findsHands_147 (l : Launch) (d0 : Nat) {post : Option gb_AV → List gb_Ce → gb_Mem → Prop} (k : Int32 → gb_Mem → Option (gb_Mem)) (x2 x3 x4 : Int32) (I : gb_Mem) {ρ : gb_Mem} (h : J_Mo_findsHands_147 k x2 x3 x4 I = some ρ) (hk : ∀ (z4 : Int32) (Iw : gb_Mem), k z4 Iw = some ρ → gb_Go l yMo_findsHands (d0 + 1) 0 0 71 [(0, .inr (some 0)), (2, .inl x2), (3, .inl x3), (4, .inl z4)] [] shM Iw post) (hX : ∀ (I2 : gb_Mem), ρ = I2 → gb_Go l yMo_findsHands (d0 + 1) 0 0 153 [(0, .inr (some 0)), (2, .inl x2), (3, .inl x3)] [] shM I2 post) : gb_Go l yMo_findsHands (d0 + 1) 0 0 147 [(0, .inr (some 0)), (2, .inl x2), (3, .inl x3), (4, .inl x4)] [] shM I post := by
  unfold J_Mo_findsHands_147 at h
  refine go_iinc (k := 3) (v := x4 + 1) (lv' := [(4, .inl (x4 + 1)), (0, .inr (some 0)), (2, .inl x2), (3, .inl x3)]) d_Mo_findsHands_147 rfl rfl (by decide) rfl ?_
  refine go_goto (tgt := 71) d_Mo_findsHands_150 (by decide) ?_
  exact go_lv [1, 2, 3, 0] rfl (hk _ _ h)
def L_Mo_findsHands_71 (x2 x3 : Int32) : Nat → Int32 → gb_Mem → Option (gb_Mem)
  | 0, _, _ => none
  | n + 1, x4, I =>
    if 12 ≤ x4 then
      some I
    else
      fbd (F_Mo_reachOf x3 I) fun r5 =>
      if (F_Mo_has r5 x4 I) = 0 then
        J_Mo_findsHands_147 (L_Mo_findsHands_71 x2 x3 n) x2 x3 x4 I
      else
        flod I 24 12 x4 fun v6 =>
        if x2 < v6 then
          fsto I 24 12 x4 (x2 + 1) fun I7 =>
          flod I7 25 12 x4 fun v8 =>
          flod I7 25 12 x3 fun v9 =>
          fbd (F_Mo_steady x4 I7) fun r10 =>
          fsto I7 25 12 x4 (F_Mo_greater v8 (v9 + r10) I7) fun I11 =>
          J_Mo_findsHands_147 (L_Mo_findsHands_71 x2 x3 n) x2 x3 x4 I11
        else
          J_Mo_findsHands_147 (L_Mo_findsHands_71 x2 x3 n) x2 x3 x4 I
set_option maxRecDepth 4000 in
theorem l_Mo_findsHands_71 (l : Launch) (d0 : Nat) (x2 x3 : Int32) {post : Option gb_AV → List gb_Ce → gb_Mem → Prop} : ∀ (n : Nat) (x4 : Int32) (I : gb_Mem) {ρ : gb_Mem} (h : L_Mo_findsHands_71 x2 x3 n x4 I = some ρ) (hX : ∀ (I2 : gb_Mem), ρ = I2 → gb_Go l yMo_findsHands (d0 + 1) 0 0 153 [(0, .inr (some 0)), (2, .inl x2), (3, .inl x3)] [] shM I2 post) , gb_Go l yMo_findsHands (d0 + 1) 0 0 71 [(0, .inr (some 0)), (2, .inl x2), (3, .inl x3), (4, .inl x4)] [] shM I post := by
  intro n
  induction n with
  | zero => intro x4 I ρ h hX; cases h
  | succ n ih =>
    intro x4 I ρ h hX
    rw [L_Mo_findsHands_71] at h
    refine go_iload (k := 3) d_Mo_findsHands_71 rfl ?_
    refine go_bipush (v := 12) d_Mo_findsHands_73 (by decide) ?_
    refine go_cmp_ge (tgt := 153) d_Mo_findsHands_75 (by decide) (fun hc => ?_) (fun hc => ?_)
    · rw [if_pos hc] at h
      exact go_lv [0, 1, 2] rfl (hX _ (Option.some.inj h).symm)
    · rw [if_neg hc] at h
      refine go_aload_n (k := 0) d_Mo_findsHands_78 rfl rfl ?_
      refine go_aload_n (k := 0) d_Mo_findsHands_79 rfl rfl ?_
      refine go_iload_n (k := 2) d_Mo_findsHands_80 rfl rfl ?_
      obtain ⟨r5, w1, h⟩ := fbd_e h
      refine go_callV (y := yMo_reachOf) (asr := [.inl x3]) (v := some (.inl r5)) (I' := I) (st1 := [.inl r5, .inr (some 0)]) d_Mo_findsHands_81 s_yMo_reachOf m_Mo_388 a_M_0 rfl rfl rfl (Nat.le_of_ble_eq_true rfl) rfl rfl (c_Mo_reachOf l (d0 + 0) x3 I w1) ?_
      refine go_iload (k := 3) d_Mo_findsHands_84 rfl ?_
      refine go_callV (y := yMo_has) (asr := [.inl r5, .inl x4]) (v := some (.inl (F_Mo_has r5 x4 I))) (I' := I) (st1 := [.inl (F_Mo_has r5 x4 I)]) d_Mo_findsHands_86 s_yMo_has m_Mo_391 a_M_0 rfl rfl rfl (Nat.le_of_ble_eq_true rfl) rfl rfl (c_Mo_has l (d0 + 0) r5 x4 I) ?_
      refine go_if_eq (tgt := 147) d_Mo_findsHands_89 (by decide) (fun hc => ?_) (fun hc => ?_)
      · rw [if_pos hc] at h
        exact go_lv [0, 1, 2, 3] rfl (j_Mo_findsHands_147 l d0 (L_Mo_findsHands_71 x2 x3 n) x2 x3 x4 I h (fun z4 Iw hh => ih z4 Iw hh hX) hX)
      · rw [if_neg hc] at h
        refine go_aload_n (k := 0) d_Mo_findsHands_92 rfl rfl ?_
        refine go_getr (ci := 10) (k := 44) (r := 24) d_Mo_findsHands_93 a_M_0 rfl (by decide) f_Mo_83 rfl ?_
        refine go_iload (k := 3) d_Mo_findsHands_96 rfl ?_
        obtain ⟨hi, v6, ev6, h⟩ := flod_e h
        refine go_iald2 d_Mo_findsHands_98 a_M_24 hi ev6 ?_
        refine go_iload_n (k := 1) d_Mo_findsHands_99 rfl rfl ?_
        refine go_cmp_gt (tgt := 106) d_Mo_findsHands_100 (by decide) (fun hc => ?_) (fun hc => ?_)
        · rw [if_pos hc] at h
          refine go_aload_n (k := 0) d_Mo_findsHands_106 rfl rfl ?_
          refine go_getr (ci := 10) (k := 44) (r := 24) d_Mo_findsHands_107 a_M_0 rfl (by decide) f_Mo_83 rfl ?_
          refine go_iload (k := 3) d_Mo_findsHands_110 rfl ?_
          refine go_iload_n (k := 1) d_Mo_findsHands_112 rfl rfl ?_
          refine go_iconst (v := 1) d_Mo_findsHands_113 (by decide) ?_
          refine go_iadd d_Mo_findsHands_114 ?_
          obtain ⟨hi, I7, eI7, h⟩ := fsto_e h
          refine go_iast (I' := I7) d_Mo_findsHands_115 a_M_24 hi eI7 ?_
          refine go_aload_n (k := 0) d_Mo_findsHands_116 rfl rfl ?_
          refine go_getr (ci := 10) (k := 45) (r := 25) d_Mo_findsHands_117 a_M_0 rfl (by decide) f_Mo_86 rfl ?_
          refine go_iload (k := 3) d_Mo_findsHands_120 rfl ?_
          refine go_aload_n (k := 0) d_Mo_findsHands_122 rfl rfl ?_
          refine go_aload_n (k := 0) d_Mo_findsHands_123 rfl rfl ?_
          refine go_getr (ci := 10) (k := 45) (r := 25) d_Mo_findsHands_124 a_M_0 rfl (by decide) f_Mo_86 rfl ?_
          refine go_iload (k := 3) d_Mo_findsHands_127 rfl ?_
          obtain ⟨hi, v8, ev8, h⟩ := flod_e h
          refine go_iald2 d_Mo_findsHands_129 a_M_25 hi ev8 ?_
          refine go_aload_n (k := 0) d_Mo_findsHands_130 rfl rfl ?_
          refine go_getr (ci := 10) (k := 45) (r := 25) d_Mo_findsHands_131 a_M_0 rfl (by decide) f_Mo_86 rfl ?_
          refine go_iload_n (k := 2) d_Mo_findsHands_134 rfl rfl ?_
          obtain ⟨hi, v9, ev9, h⟩ := flod_e h
          refine go_iald2 d_Mo_findsHands_135 a_M_25 hi ev9 ?_
          refine go_aload_n (k := 0) d_Mo_findsHands_136 rfl rfl ?_
          refine go_iload (k := 3) d_Mo_findsHands_137 rfl ?_
          obtain ⟨r10, w1, h⟩ := fbd_e h
          refine go_callV (y := yMo_steady) (asr := [.inl x4]) (v := some (.inl r10)) (I' := I7) (st1 := [.inl r10, .inl v9, .inl v8, .inr (some 0), .inl x4, .inr (some 25)]) d_Mo_findsHands_139 s_yMo_steady m_Mo_330 a_M_0 rfl rfl rfl (Nat.le_of_ble_eq_true rfl) rfl rfl (c_Mo_steady l (d0 + 0) x4 I7 w1) ?_
          refine go_iadd d_Mo_findsHands_142 ?_
          refine go_callV (y := yMo_greater) (asr := [.inl v8, .inl (v9 + r10)]) (v := some (.inl (F_Mo_greater v8 (v9 + r10) I7))) (I' := I7) (st1 := [.inl (F_Mo_greater v8 (v9 + r10) I7), .inl x4, .inr (some 25)]) d_Mo_findsHands_143 s_yMo_greater m_Mo_351 a_M_0 rfl rfl rfl (Nat.le_of_ble_eq_true rfl) rfl rfl (c_Mo_greater l (d0 + 0) v8 (v9 + r10) I7) ?_
          obtain ⟨hi, I11, eI11, h⟩ := fsto_e h
          refine go_iast (I' := I11) d_Mo_findsHands_146 a_M_25 hi eI11 ?_
          exact go_lv [0, 1, 2, 3] rfl (j_Mo_findsHands_147 l d0 (L_Mo_findsHands_71 x2 x3 n) x2 x3 x4 I11 h (fun z4 Iw hh => ih z4 Iw hh hX) hX)
        · rw [if_neg hc] at h
          refine go_goto (tgt := 147) d_Mo_findsHands_103 (by decide) ?_
          exact go_lv [0, 1, 2, 3] rfl (j_Mo_findsHands_147 l d0 (L_Mo_findsHands_71 x2 x3 n) x2 x3 x4 I h (fun z4 Iw hh => ih z4 Iw hh hX) hX)
def J_Mo_findsHands_153 (k : Int32 → gb_Mem → Option (gb_Mem)) (x2 x3 : Int32) (I : gb_Mem) : Option (gb_Mem) :=
  k (x3 + 1) I
set_option maxRecDepth 4000 in
theorem j_Mo_findsHands_153 (l : Launch) (d0 : Nat) {post : Option gb_AV → List gb_Ce → gb_Mem → Prop} (k : Int32 → gb_Mem → Option (gb_Mem)) (x2 x3 : Int32) (I : gb_Mem) {ρ : gb_Mem} (h : J_Mo_findsHands_153 k x2 x3 I = some ρ) (hk : ∀ (z3 : Int32) (Iw : gb_Mem), k z3 Iw = some ρ → gb_Go l yMo_findsHands (d0 + 1) 0 0 49 [(0, .inr (some 0)), (2, .inl x2), (3, .inl z3)] [] shM Iw post) (hX : ∀ (I2 : gb_Mem), ρ = I2 → gb_Go l yMo_findsHands (d0 + 1) 0 0 159 [(0, .inr (some 0)), (2, .inl x2)] [] shM I2 post) : gb_Go l yMo_findsHands (d0 + 1) 0 0 153 [(0, .inr (some 0)), (2, .inl x2), (3, .inl x3)] [] shM I post := by
  unfold J_Mo_findsHands_153 at h
  refine go_iinc (k := 2) (v := x3 + 1) (lv' := [(3, .inl (x3 + 1)), (0, .inr (some 0)), (2, .inl x2)]) d_Mo_findsHands_153 rfl rfl (by decide) rfl ?_
  refine go_goto (tgt := 49) d_Mo_findsHands_156 (by decide) ?_
  exact go_lv [1, 2, 0] rfl (hk _ _ h)
def L_Mo_findsHands_49 (x2 : Int32) : Nat → Int32 → gb_Mem → Option (gb_Mem)
  | 0, _, _ => none
  | n + 1, x3, I =>
    if 12 ≤ x3 then
      some I
    else
      flod I 24 12 x3 fun v4 =>
      if v4 = x2 then
        fbd (L_Mo_findsHands_71 x2 x3 5000 0 I) fun I12 =>
        J_Mo_findsHands_153 (L_Mo_findsHands_49 x2 n) x2 x3 I12
      else
        J_Mo_findsHands_153 (L_Mo_findsHands_49 x2 n) x2 x3 I
set_option maxRecDepth 4000 in
theorem l_Mo_findsHands_49 (l : Launch) (d0 : Nat) (x2 : Int32) {post : Option gb_AV → List gb_Ce → gb_Mem → Prop} : ∀ (n : Nat) (x3 : Int32) (I : gb_Mem) {ρ : gb_Mem} (h : L_Mo_findsHands_49 x2 n x3 I = some ρ) (hX : ∀ (I2 : gb_Mem), ρ = I2 → gb_Go l yMo_findsHands (d0 + 1) 0 0 159 [(0, .inr (some 0)), (2, .inl x2)] [] shM I2 post) , gb_Go l yMo_findsHands (d0 + 1) 0 0 49 [(0, .inr (some 0)), (2, .inl x2), (3, .inl x3)] [] shM I post := by
  intro n
  induction n with
  | zero => intro x3 I ρ h hX; cases h
  | succ n ih =>
    intro x3 I ρ h hX
    rw [L_Mo_findsHands_49] at h
    refine go_iload_n (k := 2) d_Mo_findsHands_49 rfl rfl ?_
    refine go_bipush (v := 12) d_Mo_findsHands_50 (by decide) ?_
    refine go_cmp_ge (tgt := 159) d_Mo_findsHands_52 (by decide) (fun hc => ?_) (fun hc => ?_)
    · rw [if_pos hc] at h
      exact go_lv [0, 1] rfl (hX _ (Option.some.inj h).symm)
    · rw [if_neg hc] at h
      refine go_aload_n (k := 0) d_Mo_findsHands_55 rfl rfl ?_
      refine go_getr (ci := 10) (k := 44) (r := 24) d_Mo_findsHands_56 a_M_0 rfl (by decide) f_Mo_83 rfl ?_
      refine go_iload_n (k := 2) d_Mo_findsHands_59 rfl rfl ?_
      obtain ⟨hi, v4, ev4, h⟩ := flod_e h
      refine go_iald2 d_Mo_findsHands_60 a_M_24 hi ev4 ?_
      refine go_iload_n (k := 1) d_Mo_findsHands_61 rfl rfl ?_
      refine go_cmp_eq (tgt := 68) d_Mo_findsHands_62 (by decide) (fun hc => ?_) (fun hc => ?_)
      · rw [if_pos hc] at h
        refine go_iconst (v := 0) d_Mo_findsHands_68 (by decide) ?_
        refine go_istore (lv' := [(4, .inl 0), (0, .inr (some 0)), (2, .inl x2), (3, .inl x3)]) d_Mo_findsHands_69 (by decide) rfl ?_
        refine go_lv [1, 2, 3, 0] (lv' := [(0, .inr (some 0)), (2, .inl x2), (3, .inl x3), (4, .inl 0)]) rfl ?_
        obtain ⟨I12, w1, h⟩ := fbd_e h
        refine l_Mo_findsHands_71 l d0 x2 x3 5000 0 I w1 (fun I12_ e => ?_)
        cases e
        exact go_lv [0, 1, 2] rfl (j_Mo_findsHands_153 l d0 (L_Mo_findsHands_49 x2 n) x2 x3 I12 h (fun z3 Iw hh => ih z3 Iw hh hX) hX)
      · rw [if_neg hc] at h
        refine go_goto (tgt := 153) d_Mo_findsHands_65 (by decide) ?_
        exact go_lv [0, 1, 2] rfl (j_Mo_findsHands_153 l d0 (L_Mo_findsHands_49 x2 n) x2 x3 I h (fun z3 Iw hh => ih z3 Iw hh hX) hX)
def L_Mo_findsHands_41 : Nat → Int32 → gb_Mem → Option (gb_Mem)
  | 0, _, _ => none
  | n + 1, x2, I =>
    if 12 ≤ x2 then
      some I
    else
      fbd (L_Mo_findsHands_49 x2 5000 0 I) fun I13 =>
      L_Mo_findsHands_41 n (x2 + 1) I13
set_option maxRecDepth 4000 in
theorem l_Mo_findsHands_41 (l : Launch) (d0 : Nat) {post : Option gb_AV → List gb_Ce → gb_Mem → Prop} : ∀ (n : Nat) (x2 : Int32) (I : gb_Mem) {ρ : gb_Mem} (h : L_Mo_findsHands_41 n x2 I = some ρ) (hX : ∀ (I2 : gb_Mem), ρ = I2 → gb_Go l yMo_findsHands (d0 + 1) 0 0 165 [] [] shM I2 post) , gb_Go l yMo_findsHands (d0 + 1) 0 0 41 [(0, .inr (some 0)), (2, .inl x2)] [] shM I post := by
  intro n
  induction n with
  | zero => intro x2 I ρ h hX; cases h
  | succ n ih =>
    intro x2 I ρ h hX
    rw [L_Mo_findsHands_41] at h
    refine go_iload_n (k := 1) d_Mo_findsHands_41 rfl rfl ?_
    refine go_bipush (v := 12) d_Mo_findsHands_42 (by decide) ?_
    refine go_cmp_ge (tgt := 165) d_Mo_findsHands_44 (by decide) (fun hc => ?_) (fun hc => ?_)
    · rw [if_pos hc] at h
      exact go_lv [] rfl (hX _ (Option.some.inj h).symm)
    · rw [if_neg hc] at h
      refine go_iconst (v := 0) d_Mo_findsHands_47 (by decide) ?_
      refine go_istore_n (lv' := [(3, .inl 0), (0, .inr (some 0)), (2, .inl x2)]) d_Mo_findsHands_48 rfl (by decide) rfl ?_
      refine go_lv [1, 2, 0] (lv' := [(0, .inr (some 0)), (2, .inl x2), (3, .inl 0)]) rfl ?_
      obtain ⟨I13, w1, h⟩ := fbd_e h
      refine l_Mo_findsHands_49 l d0 x2 5000 0 I w1 (fun I13_ e => ?_)
      cases e
      refine go_iinc (k := 1) (v := x2 + 1) (lv' := [(2, .inl (x2 + 1)), (0, .inr (some 0))]) d_Mo_findsHands_159 rfl rfl (by decide) rfl ?_
      refine go_goto (tgt := 41) d_Mo_findsHands_162 (by decide) ?_
      exact go_lv [1, 0] rfl (ih (x2 + 1) I13 h hX)
def F_Mo_findsHands (x1 : Int32) (I : gb_Mem) : Option (gb_Mem) :=
  fbd (L_Mo_findsHands_2 x1 5000 0 I) fun I3 =>
  fbd (L_Mo_findsHands_41 5000 0 I3) fun I14 =>
  some I14
set_option maxRecDepth 4000 in
theorem c_Mo_findsHands (l : Launch) (d0 : Nat) (x1 : Int32) (I : gb_Mem) {Iz : gb_Mem} (h : F_Mo_findsHands x1 I = some Iz) : gb_Cs l yMo_findsHands (d0 + 1) [.inr (some 0), .inl x1] shM I none Iz := by
  refine gb_Ct.of (lv := [(0, .inr (some 0)), (1, .inl x1)]) rfl (Nat.le_of_ble_eq_true rfl) rfl ?_
  unfold F_Mo_findsHands at h
  show gb_Go l yMo_findsHands (d0 + 1) 0 0 0 [(0, .inr (some 0)), (1, .inl x1)] [] shM I (gb_po shM none Iz)
  refine go_iconst (v := 0) d_Mo_findsHands_0 (by decide) ?_
  refine go_istore_n (lv' := [(2, .inl 0), (0, .inr (some 0)), (1, .inl x1)]) d_Mo_findsHands_1 rfl (by decide) rfl ?_
  refine go_lv [1, 2, 0] (lv' := [(0, .inr (some 0)), (1, .inl x1), (2, .inl 0)]) rfl ?_
  obtain ⟨I3, w1, h⟩ := fbd_e h
  refine l_Mo_findsHands_2 l d0 x1 5000 0 I w1 (fun I3_ e => ?_)
  cases e
  refine go_iconst (v := 0) d_Mo_findsHands_39 (by decide) ?_
  refine go_istore_n (lv' := [(2, .inl 0), (0, .inr (some 0))]) d_Mo_findsHands_40 rfl (by decide) rfl ?_
  refine go_lv [1, 0] (lv' := [(0, .inr (some 0)), (2, .inl 0)]) rfl ?_
  obtain ⟨I14, w1, h⟩ := fbd_e h
  refine l_Mo_findsHands_41 l d0  5000 0 I3 w1 (fun I14_ e => ?_)
  cases e
  cases h
  exact go_return d_Mo_findsHands_165 rfl gb_po_i
theorem d_Mo_flag_0 : decode yMo_flag.2.1 0 = .ok (.aload_n 0, 1) := by decide +kernel
theorem d_Mo_flag_1 : decode yMo_flag.2.1 1 = .ok (.iconst 0, 1) := by decide +kernel
theorem d_Mo_flag_2 : decode yMo_flag.2.1 2 = .ok (.putfield 137, 3) := by decide +kernel
theorem d_Mo_flag_5 : decode yMo_flag.2.1 5 = .ok (.iload_n 1, 1) := by decide +kernel
theorem d_Mo_flag_6 : decode yMo_flag.2.1 6 = .ok (.iconst (-1), 1) := by decide +kernel
theorem d_Mo_flag_7 : decode yMo_flag.2.1 7 = .ok (.if_icmp .ne 10, 3) := by decide +kernel
theorem d_Mo_flag_10 : decode yMo_flag.2.1 10 = .ok (.aload_n 0, 1) := by decide +kernel
theorem d_Mo_flag_11 : decode yMo_flag.2.1 11 = .ok (.iconst 0, 1) := by decide +kernel
theorem d_Mo_flag_12 : decode yMo_flag.2.1 12 = .ok (.putfield 444, 3) := by decide +kernel
theorem d_Mo_flag_15 : decode yMo_flag.2.1 15 = .ok (.iconst 0, 1) := by decide +kernel
theorem d_Mo_flag_16 : decode yMo_flag.2.1 16 = .ok (.ireturn, 1) := by decide +kernel
theorem d_Mo_flag_17 : decode yMo_flag.2.1 17 = .ok (.aload_n 0, 1) := by decide +kernel
theorem d_Mo_flag_18 : decode yMo_flag.2.1 18 = .ok (.iload_n 1, 1) := by decide +kernel
theorem d_Mo_flag_19 : decode yMo_flag.2.1 19 = .ok (.iconst 0, 1) := by decide +kernel
theorem d_Mo_flag_20 : decode yMo_flag.2.1 20 = .ok (.sipush 4095, 3) := by decide +kernel
theorem d_Mo_flag_23 : decode yMo_flag.2.1 23 = .ok (.invokevirtual 157, 3) := by decide +kernel
theorem d_Mo_flag_26 : decode yMo_flag.2.1 26 = .ok (.ifCond .eq 12, 3) := by decide +kernel
theorem d_Mo_flag_29 : decode yMo_flag.2.1 29 = .ok (.aload_n 0, 1) := by decide +kernel
theorem d_Mo_flag_30 : decode yMo_flag.2.1 30 = .ok (.getfield 444, 3) := by decide +kernel
theorem d_Mo_flag_33 : decode yMo_flag.2.1 33 = .ok (.bipush 10, 2) := by decide +kernel
theorem d_Mo_flag_35 : decode yMo_flag.2.1 35 = .ok (.if_icmp .ne 5, 3) := by decide +kernel
theorem d_Mo_flag_38 : decode yMo_flag.2.1 38 = .ok (.iconst (-1), 1) := by decide +kernel
theorem d_Mo_flag_39 : decode yMo_flag.2.1 39 = .ok (.ireturn, 1) := by decide +kernel
theorem d_Mo_flag_40 : decode yMo_flag.2.1 40 = .ok (.aload_n 0, 1) := by decide +kernel
theorem d_Mo_flag_41 : decode yMo_flag.2.1 41 = .ok (.getfield 107, 3) := by decide +kernel
theorem d_Mo_flag_44 : decode yMo_flag.2.1 44 = .ok (.aload_n 0, 1) := by decide +kernel
theorem d_Mo_flag_45 : decode yMo_flag.2.1 45 = .ok (.getfield 444, 3) := by decide +kernel
theorem d_Mo_flag_48 : decode yMo_flag.2.1 48 = .ok (.iload_n 1, 1) := by decide +kernel
theorem d_Mo_flag_49 : decode yMo_flag.2.1 49 = .ok (.iastore, 1) := by decide +kernel
theorem d_Mo_flag_50 : decode yMo_flag.2.1 50 = .ok (.aload_n 0, 1) := by decide +kernel
theorem d_Mo_flag_51 : decode yMo_flag.2.1 51 = .ok (.aload_n 0, 1) := by decide +kernel
theorem d_Mo_flag_52 : decode yMo_flag.2.1 52 = .ok (.getfield 444, 3) := by decide +kernel
theorem d_Mo_flag_55 : decode yMo_flag.2.1 55 = .ok (.iconst 1, 1) := by decide +kernel
theorem d_Mo_flag_56 : decode yMo_flag.2.1 56 = .ok (.iadd, 1) := by decide +kernel
theorem d_Mo_flag_57 : decode yMo_flag.2.1 57 = .ok (.putfield 444, 3) := by decide +kernel
theorem d_Mo_flag_60 : decode yMo_flag.2.1 60 = .ok (.aload_n 0, 1) := by decide +kernel
theorem d_Mo_flag_61 : decode yMo_flag.2.1 61 = .ok (.getfield 444, 3) := by decide +kernel
theorem d_Mo_flag_64 : decode yMo_flag.2.1 64 = .ok (.ireturn, 1) := by decide +kernel
def F_Mo_flag (x1 : Int32) (I : gb_Mem) : Option (Int32 × gb_Mem) :=
  fstf I 0 0 0 fun I1 =>
  if x1 = (-1) then
    fstf I1 0 53 0 fun I4 =>
    some (0, I4)
  else
    if (F_Mo_isIn x1 0 4095 I1) = 0 then
      some ((-1), I1)
    else
      if (I1 0 53) = 10 then
        some ((-1), I1)
      else
        fsto I1 32 10 (I1 0 53) x1 fun I2 =>
        fstf I2 0 53 ((I2 0 53) + 1) fun I3 =>
        some (I3 0 53, I3)
set_option maxRecDepth 4000 in
theorem c_Mo_flag (l : Launch) (d0 : Nat) (x1 : Int32) (I : gb_Mem) {rz : Int32} {Iz : gb_Mem} (h : F_Mo_flag x1 I = some (rz, Iz)) : gb_Cs l yMo_flag (d0 + 1) [.inr (some 0), .inl x1] shM I (some (.inl rz)) Iz := by
  refine gb_Ct.of (lv := [(0, .inr (some 0)), (1, .inl x1)]) rfl (Nat.le_of_ble_eq_true rfl) rfl ?_
  unfold F_Mo_flag at h
  show gb_Go l yMo_flag (d0 + 1) 0 0 0 [(0, .inr (some 0)), (1, .inl x1)] [] shM I (gb_po shM (some (.inl rz)) Iz)
  refine go_aload_n (k := 0) d_Mo_flag_0 rfl rfl ?_
  refine go_iconst (v := 0) d_Mo_flag_1 (by decide) ?_
  obtain ⟨I1, eI1, h⟩ := fstf_e h
  refine go_putT (ci := 10) (k := 0) (I' := I1) d_Mo_flag_2 a_M_0 rfl (by decide) f_Mo_137 rfl rfl rfl rfl rfl eI1 ?_
  refine go_iload_n (k := 1) d_Mo_flag_5 rfl rfl ?_
  refine go_iconst (v := (-1)) d_Mo_flag_6 (by decide) ?_
  refine go_cmp_ne (tgt := 17) d_Mo_flag_7 (by decide) (fun hc => ?_) (fun hc => ?_)
  · rw [if_neg hc] at h
    refine go_aload_n (k := 0) d_Mo_flag_17 rfl rfl ?_
    refine go_iload_n (k := 1) d_Mo_flag_18 rfl rfl ?_
    refine go_iconst (v := 0) d_Mo_flag_19 (by decide) ?_
    refine go_sipush (v := 4095) d_Mo_flag_20 (by decide) ?_
    refine go_callV (y := yMo_isIn) (asr := [.inl x1, .inl 0, .inl 4095]) (v := some (.inl (F_Mo_isIn x1 0 4095 I1))) (I' := I1) (st1 := [.inl (F_Mo_isIn x1 0 4095 I1)]) d_Mo_flag_23 s_yMo_isIn m_Mo_157 a_M_0 rfl rfl rfl (Nat.le_of_ble_eq_true rfl) rfl rfl (c_Mo_isIn l (d0 + 0) x1 0 4095 I1) ?_
    refine go_if_eq (tgt := 38) d_Mo_flag_26 (by decide) (fun hc => ?_) (fun hc => ?_)
    · rw [if_pos hc] at h
      refine go_iconst (v := (-1)) d_Mo_flag_38 (by decide) ?_
      cases h
      exact go_ireturn d_Mo_flag_39 rfl gb_po_i
    · rw [if_neg hc] at h
      refine go_aload_n (k := 0) d_Mo_flag_29 rfl rfl ?_
      refine go_geti (ci := 10) (k := 53) d_Mo_flag_30 a_M_0 rfl (by decide) f_Mo_444 rfl ?_
      refine go_bipush (v := 10) d_Mo_flag_33 (by decide) ?_
      refine go_cmp_ne (tgt := 40) d_Mo_flag_35 (by decide) (fun hc => ?_) (fun hc => ?_)
      · rw [if_neg hc] at h
        refine go_aload_n (k := 0) d_Mo_flag_40 rfl rfl ?_
        refine go_getr (ci := 10) (k := 54) (r := 32) d_Mo_flag_41 a_M_0 rfl (by decide) f_Mo_107 rfl ?_
        refine go_aload_n (k := 0) d_Mo_flag_44 rfl rfl ?_
        refine go_geti (ci := 10) (k := 53) d_Mo_flag_45 a_M_0 rfl (by decide) f_Mo_444 rfl ?_
        refine go_iload_n (k := 1) d_Mo_flag_48 rfl rfl ?_
        obtain ⟨hi, I2, eI2, h⟩ := fsto_e h
        refine go_iast (I' := I2) d_Mo_flag_49 a_M_32 hi eI2 ?_
        refine go_aload_n (k := 0) d_Mo_flag_50 rfl rfl ?_
        refine go_aload_n (k := 0) d_Mo_flag_51 rfl rfl ?_
        refine go_geti (ci := 10) (k := 53) d_Mo_flag_52 a_M_0 rfl (by decide) f_Mo_444 rfl ?_
        refine go_iconst (v := 1) d_Mo_flag_55 (by decide) ?_
        refine go_iadd d_Mo_flag_56 ?_
        obtain ⟨I3, eI3, h⟩ := fstf_e h
        refine go_putT (ci := 10) (k := 53) (I' := I3) d_Mo_flag_57 a_M_0 rfl (by decide) f_Mo_444 rfl rfl rfl rfl rfl eI3 ?_
        refine go_aload_n (k := 0) d_Mo_flag_60 rfl rfl ?_
        refine go_geti (ci := 10) (k := 53) d_Mo_flag_61 a_M_0 rfl (by decide) f_Mo_444 rfl ?_
        cases h
        exact go_ireturn d_Mo_flag_64 rfl gb_po_i
      · rw [if_pos hc] at h
        refine go_iconst (v := (-1)) d_Mo_flag_38 (by decide) ?_
        cases h
        exact go_ireturn d_Mo_flag_39 rfl gb_po_i
  · rw [if_pos hc] at h
    refine go_aload_n (k := 0) d_Mo_flag_10 rfl rfl ?_
    refine go_iconst (v := 0) d_Mo_flag_11 (by decide) ?_
    obtain ⟨I4, eI4, h⟩ := fstf_e h
    refine go_putT (ci := 10) (k := 53) (I' := I4) d_Mo_flag_12 a_M_0 rfl (by decide) f_Mo_444 rfl rfl rfl rfl rfl eI4 ?_
    refine go_iconst (v := 0) d_Mo_flag_15 (by decide) ?_
    cases h
    exact go_ireturn d_Mo_flag_16 rfl gb_po_i
theorem d_Mo_free_0 : decode yMo_free.2.1 0 = .ok (.aload_n 0, 1) := by decide +kernel
theorem d_Mo_free_1 : decode yMo_free.2.1 1 = .ok (.iconst 0, 1) := by decide +kernel
theorem d_Mo_free_2 : decode yMo_free.2.1 2 = .ok (.putfield 137, 3) := by decide +kernel
theorem d_Mo_free_5 : decode yMo_free.2.1 5 = .ok (.aload_n 0, 1) := by decide +kernel
theorem d_Mo_free_6 : decode yMo_free.2.1 6 = .ok (.iload_n 1, 1) := by decide +kernel
theorem d_Mo_free_7 : decode yMo_free.2.1 7 = .ok (.iconst 1, 1) := by decide +kernel
theorem d_Mo_free_8 : decode yMo_free.2.1 8 = .ok (.bipush 99, 2) := by decide +kernel
theorem d_Mo_free_10 : decode yMo_free.2.1 10 = .ok (.invokevirtual 157, 3) := by decide +kernel
theorem d_Mo_free_13 : decode yMo_free.2.1 13 = .ok (.ifCond .eq 13, 3) := by decide +kernel
theorem d_Mo_free_16 : decode yMo_free.2.1 16 = .ok (.aload_n 0, 1) := by decide +kernel
theorem d_Mo_free_17 : decode yMo_free.2.1 17 = .ok (.iload_n 2, 1) := by decide +kernel
theorem d_Mo_free_18 : decode yMo_free.2.1 18 = .ok (.iconst 0, 1) := by decide +kernel
theorem d_Mo_free_19 : decode yMo_free.2.1 19 = .ok (.iconst 1, 1) := by decide +kernel
theorem d_Mo_free_20 : decode yMo_free.2.1 20 = .ok (.invokevirtual 157, 3) := by decide +kernel
theorem d_Mo_free_23 : decode yMo_free.2.1 23 = .ok (.ifCond .ne 5, 3) := by decide +kernel
theorem d_Mo_free_26 : decode yMo_free.2.1 26 = .ok (.iconst (-1), 1) := by decide +kernel
theorem d_Mo_free_27 : decode yMo_free.2.1 27 = .ok (.ireturn, 1) := by decide +kernel
theorem d_Mo_free_28 : decode yMo_free.2.1 28 = .ok (.ldc_w 425, 3) := by decide +kernel
theorem d_Mo_free_31 : decode yMo_free.2.1 31 = .ok (.istore_n 3, 1) := by decide +kernel
theorem d_Mo_free_32 : decode yMo_free.2.1 32 = .ok (.iconst 0, 1) := by decide +kernel
theorem d_Mo_free_33 : decode yMo_free.2.1 33 = .ok (.istore 4, 2) := by decide +kernel
theorem d_Mo_free_35 : decode yMo_free.2.1 35 = .ok (.iload 4, 2) := by decide +kernel
theorem d_Mo_free_37 : decode yMo_free.2.1 37 = .ok (.iload_n 1, 1) := by decide +kernel
theorem d_Mo_free_38 : decode yMo_free.2.1 38 = .ok (.iadd, 1) := by decide +kernel
theorem d_Mo_free_39 : decode yMo_free.2.1 39 = .ok (.bipush 100, 2) := by decide +kernel
theorem d_Mo_free_41 : decode yMo_free.2.1 41 = .ok (.if_icmp .gt 41, 3) := by decide +kernel
theorem d_Mo_free_44 : decode yMo_free.2.1 44 = .ok (.aload_n 0, 1) := by decide +kernel
theorem d_Mo_free_45 : decode yMo_free.2.1 45 = .ok (.iload 4, 2) := by decide +kernel
theorem d_Mo_free_47 : decode yMo_free.2.1 47 = .ok (.iload 4, 2) := by decide +kernel
theorem d_Mo_free_49 : decode yMo_free.2.1 49 = .ok (.iload_n 1, 1) := by decide +kernel
theorem d_Mo_free_50 : decode yMo_free.2.1 50 = .ok (.iadd, 1) := by decide +kernel
theorem d_Mo_free_51 : decode yMo_free.2.1 51 = .ok (.invokevirtual 468, 3) := by decide +kernel
theorem d_Mo_free_54 : decode yMo_free.2.1 54 = .ok (.istore 5, 2) := by decide +kernel
theorem d_Mo_free_56 : decode yMo_free.2.1 56 = .ok (.iload_n 2, 1) := by decide +kernel
theorem d_Mo_free_57 : decode yMo_free.2.1 57 = .ok (.ifCond .ne 11, 3) := by decide +kernel
theorem d_Mo_free_60 : decode yMo_free.2.1 60 = .ok (.iload 5, 2) := by decide +kernel
theorem d_Mo_free_62 : decode yMo_free.2.1 62 = .ok (.ifCond .ne 6, 3) := by decide +kernel
theorem d_Mo_free_65 : decode yMo_free.2.1 65 = .ok (.iload 4, 2) := by decide +kernel
theorem d_Mo_free_67 : decode yMo_free.2.1 67 = .ok (.ireturn, 1) := by decide +kernel
theorem d_Mo_free_68 : decode yMo_free.2.1 68 = .ok (.aload_n 0, 1) := by decide +kernel
theorem d_Mo_free_69 : decode yMo_free.2.1 69 = .ok (.iload_n 3, 1) := by decide +kernel
theorem d_Mo_free_70 : decode yMo_free.2.1 70 = .ok (.iload 5, 2) := by decide +kernel
theorem d_Mo_free_72 : decode yMo_free.2.1 72 = .ok (.invokevirtual 364, 3) := by decide +kernel
theorem d_Mo_free_75 : decode yMo_free.2.1 75 = .ok (.istore_n 3, 1) := by decide +kernel
theorem d_Mo_free_76 : decode yMo_free.2.1 76 = .ok (.iinc 4 1, 3) := by decide +kernel
theorem d_Mo_free_79 : decode yMo_free.2.1 79 = .ok (.goto (-44), 3) := by decide +kernel
theorem d_Mo_free_82 : decode yMo_free.2.1 82 = .ok (.iload_n 2, 1) := by decide +kernel
theorem d_Mo_free_83 : decode yMo_free.2.1 83 = .ok (.ifCond .ne 7, 3) := by decide +kernel
theorem d_Mo_free_86 : decode yMo_free.2.1 86 = .ok (.iconst (-1), 1) := by decide +kernel
theorem d_Mo_free_87 : decode yMo_free.2.1 87 = .ok (.goto 4, 3) := by decide +kernel
theorem d_Mo_free_90 : decode yMo_free.2.1 90 = .ok (.iload_n 3, 1) := by decide +kernel
theorem d_Mo_free_91 : decode yMo_free.2.1 91 = .ok (.ireturn, 1) := by decide +kernel
def J_Mo_free_68 (k : Int32 → Int32 → Option ((Int32) ⊕ (Int32 × gb_Mem))) (x1 x2 x3 x4 x5 : Int32) (I : gb_Mem) : Option ((Int32) ⊕ (Int32 × gb_Mem)) :=
  flt (F_Mo_lesser x3 x5 I) fun y3 =>
  k y3 (x4 + 1)
set_option maxRecDepth 4000 in
theorem j_Mo_free_68 (l : Launch) (d0 : Nat) {post : Option gb_AV → List gb_Ce → gb_Mem → Prop} (k : Int32 → Int32 → Option ((Int32) ⊕ (Int32 × gb_Mem))) (x1 x2 x3 x4 x5 : Int32) (I : gb_Mem) {ρ : (Int32) ⊕ (Int32 × gb_Mem)} (h : J_Mo_free_68 k x1 x2 x3 x4 x5 I = some ρ) (hk : ∀ (z3 z4 : Int32), k z3 z4 = some ρ → gb_Go l yMo_free (d0 + 1) 0 0 35 [(0, .inr (some 0)), (1, .inl x1), (2, .inl x2), (3, .inl z3), (4, .inl z4)] [] shM I post) (hX : ∀ (o3 : Int32), ρ = .inl o3 → gb_Go l yMo_free (d0 + 1) 0 0 82 [(2, .inl x2), (3, .inl o3)] [] shM I post) (hR : ∀ (v : Int32) (I3 : gb_Mem), ρ = .inr (v, I3) → post (some (.inl v)) shM I3) : gb_Go l yMo_free (d0 + 1) 0 0 68 [(0, .inr (some 0)), (1, .inl x1), (2, .inl x2), (3, .inl x3), (4, .inl x4), (5, .inl x5)] [] shM I post := by
  unfold J_Mo_free_68 at h
  refine go_aload_n (k := 0) d_Mo_free_68 rfl rfl ?_
  refine go_iload_n (k := 3) d_Mo_free_69 rfl rfl ?_
  refine go_iload (k := 5) d_Mo_free_70 rfl ?_
  refine go_callV (y := yMo_lesser) (asr := [.inl x3, .inl x5]) (v := some (.inl (F_Mo_lesser x3 x5 I))) (I' := I) (st1 := [.inl (F_Mo_lesser x3 x5 I)]) d_Mo_free_72 s_yMo_lesser m_Mo_364 a_M_0 rfl rfl rfl (Nat.le_of_ble_eq_true rfl) rfl rfl (c_Mo_lesser l (d0 + 0) x3 x5 I) ?_
  obtain ⟨y3, ey3, h⟩ := flt_e h
  refine go_top ey3 ?_
  refine go_istore_n (lv' := [(3, .inl y3), (0, .inr (some 0)), (1, .inl x1), (2, .inl x2), (4, .inl x4), (5, .inl x5)]) d_Mo_free_75 rfl (by decide) rfl ?_
  refine go_iinc (k := 4) (v := x4 + 1) (lv' := [(4, .inl (x4 + 1)), (3, .inl y3), (0, .inr (some 0)), (1, .inl x1), (2, .inl x2), (5, .inl x5)]) d_Mo_free_76 rfl rfl (by decide) rfl ?_
  refine go_goto (tgt := 35) d_Mo_free_79 (by decide) ?_
  exact go_lv [2, 3, 4, 1, 0] rfl (hk _ _ h)
def L_Mo_free_35 (x1 x2 : Int32) (I : gb_Mem) : Nat → Int32 → Int32 → Option ((Int32) ⊕ (Int32 × gb_Mem))
  | 0, _, _ => none
  | n + 1, x3, x4 =>
    if 100 < (x4 + x1) then
      some (.inl x3)
    else
      fbd (F_Mo_spansOver x4 (x4 + x1) I) fun r2 =>
      if x2 = 0 then
        if r2 = 0 then
          some (.inr (x4, I))
        else
          J_Mo_free_68 (L_Mo_free_35 x1 x2 I n) x1 x2 x3 x4 r2 I
      else
        J_Mo_free_68 (L_Mo_free_35 x1 x2 I n) x1 x2 x3 x4 r2 I
set_option maxRecDepth 4000 in
theorem l_Mo_free_35 (l : Launch) (d0 : Nat) (x1 x2 : Int32) (I : gb_Mem) {post : Option gb_AV → List gb_Ce → gb_Mem → Prop} : ∀ (n : Nat) (x3 x4 : Int32) {ρ : (Int32) ⊕ (Int32 × gb_Mem)} (h : L_Mo_free_35 x1 x2 I n x3 x4 = some ρ) (hX : ∀ (o3 : Int32), ρ = .inl o3 → gb_Go l yMo_free (d0 + 1) 0 0 82 [(2, .inl x2), (3, .inl o3)] [] shM I post) (hR : ∀ (v : Int32) (I3 : gb_Mem), ρ = .inr (v, I3) → post (some (.inl v)) shM I3) , gb_Go l yMo_free (d0 + 1) 0 0 35 [(0, .inr (some 0)), (1, .inl x1), (2, .inl x2), (3, .inl x3), (4, .inl x4)] [] shM I post := by
  intro n
  induction n with
  | zero => intro x3 x4 ρ h hX hR; cases h
  | succ n ih =>
    intro x3 x4 ρ h hX hR
    rw [L_Mo_free_35] at h
    refine go_iload (k := 4) d_Mo_free_35 rfl ?_
    refine go_iload_n (k := 1) d_Mo_free_37 rfl rfl ?_
    refine go_iadd d_Mo_free_38 ?_
    refine go_bipush (v := 100) d_Mo_free_39 (by decide) ?_
    refine go_cmp_gt (tgt := 82) d_Mo_free_41 (by decide) (fun hc => ?_) (fun hc => ?_)
    · rw [if_pos hc] at h
      exact go_lv [2, 3] rfl (hX _ (Option.some.inj h).symm)
    · rw [if_neg hc] at h
      refine go_aload_n (k := 0) d_Mo_free_44 rfl rfl ?_
      refine go_iload (k := 4) d_Mo_free_45 rfl ?_
      refine go_iload (k := 4) d_Mo_free_47 rfl ?_
      refine go_iload_n (k := 1) d_Mo_free_49 rfl rfl ?_
      refine go_iadd d_Mo_free_50 ?_
      obtain ⟨r2, w1, h⟩ := fbd_e h
      refine go_callV (y := yMo_spansOver) (asr := [.inl x4, .inl (x4 + x1)]) (v := some (.inl r2)) (I' := I) (st1 := [.inl r2]) d_Mo_free_51 s_yMo_spansOver m_Mo_468 a_M_0 rfl rfl rfl (Nat.le_of_ble_eq_true rfl) rfl rfl (c_Mo_spansOver l (d0 + 0) x4 (x4 + x1) I w1) ?_
      refine go_istore (lv' := [(5, .inl r2), (0, .inr (some 0)), (1, .inl x1), (2, .inl x2), (3, .inl x3), (4, .inl x4)]) d_Mo_free_54 (by decide) rfl ?_
      refine go_iload_n (k := 3) d_Mo_free_56 rfl rfl ?_
      refine go_if_ne (tgt := 68) d_Mo_free_57 (by decide) (fun hc => ?_) (fun hc => ?_)
      · rw [if_neg hc] at h
        exact go_lv [1, 2, 3, 4, 5, 0] rfl (j_Mo_free_68 l d0 (L_Mo_free_35 x1 x2 I n) x1 x2 x3 x4 r2 I h (fun z3 z4 hh => ih z3 z4 hh hX hR) hX hR)
      · rw [if_pos hc] at h
        refine go_iload (k := 0) d_Mo_free_60 rfl ?_
        refine go_if_ne (tgt := 68) d_Mo_free_62 (by decide) (fun hc => ?_) (fun hc => ?_)
        · rw [if_neg hc] at h
          exact go_lv [1, 2, 3, 4, 5, 0] rfl (j_Mo_free_68 l d0 (L_Mo_free_35 x1 x2 I n) x1 x2 x3 x4 r2 I h (fun z3 z4 hh => ih z3 z4 hh hX hR) hX hR)
        · rw [if_pos hc] at h
          refine go_iload (k := 5) d_Mo_free_65 rfl ?_
          exact go_ireturn d_Mo_free_67 rfl (hR _ _ (Option.some.inj h).symm)
def F_Mo_free (x1 x2 : Int32) (I : gb_Mem) : Option (Int32 × gb_Mem) :=
  fstf I 0 0 0 fun I1 =>
  if (F_Mo_isIn x1 1 99 I1) = 0 then
    some ((-1), I1)
  else
    if (F_Mo_isIn x2 0 1 I1) = 0 then
      some ((-1), I1)
    else
      fbr (L_Mo_free_35 x1 x2 I1 5000 100000000 0) (fun o4 =>
        if x2 = 0 then
          some ((-1), I1)
        else
          some (o4, I1))
        (fun (q5, I6) => some (q5, I6))
set_option maxRecDepth 4000 in
theorem c_Mo_free (l : Launch) (d0 : Nat) (x1 x2 : Int32) (I : gb_Mem) {rz : Int32} {Iz : gb_Mem} (h : F_Mo_free x1 x2 I = some (rz, Iz)) : gb_Cs l yMo_free (d0 + 1) [.inr (some 0), .inl x1, .inl x2] shM I (some (.inl rz)) Iz := by
  refine gb_Ct.of (lv := [(0, .inr (some 0)), (1, .inl x1), (2, .inl x2)]) rfl (Nat.le_of_ble_eq_true rfl) rfl ?_
  unfold F_Mo_free at h
  show gb_Go l yMo_free (d0 + 1) 0 0 0 [(0, .inr (some 0)), (1, .inl x1), (2, .inl x2)] [] shM I (gb_po shM (some (.inl rz)) Iz)
  refine go_aload_n (k := 0) d_Mo_free_0 rfl rfl ?_
  refine go_iconst (v := 0) d_Mo_free_1 (by decide) ?_
  obtain ⟨I1, eI1, h⟩ := fstf_e h
  refine go_putT (ci := 10) (k := 0) (I' := I1) d_Mo_free_2 a_M_0 rfl (by decide) f_Mo_137 rfl rfl rfl rfl rfl eI1 ?_
  refine go_aload_n (k := 0) d_Mo_free_5 rfl rfl ?_
  refine go_iload_n (k := 1) d_Mo_free_6 rfl rfl ?_
  refine go_iconst (v := 1) d_Mo_free_7 (by decide) ?_
  refine go_bipush (v := 99) d_Mo_free_8 (by decide) ?_
  refine go_callV (y := yMo_isIn) (asr := [.inl x1, .inl 1, .inl 99]) (v := some (.inl (F_Mo_isIn x1 1 99 I1))) (I' := I1) (st1 := [.inl (F_Mo_isIn x1 1 99 I1)]) d_Mo_free_10 s_yMo_isIn m_Mo_157 a_M_0 rfl rfl rfl (Nat.le_of_ble_eq_true rfl) rfl rfl (c_Mo_isIn l (d0 + 0) x1 1 99 I1) ?_
  refine go_if_eq (tgt := 26) d_Mo_free_13 (by decide) (fun hc => ?_) (fun hc => ?_)
  · rw [if_pos hc] at h
    refine go_iconst (v := (-1)) d_Mo_free_26 (by decide) ?_
    cases h
    exact go_ireturn d_Mo_free_27 rfl gb_po_i
  · rw [if_neg hc] at h
    refine go_aload_n (k := 0) d_Mo_free_16 rfl rfl ?_
    refine go_iload_n (k := 2) d_Mo_free_17 rfl rfl ?_
    refine go_iconst (v := 0) d_Mo_free_18 (by decide) ?_
    refine go_iconst (v := 1) d_Mo_free_19 (by decide) ?_
    refine go_callV (y := yMo_isIn) (asr := [.inl x2, .inl 0, .inl 1]) (v := some (.inl (F_Mo_isIn x2 0 1 I1))) (I' := I1) (st1 := [.inl (F_Mo_isIn x2 0 1 I1)]) d_Mo_free_20 s_yMo_isIn m_Mo_157 a_M_0 rfl rfl rfl (Nat.le_of_ble_eq_true rfl) rfl rfl (c_Mo_isIn l (d0 + 0) x2 0 1 I1) ?_
    refine go_if_ne (tgt := 28) d_Mo_free_23 (by decide) (fun hc => ?_) (fun hc => ?_)
    · rw [if_neg hc] at h
      refine go_ldcw (v := 100000000) d_Mo_free_28 k_Mo_425 ?_
      refine go_istore_n (lv' := [(3, .inl 100000000), (0, .inr (some 0)), (1, .inl x1), (2, .inl x2)]) d_Mo_free_31 rfl (by decide) rfl ?_
      refine go_iconst (v := 0) d_Mo_free_32 (by decide) ?_
      refine go_istore (lv' := [(4, .inl 0), (3, .inl 100000000), (0, .inr (some 0)), (1, .inl x1), (2, .inl x2)]) d_Mo_free_33 (by decide) rfl ?_
      refine go_lv [2, 3, 4, 1, 0] (lv' := [(0, .inr (some 0)), (1, .inl x1), (2, .inl x2), (3, .inl 100000000), (4, .inl 0)]) rfl ?_
      obtain ⟨ρ, w1, w2, w3⟩ := fbr_e2 h
      refine l_Mo_free_35 l d0 x1 x2 I1 5000 100000000 0 w1 (fun o4 e => ?_) (fun q5 I6 e => ?_)
      · have h := w2 _ e
        try dsimp only at h
        refine go_iload_n (k := 0) d_Mo_free_82 rfl rfl ?_
        refine go_if_ne (tgt := 90) d_Mo_free_83 (by decide) (fun hc => ?_) (fun hc => ?_)
        · rw [if_neg hc] at h
          refine go_iload_n (k := 1) d_Mo_free_90 rfl rfl ?_
          cases h
          exact go_ireturn d_Mo_free_91 rfl gb_po_i
        · rw [if_pos hc] at h
          refine go_iconst (v := (-1)) d_Mo_free_86 (by decide) ?_
          refine go_goto (tgt := 91) d_Mo_free_87 (by decide) ?_
          cases h
          exact go_ireturn d_Mo_free_91 rfl gb_po_i
      · have h := w3 _ e
        try dsimp only at h
        cases h
        exact gb_po_i
    · rw [if_pos hc] at h
      refine go_iconst (v := (-1)) d_Mo_free_26 (by decide) ?_
      cases h
      exact go_ireturn d_Mo_free_27 rfl gb_po_i
theorem d_Mo_game_0 : decode yMo_game.2.1 0 = .ok (.aload_n 0, 1) := by decide +kernel
theorem d_Mo_game_1 : decode yMo_game.2.1 1 = .ok (.iconst 0, 1) := by decide +kernel
theorem d_Mo_game_2 : decode yMo_game.2.1 2 = .ok (.putfield 137, 3) := by decide +kernel
theorem d_Mo_game_5 : decode yMo_game.2.1 5 = .ok (.aload_n 0, 1) := by decide +kernel
theorem d_Mo_game_6 : decode yMo_game.2.1 6 = .ok (.iload_n 1, 1) := by decide +kernel
theorem d_Mo_game_7 : decode yMo_game.2.1 7 = .ok (.iconst 0, 1) := by decide +kernel
theorem d_Mo_game_8 : decode yMo_game.2.1 8 = .ok (.iconst 1, 1) := by decide +kernel
theorem d_Mo_game_9 : decode yMo_game.2.1 9 = .ok (.invokevirtual 157, 3) := by decide +kernel
theorem d_Mo_game_12 : decode yMo_game.2.1 12 = .ok (.ifCond .ne 5, 3) := by decide +kernel
theorem d_Mo_game_15 : decode yMo_game.2.1 15 = .ok (.iconst (-1), 1) := by decide +kernel
theorem d_Mo_game_16 : decode yMo_game.2.1 16 = .ok (.ireturn, 1) := by decide +kernel
theorem d_Mo_game_17 : decode yMo_game.2.1 17 = .ok (.iconst 0, 1) := by decide +kernel
theorem d_Mo_game_18 : decode yMo_game.2.1 18 = .ok (.istore_n 2, 1) := by decide +kernel
theorem d_Mo_game_19 : decode yMo_game.2.1 19 = .ok (.iconst 0, 1) := by decide +kernel
theorem d_Mo_game_20 : decode yMo_game.2.1 20 = .ok (.istore_n 3, 1) := by decide +kernel
theorem d_Mo_game_21 : decode yMo_game.2.1 21 = .ok (.iload_n 3, 1) := by decide +kernel
theorem d_Mo_game_22 : decode yMo_game.2.1 22 = .ok (.bipush 12, 2) := by decide +kernel
theorem d_Mo_game_24 : decode yMo_game.2.1 24 = .ok (.if_icmp .ge 25, 3) := by decide +kernel
theorem d_Mo_game_27 : decode yMo_game.2.1 27 = .ok (.iload_n 2, 1) := by decide +kernel
theorem d_Mo_game_28 : decode yMo_game.2.1 28 = .ok (.aload_n 0, 1) := by decide +kernel
theorem d_Mo_game_29 : decode yMo_game.2.1 29 = .ok (.aload_n 0, 1) := by decide +kernel
theorem d_Mo_game_30 : decode yMo_game.2.1 30 = .ok (.getfield 7, 3) := by decide +kernel
theorem d_Mo_game_33 : decode yMo_game.2.1 33 = .ok (.bipush 18, 2) := by decide +kernel
theorem d_Mo_game_35 : decode yMo_game.2.1 35 = .ok (.iload_n 3, 1) := by decide +kernel
theorem d_Mo_game_36 : decode yMo_game.2.1 36 = .ok (.iadd, 1) := by decide +kernel
theorem d_Mo_game_37 : decode yMo_game.2.1 37 = .ok (.iaload, 1) := by decide +kernel
theorem d_Mo_game_38 : decode yMo_game.2.1 38 = .ok (.invokevirtual 487, 3) := by decide +kernel
theorem d_Mo_game_41 : decode yMo_game.2.1 41 = .ok (.ixor, 1) := by decide +kernel
theorem d_Mo_game_42 : decode yMo_game.2.1 42 = .ok (.istore_n 2, 1) := by decide +kernel
theorem d_Mo_game_43 : decode yMo_game.2.1 43 = .ok (.iinc 3 1, 3) := by decide +kernel
theorem d_Mo_game_46 : decode yMo_game.2.1 46 = .ok (.goto (-25), 3) := by decide +kernel
theorem d_Mo_game_49 : decode yMo_game.2.1 49 = .ok (.iconst 0, 1) := by decide +kernel
theorem d_Mo_game_50 : decode yMo_game.2.1 50 = .ok (.istore_n 3, 1) := by decide +kernel
theorem d_Mo_game_51 : decode yMo_game.2.1 51 = .ok (.iload_n 3, 1) := by decide +kernel
theorem d_Mo_game_52 : decode yMo_game.2.1 52 = .ok (.bipush 12, 2) := by decide +kernel
theorem d_Mo_game_54 : decode yMo_game.2.1 54 = .ok (.if_icmp .ge 79, 3) := by decide +kernel
theorem d_Mo_game_57 : decode yMo_game.2.1 57 = .ok (.aload_n 0, 1) := by decide +kernel
theorem d_Mo_game_58 : decode yMo_game.2.1 58 = .ok (.getfield 7, 3) := by decide +kernel
theorem d_Mo_game_61 : decode yMo_game.2.1 61 = .ok (.bipush 18, 2) := by decide +kernel
theorem d_Mo_game_63 : decode yMo_game.2.1 63 = .ok (.iload_n 3, 1) := by decide +kernel
theorem d_Mo_game_64 : decode yMo_game.2.1 64 = .ok (.iadd, 1) := by decide +kernel
theorem d_Mo_game_65 : decode yMo_game.2.1 65 = .ok (.iaload, 1) := by decide +kernel
theorem d_Mo_game_66 : decode yMo_game.2.1 66 = .ok (.istore 4, 2) := by decide +kernel
theorem d_Mo_game_68 : decode yMo_game.2.1 68 = .ok (.iload_n 2, 1) := by decide +kernel
theorem d_Mo_game_69 : decode yMo_game.2.1 69 = .ok (.aload_n 0, 1) := by decide +kernel
theorem d_Mo_game_70 : decode yMo_game.2.1 70 = .ok (.iload 4, 2) := by decide +kernel
theorem d_Mo_game_72 : decode yMo_game.2.1 72 = .ok (.invokevirtual 487, 3) := by decide +kernel
theorem d_Mo_game_75 : decode yMo_game.2.1 75 = .ok (.ixor, 1) := by decide +kernel
theorem d_Mo_game_76 : decode yMo_game.2.1 76 = .ok (.istore 5, 2) := by decide +kernel
theorem d_Mo_game_78 : decode yMo_game.2.1 78 = .ok (.iload 4, 2) := by decide +kernel
theorem d_Mo_game_80 : decode yMo_game.2.1 80 = .ok (.ifCond .le 26, 3) := by decide +kernel
theorem d_Mo_game_83 : decode yMo_game.2.1 83 = .ok (.aload_n 0, 1) := by decide +kernel
theorem d_Mo_game_84 : decode yMo_game.2.1 84 = .ok (.iload 4, 2) := by decide +kernel
theorem d_Mo_game_86 : decode yMo_game.2.1 86 = .ok (.iconst 1, 1) := by decide +kernel
theorem d_Mo_game_87 : decode yMo_game.2.1 87 = .ok (.isub, 1) := by decide +kernel
theorem d_Mo_game_88 : decode yMo_game.2.1 88 = .ok (.invokevirtual 487, 3) := by decide +kernel
theorem d_Mo_game_91 : decode yMo_game.2.1 91 = .ok (.iload 5, 2) := by decide +kernel
theorem d_Mo_game_93 : decode yMo_game.2.1 93 = .ok (.if_icmp .ne 13, 3) := by decide +kernel
theorem d_Mo_game_96 : decode yMo_game.2.1 96 = .ok (.iload_n 1, 1) := by decide +kernel
theorem d_Mo_game_97 : decode yMo_game.2.1 97 = .ok (.ifCond .ne 7, 3) := by decide +kernel
theorem d_Mo_game_100 : decode yMo_game.2.1 100 = .ok (.iload_n 3, 1) := by decide +kernel
theorem d_Mo_game_101 : decode yMo_game.2.1 101 = .ok (.goto 4, 3) := by decide +kernel
theorem d_Mo_game_104 : decode yMo_game.2.1 104 = .ok (.iconst 1, 1) := by decide +kernel
theorem d_Mo_game_105 : decode yMo_game.2.1 105 = .ok (.ireturn, 1) := by decide +kernel
theorem d_Mo_game_106 : decode yMo_game.2.1 106 = .ok (.iload 4, 2) := by decide +kernel
theorem d_Mo_game_108 : decode yMo_game.2.1 108 = .ok (.ifCond .le 19, 3) := by decide +kernel
theorem d_Mo_game_111 : decode yMo_game.2.1 111 = .ok (.iload 5, 2) := by decide +kernel
theorem d_Mo_game_113 : decode yMo_game.2.1 113 = .ok (.ifCond .ne 14, 3) := by decide +kernel
theorem d_Mo_game_116 : decode yMo_game.2.1 116 = .ok (.iload_n 1, 1) := by decide +kernel
theorem d_Mo_game_117 : decode yMo_game.2.1 117 = .ok (.ifCond .ne 7, 3) := by decide +kernel
theorem d_Mo_game_120 : decode yMo_game.2.1 120 = .ok (.iload_n 3, 1) := by decide +kernel
theorem d_Mo_game_121 : decode yMo_game.2.1 121 = .ok (.goto 5, 3) := by decide +kernel
theorem d_Mo_game_124 : decode yMo_game.2.1 124 = .ok (.iload 4, 2) := by decide +kernel
theorem d_Mo_game_126 : decode yMo_game.2.1 126 = .ok (.ireturn, 1) := by decide +kernel
theorem d_Mo_game_127 : decode yMo_game.2.1 127 = .ok (.iinc 3 1, 3) := by decide +kernel
theorem d_Mo_game_130 : decode yMo_game.2.1 130 = .ok (.goto (-79), 3) := by decide +kernel
theorem d_Mo_game_133 : decode yMo_game.2.1 133 = .ok (.iconst (-1), 1) := by decide +kernel
theorem d_Mo_game_134 : decode yMo_game.2.1 134 = .ok (.ireturn, 1) := by decide +kernel
def L_Mo_game_21 (x1 : Int32) (I : gb_Mem) : Nat → Int32 → Int32 → Option (Int32)
  | 0, _, _ => none
  | n + 1, x2, x3 =>
    if 12 ≤ x3 then
      some x2
    else
      flod I 1 80 (18 + x3) fun v2 =>
      fbd (F_Mo_nimber v2 I) fun r3 =>
      L_Mo_game_21 x1 I n (x2 ^^^ r3) (x3 + 1)
set_option maxRecDepth 4000 in
theorem l_Mo_game_21 (l : Launch) (d0 : Nat) (x1 : Int32) (I : gb_Mem) {post : Option gb_AV → List gb_Ce → gb_Mem → Prop} : ∀ (n : Nat) (x2 x3 : Int32) {ρ : Int32} (h : L_Mo_game_21 x1 I n x2 x3 = some ρ) (hX : ∀ (o2 : Int32), ρ = o2 → gb_Go l yMo_game (d0 + 1) 0 0 49 [(0, .inr (some 0)), (1, .inl x1), (2, .inl o2)] [] shM I post) , gb_Go l yMo_game (d0 + 1) 0 0 21 [(0, .inr (some 0)), (1, .inl x1), (2, .inl x2), (3, .inl x3)] [] shM I post := by
  intro n
  induction n with
  | zero => intro x2 x3 ρ h hX; cases h
  | succ n ih =>
    intro x2 x3 ρ h hX
    rw [L_Mo_game_21] at h
    refine go_iload_n (k := 3) d_Mo_game_21 rfl rfl ?_
    refine go_bipush (v := 12) d_Mo_game_22 (by decide) ?_
    refine go_cmp_ge (tgt := 49) d_Mo_game_24 (by decide) (fun hc => ?_) (fun hc => ?_)
    · rw [if_pos hc] at h
      exact go_lv [0, 1, 2] rfl (hX _ (Option.some.inj h).symm)
    · rw [if_neg hc] at h
      refine go_iload_n (k := 2) d_Mo_game_27 rfl rfl ?_
      refine go_aload_n (k := 0) d_Mo_game_28 rfl rfl ?_
      refine go_aload_n (k := 0) d_Mo_game_29 rfl rfl ?_
      refine go_getr (ci := 10) (k := 1) (r := 1) d_Mo_game_30 a_M_0 rfl (by decide) f_Mo_7 rfl ?_
      refine go_bipush (v := 18) d_Mo_game_33 (by decide) ?_
      refine go_iload_n (k := 3) d_Mo_game_35 rfl rfl ?_
      refine go_iadd d_Mo_game_36 ?_
      obtain ⟨hi, v2, ev2, h⟩ := flod_e h
      refine go_iald2 d_Mo_game_37 a_M_1 hi ev2 ?_
      obtain ⟨r3, w1, h⟩ := fbd_e h
      refine go_callV (y := yMo_nimber) (asr := [.inl v2]) (v := some (.inl r3)) (I' := I) (st1 := [.inl r3, .inl x2]) d_Mo_game_38 s_yMo_nimber m_Mo_487 a_M_0 rfl rfl rfl (Nat.le_of_ble_eq_true rfl) rfl rfl (c_Mo_nimber l (d0 + 0) v2 I w1) ?_
      refine go_ixor d_Mo_game_41 ?_
      refine go_istore_n (lv' := [(2, .inl (x2 ^^^ r3)), (0, .inr (some 0)), (1, .inl x1), (3, .inl x3)]) d_Mo_game_42 rfl (by decide) rfl ?_
      refine go_iinc (k := 3) (v := x3 + 1) (lv' := [(3, .inl (x3 + 1)), (2, .inl (x2 ^^^ r3)), (0, .inr (some 0)), (1, .inl x1)]) d_Mo_game_43 rfl rfl (by decide) rfl ?_
      refine go_goto (tgt := 21) d_Mo_game_46 (by decide) ?_
      exact go_lv [2, 3, 1, 0] rfl (ih (x2 ^^^ r3) (x3 + 1) h hX)
def J_Mo_game_127 (k : Int32 → Option ((Unit) ⊕ (Int32 × gb_Mem))) (x1 x2 x3 : Int32) (I : gb_Mem) : Option ((Unit) ⊕ (Int32 × gb_Mem)) :=
  k (x3 + 1)
set_option maxRecDepth 4000 in
theorem j_Mo_game_127 (l : Launch) (d0 : Nat) {post : Option gb_AV → List gb_Ce → gb_Mem → Prop} (k : Int32 → Option ((Unit) ⊕ (Int32 × gb_Mem))) (x1 x2 x3 : Int32) (I : gb_Mem) {ρ : (Unit) ⊕ (Int32 × gb_Mem)} (h : J_Mo_game_127 k x1 x2 x3 I = some ρ) (hk : ∀ (z3 : Int32), k z3 = some ρ → gb_Go l yMo_game (d0 + 1) 0 0 51 [(0, .inr (some 0)), (1, .inl x1), (2, .inl x2), (3, .inl z3)] [] shM I post) (hX : ρ = .inl () → gb_Go l yMo_game (d0 + 1) 0 0 133 [] [] shM I post) (hR : ∀ (v : Int32) (I3 : gb_Mem), ρ = .inr (v, I3) → post (some (.inl v)) shM I3) : gb_Go l yMo_game (d0 + 1) 0 0 127 [(0, .inr (some 0)), (1, .inl x1), (2, .inl x2), (3, .inl x3)] [] shM I post := by
  unfold J_Mo_game_127 at h
  refine go_iinc (k := 3) (v := x3 + 1) (lv' := [(3, .inl (x3 + 1)), (0, .inr (some 0)), (1, .inl x1), (2, .inl x2)]) d_Mo_game_127 rfl rfl (by decide) rfl ?_
  refine go_goto (tgt := 51) d_Mo_game_130 (by decide) ?_
  exact go_lv [1, 2, 3, 0] rfl (hk _ h)
def J_Mo_game_106 (k : Int32 → Option ((Unit) ⊕ (Int32 × gb_Mem))) (x1 x2 x3 x4 x5 : Int32) (I : gb_Mem) : Option ((Unit) ⊕ (Int32 × gb_Mem)) :=
  if x4 ≤ 0 then
    J_Mo_game_127 k x1 x2 x3 I
  else
    if x5 = 0 then
      if x1 = 0 then
        some (.inr (x3, I))
      else
        some (.inr (x4, I))
    else
      J_Mo_game_127 k x1 x2 x3 I
set_option maxRecDepth 4000 in
theorem j_Mo_game_106 (l : Launch) (d0 : Nat) {post : Option gb_AV → List gb_Ce → gb_Mem → Prop} (k : Int32 → Option ((Unit) ⊕ (Int32 × gb_Mem))) (x1 x2 x3 x4 x5 : Int32) (I : gb_Mem) {ρ : (Unit) ⊕ (Int32 × gb_Mem)} (h : J_Mo_game_106 k x1 x2 x3 x4 x5 I = some ρ) (hk : ∀ (z3 : Int32), k z3 = some ρ → gb_Go l yMo_game (d0 + 1) 0 0 51 [(0, .inr (some 0)), (1, .inl x1), (2, .inl x2), (3, .inl z3)] [] shM I post) (hX : ρ = .inl () → gb_Go l yMo_game (d0 + 1) 0 0 133 [] [] shM I post) (hR : ∀ (v : Int32) (I3 : gb_Mem), ρ = .inr (v, I3) → post (some (.inl v)) shM I3) : gb_Go l yMo_game (d0 + 1) 0 0 106 [(0, .inr (some 0)), (1, .inl x1), (2, .inl x2), (3, .inl x3), (4, .inl x4), (5, .inl x5)] [] shM I post := by
  unfold J_Mo_game_106 at h
  refine go_iload (k := 4) d_Mo_game_106 rfl ?_
  refine go_if_le (tgt := 127) d_Mo_game_108 (by decide) (fun hc => ?_) (fun hc => ?_)
  · rw [if_pos hc] at h
    exact go_lv [0, 1, 2, 3] rfl (j_Mo_game_127 l d0 k x1 x2 x3 I h hk hX hR)
  · rw [if_neg hc] at h
    refine go_iload (k := 5) d_Mo_game_111 rfl ?_
    refine go_if_ne (tgt := 127) d_Mo_game_113 (by decide) (fun hc => ?_) (fun hc => ?_)
    · rw [if_neg hc] at h
      exact go_lv [0, 1, 2, 3] rfl (j_Mo_game_127 l d0 k x1 x2 x3 I h hk hX hR)
    · rw [if_pos hc] at h
      refine go_iload_n (k := 1) d_Mo_game_116 rfl rfl ?_
      refine go_if_ne (tgt := 124) d_Mo_game_117 (by decide) (fun hc => ?_) (fun hc => ?_)
      · rw [if_neg hc] at h
        refine go_iload (k := 4) d_Mo_game_124 rfl ?_
        exact go_ireturn d_Mo_game_126 rfl (hR _ _ (Option.some.inj h).symm)
      · rw [if_pos hc] at h
        refine go_iload_n (k := 3) d_Mo_game_120 rfl rfl ?_
        refine go_goto (tgt := 126) d_Mo_game_121 (by decide) ?_
        exact go_ireturn d_Mo_game_126 rfl (hR _ _ (Option.some.inj h).symm)
def L_Mo_game_51 (x1 x2 : Int32) (I : gb_Mem) : Nat → Int32 → Option ((Unit) ⊕ (Int32 × gb_Mem))
  | 0, _ => none
  | n + 1, x3 =>
    if 12 ≤ x3 then
      some (.inl ())
    else
      flod I 1 80 (18 + x3) fun v5 =>
      fbd (F_Mo_nimber v5 I) fun r6 =>
      if v5 ≤ 0 then
        J_Mo_game_106 (L_Mo_game_51 x1 x2 I n) x1 x2 x3 v5 (x2 ^^^ r6) I
      else
        fbd (F_Mo_nimber (v5 - 1) I) fun r7 =>
        if r7 = (x2 ^^^ r6) then
          if x1 = 0 then
            some (.inr (x3, I))
          else
            some (.inr (1, I))
        else
          J_Mo_game_106 (L_Mo_game_51 x1 x2 I n) x1 x2 x3 v5 (x2 ^^^ r6) I
set_option maxRecDepth 4000 in
theorem l_Mo_game_51 (l : Launch) (d0 : Nat) (x1 x2 : Int32) (I : gb_Mem) {post : Option gb_AV → List gb_Ce → gb_Mem → Prop} : ∀ (n : Nat) (x3 : Int32) {ρ : (Unit) ⊕ (Int32 × gb_Mem)} (h : L_Mo_game_51 x1 x2 I n x3 = some ρ) (hX : ρ = .inl () → gb_Go l yMo_game (d0 + 1) 0 0 133 [] [] shM I post) (hR : ∀ (v : Int32) (I3 : gb_Mem), ρ = .inr (v, I3) → post (some (.inl v)) shM I3) , gb_Go l yMo_game (d0 + 1) 0 0 51 [(0, .inr (some 0)), (1, .inl x1), (2, .inl x2), (3, .inl x3)] [] shM I post := by
  intro n
  induction n with
  | zero => intro x3 ρ h hX hR; cases h
  | succ n ih =>
    intro x3 ρ h hX hR
    rw [L_Mo_game_51] at h
    refine go_iload_n (k := 3) d_Mo_game_51 rfl rfl ?_
    refine go_bipush (v := 12) d_Mo_game_52 (by decide) ?_
    refine go_cmp_ge (tgt := 133) d_Mo_game_54 (by decide) (fun hc => ?_) (fun hc => ?_)
    · rw [if_pos hc] at h
      exact go_lv [] rfl (hX (Option.some.inj h).symm)
    · rw [if_neg hc] at h
      refine go_aload_n (k := 0) d_Mo_game_57 rfl rfl ?_
      refine go_getr (ci := 10) (k := 1) (r := 1) d_Mo_game_58 a_M_0 rfl (by decide) f_Mo_7 rfl ?_
      refine go_bipush (v := 18) d_Mo_game_61 (by decide) ?_
      refine go_iload_n (k := 3) d_Mo_game_63 rfl rfl ?_
      refine go_iadd d_Mo_game_64 ?_
      obtain ⟨hi, v5, ev5, h⟩ := flod_e h
      refine go_iald2 d_Mo_game_65 a_M_1 hi ev5 ?_
      refine go_istore (lv' := [(4, .inl v5), (0, .inr (some 0)), (1, .inl x1), (2, .inl x2), (3, .inl x3)]) d_Mo_game_66 (by decide) rfl ?_
      refine go_iload_n (k := 3) d_Mo_game_68 rfl rfl ?_
      refine go_aload_n (k := 1) d_Mo_game_69 rfl rfl ?_
      refine go_iload (k := 0) d_Mo_game_70 rfl ?_
      obtain ⟨r6, w1, h⟩ := fbd_e h
      refine go_callV (y := yMo_nimber) (asr := [.inl v5]) (v := some (.inl r6)) (I' := I) (st1 := [.inl r6, .inl x2]) d_Mo_game_72 s_yMo_nimber m_Mo_487 a_M_0 rfl rfl rfl (Nat.le_of_ble_eq_true rfl) rfl rfl (c_Mo_nimber l (d0 + 0) v5 I w1) ?_
      refine go_ixor d_Mo_game_75 ?_
      refine go_istore (lv' := [(5, .inl (x2 ^^^ r6)), (4, .inl v5), (0, .inr (some 0)), (1, .inl x1), (2, .inl x2), (3, .inl x3)]) d_Mo_game_76 (by decide) rfl ?_
      refine go_iload (k := 1) d_Mo_game_78 rfl ?_
      refine go_if_le (tgt := 106) d_Mo_game_80 (by decide) (fun hc => ?_) (fun hc => ?_)
      · rw [if_pos hc] at h
        exact go_lv [2, 3, 4, 5, 1, 0] rfl (j_Mo_game_106 l d0 (L_Mo_game_51 x1 x2 I n) x1 x2 x3 v5 (x2 ^^^ r6) I h (fun z3 hh => ih z3 hh hX hR) hX hR)
      · rw [if_neg hc] at h
        refine go_aload_n (k := 2) d_Mo_game_83 rfl rfl ?_
        refine go_iload (k := 1) d_Mo_game_84 rfl ?_
        refine go_iconst (v := 1) d_Mo_game_86 (by decide) ?_
        refine go_isub d_Mo_game_87 ?_
        obtain ⟨r7, w1, h⟩ := fbd_e h
        refine go_callV (y := yMo_nimber) (asr := [.inl (v5 - 1)]) (v := some (.inl r7)) (I' := I) (st1 := [.inl r7]) d_Mo_game_88 s_yMo_nimber m_Mo_487 a_M_0 rfl rfl rfl (Nat.le_of_ble_eq_true rfl) rfl rfl (c_Mo_nimber l (d0 + 0) (v5 - 1) I w1) ?_
        refine go_iload (k := 0) d_Mo_game_91 rfl ?_
        refine go_cmp_ne (tgt := 106) d_Mo_game_93 (by decide) (fun hc => ?_) (fun hc => ?_)
        · rw [if_neg hc] at h
          exact go_lv [2, 3, 4, 5, 1, 0] rfl (j_Mo_game_106 l d0 (L_Mo_game_51 x1 x2 I n) x1 x2 x3 v5 (x2 ^^^ r6) I h (fun z3 hh => ih z3 hh hX hR) hX hR)
        · rw [if_pos hc] at h
          refine go_iload_n (k := 3) d_Mo_game_96 rfl rfl ?_
          refine go_if_ne (tgt := 104) d_Mo_game_97 (by decide) (fun hc => ?_) (fun hc => ?_)
          · rw [if_neg hc] at h
            refine go_iconst (v := 1) d_Mo_game_104 (by decide) ?_
            exact go_ireturn d_Mo_game_105 rfl (hR _ _ (Option.some.inj h).symm)
          · rw [if_pos hc] at h
            refine go_iload_n (k := 5) d_Mo_game_100 rfl rfl ?_
            refine go_goto (tgt := 105) d_Mo_game_101 (by decide) ?_
            exact go_ireturn d_Mo_game_105 rfl (hR _ _ (Option.some.inj h).symm)
def F_Mo_game (x1 : Int32) (I : gb_Mem) : Option (Int32 × gb_Mem) :=
  fstf I 0 0 0 fun I1 =>
  if (F_Mo_isIn x1 0 1 I1) = 0 then
    some ((-1), I1)
  else
    fbd (L_Mo_game_21 x1 I1 5000 0 0) fun o4 =>
    fbr (L_Mo_game_51 x1 o4 I1 5000 0) (fun _ =>
      some ((-1), I1))
      (fun (q8, I9) => some (q8, I9))
set_option maxRecDepth 4000 in
theorem c_Mo_game (l : Launch) (d0 : Nat) (x1 : Int32) (I : gb_Mem) {rz : Int32} {Iz : gb_Mem} (h : F_Mo_game x1 I = some (rz, Iz)) : gb_Cs l yMo_game (d0 + 1) [.inr (some 0), .inl x1] shM I (some (.inl rz)) Iz := by
  refine gb_Ct.of (lv := [(0, .inr (some 0)), (1, .inl x1)]) rfl (Nat.le_of_ble_eq_true rfl) rfl ?_
  unfold F_Mo_game at h
  show gb_Go l yMo_game (d0 + 1) 0 0 0 [(0, .inr (some 0)), (1, .inl x1)] [] shM I (gb_po shM (some (.inl rz)) Iz)
  refine go_aload_n (k := 0) d_Mo_game_0 rfl rfl ?_
  refine go_iconst (v := 0) d_Mo_game_1 (by decide) ?_
  obtain ⟨I1, eI1, h⟩ := fstf_e h
  refine go_putT (ci := 10) (k := 0) (I' := I1) d_Mo_game_2 a_M_0 rfl (by decide) f_Mo_137 rfl rfl rfl rfl rfl eI1 ?_
  refine go_aload_n (k := 0) d_Mo_game_5 rfl rfl ?_
  refine go_iload_n (k := 1) d_Mo_game_6 rfl rfl ?_
  refine go_iconst (v := 0) d_Mo_game_7 (by decide) ?_
  refine go_iconst (v := 1) d_Mo_game_8 (by decide) ?_
  refine go_callV (y := yMo_isIn) (asr := [.inl x1, .inl 0, .inl 1]) (v := some (.inl (F_Mo_isIn x1 0 1 I1))) (I' := I1) (st1 := [.inl (F_Mo_isIn x1 0 1 I1)]) d_Mo_game_9 s_yMo_isIn m_Mo_157 a_M_0 rfl rfl rfl (Nat.le_of_ble_eq_true rfl) rfl rfl (c_Mo_isIn l (d0 + 0) x1 0 1 I1) ?_
  refine go_if_ne (tgt := 17) d_Mo_game_12 (by decide) (fun hc => ?_) (fun hc => ?_)
  · rw [if_neg hc] at h
    refine go_iconst (v := 0) d_Mo_game_17 (by decide) ?_
    refine go_istore_n (lv' := [(2, .inl 0), (0, .inr (some 0)), (1, .inl x1)]) d_Mo_game_18 rfl (by decide) rfl ?_
    refine go_iconst (v := 0) d_Mo_game_19 (by decide) ?_
    refine go_istore_n (lv' := [(3, .inl 0), (2, .inl 0), (0, .inr (some 0)), (1, .inl x1)]) d_Mo_game_20 rfl (by decide) rfl ?_
    refine go_lv [2, 3, 1, 0] (lv' := [(0, .inr (some 0)), (1, .inl x1), (2, .inl 0), (3, .inl 0)]) rfl ?_
    obtain ⟨o4, w1, h⟩ := fbd_e h
    refine l_Mo_game_21 l d0 x1 I1 5000 0 0 w1 (fun o4_ e => ?_)
    cases e
    refine go_iconst (v := 0) d_Mo_game_49 (by decide) ?_
    refine go_istore_n (lv' := [(3, .inl 0), (0, .inr (some 0)), (1, .inl x1), (2, .inl o4)]) d_Mo_game_50 rfl (by decide) rfl ?_
    refine go_lv [1, 2, 3, 0] (lv' := [(0, .inr (some 0)), (1, .inl x1), (2, .inl o4), (3, .inl 0)]) rfl ?_
    obtain ⟨ρ, w1, w2, w3⟩ := fbr_e2 h
    refine l_Mo_game_51 l d0 x1 o4 I1 5000 0 w1 (fun  e => ?_) (fun q8 I9 e => ?_)
    · have h := w2 _ e
      try dsimp only at h
      refine go_iconst (v := (-1)) d_Mo_game_133 (by decide) ?_
      cases h
      exact go_ireturn d_Mo_game_134 rfl gb_po_i
    · have h := w3 _ e
      try dsimp only at h
      cases h
      exact gb_po_i
  · rw [if_pos hc] at h
    refine go_iconst (v := (-1)) d_Mo_game_15 (by decide) ?_
    cases h
    exact go_ireturn d_Mo_game_16 rfl gb_po_i
theorem d_Mo_givenBy_0 : decode yMo_givenBy.2.1 0 = .ok (.iconst 0, 1) := by decide +kernel
theorem d_Mo_givenBy_1 : decode yMo_givenBy.2.1 1 = .ok (.istore_n 2, 1) := by decide +kernel
theorem d_Mo_givenBy_2 : decode yMo_givenBy.2.1 2 = .ok (.iconst 0, 1) := by decide +kernel
theorem d_Mo_givenBy_3 : decode yMo_givenBy.2.1 3 = .ok (.istore_n 3, 1) := by decide +kernel
theorem d_Mo_givenBy_4 : decode yMo_givenBy.2.1 4 = .ok (.iload_n 3, 1) := by decide +kernel
theorem d_Mo_givenBy_5 : decode yMo_givenBy.2.1 5 = .ok (.bipush 8, 2) := by decide +kernel
theorem d_Mo_givenBy_7 : decode yMo_givenBy.2.1 7 = .ok (.if_icmp .ge 27, 3) := by decide +kernel
theorem d_Mo_givenBy_10 : decode yMo_givenBy.2.1 10 = .ok (.aload_n 0, 1) := by decide +kernel
theorem d_Mo_givenBy_11 : decode yMo_givenBy.2.1 11 = .ok (.iload_n 1, 1) := by decide +kernel
theorem d_Mo_givenBy_12 : decode yMo_givenBy.2.1 12 = .ok (.iload_n 3, 1) := by decide +kernel
theorem d_Mo_givenBy_13 : decode yMo_givenBy.2.1 13 = .ok (.invokevirtual 391, 3) := by decide +kernel
theorem d_Mo_givenBy_16 : decode yMo_givenBy.2.1 16 = .ok (.ifCond .eq 12, 3) := by decide +kernel
theorem d_Mo_givenBy_19 : decode yMo_givenBy.2.1 19 = .ok (.iload_n 2, 1) := by decide +kernel
theorem d_Mo_givenBy_20 : decode yMo_givenBy.2.1 20 = .ok (.aload_n 0, 1) := by decide +kernel
theorem d_Mo_givenBy_21 : decode yMo_givenBy.2.1 21 = .ok (.getfield 113, 3) := by decide +kernel
theorem d_Mo_givenBy_24 : decode yMo_givenBy.2.1 24 = .ok (.iload_n 3, 1) := by decide +kernel
theorem d_Mo_givenBy_25 : decode yMo_givenBy.2.1 25 = .ok (.iaload, 1) := by decide +kernel
theorem d_Mo_givenBy_26 : decode yMo_givenBy.2.1 26 = .ok (.ior, 1) := by decide +kernel
theorem d_Mo_givenBy_27 : decode yMo_givenBy.2.1 27 = .ok (.istore_n 2, 1) := by decide +kernel
theorem d_Mo_givenBy_28 : decode yMo_givenBy.2.1 28 = .ok (.iinc 3 1, 3) := by decide +kernel
theorem d_Mo_givenBy_31 : decode yMo_givenBy.2.1 31 = .ok (.goto (-27), 3) := by decide +kernel
theorem d_Mo_givenBy_34 : decode yMo_givenBy.2.1 34 = .ok (.iload_n 2, 1) := by decide +kernel
theorem d_Mo_givenBy_35 : decode yMo_givenBy.2.1 35 = .ok (.ireturn, 1) := by decide +kernel
def J_Mo_givenBy_28 (k : Int32 → Int32 → Option (Int32)) (x1 x2 x3 : Int32) (I : gb_Mem) : Option (Int32) :=
  k x2 (x3 + 1)
set_option maxRecDepth 4000 in
theorem j_Mo_givenBy_28 (l : Launch) (d0 : Nat) {post : Option gb_AV → List gb_Ce → gb_Mem → Prop} (k : Int32 → Int32 → Option (Int32)) (x1 x2 x3 : Int32) (I : gb_Mem) {ρ : Int32} (h : J_Mo_givenBy_28 k x1 x2 x3 I = some ρ) (hk : ∀ (z2 z3 : Int32), k z2 z3 = some ρ → gb_Go l yMo_givenBy (d0 + 1) 0 0 4 [(0, .inr (some 0)), (1, .inl x1), (2, .inl z2), (3, .inl z3)] [] shM I post) (hX : ∀ (o2 : Int32), ρ = o2 → gb_Go l yMo_givenBy (d0 + 1) 0 0 34 [(2, .inl o2)] [] shM I post) : gb_Go l yMo_givenBy (d0 + 1) 0 0 28 [(0, .inr (some 0)), (1, .inl x1), (2, .inl x2), (3, .inl x3)] [] shM I post := by
  unfold J_Mo_givenBy_28 at h
  refine go_iinc (k := 3) (v := x3 + 1) (lv' := [(3, .inl (x3 + 1)), (0, .inr (some 0)), (1, .inl x1), (2, .inl x2)]) d_Mo_givenBy_28 rfl rfl (by decide) rfl ?_
  refine go_goto (tgt := 4) d_Mo_givenBy_31 (by decide) ?_
  exact go_lv [1, 2, 3, 0] rfl (hk _ _ h)
def L_Mo_givenBy_4 (x1 : Int32) (I : gb_Mem) : Nat → Int32 → Int32 → Option (Int32)
  | 0, _, _ => none
  | n + 1, x2, x3 =>
    if 8 ≤ x3 then
      some x2
    else
      if (F_Mo_has x1 x3 I) = 0 then
        J_Mo_givenBy_28 (L_Mo_givenBy_4 x1 I n) x1 x2 x3 I
      else
        flod I 34 8 x3 fun v1 =>
        J_Mo_givenBy_28 (L_Mo_givenBy_4 x1 I n) x1 (x2 ||| v1) x3 I
set_option maxRecDepth 4000 in
theorem l_Mo_givenBy_4 (l : Launch) (d0 : Nat) (x1 : Int32) (I : gb_Mem) {post : Option gb_AV → List gb_Ce → gb_Mem → Prop} : ∀ (n : Nat) (x2 x3 : Int32) {ρ : Int32} (h : L_Mo_givenBy_4 x1 I n x2 x3 = some ρ) (hX : ∀ (o2 : Int32), ρ = o2 → gb_Go l yMo_givenBy (d0 + 1) 0 0 34 [(2, .inl o2)] [] shM I post) , gb_Go l yMo_givenBy (d0 + 1) 0 0 4 [(0, .inr (some 0)), (1, .inl x1), (2, .inl x2), (3, .inl x3)] [] shM I post := by
  intro n
  induction n with
  | zero => intro x2 x3 ρ h hX; cases h
  | succ n ih =>
    intro x2 x3 ρ h hX
    rw [L_Mo_givenBy_4] at h
    refine go_iload_n (k := 3) d_Mo_givenBy_4 rfl rfl ?_
    refine go_bipush (v := 8) d_Mo_givenBy_5 (by decide) ?_
    refine go_cmp_ge (tgt := 34) d_Mo_givenBy_7 (by decide) (fun hc => ?_) (fun hc => ?_)
    · rw [if_pos hc] at h
      exact go_lv [2] rfl (hX _ (Option.some.inj h).symm)
    · rw [if_neg hc] at h
      refine go_aload_n (k := 0) d_Mo_givenBy_10 rfl rfl ?_
      refine go_iload_n (k := 1) d_Mo_givenBy_11 rfl rfl ?_
      refine go_iload_n (k := 3) d_Mo_givenBy_12 rfl rfl ?_
      refine go_callV (y := yMo_has) (asr := [.inl x1, .inl x3]) (v := some (.inl (F_Mo_has x1 x3 I))) (I' := I) (st1 := [.inl (F_Mo_has x1 x3 I)]) d_Mo_givenBy_13 s_yMo_has m_Mo_391 a_M_0 rfl rfl rfl (Nat.le_of_ble_eq_true rfl) rfl rfl (c_Mo_has l (d0 + 0) x1 x3 I) ?_
      refine go_if_eq (tgt := 28) d_Mo_givenBy_16 (by decide) (fun hc => ?_) (fun hc => ?_)
      · rw [if_pos hc] at h
        exact go_lv [0, 1, 2, 3] rfl (j_Mo_givenBy_28 l d0 (L_Mo_givenBy_4 x1 I n) x1 x2 x3 I h (fun z2 z3 hh => ih z2 z3 hh hX) hX)
      · rw [if_neg hc] at h
        refine go_iload_n (k := 2) d_Mo_givenBy_19 rfl rfl ?_
        refine go_aload_n (k := 0) d_Mo_givenBy_20 rfl rfl ?_
        refine go_getr (ci := 10) (k := 57) (r := 34) d_Mo_givenBy_21 a_M_0 rfl (by decide) f_Mo_113 rfl ?_
        refine go_iload_n (k := 3) d_Mo_givenBy_24 rfl rfl ?_
        obtain ⟨hi, v1, ev1, h⟩ := flod_e h
        refine go_iald2 d_Mo_givenBy_25 a_M_34 hi ev1 ?_
        refine go_ior d_Mo_givenBy_26 ?_
        refine go_istore_n (lv' := [(2, .inl (x2 ||| v1)), (0, .inr (some 0)), (1, .inl x1), (3, .inl x3)]) d_Mo_givenBy_27 rfl (by decide) rfl ?_
        exact go_lv [1, 2, 0, 3] rfl (j_Mo_givenBy_28 l d0 (L_Mo_givenBy_4 x1 I n) x1 (x2 ||| v1) x3 I h (fun z2 z3 hh => ih z2 z3 hh hX) hX)
def F_Mo_givenBy (x1 : Int32) (I : gb_Mem) : Option (Int32) :=
  fbd (L_Mo_givenBy_4 x1 I 5000 0 0) fun o2 =>
  some o2
set_option maxRecDepth 4000 in
theorem c_Mo_givenBy (l : Launch) (d0 : Nat) (x1 : Int32) (I : gb_Mem) {rz : Int32} (h : F_Mo_givenBy x1 I = some rz) : gb_Cs l yMo_givenBy (d0 + 1) [.inr (some 0), .inl x1] shM I (some (.inl rz)) I := by
  refine gb_Ct.of (lv := [(0, .inr (some 0)), (1, .inl x1)]) rfl (Nat.le_of_ble_eq_true rfl) rfl ?_
  unfold F_Mo_givenBy at h
  show gb_Go l yMo_givenBy (d0 + 1) 0 0 0 [(0, .inr (some 0)), (1, .inl x1)] [] shM I (gb_po shM (some (.inl rz)) I)
  refine go_iconst (v := 0) d_Mo_givenBy_0 (by decide) ?_
  refine go_istore_n (lv' := [(2, .inl 0), (0, .inr (some 0)), (1, .inl x1)]) d_Mo_givenBy_1 rfl (by decide) rfl ?_
  refine go_iconst (v := 0) d_Mo_givenBy_2 (by decide) ?_
  refine go_istore_n (lv' := [(3, .inl 0), (2, .inl 0), (0, .inr (some 0)), (1, .inl x1)]) d_Mo_givenBy_3 rfl (by decide) rfl ?_
  refine go_lv [2, 3, 1, 0] (lv' := [(0, .inr (some 0)), (1, .inl x1), (2, .inl 0), (3, .inl 0)]) rfl ?_
  obtain ⟨o2, w1, h⟩ := fbd_e h
  refine l_Mo_givenBy_4 l d0 x1 I 5000 0 0 w1 (fun o2_ e => ?_)
  cases e
  refine go_iload_n (k := 0) d_Mo_givenBy_34 rfl rfl ?_
  cases h
  exact go_ireturn d_Mo_givenBy_35 rfl gb_po_i
theorem d_Mo_gives_0 : decode yMo_gives.2.1 0 = .ok (.aload_n 0, 1) := by decide +kernel
theorem d_Mo_gives_1 : decode yMo_gives.2.1 1 = .ok (.iconst 0, 1) := by decide +kernel
theorem d_Mo_gives_2 : decode yMo_gives.2.1 2 = .ok (.putfield 137, 3) := by decide +kernel
theorem d_Mo_gives_5 : decode yMo_gives.2.1 5 = .ok (.iload_n 1, 1) := by decide +kernel
theorem d_Mo_gives_6 : decode yMo_gives.2.1 6 = .ok (.iconst (-1), 1) := by decide +kernel
theorem d_Mo_gives_7 : decode yMo_gives.2.1 7 = .ok (.if_icmp .ne 31, 3) := by decide +kernel
theorem d_Mo_gives_10 : decode yMo_gives.2.1 10 = .ok (.aload_n 0, 1) := by decide +kernel
theorem d_Mo_gives_11 : decode yMo_gives.2.1 11 = .ok (.iconst 0, 1) := by decide +kernel
theorem d_Mo_gives_12 : decode yMo_gives.2.1 12 = .ok (.putfield 456, 3) := by decide +kernel
theorem d_Mo_gives_15 : decode yMo_gives.2.1 15 = .ok (.iconst 0, 1) := by decide +kernel
theorem d_Mo_gives_16 : decode yMo_gives.2.1 16 = .ok (.istore_n 3, 1) := by decide +kernel
theorem d_Mo_gives_17 : decode yMo_gives.2.1 17 = .ok (.iload_n 3, 1) := by decide +kernel
theorem d_Mo_gives_18 : decode yMo_gives.2.1 18 = .ok (.bipush 8, 2) := by decide +kernel
theorem d_Mo_gives_20 : decode yMo_gives.2.1 20 = .ok (.if_icmp .ge 16, 3) := by decide +kernel
theorem d_Mo_gives_23 : decode yMo_gives.2.1 23 = .ok (.aload_n 0, 1) := by decide +kernel
theorem d_Mo_gives_24 : decode yMo_gives.2.1 24 = .ok (.getfield 113, 3) := by decide +kernel
theorem d_Mo_gives_27 : decode yMo_gives.2.1 27 = .ok (.iload_n 3, 1) := by decide +kernel
theorem d_Mo_gives_28 : decode yMo_gives.2.1 28 = .ok (.iconst 0, 1) := by decide +kernel
theorem d_Mo_gives_29 : decode yMo_gives.2.1 29 = .ok (.iastore, 1) := by decide +kernel
theorem d_Mo_gives_30 : decode yMo_gives.2.1 30 = .ok (.iinc 3 1, 3) := by decide +kernel
theorem d_Mo_gives_33 : decode yMo_gives.2.1 33 = .ok (.goto (-16), 3) := by decide +kernel
theorem d_Mo_gives_36 : decode yMo_gives.2.1 36 = .ok (.iconst 0, 1) := by decide +kernel
theorem d_Mo_gives_37 : decode yMo_gives.2.1 37 = .ok (.ireturn, 1) := by decide +kernel
theorem d_Mo_gives_38 : decode yMo_gives.2.1 38 = .ok (.aload_n 0, 1) := by decide +kernel
theorem d_Mo_gives_39 : decode yMo_gives.2.1 39 = .ok (.iload_n 1, 1) := by decide +kernel
theorem d_Mo_gives_40 : decode yMo_gives.2.1 40 = .ok (.iconst 0, 1) := by decide +kernel
theorem d_Mo_gives_41 : decode yMo_gives.2.1 41 = .ok (.bipush 7, 2) := by decide +kernel
theorem d_Mo_gives_43 : decode yMo_gives.2.1 43 = .ok (.invokevirtual 157, 3) := by decide +kernel
theorem d_Mo_gives_46 : decode yMo_gives.2.1 46 = .ok (.ifCond .eq 28, 3) := by decide +kernel
theorem d_Mo_gives_49 : decode yMo_gives.2.1 49 = .ok (.aload_n 0, 1) := by decide +kernel
theorem d_Mo_gives_50 : decode yMo_gives.2.1 50 = .ok (.iload_n 2, 1) := by decide +kernel
theorem d_Mo_gives_51 : decode yMo_gives.2.1 51 = .ok (.iconst 0, 1) := by decide +kernel
theorem d_Mo_gives_52 : decode yMo_gives.2.1 52 = .ok (.bipush 7, 2) := by decide +kernel
theorem d_Mo_gives_54 : decode yMo_gives.2.1 54 = .ok (.invokevirtual 157, 3) := by decide +kernel
theorem d_Mo_gives_57 : decode yMo_gives.2.1 57 = .ok (.ifCond .eq 17, 3) := by decide +kernel
theorem d_Mo_gives_60 : decode yMo_gives.2.1 60 = .ok (.iload_n 1, 1) := by decide +kernel
theorem d_Mo_gives_61 : decode yMo_gives.2.1 61 = .ok (.iload_n 2, 1) := by decide +kernel
theorem d_Mo_gives_62 : decode yMo_gives.2.1 62 = .ok (.if_icmp .eq 12, 3) := by decide +kernel
theorem d_Mo_gives_65 : decode yMo_gives.2.1 65 = .ok (.aload_n 0, 1) := by decide +kernel
theorem d_Mo_gives_66 : decode yMo_gives.2.1 66 = .ok (.getfield 456, 3) := by decide +kernel
theorem d_Mo_gives_69 : decode yMo_gives.2.1 69 = .ok (.bipush 16, 2) := by decide +kernel
theorem d_Mo_gives_71 : decode yMo_gives.2.1 71 = .ok (.if_icmp .ne 5, 3) := by decide +kernel
theorem d_Mo_gives_74 : decode yMo_gives.2.1 74 = .ok (.iconst (-1), 1) := by decide +kernel
theorem d_Mo_gives_75 : decode yMo_gives.2.1 75 = .ok (.ireturn, 1) := by decide +kernel
theorem d_Mo_gives_76 : decode yMo_gives.2.1 76 = .ok (.aload_n 0, 1) := by decide +kernel
theorem d_Mo_gives_77 : decode yMo_gives.2.1 77 = .ok (.getfield 113, 3) := by decide +kernel
theorem d_Mo_gives_80 : decode yMo_gives.2.1 80 = .ok (.iload_n 1, 1) := by decide +kernel
theorem d_Mo_gives_81 : decode yMo_gives.2.1 81 = .ok (.aload_n 0, 1) := by decide +kernel
theorem d_Mo_gives_82 : decode yMo_gives.2.1 82 = .ok (.getfield 113, 3) := by decide +kernel
theorem d_Mo_gives_85 : decode yMo_gives.2.1 85 = .ok (.iload_n 1, 1) := by decide +kernel
theorem d_Mo_gives_86 : decode yMo_gives.2.1 86 = .ok (.iaload, 1) := by decide +kernel
theorem d_Mo_gives_87 : decode yMo_gives.2.1 87 = .ok (.iconst 1, 1) := by decide +kernel
theorem d_Mo_gives_88 : decode yMo_gives.2.1 88 = .ok (.iload_n 2, 1) := by decide +kernel
theorem d_Mo_gives_89 : decode yMo_gives.2.1 89 = .ok (.ishl, 1) := by decide +kernel
theorem d_Mo_gives_90 : decode yMo_gives.2.1 90 = .ok (.ior, 1) := by decide +kernel
theorem d_Mo_gives_91 : decode yMo_gives.2.1 91 = .ok (.iastore, 1) := by decide +kernel
theorem d_Mo_gives_92 : decode yMo_gives.2.1 92 = .ok (.aload_n 0, 1) := by decide +kernel
theorem d_Mo_gives_93 : decode yMo_gives.2.1 93 = .ok (.aload_n 0, 1) := by decide +kernel
theorem d_Mo_gives_94 : decode yMo_gives.2.1 94 = .ok (.getfield 456, 3) := by decide +kernel
theorem d_Mo_gives_97 : decode yMo_gives.2.1 97 = .ok (.iconst 1, 1) := by decide +kernel
theorem d_Mo_gives_98 : decode yMo_gives.2.1 98 = .ok (.iadd, 1) := by decide +kernel
theorem d_Mo_gives_99 : decode yMo_gives.2.1 99 = .ok (.putfield 456, 3) := by decide +kernel
theorem d_Mo_gives_102 : decode yMo_gives.2.1 102 = .ok (.aload_n 0, 1) := by decide +kernel
theorem d_Mo_gives_103 : decode yMo_gives.2.1 103 = .ok (.getfield 456, 3) := by decide +kernel
theorem d_Mo_gives_106 : decode yMo_gives.2.1 106 = .ok (.ireturn, 1) := by decide +kernel
def L_Mo_gives_17 : Nat → Int32 → gb_Mem → Option (gb_Mem)
  | 0, _, _ => none
  | n + 1, x3, I =>
    if 8 ≤ x3 then
      some I
    else
      fsto I 34 8 x3 0 fun I6 =>
      L_Mo_gives_17 n (x3 + 1) I6
set_option maxRecDepth 4000 in
theorem l_Mo_gives_17 (l : Launch) (d0 : Nat) {post : Option gb_AV → List gb_Ce → gb_Mem → Prop} : ∀ (n : Nat) (x3 : Int32) (I : gb_Mem) {ρ : gb_Mem} (h : L_Mo_gives_17 n x3 I = some ρ) (hX : ∀ (I2 : gb_Mem), ρ = I2 → gb_Go l yMo_gives (d0 + 1) 0 0 36 [] [] shM I2 post) , gb_Go l yMo_gives (d0 + 1) 0 0 17 [(0, .inr (some 0)), (3, .inl x3)] [] shM I post := by
  intro n
  induction n with
  | zero => intro x3 I ρ h hX; cases h
  | succ n ih =>
    intro x3 I ρ h hX
    rw [L_Mo_gives_17] at h
    refine go_iload_n (k := 1) d_Mo_gives_17 rfl rfl ?_
    refine go_bipush (v := 8) d_Mo_gives_18 (by decide) ?_
    refine go_cmp_ge (tgt := 36) d_Mo_gives_20 (by decide) (fun hc => ?_) (fun hc => ?_)
    · rw [if_pos hc] at h
      exact go_lv [] rfl (hX _ (Option.some.inj h).symm)
    · rw [if_neg hc] at h
      refine go_aload_n (k := 0) d_Mo_gives_23 rfl rfl ?_
      refine go_getr (ci := 10) (k := 57) (r := 34) d_Mo_gives_24 a_M_0 rfl (by decide) f_Mo_113 rfl ?_
      refine go_iload_n (k := 1) d_Mo_gives_27 rfl rfl ?_
      refine go_iconst (v := 0) d_Mo_gives_28 (by decide) ?_
      obtain ⟨hi, I6, eI6, h⟩ := fsto_e h
      refine go_iast (I' := I6) d_Mo_gives_29 a_M_34 hi eI6 ?_
      refine go_iinc (k := 1) (v := x3 + 1) (lv' := [(3, .inl (x3 + 1)), (0, .inr (some 0))]) d_Mo_gives_30 rfl rfl (by decide) rfl ?_
      refine go_goto (tgt := 17) d_Mo_gives_33 (by decide) ?_
      exact go_lv [1, 0] rfl (ih (x3 + 1) I6 h hX)
def F_Mo_gives (x1 x2 : Int32) (I : gb_Mem) : Option (Int32 × gb_Mem) :=
  fstf I 0 0 0 fun I1 =>
  if x1 = (-1) then
    fstf I1 0 56 0 fun I5 =>
    fbd (L_Mo_gives_17 5000 0 I5) fun I7 =>
    some (0, I7)
  else
    if (F_Mo_isIn x1 0 7 I1) = 0 then
      some ((-1), I1)
    else
      if (F_Mo_isIn x2 0 7 I1) = 0 then
        some ((-1), I1)
      else
        if x1 = x2 then
          some ((-1), I1)
        else
          if (I1 0 56) = 16 then
            some ((-1), I1)
          else
            flod I1 34 8 x1 fun v2 =>
            fsto I1 34 8 x1 (v2 ||| (1 <<< (x2 &&& 31))) fun I3 =>
            fstf I3 0 56 ((I3 0 56) + 1) fun I4 =>
            some (I4 0 56, I4)
set_option maxRecDepth 4000 in
theorem c_Mo_gives (l : Launch) (d0 : Nat) (x1 x2 : Int32) (I : gb_Mem) {rz : Int32} {Iz : gb_Mem} (h : F_Mo_gives x1 x2 I = some (rz, Iz)) : gb_Cs l yMo_gives (d0 + 1) [.inr (some 0), .inl x1, .inl x2] shM I (some (.inl rz)) Iz := by
  refine gb_Ct.of (lv := [(0, .inr (some 0)), (1, .inl x1), (2, .inl x2)]) rfl (Nat.le_of_ble_eq_true rfl) rfl ?_
  unfold F_Mo_gives at h
  show gb_Go l yMo_gives (d0 + 1) 0 0 0 [(0, .inr (some 0)), (1, .inl x1), (2, .inl x2)] [] shM I (gb_po shM (some (.inl rz)) Iz)
  refine go_aload_n (k := 0) d_Mo_gives_0 rfl rfl ?_
  refine go_iconst (v := 0) d_Mo_gives_1 (by decide) ?_
  obtain ⟨I1, eI1, h⟩ := fstf_e h
  refine go_putT (ci := 10) (k := 0) (I' := I1) d_Mo_gives_2 a_M_0 rfl (by decide) f_Mo_137 rfl rfl rfl rfl rfl eI1 ?_
  refine go_iload_n (k := 1) d_Mo_gives_5 rfl rfl ?_
  refine go_iconst (v := (-1)) d_Mo_gives_6 (by decide) ?_
  refine go_cmp_ne (tgt := 38) d_Mo_gives_7 (by decide) (fun hc => ?_) (fun hc => ?_)
  · rw [if_neg hc] at h
    refine go_aload_n (k := 0) d_Mo_gives_38 rfl rfl ?_
    refine go_iload_n (k := 1) d_Mo_gives_39 rfl rfl ?_
    refine go_iconst (v := 0) d_Mo_gives_40 (by decide) ?_
    refine go_bipush (v := 7) d_Mo_gives_41 (by decide) ?_
    refine go_callV (y := yMo_isIn) (asr := [.inl x1, .inl 0, .inl 7]) (v := some (.inl (F_Mo_isIn x1 0 7 I1))) (I' := I1) (st1 := [.inl (F_Mo_isIn x1 0 7 I1)]) d_Mo_gives_43 s_yMo_isIn m_Mo_157 a_M_0 rfl rfl rfl (Nat.le_of_ble_eq_true rfl) rfl rfl (c_Mo_isIn l (d0 + 0) x1 0 7 I1) ?_
    refine go_if_eq (tgt := 74) d_Mo_gives_46 (by decide) (fun hc => ?_) (fun hc => ?_)
    · rw [if_pos hc] at h
      refine go_iconst (v := (-1)) d_Mo_gives_74 (by decide) ?_
      cases h
      exact go_ireturn d_Mo_gives_75 rfl gb_po_i
    · rw [if_neg hc] at h
      refine go_aload_n (k := 0) d_Mo_gives_49 rfl rfl ?_
      refine go_iload_n (k := 2) d_Mo_gives_50 rfl rfl ?_
      refine go_iconst (v := 0) d_Mo_gives_51 (by decide) ?_
      refine go_bipush (v := 7) d_Mo_gives_52 (by decide) ?_
      refine go_callV (y := yMo_isIn) (asr := [.inl x2, .inl 0, .inl 7]) (v := some (.inl (F_Mo_isIn x2 0 7 I1))) (I' := I1) (st1 := [.inl (F_Mo_isIn x2 0 7 I1)]) d_Mo_gives_54 s_yMo_isIn m_Mo_157 a_M_0 rfl rfl rfl (Nat.le_of_ble_eq_true rfl) rfl rfl (c_Mo_isIn l (d0 + 0) x2 0 7 I1) ?_
      refine go_if_eq (tgt := 74) d_Mo_gives_57 (by decide) (fun hc => ?_) (fun hc => ?_)
      · rw [if_pos hc] at h
        refine go_iconst (v := (-1)) d_Mo_gives_74 (by decide) ?_
        cases h
        exact go_ireturn d_Mo_gives_75 rfl gb_po_i
      · rw [if_neg hc] at h
        refine go_iload_n (k := 1) d_Mo_gives_60 rfl rfl ?_
        refine go_iload_n (k := 2) d_Mo_gives_61 rfl rfl ?_
        refine go_cmp_eq (tgt := 74) d_Mo_gives_62 (by decide) (fun hc => ?_) (fun hc => ?_)
        · rw [if_pos hc] at h
          refine go_iconst (v := (-1)) d_Mo_gives_74 (by decide) ?_
          cases h
          exact go_ireturn d_Mo_gives_75 rfl gb_po_i
        · rw [if_neg hc] at h
          refine go_aload_n (k := 0) d_Mo_gives_65 rfl rfl ?_
          refine go_geti (ci := 10) (k := 56) d_Mo_gives_66 a_M_0 rfl (by decide) f_Mo_456 rfl ?_
          refine go_bipush (v := 16) d_Mo_gives_69 (by decide) ?_
          refine go_cmp_ne (tgt := 76) d_Mo_gives_71 (by decide) (fun hc => ?_) (fun hc => ?_)
          · rw [if_neg hc] at h
            refine go_aload_n (k := 0) d_Mo_gives_76 rfl rfl ?_
            refine go_getr (ci := 10) (k := 57) (r := 34) d_Mo_gives_77 a_M_0 rfl (by decide) f_Mo_113 rfl ?_
            refine go_iload_n (k := 1) d_Mo_gives_80 rfl rfl ?_
            refine go_aload_n (k := 0) d_Mo_gives_81 rfl rfl ?_
            refine go_getr (ci := 10) (k := 57) (r := 34) d_Mo_gives_82 a_M_0 rfl (by decide) f_Mo_113 rfl ?_
            refine go_iload_n (k := 1) d_Mo_gives_85 rfl rfl ?_
            obtain ⟨hi, v2, ev2, h⟩ := flod_e h
            refine go_iald2 d_Mo_gives_86 a_M_34 hi ev2 ?_
            refine go_iconst (v := 1) d_Mo_gives_87 (by decide) ?_
            refine go_iload_n (k := 2) d_Mo_gives_88 rfl rfl ?_
            refine go_ishl d_Mo_gives_89 ?_
            refine go_ior d_Mo_gives_90 ?_
            obtain ⟨hi, I3, eI3, h⟩ := fsto_e h
            refine go_iast (I' := I3) d_Mo_gives_91 a_M_34 hi eI3 ?_
            refine go_aload_n (k := 0) d_Mo_gives_92 rfl rfl ?_
            refine go_aload_n (k := 0) d_Mo_gives_93 rfl rfl ?_
            refine go_geti (ci := 10) (k := 56) d_Mo_gives_94 a_M_0 rfl (by decide) f_Mo_456 rfl ?_
            refine go_iconst (v := 1) d_Mo_gives_97 (by decide) ?_
            refine go_iadd d_Mo_gives_98 ?_
            obtain ⟨I4, eI4, h⟩ := fstf_e h
            refine go_putT (ci := 10) (k := 56) (I' := I4) d_Mo_gives_99 a_M_0 rfl (by decide) f_Mo_456 rfl rfl rfl rfl rfl eI4 ?_
            refine go_aload_n (k := 0) d_Mo_gives_102 rfl rfl ?_
            refine go_geti (ci := 10) (k := 56) d_Mo_gives_103 a_M_0 rfl (by decide) f_Mo_456 rfl ?_
            cases h
            exact go_ireturn d_Mo_gives_106 rfl gb_po_i
          · rw [if_pos hc] at h
            refine go_iconst (v := (-1)) d_Mo_gives_74 (by decide) ?_
            cases h
            exact go_ireturn d_Mo_gives_75 rfl gb_po_i
  · rw [if_pos hc] at h
    refine go_aload_n (k := 0) d_Mo_gives_10 rfl rfl ?_
    refine go_iconst (v := 0) d_Mo_gives_11 (by decide) ?_
    obtain ⟨I5, eI5, h⟩ := fstf_e h
    refine go_putT (ci := 10) (k := 56) (I' := I5) d_Mo_gives_12 a_M_0 rfl (by decide) f_Mo_456 rfl rfl rfl rfl rfl eI5 ?_
    refine go_iconst (v := 0) d_Mo_gives_15 (by decide) ?_
    refine go_istore_n (lv' := [(3, .inl 0), (0, .inr (some 0)), (1, .inl x1), (2, .inl x2)]) d_Mo_gives_16 rfl (by decide) rfl ?_
    refine go_lv [1, 0] (lv' := [(0, .inr (some 0)), (3, .inl 0)]) rfl ?_
    obtain ⟨I7, w1, h⟩ := fbd_e h
    refine l_Mo_gives_17 l d0  5000 0 I5 w1 (fun I7_ e => ?_)
    cases e
    refine go_iconst (v := 0) d_Mo_gives_36 (by decide) ?_
    cases h
    exact go_ireturn d_Mo_gives_37 rfl gb_po_i
theorem d_Mo_got_0 : decode yMo_got.2.1 0 = .ok (.aload_n 0, 1) := by decide +kernel
theorem d_Mo_got_1 : decode yMo_got.2.1 1 = .ok (.iconst 0, 1) := by decide +kernel
theorem d_Mo_got_2 : decode yMo_got.2.1 2 = .ok (.putfield 137, 3) := by decide +kernel
theorem d_Mo_got_5 : decode yMo_got.2.1 5 = .ok (.iload_n 1, 1) := by decide +kernel
theorem d_Mo_got_6 : decode yMo_got.2.1 6 = .ok (.ifCond .eq 9, 3) := by decide +kernel
theorem d_Mo_got_9 : decode yMo_got.2.1 9 = .ok (.iload_n 1, 1) := by decide +kernel
theorem d_Mo_got_10 : decode yMo_got.2.1 10 = .ok (.bipush 11, 2) := by decide +kernel
theorem d_Mo_got_12 : decode yMo_got.2.1 12 = .ok (.if_icmp .ne 35, 3) := by decide +kernel
theorem d_Mo_got_15 : decode yMo_got.2.1 15 = .ok (.aload_n 0, 1) := by decide +kernel
theorem d_Mo_got_16 : decode yMo_got.2.1 16 = .ok (.iload_n 2, 1) := by decide +kernel
theorem d_Mo_got_17 : decode yMo_got.2.1 17 = .ok (.iconst 0, 1) := by decide +kernel
theorem d_Mo_got_18 : decode yMo_got.2.1 18 = .ok (.iconst 4, 1) := by decide +kernel
theorem d_Mo_got_19 : decode yMo_got.2.1 19 = .ok (.invokevirtual 157, 3) := by decide +kernel
theorem d_Mo_got_22 : decode yMo_got.2.1 22 = .ok (.ifCond .eq 25, 3) := by decide +kernel
theorem d_Mo_got_25 : decode yMo_got.2.1 25 = .ok (.aload_n 0, 1) := by decide +kernel
theorem d_Mo_got_26 : decode yMo_got.2.1 26 = .ok (.getfield 7, 3) := by decide +kernel
theorem d_Mo_got_29 : decode yMo_got.2.1 29 = .ok (.bipush 30, 2) := by decide +kernel
theorem d_Mo_got_31 : decode yMo_got.2.1 31 = .ok (.iload_n 1, 1) := by decide +kernel
theorem d_Mo_got_32 : decode yMo_got.2.1 32 = .ok (.ifCond .ne 7, 3) := by decide +kernel
theorem d_Mo_got_35 : decode yMo_got.2.1 35 = .ok (.iconst 0, 1) := by decide +kernel
theorem d_Mo_got_36 : decode yMo_got.2.1 36 = .ok (.goto 4, 3) := by decide +kernel
theorem d_Mo_got_39 : decode yMo_got.2.1 39 = .ok (.iconst 5, 1) := by decide +kernel
theorem d_Mo_got_40 : decode yMo_got.2.1 40 = .ok (.iadd, 1) := by decide +kernel
theorem d_Mo_got_41 : decode yMo_got.2.1 41 = .ok (.iload_n 2, 1) := by decide +kernel
theorem d_Mo_got_42 : decode yMo_got.2.1 42 = .ok (.iadd, 1) := by decide +kernel
theorem d_Mo_got_43 : decode yMo_got.2.1 43 = .ok (.iaload, 1) := by decide +kernel
theorem d_Mo_got_44 : decode yMo_got.2.1 44 = .ok (.goto 4, 3) := by decide +kernel
theorem d_Mo_got_47 : decode yMo_got.2.1 47 = .ok (.iconst (-1), 1) := by decide +kernel
theorem d_Mo_got_48 : decode yMo_got.2.1 48 = .ok (.ireturn, 1) := by decide +kernel
def J_Mo_got_40 (x2 s0 s1 : Int32) (I : gb_Mem) : Option (Int32 × gb_Mem) :=
  flod I 1 80 ((s1 + s0) + x2) fun v2 =>
  some (v2, I)
set_option maxRecDepth 4000 in
theorem j_Mo_got_40 (l : Launch) (d0 : Nat) (x2 s0 s1 : Int32) (I : gb_Mem) {rz : Int32} {Iz : gb_Mem} (h : J_Mo_got_40 x2 s0 s1 I = some (rz, Iz)) : gb_Go l yMo_got (d0 + 1) 0 0 40 [(2, .inl x2)] [.inl s0, .inl s1, .inr (some 1)] shM I (gb_po shM (some (.inl rz)) Iz) := by
  unfold J_Mo_got_40 at h
  refine go_iadd d_Mo_got_40 ?_
  refine go_iload_n (k := 0) d_Mo_got_41 rfl rfl ?_
  refine go_iadd d_Mo_got_42 ?_
  obtain ⟨hi, v2, ev2, h⟩ := flod_e h
  refine go_iald2 d_Mo_got_43 a_M_1 hi ev2 ?_
  refine go_goto (tgt := 48) d_Mo_got_44 (by decide) ?_
  cases h
  exact go_ireturn d_Mo_got_48 rfl gb_po_i
def J_Mo_got_15 (x1 x2 : Int32) (I : gb_Mem) : Option (Int32 × gb_Mem) :=
  if (F_Mo_isIn x2 0 4 I) = 0 then
    some ((-1), I)
  else
    if x1 = 0 then
      J_Mo_got_40 x2 0 30 I
    else
      J_Mo_got_40 x2 5 30 I
set_option maxRecDepth 4000 in
theorem j_Mo_got_15 (l : Launch) (d0 : Nat) (x1 x2 : Int32) (I : gb_Mem) {rz : Int32} {Iz : gb_Mem} (h : J_Mo_got_15 x1 x2 I = some (rz, Iz)) : gb_Go l yMo_got (d0 + 1) 0 0 15 [(0, .inr (some 0)), (1, .inl x1), (2, .inl x2)] [] shM I (gb_po shM (some (.inl rz)) Iz) := by
  unfold J_Mo_got_15 at h
  refine go_aload_n (k := 0) d_Mo_got_15 rfl rfl ?_
  refine go_iload_n (k := 2) d_Mo_got_16 rfl rfl ?_
  refine go_iconst (v := 0) d_Mo_got_17 (by decide) ?_
  refine go_iconst (v := 4) d_Mo_got_18 (by decide) ?_
  refine go_callV (y := yMo_isIn) (asr := [.inl x2, .inl 0, .inl 4]) (v := some (.inl (F_Mo_isIn x2 0 4 I))) (I' := I) (st1 := [.inl (F_Mo_isIn x2 0 4 I)]) d_Mo_got_19 s_yMo_isIn m_Mo_157 a_M_0 rfl rfl rfl (Nat.le_of_ble_eq_true rfl) rfl rfl (c_Mo_isIn l (d0 + 0) x2 0 4 I) ?_
  refine go_if_eq (tgt := 47) d_Mo_got_22 (by decide) (fun hc => ?_) (fun hc => ?_)
  · rw [if_pos hc] at h
    refine go_iconst (v := (-1)) d_Mo_got_47 (by decide) ?_
    cases h
    exact go_ireturn d_Mo_got_48 rfl gb_po_i
  · rw [if_neg hc] at h
    refine go_aload_n (k := 0) d_Mo_got_25 rfl rfl ?_
    refine go_getr (ci := 10) (k := 1) (r := 1) d_Mo_got_26 a_M_0 rfl (by decide) f_Mo_7 rfl ?_
    refine go_bipush (v := 30) d_Mo_got_29 (by decide) ?_
    refine go_iload_n (k := 1) d_Mo_got_31 rfl rfl ?_
    refine go_if_ne (tgt := 39) d_Mo_got_32 (by decide) (fun hc => ?_) (fun hc => ?_)
    · rw [if_neg hc] at h
      refine go_iconst (v := 5) d_Mo_got_39 (by decide) ?_
      exact go_lv [2] rfl (j_Mo_got_40 l d0 x2 5 30 I h)
    · rw [if_pos hc] at h
      refine go_iconst (v := 0) d_Mo_got_35 (by decide) ?_
      refine go_goto (tgt := 40) d_Mo_got_36 (by decide) ?_
      exact go_lv [2] rfl (j_Mo_got_40 l d0 x2 0 30 I h)
def F_Mo_got (x1 x2 : Int32) (I : gb_Mem) : Option (Int32 × gb_Mem) :=
  fstf I 0 0 0 fun I1 =>
  if x1 = 0 then
    J_Mo_got_15 x1 x2 I1
  else
    if x1 = 11 then
      J_Mo_got_15 x1 x2 I1
    else
      some ((-1), I1)
set_option maxRecDepth 4000 in
theorem c_Mo_got (l : Launch) (d0 : Nat) (x1 x2 : Int32) (I : gb_Mem) {rz : Int32} {Iz : gb_Mem} (h : F_Mo_got x1 x2 I = some (rz, Iz)) : gb_Cs l yMo_got (d0 + 1) [.inr (some 0), .inl x1, .inl x2] shM I (some (.inl rz)) Iz := by
  refine gb_Ct.of (lv := [(0, .inr (some 0)), (1, .inl x1), (2, .inl x2)]) rfl (Nat.le_of_ble_eq_true rfl) rfl ?_
  unfold F_Mo_got at h
  show gb_Go l yMo_got (d0 + 1) 0 0 0 [(0, .inr (some 0)), (1, .inl x1), (2, .inl x2)] [] shM I (gb_po shM (some (.inl rz)) Iz)
  refine go_aload_n (k := 0) d_Mo_got_0 rfl rfl ?_
  refine go_iconst (v := 0) d_Mo_got_1 (by decide) ?_
  obtain ⟨I1, eI1, h⟩ := fstf_e h
  refine go_putT (ci := 10) (k := 0) (I' := I1) d_Mo_got_2 a_M_0 rfl (by decide) f_Mo_137 rfl rfl rfl rfl rfl eI1 ?_
  refine go_iload_n (k := 1) d_Mo_got_5 rfl rfl ?_
  refine go_if_eq (tgt := 15) d_Mo_got_6 (by decide) (fun hc => ?_) (fun hc => ?_)
  · rw [if_pos hc] at h
    exact go_lv [0, 1, 2] rfl (j_Mo_got_15 l d0 x1 x2 I1 h)
  · rw [if_neg hc] at h
    refine go_iload_n (k := 1) d_Mo_got_9 rfl rfl ?_
    refine go_bipush (v := 11) d_Mo_got_10 (by decide) ?_
    refine go_cmp_ne (tgt := 47) d_Mo_got_12 (by decide) (fun hc => ?_) (fun hc => ?_)
    · rw [if_neg hc] at h
      refine go_iconst (v := (-1)) d_Mo_got_47 (by decide) ?_
      cases h
      exact go_ireturn d_Mo_got_48 rfl gb_po_i
    · rw [if_pos hc] at h
      exact go_lv [0, 1, 2] rfl (j_Mo_got_15 l d0 x1 x2 I1 h)
theorem d_Mo_isAshore_0 : decode yMo_isAshore.2.1 0 = .ok (.aload_n 0, 1) := by decide +kernel
theorem d_Mo_isAshore_1 : decode yMo_isAshore.2.1 1 = .ok (.getfield 7, 3) := by decide +kernel
theorem d_Mo_isAshore_4 : decode yMo_isAshore.2.1 4 = .ok (.bipush 48, 2) := by decide +kernel
theorem d_Mo_isAshore_6 : decode yMo_isAshore.2.1 6 = .ok (.iload_n 1, 1) := by decide +kernel
theorem d_Mo_isAshore_7 : decode yMo_isAshore.2.1 7 = .ok (.iadd, 1) := by decide +kernel
theorem d_Mo_isAshore_8 : decode yMo_isAshore.2.1 8 = .ok (.iaload, 1) := by decide +kernel
theorem d_Mo_isAshore_9 : decode yMo_isAshore.2.1 9 = .ok (.aload_n 0, 1) := by decide +kernel
theorem d_Mo_isAshore_10 : decode yMo_isAshore.2.1 10 = .ok (.aload_n 0, 1) := by decide +kernel
theorem d_Mo_isAshore_11 : decode yMo_isAshore.2.1 11 = .ok (.getfield 7, 3) := by decide +kernel
theorem d_Mo_isAshore_14 : decode yMo_isAshore.2.1 14 = .ok (.bipush 56, 2) := by decide +kernel
theorem d_Mo_isAshore_16 : decode yMo_isAshore.2.1 16 = .ok (.iload_n 1, 1) := by decide +kernel
theorem d_Mo_isAshore_17 : decode yMo_isAshore.2.1 17 = .ok (.iadd, 1) := by decide +kernel
theorem d_Mo_isAshore_18 : decode yMo_isAshore.2.1 18 = .ok (.iaload, 1) := by decide +kernel
theorem d_Mo_isAshore_19 : decode yMo_isAshore.2.1 19 = .ok (.invokevirtual 153, 3) := by decide +kernel
theorem d_Mo_isAshore_22 : decode yMo_isAshore.2.1 22 = .ok (.if_icmp .ne 7, 3) := by decide +kernel
theorem d_Mo_isAshore_25 : decode yMo_isAshore.2.1 25 = .ok (.iconst 1, 1) := by decide +kernel
theorem d_Mo_isAshore_26 : decode yMo_isAshore.2.1 26 = .ok (.goto 4, 3) := by decide +kernel
theorem d_Mo_isAshore_29 : decode yMo_isAshore.2.1 29 = .ok (.iconst 0, 1) := by decide +kernel
theorem d_Mo_isAshore_30 : decode yMo_isAshore.2.1 30 = .ok (.ireturn, 1) := by decide +kernel
def F_Mo_isAshore (x1 : Int32) (I : gb_Mem) : Option (Int32) :=
  flod I 1 80 (48 + x1) fun v1 =>
  flod I 1 80 (56 + x1) fun v2 =>
  if v1 = (F_Mo_shoreOf v2 I) then
    some 1
  else
    some 0
set_option maxRecDepth 4000 in
theorem c_Mo_isAshore (l : Launch) (d0 : Nat) (x1 : Int32) (I : gb_Mem) {rz : Int32} (h : F_Mo_isAshore x1 I = some rz) : gb_Cs l yMo_isAshore (d0 + 1) [.inr (some 0), .inl x1] shM I (some (.inl rz)) I := by
  refine gb_Ct.of (lv := [(0, .inr (some 0)), (1, .inl x1)]) rfl (Nat.le_of_ble_eq_true rfl) rfl ?_
  unfold F_Mo_isAshore at h
  show gb_Go l yMo_isAshore (d0 + 1) 0 0 0 [(0, .inr (some 0)), (1, .inl x1)] [] shM I (gb_po shM (some (.inl rz)) I)
  refine go_aload_n (k := 0) d_Mo_isAshore_0 rfl rfl ?_
  refine go_getr (ci := 10) (k := 1) (r := 1) d_Mo_isAshore_1 a_M_0 rfl (by decide) f_Mo_7 rfl ?_
  refine go_bipush (v := 48) d_Mo_isAshore_4 (by decide) ?_
  refine go_iload_n (k := 1) d_Mo_isAshore_6 rfl rfl ?_
  refine go_iadd d_Mo_isAshore_7 ?_
  obtain ⟨hi, v1, ev1, h⟩ := flod_e h
  refine go_iald2 d_Mo_isAshore_8 a_M_1 hi ev1 ?_
  refine go_aload_n (k := 0) d_Mo_isAshore_9 rfl rfl ?_
  refine go_aload_n (k := 0) d_Mo_isAshore_10 rfl rfl ?_
  refine go_getr (ci := 10) (k := 1) (r := 1) d_Mo_isAshore_11 a_M_0 rfl (by decide) f_Mo_7 rfl ?_
  refine go_bipush (v := 56) d_Mo_isAshore_14 (by decide) ?_
  refine go_iload_n (k := 1) d_Mo_isAshore_16 rfl rfl ?_
  refine go_iadd d_Mo_isAshore_17 ?_
  obtain ⟨hi, v2, ev2, h⟩ := flod_e h
  refine go_iald2 d_Mo_isAshore_18 a_M_1 hi ev2 ?_
  refine go_callV (y := yMo_shoreOf) (asr := [.inl v2]) (v := some (.inl (F_Mo_shoreOf v2 I))) (I' := I) (st1 := [.inl (F_Mo_shoreOf v2 I), .inl v1]) d_Mo_isAshore_19 s_yMo_shoreOf m_Mo_153 a_M_0 rfl rfl rfl (Nat.le_of_ble_eq_true rfl) rfl rfl (c_Mo_shoreOf l (d0 + 0) v2 I) ?_
  refine go_cmp_ne (tgt := 29) d_Mo_isAshore_22 (by decide) (fun hc => ?_) (fun hc => ?_)
  · rw [if_neg hc] at h
    refine go_iconst (v := 0) d_Mo_isAshore_29 (by decide) ?_
    cases h
    exact go_zreturn d_Mo_isAshore_30 rfl (Or.inl rfl) gb_po_i
  · rw [if_pos hc] at h
    refine go_iconst (v := 1) d_Mo_isAshore_25 (by decide) ?_
    refine go_goto (tgt := 30) d_Mo_isAshore_26 (by decide) ?_
    cases h
    exact go_zreturn d_Mo_isAshore_30 rfl (Or.inr rfl) gb_po_i
theorem d_Mo_isDigit_0 : decode yMo_isDigit.2.1 0 = .ok (.aload_n 0, 1) := by decide +kernel
theorem d_Mo_isDigit_1 : decode yMo_isDigit.2.1 1 = .ok (.iload_n 1, 1) := by decide +kernel
theorem d_Mo_isDigit_2 : decode yMo_isDigit.2.1 2 = .ok (.bipush 48, 2) := by decide +kernel
theorem d_Mo_isDigit_4 : decode yMo_isDigit.2.1 4 = .ok (.bipush 57, 2) := by decide +kernel
theorem d_Mo_isDigit_6 : decode yMo_isDigit.2.1 6 = .ok (.invokevirtual 157, 3) := by decide +kernel
theorem d_Mo_isDigit_9 : decode yMo_isDigit.2.1 9 = .ok (.ireturn, 1) := by decide +kernel
def F_Mo_isDigit (x1 : Int32) (I : gb_Mem) : Int32 :=
  F_Mo_isIn x1 48 57 I
set_option maxRecDepth 4000 in
theorem c_Mo_isDigit (l : Launch) (d0 : Nat) (x1 : Int32) (I : gb_Mem)  : gb_Cs l yMo_isDigit (d0 + 1) [.inr (some 0), .inl x1] shM I (some (.inl (F_Mo_isDigit x1 I))) I := by
  refine gb_Ct.of (lv := [(0, .inr (some 0)), (1, .inl x1)]) rfl (Nat.le_of_ble_eq_true rfl) rfl ?_
  generalize h : F_Mo_isDigit x1 I = rz
  unfold F_Mo_isDigit at h
  show gb_Go l yMo_isDigit (d0 + 1) 0 0 0 [(0, .inr (some 0)), (1, .inl x1)] [] shM I (gb_po shM (some (.inl rz)) I)
  refine go_aload_n (k := 0) d_Mo_isDigit_0 rfl rfl ?_
  refine go_iload_n (k := 1) d_Mo_isDigit_1 rfl rfl ?_
  refine go_bipush (v := 48) d_Mo_isDigit_2 (by decide) ?_
  refine go_bipush (v := 57) d_Mo_isDigit_4 (by decide) ?_
  refine go_callV (y := yMo_isIn) (asr := [.inl x1, .inl 48, .inl 57]) (v := some (.inl (F_Mo_isIn x1 48 57 I))) (I' := I) (st1 := [.inl (F_Mo_isIn x1 48 57 I)]) d_Mo_isDigit_6 s_yMo_isIn m_Mo_157 a_M_0 rfl rfl rfl (Nat.le_of_ble_eq_true rfl) rfl rfl (c_Mo_isIn l (d0 + 0) x1 48 57 I) ?_
  subst h
  exact go_zreturn d_Mo_isDigit_9 rfl (zb_Mo_isIn x1 48 57 I) gb_po_i
theorem zb_Mo_isDigit (x1 : Int32) (I : gb_Mem) : F_Mo_isDigit x1 I = 0 ∨ F_Mo_isDigit x1 I = 1 := by
  unfold F_Mo_isDigit
  repeat' split
  all_goals first | exact Or.inl rfl | exact Or.inr rfl | exact zb_Mo_isIn _ _ _ _
theorem d_Mo_isLetter_0 : decode yMo_isLetter.2.1 0 = .ok (.aload_n 0, 1) := by decide +kernel
theorem d_Mo_isLetter_1 : decode yMo_isLetter.2.1 1 = .ok (.iload_n 1, 1) := by decide +kernel
theorem d_Mo_isLetter_2 : decode yMo_isLetter.2.1 2 = .ok (.bipush 97, 2) := by decide +kernel
theorem d_Mo_isLetter_4 : decode yMo_isLetter.2.1 4 = .ok (.bipush 122, 2) := by decide +kernel
theorem d_Mo_isLetter_6 : decode yMo_isLetter.2.1 6 = .ok (.invokevirtual 157, 3) := by decide +kernel
theorem d_Mo_isLetter_9 : decode yMo_isLetter.2.1 9 = .ok (.ifCond .ne 15, 3) := by decide +kernel
theorem d_Mo_isLetter_12 : decode yMo_isLetter.2.1 12 = .ok (.aload_n 0, 1) := by decide +kernel
theorem d_Mo_isLetter_13 : decode yMo_isLetter.2.1 13 = .ok (.iload_n 1, 1) := by decide +kernel
theorem d_Mo_isLetter_14 : decode yMo_isLetter.2.1 14 = .ok (.bipush 65, 2) := by decide +kernel
theorem d_Mo_isLetter_16 : decode yMo_isLetter.2.1 16 = .ok (.bipush 90, 2) := by decide +kernel
theorem d_Mo_isLetter_18 : decode yMo_isLetter.2.1 18 = .ok (.invokevirtual 157, 3) := by decide +kernel
theorem d_Mo_isLetter_21 : decode yMo_isLetter.2.1 21 = .ok (.ifCond .eq 7, 3) := by decide +kernel
theorem d_Mo_isLetter_24 : decode yMo_isLetter.2.1 24 = .ok (.iconst 1, 1) := by decide +kernel
theorem d_Mo_isLetter_25 : decode yMo_isLetter.2.1 25 = .ok (.goto 4, 3) := by decide +kernel
theorem d_Mo_isLetter_28 : decode yMo_isLetter.2.1 28 = .ok (.iconst 0, 1) := by decide +kernel
theorem d_Mo_isLetter_29 : decode yMo_isLetter.2.1 29 = .ok (.ireturn, 1) := by decide +kernel
def J_Mo_isLetter_24 (I : gb_Mem) : Int32 :=
  1
set_option maxRecDepth 4000 in
theorem j_Mo_isLetter_24 (l : Launch) (d0 : Nat) (I : gb_Mem) {rz : Int32} (h : J_Mo_isLetter_24 I = rz) : gb_Go l yMo_isLetter (d0 + 1) 0 0 24 [] [] shM I (gb_po shM (some (.inl rz)) I) := by
  unfold J_Mo_isLetter_24 at h
  refine go_iconst (v := 1) d_Mo_isLetter_24 (by decide) ?_
  refine go_goto (tgt := 29) d_Mo_isLetter_25 (by decide) ?_
  subst h
  exact go_zreturn d_Mo_isLetter_29 rfl (Or.inr rfl) gb_po_i
def F_Mo_isLetter (x1 : Int32) (I : gb_Mem) : Int32 :=
  if (F_Mo_isIn x1 97 122 I) = 0 then
    if (F_Mo_isIn x1 65 90 I) = 0 then
      0
    else
      J_Mo_isLetter_24 I
  else
    J_Mo_isLetter_24 I
set_option maxRecDepth 4000 in
theorem c_Mo_isLetter (l : Launch) (d0 : Nat) (x1 : Int32) (I : gb_Mem)  : gb_Cs l yMo_isLetter (d0 + 1) [.inr (some 0), .inl x1] shM I (some (.inl (F_Mo_isLetter x1 I))) I := by
  refine gb_Ct.of (lv := [(0, .inr (some 0)), (1, .inl x1)]) rfl (Nat.le_of_ble_eq_true rfl) rfl ?_
  generalize h : F_Mo_isLetter x1 I = rz
  unfold F_Mo_isLetter at h
  show gb_Go l yMo_isLetter (d0 + 1) 0 0 0 [(0, .inr (some 0)), (1, .inl x1)] [] shM I (gb_po shM (some (.inl rz)) I)
  refine go_aload_n (k := 0) d_Mo_isLetter_0 rfl rfl ?_
  refine go_iload_n (k := 1) d_Mo_isLetter_1 rfl rfl ?_
  refine go_bipush (v := 97) d_Mo_isLetter_2 (by decide) ?_
  refine go_bipush (v := 122) d_Mo_isLetter_4 (by decide) ?_
  refine go_callV (y := yMo_isIn) (asr := [.inl x1, .inl 97, .inl 122]) (v := some (.inl (F_Mo_isIn x1 97 122 I))) (I' := I) (st1 := [.inl (F_Mo_isIn x1 97 122 I)]) d_Mo_isLetter_6 s_yMo_isIn m_Mo_157 a_M_0 rfl rfl rfl (Nat.le_of_ble_eq_true rfl) rfl rfl (c_Mo_isIn l (d0 + 0) x1 97 122 I) ?_
  refine go_if_ne (tgt := 24) d_Mo_isLetter_9 (by decide) (fun hc => ?_) (fun hc => ?_)
  · rw [if_neg hc] at h
    exact go_lv [] rfl (j_Mo_isLetter_24 l d0 I h)
  · rw [if_pos hc] at h
    refine go_aload_n (k := 0) d_Mo_isLetter_12 rfl rfl ?_
    refine go_iload_n (k := 1) d_Mo_isLetter_13 rfl rfl ?_
    refine go_bipush (v := 65) d_Mo_isLetter_14 (by decide) ?_
    refine go_bipush (v := 90) d_Mo_isLetter_16 (by decide) ?_
    refine go_callV (y := yMo_isIn) (asr := [.inl x1, .inl 65, .inl 90]) (v := some (.inl (F_Mo_isIn x1 65 90 I))) (I' := I) (st1 := [.inl (F_Mo_isIn x1 65 90 I)]) d_Mo_isLetter_18 s_yMo_isIn m_Mo_157 a_M_0 rfl rfl rfl (Nat.le_of_ble_eq_true rfl) rfl rfl (c_Mo_isIn l (d0 + 0) x1 65 90 I) ?_
    refine go_if_eq (tgt := 28) d_Mo_isLetter_21 (by decide) (fun hc => ?_) (fun hc => ?_)
    · rw [if_pos hc] at h
      refine go_iconst (v := 0) d_Mo_isLetter_28 (by decide) ?_
      subst h
      exact go_zreturn d_Mo_isLetter_29 rfl (Or.inl rfl) gb_po_i
    · rw [if_neg hc] at h
      exact go_lv [] rfl (j_Mo_isLetter_24 l d0 I h)
theorem zbj_Mo_isLetter_24 (I : gb_Mem) : J_Mo_isLetter_24 I = 0 ∨ J_Mo_isLetter_24 I = 1 := by
  unfold J_Mo_isLetter_24
  repeat' split
  all_goals first | exact Or.inl rfl | exact Or.inr rfl
theorem zb_Mo_isLetter (x1 : Int32) (I : gb_Mem) : F_Mo_isLetter x1 I = 0 ∨ F_Mo_isLetter x1 I = 1 := by
  unfold F_Mo_isLetter
  repeat' split
  all_goals first | exact Or.inl rfl | exact Or.inr rfl | exact zbj_Mo_isLetter_24 _
theorem d_Mo_isLineWord_0 : decode yMo_isLineWord.2.1 0 = .ok (.aload_n 0, 1) := by decide +kernel
theorem d_Mo_isLineWord_1 : decode yMo_isLineWord.2.1 1 = .ok (.getfield 187, 3) := by decide +kernel
theorem d_Mo_isLineWord_4 : decode yMo_isLineWord.2.1 4 = .ok (.iconst 2, 1) := by decide +kernel
theorem d_Mo_isLineWord_5 : decode yMo_isLineWord.2.1 5 = .ok (.if_icmp .ne 20, 3) := by decide +kernel
theorem d_Mo_isLineWord_8 : decode yMo_isLineWord.2.1 8 = .ok (.aload_n 0, 1) := by decide +kernel
theorem d_Mo_isLineWord_9 : decode yMo_isLineWord.2.1 9 = .ok (.aload_n 0, 1) := by decide +kernel
theorem d_Mo_isLineWord_10 : decode yMo_isLineWord.2.1 10 = .ok (.getfield 190, 3) := by decide +kernel
theorem d_Mo_isLineWord_13 : decode yMo_isLineWord.2.1 13 = .ok (.iconst 0, 1) := by decide +kernel
theorem d_Mo_isLineWord_14 : decode yMo_isLineWord.2.1 14 = .ok (.iconst 2, 1) := by decide +kernel
theorem d_Mo_isLineWord_15 : decode yMo_isLineWord.2.1 15 = .ok (.invokevirtual 157, 3) := by decide +kernel
theorem d_Mo_isLineWord_18 : decode yMo_isLineWord.2.1 18 = .ok (.ifCond .eq 7, 3) := by decide +kernel
theorem d_Mo_isLineWord_21 : decode yMo_isLineWord.2.1 21 = .ok (.iconst 1, 1) := by decide +kernel
theorem d_Mo_isLineWord_22 : decode yMo_isLineWord.2.1 22 = .ok (.goto 4, 3) := by decide +kernel
theorem d_Mo_isLineWord_25 : decode yMo_isLineWord.2.1 25 = .ok (.iconst 0, 1) := by decide +kernel
theorem d_Mo_isLineWord_26 : decode yMo_isLineWord.2.1 26 = .ok (.ireturn, 1) := by decide +kernel
def F_Mo_isLineWord (I : gb_Mem) : Int32 :=
  if (I 0 16) = 2 then
    if (F_Mo_isIn (I 0 17) 0 2 I) = 0 then
      0
    else
      1
  else
    0
set_option maxRecDepth 4000 in
theorem c_Mo_isLineWord (l : Launch) (d0 : Nat) (I : gb_Mem)  : gb_Cs l yMo_isLineWord (d0 + 1) [.inr (some 0)] shM I (some (.inl (F_Mo_isLineWord I))) I := by
  refine gb_Ct.of (lv := [(0, .inr (some 0))]) rfl (Nat.le_of_ble_eq_true rfl) rfl ?_
  generalize h : F_Mo_isLineWord I = rz
  unfold F_Mo_isLineWord at h
  show gb_Go l yMo_isLineWord (d0 + 1) 0 0 0 [(0, .inr (some 0))] [] shM I (gb_po shM (some (.inl rz)) I)
  refine go_aload_n (k := 0) d_Mo_isLineWord_0 rfl rfl ?_
  refine go_geti (ci := 10) (k := 16) d_Mo_isLineWord_1 a_M_0 rfl (by decide) f_Mo_187 rfl ?_
  refine go_iconst (v := 2) d_Mo_isLineWord_4 (by decide) ?_
  refine go_cmp_ne (tgt := 25) d_Mo_isLineWord_5 (by decide) (fun hc => ?_) (fun hc => ?_)
  · rw [if_neg hc] at h
    refine go_iconst (v := 0) d_Mo_isLineWord_25 (by decide) ?_
    subst h
    exact go_zreturn d_Mo_isLineWord_26 rfl (Or.inl rfl) gb_po_i
  · rw [if_pos hc] at h
    refine go_aload_n (k := 0) d_Mo_isLineWord_8 rfl rfl ?_
    refine go_aload_n (k := 0) d_Mo_isLineWord_9 rfl rfl ?_
    refine go_geti (ci := 10) (k := 17) d_Mo_isLineWord_10 a_M_0 rfl (by decide) f_Mo_190 rfl ?_
    refine go_iconst (v := 0) d_Mo_isLineWord_13 (by decide) ?_
    refine go_iconst (v := 2) d_Mo_isLineWord_14 (by decide) ?_
    refine go_callV (y := yMo_isIn) (asr := [.inl (I 0 17), .inl 0, .inl 2]) (v := some (.inl (F_Mo_isIn (I 0 17) 0 2 I))) (I' := I) (st1 := [.inl (F_Mo_isIn (I 0 17) 0 2 I)]) d_Mo_isLineWord_15 s_yMo_isIn m_Mo_157 a_M_0 rfl rfl rfl (Nat.le_of_ble_eq_true rfl) rfl rfl (c_Mo_isIn l (d0 + 0) (I 0 17) 0 2 I) ?_
    refine go_if_eq (tgt := 25) d_Mo_isLineWord_18 (by decide) (fun hc => ?_) (fun hc => ?_)
    · rw [if_pos hc] at h
      refine go_iconst (v := 0) d_Mo_isLineWord_25 (by decide) ?_
      subst h
      exact go_zreturn d_Mo_isLineWord_26 rfl (Or.inl rfl) gb_po_i
    · rw [if_neg hc] at h
      refine go_iconst (v := 1) d_Mo_isLineWord_21 (by decide) ?_
      refine go_goto (tgt := 26) d_Mo_isLineWord_22 (by decide) ?_
      subst h
      exact go_zreturn d_Mo_isLineWord_26 rfl (Or.inr rfl) gb_po_i
theorem zb_Mo_isLineWord (I : gb_Mem) : F_Mo_isLineWord I = 0 ∨ F_Mo_isLineWord I = 1 := by
  unfold F_Mo_isLineWord
  repeat' split
  all_goals first | exact Or.inl rfl | exact Or.inr rfl
theorem d_Mo_isSkinned_0 : decode yMo_isSkinned.2.1 0 = .ok (.aload_n 0, 1) := by decide +kernel
theorem d_Mo_isSkinned_1 : decode yMo_isSkinned.2.1 1 = .ok (.getfield 7, 3) := by decide +kernel
theorem d_Mo_isSkinned_4 : decode yMo_isSkinned.2.1 4 = .ok (.bipush 64, 2) := by decide +kernel
theorem d_Mo_isSkinned_6 : decode yMo_isSkinned.2.1 6 = .ok (.iload_n 1, 1) := by decide +kernel
theorem d_Mo_isSkinned_7 : decode yMo_isSkinned.2.1 7 = .ok (.iadd, 1) := by decide +kernel
theorem d_Mo_isSkinned_8 : decode yMo_isSkinned.2.1 8 = .ok (.aload_n 0, 1) := by decide +kernel
theorem d_Mo_isSkinned_9 : decode yMo_isSkinned.2.1 9 = .ok (.bipush 9, 2) := by decide +kernel
theorem d_Mo_isSkinned_11 : decode yMo_isSkinned.2.1 11 = .ok (.aload_n 0, 1) := by decide +kernel
theorem d_Mo_isSkinned_12 : decode yMo_isSkinned.2.1 12 = .ok (.getfield 7, 3) := by decide +kernel
theorem d_Mo_isSkinned_15 : decode yMo_isSkinned.2.1 15 = .ok (.bipush 64, 2) := by decide +kernel
theorem d_Mo_isSkinned_17 : decode yMo_isSkinned.2.1 17 = .ok (.iload_n 1, 1) := by decide +kernel
theorem d_Mo_isSkinned_18 : decode yMo_isSkinned.2.1 18 = .ok (.iadd, 1) := by decide +kernel
theorem d_Mo_isSkinned_19 : decode yMo_isSkinned.2.1 19 = .ok (.iaload, 1) := by decide +kernel
theorem d_Mo_isSkinned_20 : decode yMo_isSkinned.2.1 20 = .ok (.iconst 1, 1) := by decide +kernel
theorem d_Mo_isSkinned_21 : decode yMo_isSkinned.2.1 21 = .ok (.iadd, 1) := by decide +kernel
theorem d_Mo_isSkinned_22 : decode yMo_isSkinned.2.1 22 = .ok (.invokevirtual 364, 3) := by decide +kernel
theorem d_Mo_isSkinned_25 : decode yMo_isSkinned.2.1 25 = .ok (.iastore, 1) := by decide +kernel
theorem d_Mo_isSkinned_26 : decode yMo_isSkinned.2.1 26 = .ok (.return_, 1) := by decide +kernel
def F_Mo_isSkinned (x1 : Int32) (I : gb_Mem) : Option (gb_Mem) :=
  flod I 1 80 (64 + x1) fun v1 =>
  fsto I 1 80 (64 + x1) (F_Mo_lesser 9 (v1 + 1) I) fun I2 =>
  some I2
set_option maxRecDepth 4000 in
theorem c_Mo_isSkinned (l : Launch) (d0 : Nat) (x1 : Int32) (I : gb_Mem) {Iz : gb_Mem} (h : F_Mo_isSkinned x1 I = some Iz) : gb_Cs l yMo_isSkinned (d0 + 1) [.inr (some 0), .inl x1] shM I none Iz := by
  refine gb_Ct.of (lv := [(0, .inr (some 0)), (1, .inl x1)]) rfl (Nat.le_of_ble_eq_true rfl) rfl ?_
  unfold F_Mo_isSkinned at h
  show gb_Go l yMo_isSkinned (d0 + 1) 0 0 0 [(0, .inr (some 0)), (1, .inl x1)] [] shM I (gb_po shM none Iz)
  refine go_aload_n (k := 0) d_Mo_isSkinned_0 rfl rfl ?_
  refine go_getr (ci := 10) (k := 1) (r := 1) d_Mo_isSkinned_1 a_M_0 rfl (by decide) f_Mo_7 rfl ?_
  refine go_bipush (v := 64) d_Mo_isSkinned_4 (by decide) ?_
  refine go_iload_n (k := 1) d_Mo_isSkinned_6 rfl rfl ?_
  refine go_iadd d_Mo_isSkinned_7 ?_
  refine go_aload_n (k := 0) d_Mo_isSkinned_8 rfl rfl ?_
  refine go_bipush (v := 9) d_Mo_isSkinned_9 (by decide) ?_
  refine go_aload_n (k := 0) d_Mo_isSkinned_11 rfl rfl ?_
  refine go_getr (ci := 10) (k := 1) (r := 1) d_Mo_isSkinned_12 a_M_0 rfl (by decide) f_Mo_7 rfl ?_
  refine go_bipush (v := 64) d_Mo_isSkinned_15 (by decide) ?_
  refine go_iload_n (k := 1) d_Mo_isSkinned_17 rfl rfl ?_
  refine go_iadd d_Mo_isSkinned_18 ?_
  obtain ⟨hi, v1, ev1, h⟩ := flod_e h
  refine go_iald2 d_Mo_isSkinned_19 a_M_1 hi ev1 ?_
  refine go_iconst (v := 1) d_Mo_isSkinned_20 (by decide) ?_
  refine go_iadd d_Mo_isSkinned_21 ?_
  refine go_callV (y := yMo_lesser) (asr := [.inl 9, .inl (v1 + 1)]) (v := some (.inl (F_Mo_lesser 9 (v1 + 1) I))) (I' := I) (st1 := [.inl (F_Mo_lesser 9 (v1 + 1) I), .inl (64 + x1), .inr (some 1)]) d_Mo_isSkinned_22 s_yMo_lesser m_Mo_364 a_M_0 rfl rfl rfl (Nat.le_of_ble_eq_true rfl) rfl rfl (c_Mo_lesser l (d0 + 0) 9 (v1 + 1) I) ?_
  obtain ⟨hi, I2, eI2, h⟩ := fsto_e h
  refine go_iast (I' := I2) d_Mo_isSkinned_25 a_M_1 hi eI2 ?_
  cases h
  exact go_return d_Mo_isSkinned_26 rfl gb_po_i
theorem d_Mo_jar_0 : decode yMo_jar.2.1 0 = .ok (.aload_n 0, 1) := by decide +kernel
theorem d_Mo_jar_1 : decode yMo_jar.2.1 1 = .ok (.iconst 0, 1) := by decide +kernel
theorem d_Mo_jar_2 : decode yMo_jar.2.1 2 = .ok (.putfield 137, 3) := by decide +kernel
theorem d_Mo_jar_5 : decode yMo_jar.2.1 5 = .ok (.iload_n 1, 1) := by decide +kernel
theorem d_Mo_jar_6 : decode yMo_jar.2.1 6 = .ok (.iconst (-1), 1) := by decide +kernel
theorem d_Mo_jar_7 : decode yMo_jar.2.1 7 = .ok (.if_icmp .ne 10, 3) := by decide +kernel
theorem d_Mo_jar_10 : decode yMo_jar.2.1 10 = .ok (.aload_n 0, 1) := by decide +kernel
theorem d_Mo_jar_11 : decode yMo_jar.2.1 11 = .ok (.iconst 0, 1) := by decide +kernel
theorem d_Mo_jar_12 : decode yMo_jar.2.1 12 = .ok (.putfield 477, 3) := by decide +kernel
theorem d_Mo_jar_15 : decode yMo_jar.2.1 15 = .ok (.iconst 0, 1) := by decide +kernel
theorem d_Mo_jar_16 : decode yMo_jar.2.1 16 = .ok (.ireturn, 1) := by decide +kernel
theorem d_Mo_jar_17 : decode yMo_jar.2.1 17 = .ok (.aload_n 0, 1) := by decide +kernel
theorem d_Mo_jar_18 : decode yMo_jar.2.1 18 = .ok (.iload_n 1, 1) := by decide +kernel
theorem d_Mo_jar_19 : decode yMo_jar.2.1 19 = .ok (.iconst 1, 1) := by decide +kernel
theorem d_Mo_jar_20 : decode yMo_jar.2.1 20 = .ok (.bipush 30, 2) := by decide +kernel
theorem d_Mo_jar_22 : decode yMo_jar.2.1 22 = .ok (.invokevirtual 157, 3) := by decide +kernel
theorem d_Mo_jar_25 : decode yMo_jar.2.1 25 = .ok (.ifCond .eq 23, 3) := by decide +kernel
theorem d_Mo_jar_28 : decode yMo_jar.2.1 28 = .ok (.aload_n 0, 1) := by decide +kernel
theorem d_Mo_jar_29 : decode yMo_jar.2.1 29 = .ok (.iload_n 2, 1) := by decide +kernel
theorem d_Mo_jar_30 : decode yMo_jar.2.1 30 = .ok (.iconst 0, 1) := by decide +kernel
theorem d_Mo_jar_31 : decode yMo_jar.2.1 31 = .ok (.bipush 99, 2) := by decide +kernel
theorem d_Mo_jar_33 : decode yMo_jar.2.1 33 = .ok (.invokevirtual 157, 3) := by decide +kernel
theorem d_Mo_jar_36 : decode yMo_jar.2.1 36 = .ok (.ifCond .eq 12, 3) := by decide +kernel
theorem d_Mo_jar_39 : decode yMo_jar.2.1 39 = .ok (.aload_n 0, 1) := by decide +kernel
theorem d_Mo_jar_40 : decode yMo_jar.2.1 40 = .ok (.getfield 477, 3) := by decide +kernel
theorem d_Mo_jar_43 : decode yMo_jar.2.1 43 = .ok (.bipush 9, 2) := by decide +kernel
theorem d_Mo_jar_45 : decode yMo_jar.2.1 45 = .ok (.if_icmp .ne 5, 3) := by decide +kernel
theorem d_Mo_jar_48 : decode yMo_jar.2.1 48 = .ok (.iconst (-1), 1) := by decide +kernel
theorem d_Mo_jar_49 : decode yMo_jar.2.1 49 = .ok (.ireturn, 1) := by decide +kernel
theorem d_Mo_jar_50 : decode yMo_jar.2.1 50 = .ok (.aload_n 0, 1) := by decide +kernel
theorem d_Mo_jar_51 : decode yMo_jar.2.1 51 = .ok (.getfield 128, 3) := by decide +kernel
theorem d_Mo_jar_54 : decode yMo_jar.2.1 54 = .ok (.aload_n 0, 1) := by decide +kernel
theorem d_Mo_jar_55 : decode yMo_jar.2.1 55 = .ok (.getfield 477, 3) := by decide +kernel
theorem d_Mo_jar_58 : decode yMo_jar.2.1 58 = .ok (.iload_n 1, 1) := by decide +kernel
theorem d_Mo_jar_59 : decode yMo_jar.2.1 59 = .ok (.iastore, 1) := by decide +kernel
theorem d_Mo_jar_60 : decode yMo_jar.2.1 60 = .ok (.aload_n 0, 1) := by decide +kernel
theorem d_Mo_jar_61 : decode yMo_jar.2.1 61 = .ok (.getfield 131, 3) := by decide +kernel
theorem d_Mo_jar_64 : decode yMo_jar.2.1 64 = .ok (.aload_n 0, 1) := by decide +kernel
theorem d_Mo_jar_65 : decode yMo_jar.2.1 65 = .ok (.getfield 477, 3) := by decide +kernel
theorem d_Mo_jar_68 : decode yMo_jar.2.1 68 = .ok (.iload_n 2, 1) := by decide +kernel
theorem d_Mo_jar_69 : decode yMo_jar.2.1 69 = .ok (.iastore, 1) := by decide +kernel
theorem d_Mo_jar_70 : decode yMo_jar.2.1 70 = .ok (.aload_n 0, 1) := by decide +kernel
theorem d_Mo_jar_71 : decode yMo_jar.2.1 71 = .ok (.aload_n 0, 1) := by decide +kernel
theorem d_Mo_jar_72 : decode yMo_jar.2.1 72 = .ok (.getfield 477, 3) := by decide +kernel
theorem d_Mo_jar_75 : decode yMo_jar.2.1 75 = .ok (.iconst 1, 1) := by decide +kernel
theorem d_Mo_jar_76 : decode yMo_jar.2.1 76 = .ok (.iadd, 1) := by decide +kernel
theorem d_Mo_jar_77 : decode yMo_jar.2.1 77 = .ok (.putfield 477, 3) := by decide +kernel
theorem d_Mo_jar_80 : decode yMo_jar.2.1 80 = .ok (.aload_n 0, 1) := by decide +kernel
theorem d_Mo_jar_81 : decode yMo_jar.2.1 81 = .ok (.getfield 477, 3) := by decide +kernel
theorem d_Mo_jar_84 : decode yMo_jar.2.1 84 = .ok (.ireturn, 1) := by decide +kernel
def F_Mo_jar (x1 x2 : Int32) (I : gb_Mem) : Option (Int32 × gb_Mem) :=
  fstf I 0 0 0 fun I1 =>
  if x1 = (-1) then
    fstf I1 0 64 0 fun I5 =>
    some (0, I5)
  else
    if (F_Mo_isIn x1 1 30 I1) = 0 then
      some ((-1), I1)
    else
      if (F_Mo_isIn x2 0 99 I1) = 0 then
        some ((-1), I1)
      else
        if (I1 0 64) = 9 then
          some ((-1), I1)
        else
          fsto I1 39 9 (I1 0 64) x1 fun I2 =>
          fsto I2 40 9 (I2 0 64) x2 fun I3 =>
          fstf I3 0 64 ((I3 0 64) + 1) fun I4 =>
          some (I4 0 64, I4)
set_option maxRecDepth 4000 in
theorem c_Mo_jar (l : Launch) (d0 : Nat) (x1 x2 : Int32) (I : gb_Mem) {rz : Int32} {Iz : gb_Mem} (h : F_Mo_jar x1 x2 I = some (rz, Iz)) : gb_Cs l yMo_jar (d0 + 1) [.inr (some 0), .inl x1, .inl x2] shM I (some (.inl rz)) Iz := by
  refine gb_Ct.of (lv := [(0, .inr (some 0)), (1, .inl x1), (2, .inl x2)]) rfl (Nat.le_of_ble_eq_true rfl) rfl ?_
  unfold F_Mo_jar at h
  show gb_Go l yMo_jar (d0 + 1) 0 0 0 [(0, .inr (some 0)), (1, .inl x1), (2, .inl x2)] [] shM I (gb_po shM (some (.inl rz)) Iz)
  refine go_aload_n (k := 0) d_Mo_jar_0 rfl rfl ?_
  refine go_iconst (v := 0) d_Mo_jar_1 (by decide) ?_
  obtain ⟨I1, eI1, h⟩ := fstf_e h
  refine go_putT (ci := 10) (k := 0) (I' := I1) d_Mo_jar_2 a_M_0 rfl (by decide) f_Mo_137 rfl rfl rfl rfl rfl eI1 ?_
  refine go_iload_n (k := 1) d_Mo_jar_5 rfl rfl ?_
  refine go_iconst (v := (-1)) d_Mo_jar_6 (by decide) ?_
  refine go_cmp_ne (tgt := 17) d_Mo_jar_7 (by decide) (fun hc => ?_) (fun hc => ?_)
  · rw [if_neg hc] at h
    refine go_aload_n (k := 0) d_Mo_jar_17 rfl rfl ?_
    refine go_iload_n (k := 1) d_Mo_jar_18 rfl rfl ?_
    refine go_iconst (v := 1) d_Mo_jar_19 (by decide) ?_
    refine go_bipush (v := 30) d_Mo_jar_20 (by decide) ?_
    refine go_callV (y := yMo_isIn) (asr := [.inl x1, .inl 1, .inl 30]) (v := some (.inl (F_Mo_isIn x1 1 30 I1))) (I' := I1) (st1 := [.inl (F_Mo_isIn x1 1 30 I1)]) d_Mo_jar_22 s_yMo_isIn m_Mo_157 a_M_0 rfl rfl rfl (Nat.le_of_ble_eq_true rfl) rfl rfl (c_Mo_isIn l (d0 + 0) x1 1 30 I1) ?_
    refine go_if_eq (tgt := 48) d_Mo_jar_25 (by decide) (fun hc => ?_) (fun hc => ?_)
    · rw [if_pos hc] at h
      refine go_iconst (v := (-1)) d_Mo_jar_48 (by decide) ?_
      cases h
      exact go_ireturn d_Mo_jar_49 rfl gb_po_i
    · rw [if_neg hc] at h
      refine go_aload_n (k := 0) d_Mo_jar_28 rfl rfl ?_
      refine go_iload_n (k := 2) d_Mo_jar_29 rfl rfl ?_
      refine go_iconst (v := 0) d_Mo_jar_30 (by decide) ?_
      refine go_bipush (v := 99) d_Mo_jar_31 (by decide) ?_
      refine go_callV (y := yMo_isIn) (asr := [.inl x2, .inl 0, .inl 99]) (v := some (.inl (F_Mo_isIn x2 0 99 I1))) (I' := I1) (st1 := [.inl (F_Mo_isIn x2 0 99 I1)]) d_Mo_jar_33 s_yMo_isIn m_Mo_157 a_M_0 rfl rfl rfl (Nat.le_of_ble_eq_true rfl) rfl rfl (c_Mo_isIn l (d0 + 0) x2 0 99 I1) ?_
      refine go_if_eq (tgt := 48) d_Mo_jar_36 (by decide) (fun hc => ?_) (fun hc => ?_)
      · rw [if_pos hc] at h
        refine go_iconst (v := (-1)) d_Mo_jar_48 (by decide) ?_
        cases h
        exact go_ireturn d_Mo_jar_49 rfl gb_po_i
      · rw [if_neg hc] at h
        refine go_aload_n (k := 0) d_Mo_jar_39 rfl rfl ?_
        refine go_geti (ci := 10) (k := 64) d_Mo_jar_40 a_M_0 rfl (by decide) f_Mo_477 rfl ?_
        refine go_bipush (v := 9) d_Mo_jar_43 (by decide) ?_
        refine go_cmp_ne (tgt := 50) d_Mo_jar_45 (by decide) (fun hc => ?_) (fun hc => ?_)
        · rw [if_neg hc] at h
          refine go_aload_n (k := 0) d_Mo_jar_50 rfl rfl ?_
          refine go_getr (ci := 10) (k := 65) (r := 39) d_Mo_jar_51 a_M_0 rfl (by decide) f_Mo_128 rfl ?_
          refine go_aload_n (k := 0) d_Mo_jar_54 rfl rfl ?_
          refine go_geti (ci := 10) (k := 64) d_Mo_jar_55 a_M_0 rfl (by decide) f_Mo_477 rfl ?_
          refine go_iload_n (k := 1) d_Mo_jar_58 rfl rfl ?_
          obtain ⟨hi, I2, eI2, h⟩ := fsto_e h
          refine go_iast (I' := I2) d_Mo_jar_59 a_M_39 hi eI2 ?_
          refine go_aload_n (k := 0) d_Mo_jar_60 rfl rfl ?_
          refine go_getr (ci := 10) (k := 66) (r := 40) d_Mo_jar_61 a_M_0 rfl (by decide) f_Mo_131 rfl ?_
          refine go_aload_n (k := 0) d_Mo_jar_64 rfl rfl ?_
          refine go_geti (ci := 10) (k := 64) d_Mo_jar_65 a_M_0 rfl (by decide) f_Mo_477 rfl ?_
          refine go_iload_n (k := 2) d_Mo_jar_68 rfl rfl ?_
          obtain ⟨hi, I3, eI3, h⟩ := fsto_e h
          refine go_iast (I' := I3) d_Mo_jar_69 a_M_40 hi eI3 ?_
          refine go_aload_n (k := 0) d_Mo_jar_70 rfl rfl ?_
          refine go_aload_n (k := 0) d_Mo_jar_71 rfl rfl ?_
          refine go_geti (ci := 10) (k := 64) d_Mo_jar_72 a_M_0 rfl (by decide) f_Mo_477 rfl ?_
          refine go_iconst (v := 1) d_Mo_jar_75 (by decide) ?_
          refine go_iadd d_Mo_jar_76 ?_
          obtain ⟨I4, eI4, h⟩ := fstf_e h
          refine go_putT (ci := 10) (k := 64) (I' := I4) d_Mo_jar_77 a_M_0 rfl (by decide) f_Mo_477 rfl rfl rfl rfl rfl eI4 ?_
          refine go_aload_n (k := 0) d_Mo_jar_80 rfl rfl ?_
          refine go_geti (ci := 10) (k := 64) d_Mo_jar_81 a_M_0 rfl (by decide) f_Mo_477 rfl ?_
          cases h
          exact go_ireturn d_Mo_jar_84 rfl gb_po_i
        · rw [if_pos hc] at h
          refine go_iconst (v := (-1)) d_Mo_jar_48 (by decide) ?_
          cases h
          exact go_ireturn d_Mo_jar_49 rfl gb_po_i
  · rw [if_pos hc] at h
    refine go_aload_n (k := 0) d_Mo_jar_10 rfl rfl ?_
    refine go_iconst (v := 0) d_Mo_jar_11 (by decide) ?_
    obtain ⟨I5, eI5, h⟩ := fstf_e h
    refine go_putT (ci := 10) (k := 64) (I' := I5) d_Mo_jar_12 a_M_0 rfl (by decide) f_Mo_477 rfl rfl rfl rfl rfl eI5 ?_
    refine go_iconst (v := 0) d_Mo_jar_15 (by decide) ?_
    cases h
    exact go_ireturn d_Mo_jar_16 rfl gb_po_i
theorem d_Mo_jarsOf_0 : decode yMo_jarsOf.2.1 0 = .ok (.iconst 0, 1) := by decide +kernel
theorem d_Mo_jarsOf_1 : decode yMo_jarsOf.2.1 1 = .ok (.istore_n 3, 1) := by decide +kernel
theorem d_Mo_jarsOf_2 : decode yMo_jarsOf.2.1 2 = .ok (.iconst 0, 1) := by decide +kernel
theorem d_Mo_jarsOf_3 : decode yMo_jarsOf.2.1 3 = .ok (.istore 4, 2) := by decide +kernel
theorem d_Mo_jarsOf_5 : decode yMo_jarsOf.2.1 5 = .ok (.iload 4, 2) := by decide +kernel
theorem d_Mo_jarsOf_7 : decode yMo_jarsOf.2.1 7 = .ok (.aload_n 0, 1) := by decide +kernel
theorem d_Mo_jarsOf_8 : decode yMo_jarsOf.2.1 8 = .ok (.getfield 477, 3) := by decide +kernel
theorem d_Mo_jarsOf_11 : decode yMo_jarsOf.2.1 11 = .ok (.if_icmp .ge 43, 3) := by decide +kernel
theorem d_Mo_jarsOf_14 : decode yMo_jarsOf.2.1 14 = .ok (.aload_n 0, 1) := by decide +kernel
theorem d_Mo_jarsOf_15 : decode yMo_jarsOf.2.1 15 = .ok (.iload_n 1, 1) := by decide +kernel
theorem d_Mo_jarsOf_16 : decode yMo_jarsOf.2.1 16 = .ok (.iload 4, 2) := by decide +kernel
theorem d_Mo_jarsOf_18 : decode yMo_jarsOf.2.1 18 = .ok (.invokevirtual 391, 3) := by decide +kernel
theorem d_Mo_jarsOf_21 : decode yMo_jarsOf.2.1 21 = .ok (.ifCond .eq 27, 3) := by decide +kernel
theorem d_Mo_jarsOf_24 : decode yMo_jarsOf.2.1 24 = .ok (.iload_n 3, 1) := by decide +kernel
theorem d_Mo_jarsOf_25 : decode yMo_jarsOf.2.1 25 = .ok (.iload_n 2, 1) := by decide +kernel
theorem d_Mo_jarsOf_26 : decode yMo_jarsOf.2.1 26 = .ok (.ifCond .eq 13, 3) := by decide +kernel
theorem d_Mo_jarsOf_29 : decode yMo_jarsOf.2.1 29 = .ok (.aload_n 0, 1) := by decide +kernel
theorem d_Mo_jarsOf_30 : decode yMo_jarsOf.2.1 30 = .ok (.getfield 128, 3) := by decide +kernel
theorem d_Mo_jarsOf_33 : decode yMo_jarsOf.2.1 33 = .ok (.iload 4, 2) := by decide +kernel
theorem d_Mo_jarsOf_35 : decode yMo_jarsOf.2.1 35 = .ok (.iaload, 1) := by decide +kernel
theorem d_Mo_jarsOf_36 : decode yMo_jarsOf.2.1 36 = .ok (.goto 10, 3) := by decide +kernel
theorem d_Mo_jarsOf_39 : decode yMo_jarsOf.2.1 39 = .ok (.aload_n 0, 1) := by decide +kernel
theorem d_Mo_jarsOf_40 : decode yMo_jarsOf.2.1 40 = .ok (.getfield 131, 3) := by decide +kernel
theorem d_Mo_jarsOf_43 : decode yMo_jarsOf.2.1 43 = .ok (.iload 4, 2) := by decide +kernel
theorem d_Mo_jarsOf_45 : decode yMo_jarsOf.2.1 45 = .ok (.iaload, 1) := by decide +kernel
theorem d_Mo_jarsOf_46 : decode yMo_jarsOf.2.1 46 = .ok (.iadd, 1) := by decide +kernel
theorem d_Mo_jarsOf_47 : decode yMo_jarsOf.2.1 47 = .ok (.istore_n 3, 1) := by decide +kernel
theorem d_Mo_jarsOf_48 : decode yMo_jarsOf.2.1 48 = .ok (.iinc 4 1, 3) := by decide +kernel
theorem d_Mo_jarsOf_51 : decode yMo_jarsOf.2.1 51 = .ok (.goto (-46), 3) := by decide +kernel
theorem d_Mo_jarsOf_54 : decode yMo_jarsOf.2.1 54 = .ok (.iload_n 3, 1) := by decide +kernel
theorem d_Mo_jarsOf_55 : decode yMo_jarsOf.2.1 55 = .ok (.ireturn, 1) := by decide +kernel
def J_Mo_jarsOf_48 (k : Int32 → Int32 → Option (Int32)) (x1 x2 x3 x4 : Int32) (I : gb_Mem) : Option (Int32) :=
  k x3 (x4 + 1)
set_option maxRecDepth 4000 in
theorem j_Mo_jarsOf_48 (l : Launch) (d0 : Nat) {post : Option gb_AV → List gb_Ce → gb_Mem → Prop} (k : Int32 → Int32 → Option (Int32)) (x1 x2 x3 x4 : Int32) (I : gb_Mem) {ρ : Int32} (h : J_Mo_jarsOf_48 k x1 x2 x3 x4 I = some ρ) (hk : ∀ (z3 z4 : Int32), k z3 z4 = some ρ → gb_Go l yMo_jarsOf (d0 + 1) 0 0 5 [(0, .inr (some 0)), (1, .inl x1), (2, .inl x2), (3, .inl z3), (4, .inl z4)] [] shM I post) (hX : ∀ (o3 : Int32), ρ = o3 → gb_Go l yMo_jarsOf (d0 + 1) 0 0 54 [(3, .inl o3)] [] shM I post) : gb_Go l yMo_jarsOf (d0 + 1) 0 0 48 [(0, .inr (some 0)), (1, .inl x1), (2, .inl x2), (3, .inl x3), (4, .inl x4)] [] shM I post := by
  unfold J_Mo_jarsOf_48 at h
  refine go_iinc (k := 4) (v := x4 + 1) (lv' := [(4, .inl (x4 + 1)), (0, .inr (some 0)), (1, .inl x1), (2, .inl x2), (3, .inl x3)]) d_Mo_jarsOf_48 rfl rfl (by decide) rfl ?_
  refine go_goto (tgt := 5) d_Mo_jarsOf_51 (by decide) ?_
  exact go_lv [1, 2, 3, 4, 0] rfl (hk _ _ h)
def J_Mo_jarsOf_46 (k : Int32 → Int32 → Option (Int32)) (x1 x2 x4 s0 s1 : Int32) (I : gb_Mem) : Option (Int32) :=
  J_Mo_jarsOf_48 k x1 x2 (s1 + s0) x4 I
set_option maxRecDepth 4000 in
theorem j_Mo_jarsOf_46 (l : Launch) (d0 : Nat) {post : Option gb_AV → List gb_Ce → gb_Mem → Prop} (k : Int32 → Int32 → Option (Int32)) (x1 x2 x4 s0 s1 : Int32) (I : gb_Mem) {ρ : Int32} (h : J_Mo_jarsOf_46 k x1 x2 x4 s0 s1 I = some ρ) (hk : ∀ (z3 z4 : Int32), k z3 z4 = some ρ → gb_Go l yMo_jarsOf (d0 + 1) 0 0 5 [(0, .inr (some 0)), (1, .inl x1), (2, .inl x2), (3, .inl z3), (4, .inl z4)] [] shM I post) (hX : ∀ (o3 : Int32), ρ = o3 → gb_Go l yMo_jarsOf (d0 + 1) 0 0 54 [(3, .inl o3)] [] shM I post) : gb_Go l yMo_jarsOf (d0 + 1) 0 0 46 [(0, .inr (some 0)), (1, .inl x1), (2, .inl x2), (4, .inl x4)] [.inl s0, .inl s1] shM I post := by
  unfold J_Mo_jarsOf_46 at h
  refine go_iadd d_Mo_jarsOf_46 ?_
  refine go_istore_n (lv' := [(3, .inl (s1 + s0)), (0, .inr (some 0)), (1, .inl x1), (2, .inl x2), (4, .inl x4)]) d_Mo_jarsOf_47 rfl (by decide) rfl ?_
  exact go_lv [1, 2, 3, 0, 4] rfl (j_Mo_jarsOf_48 l d0 k x1 x2 (s1 + s0) x4 I h hk hX)
def L_Mo_jarsOf_5 (x1 x2 : Int32) (I : gb_Mem) : Nat → Int32 → Int32 → Option (Int32)
  | 0, _, _ => none
  | n + 1, x3, x4 =>
    if (I 0 64) ≤ x4 then
      some x3
    else
      if (F_Mo_has x1 x4 I) = 0 then
        J_Mo_jarsOf_48 (L_Mo_jarsOf_5 x1 x2 I n) x1 x2 x3 x4 I
      else
        if x2 = 0 then
          flod I 40 9 x4 fun v1 =>
          J_Mo_jarsOf_46 (L_Mo_jarsOf_5 x1 x2 I n) x1 x2 x4 v1 x3 I
        else
          flod I 39 9 x4 fun v2 =>
          J_Mo_jarsOf_46 (L_Mo_jarsOf_5 x1 x2 I n) x1 x2 x4 v2 x3 I
set_option maxRecDepth 4000 in
theorem l_Mo_jarsOf_5 (l : Launch) (d0 : Nat) (x1 x2 : Int32) (I : gb_Mem) {post : Option gb_AV → List gb_Ce → gb_Mem → Prop} : ∀ (n : Nat) (x3 x4 : Int32) {ρ : Int32} (h : L_Mo_jarsOf_5 x1 x2 I n x3 x4 = some ρ) (hX : ∀ (o3 : Int32), ρ = o3 → gb_Go l yMo_jarsOf (d0 + 1) 0 0 54 [(3, .inl o3)] [] shM I post) , gb_Go l yMo_jarsOf (d0 + 1) 0 0 5 [(0, .inr (some 0)), (1, .inl x1), (2, .inl x2), (3, .inl x3), (4, .inl x4)] [] shM I post := by
  intro n
  induction n with
  | zero => intro x3 x4 ρ h hX; cases h
  | succ n ih =>
    intro x3 x4 ρ h hX
    rw [L_Mo_jarsOf_5] at h
    refine go_iload (k := 4) d_Mo_jarsOf_5 rfl ?_
    refine go_aload_n (k := 0) d_Mo_jarsOf_7 rfl rfl ?_
    refine go_geti (ci := 10) (k := 64) d_Mo_jarsOf_8 a_M_0 rfl (by decide) f_Mo_477 rfl ?_
    refine go_cmp_ge (tgt := 54) d_Mo_jarsOf_11 (by decide) (fun hc => ?_) (fun hc => ?_)
    · rw [if_pos hc] at h
      exact go_lv [3] rfl (hX _ (Option.some.inj h).symm)
    · rw [if_neg hc] at h
      refine go_aload_n (k := 0) d_Mo_jarsOf_14 rfl rfl ?_
      refine go_iload_n (k := 1) d_Mo_jarsOf_15 rfl rfl ?_
      refine go_iload (k := 4) d_Mo_jarsOf_16 rfl ?_
      refine go_callV (y := yMo_has) (asr := [.inl x1, .inl x4]) (v := some (.inl (F_Mo_has x1 x4 I))) (I' := I) (st1 := [.inl (F_Mo_has x1 x4 I)]) d_Mo_jarsOf_18 s_yMo_has m_Mo_391 a_M_0 rfl rfl rfl (Nat.le_of_ble_eq_true rfl) rfl rfl (c_Mo_has l (d0 + 0) x1 x4 I) ?_
      refine go_if_eq (tgt := 48) d_Mo_jarsOf_21 (by decide) (fun hc => ?_) (fun hc => ?_)
      · rw [if_pos hc] at h
        exact go_lv [0, 1, 2, 3, 4] rfl (j_Mo_jarsOf_48 l d0 (L_Mo_jarsOf_5 x1 x2 I n) x1 x2 x3 x4 I h (fun z3 z4 hh => ih z3 z4 hh hX) hX)
      · rw [if_neg hc] at h
        refine go_iload_n (k := 3) d_Mo_jarsOf_24 rfl rfl ?_
        refine go_iload_n (k := 2) d_Mo_jarsOf_25 rfl rfl ?_
        refine go_if_eq (tgt := 39) d_Mo_jarsOf_26 (by decide) (fun hc => ?_) (fun hc => ?_)
        · rw [if_pos hc] at h
          refine go_aload_n (k := 0) d_Mo_jarsOf_39 rfl rfl ?_
          refine go_getr (ci := 10) (k := 66) (r := 40) d_Mo_jarsOf_40 a_M_0 rfl (by decide) f_Mo_131 rfl ?_
          refine go_iload (k := 4) d_Mo_jarsOf_43 rfl ?_
          obtain ⟨hi, v1, ev1, h⟩ := flod_e h
          refine go_iald2 d_Mo_jarsOf_45 a_M_40 hi ev1 ?_
          exact go_lv [0, 1, 2, 4] rfl (j_Mo_jarsOf_46 l d0 (L_Mo_jarsOf_5 x1 x2 I n) x1 x2 x4 v1 x3 I h (fun z3 z4 hh => ih z3 z4 hh hX) hX)
        · rw [if_neg hc] at h
          refine go_aload_n (k := 0) d_Mo_jarsOf_29 rfl rfl ?_
          refine go_getr (ci := 10) (k := 65) (r := 39) d_Mo_jarsOf_30 a_M_0 rfl (by decide) f_Mo_128 rfl ?_
          refine go_iload (k := 4) d_Mo_jarsOf_33 rfl ?_
          obtain ⟨hi, v2, ev2, h⟩ := flod_e h
          refine go_iald2 d_Mo_jarsOf_35 a_M_39 hi ev2 ?_
          refine go_goto (tgt := 46) d_Mo_jarsOf_36 (by decide) ?_
          exact go_lv [0, 1, 2, 4] rfl (j_Mo_jarsOf_46 l d0 (L_Mo_jarsOf_5 x1 x2 I n) x1 x2 x4 v2 x3 I h (fun z3 z4 hh => ih z3 z4 hh hX) hX)
def F_Mo_jarsOf (x1 x2 : Int32) (I : gb_Mem) : Option (Int32) :=
  fbd (L_Mo_jarsOf_5 x1 x2 I 5000 0 0) fun o3 =>
  some o3
set_option maxRecDepth 4000 in
theorem c_Mo_jarsOf (l : Launch) (d0 : Nat) (x1 x2 : Int32) (I : gb_Mem) {rz : Int32} (h : F_Mo_jarsOf x1 x2 I = some rz) : gb_Cs l yMo_jarsOf (d0 + 1) [.inr (some 0), .inl x1, .inl x2] shM I (some (.inl rz)) I := by
  refine gb_Ct.of (lv := [(0, .inr (some 0)), (1, .inl x1), (2, .inl x2)]) rfl (Nat.le_of_ble_eq_true rfl) rfl ?_
  unfold F_Mo_jarsOf at h
  show gb_Go l yMo_jarsOf (d0 + 1) 0 0 0 [(0, .inr (some 0)), (1, .inl x1), (2, .inl x2)] [] shM I (gb_po shM (some (.inl rz)) I)
  refine go_iconst (v := 0) d_Mo_jarsOf_0 (by decide) ?_
  refine go_istore_n (lv' := [(3, .inl 0), (0, .inr (some 0)), (1, .inl x1), (2, .inl x2)]) d_Mo_jarsOf_1 rfl (by decide) rfl ?_
  refine go_iconst (v := 0) d_Mo_jarsOf_2 (by decide) ?_
  refine go_istore (lv' := [(4, .inl 0), (3, .inl 0), (0, .inr (some 0)), (1, .inl x1), (2, .inl x2)]) d_Mo_jarsOf_3 (by decide) rfl ?_
  refine go_lv [2, 3, 4, 1, 0] (lv' := [(0, .inr (some 0)), (1, .inl x1), (2, .inl x2), (3, .inl 0), (4, .inl 0)]) rfl ?_
  obtain ⟨o3, w1, h⟩ := fbd_e h
  refine l_Mo_jarsOf_5 l d0 x1 x2 I 5000 0 0 w1 (fun o3_ e => ?_)
  cases e
  refine go_iload_n (k := 0) d_Mo_jarsOf_54 rfl rfl ?_
  cases h
  exact go_ireturn d_Mo_jarsOf_55 rfl gb_po_i
theorem d_Mo_keepsLaw_0 : decode yMo_keepsLaw.2.1 0 = .ok (.aload_n 0, 1) := by decide +kernel
theorem d_Mo_keepsLaw_1 : decode yMo_keepsLaw.2.1 1 = .ok (.getfield 40, 3) := by decide +kernel
theorem d_Mo_keepsLaw_4 : decode yMo_keepsLaw.2.1 4 = .ok (.iconst 0, 1) := by decide +kernel
theorem d_Mo_keepsLaw_5 : decode yMo_keepsLaw.2.1 5 = .ok (.aload_n 0, 1) := by decide +kernel
theorem d_Mo_keepsLaw_6 : decode yMo_keepsLaw.2.1 6 = .ok (.aload_n 0, 1) := by decide +kernel
theorem d_Mo_keepsLaw_7 : decode yMo_keepsLaw.2.1 7 = .ok (.getfield 40, 3) := by decide +kernel
theorem d_Mo_keepsLaw_10 : decode yMo_keepsLaw.2.1 10 = .ok (.iconst 0, 1) := by decide +kernel
theorem d_Mo_keepsLaw_11 : decode yMo_keepsLaw.2.1 11 = .ok (.iaload, 1) := by decide +kernel
theorem d_Mo_keepsLaw_12 : decode yMo_keepsLaw.2.1 12 = .ok (.invokevirtual 496, 3) := by decide +kernel
theorem d_Mo_keepsLaw_15 : decode yMo_keepsLaw.2.1 15 = .ok (.iastore, 1) := by decide +kernel
theorem d_Mo_keepsLaw_16 : decode yMo_keepsLaw.2.1 16 = .ok (.iconst 0, 1) := by decide +kernel
theorem d_Mo_keepsLaw_17 : decode yMo_keepsLaw.2.1 17 = .ok (.istore_n 1, 1) := by decide +kernel
theorem d_Mo_keepsLaw_18 : decode yMo_keepsLaw.2.1 18 = .ok (.iload_n 1, 1) := by decide +kernel
theorem d_Mo_keepsLaw_19 : decode yMo_keepsLaw.2.1 19 = .ok (.bipush 16, 2) := by decide +kernel
theorem d_Mo_keepsLaw_21 : decode yMo_keepsLaw.2.1 21 = .ok (.if_icmp .ge 73, 3) := by decide +kernel
theorem d_Mo_keepsLaw_24 : decode yMo_keepsLaw.2.1 24 = .ok (.aload_n 0, 1) := by decide +kernel
theorem d_Mo_keepsLaw_25 : decode yMo_keepsLaw.2.1 25 = .ok (.getfield 43, 3) := by decide +kernel
theorem d_Mo_keepsLaw_28 : decode yMo_keepsLaw.2.1 28 = .ok (.iload_n 1, 1) := by decide +kernel
theorem d_Mo_keepsLaw_29 : decode yMo_keepsLaw.2.1 29 = .ok (.aload_n 0, 1) := by decide +kernel
theorem d_Mo_keepsLaw_30 : decode yMo_keepsLaw.2.1 30 = .ok (.aload_n 0, 1) := by decide +kernel
theorem d_Mo_keepsLaw_31 : decode yMo_keepsLaw.2.1 31 = .ok (.getfield 43, 3) := by decide +kernel
theorem d_Mo_keepsLaw_34 : decode yMo_keepsLaw.2.1 34 = .ok (.iload_n 1, 1) := by decide +kernel
theorem d_Mo_keepsLaw_35 : decode yMo_keepsLaw.2.1 35 = .ok (.iaload, 1) := by decide +kernel
theorem d_Mo_keepsLaw_36 : decode yMo_keepsLaw.2.1 36 = .ok (.invokevirtual 496, 3) := by decide +kernel
theorem d_Mo_keepsLaw_39 : decode yMo_keepsLaw.2.1 39 = .ok (.iastore, 1) := by decide +kernel
theorem d_Mo_keepsLaw_40 : decode yMo_keepsLaw.2.1 40 = .ok (.aload_n 0, 1) := by decide +kernel
theorem d_Mo_keepsLaw_41 : decode yMo_keepsLaw.2.1 41 = .ok (.getfield 46, 3) := by decide +kernel
theorem d_Mo_keepsLaw_44 : decode yMo_keepsLaw.2.1 44 = .ok (.iload_n 1, 1) := by decide +kernel
theorem d_Mo_keepsLaw_45 : decode yMo_keepsLaw.2.1 45 = .ok (.aload_n 0, 1) := by decide +kernel
theorem d_Mo_keepsLaw_46 : decode yMo_keepsLaw.2.1 46 = .ok (.aload_n 0, 1) := by decide +kernel
theorem d_Mo_keepsLaw_47 : decode yMo_keepsLaw.2.1 47 = .ok (.getfield 46, 3) := by decide +kernel
theorem d_Mo_keepsLaw_50 : decode yMo_keepsLaw.2.1 50 = .ok (.iload_n 1, 1) := by decide +kernel
theorem d_Mo_keepsLaw_51 : decode yMo_keepsLaw.2.1 51 = .ok (.iaload, 1) := by decide +kernel
theorem d_Mo_keepsLaw_52 : decode yMo_keepsLaw.2.1 52 = .ok (.invokevirtual 496, 3) := by decide +kernel
theorem d_Mo_keepsLaw_55 : decode yMo_keepsLaw.2.1 55 = .ok (.iastore, 1) := by decide +kernel
theorem d_Mo_keepsLaw_56 : decode yMo_keepsLaw.2.1 56 = .ok (.aload_n 0, 1) := by decide +kernel
theorem d_Mo_keepsLaw_57 : decode yMo_keepsLaw.2.1 57 = .ok (.getfield 49, 3) := by decide +kernel
theorem d_Mo_keepsLaw_60 : decode yMo_keepsLaw.2.1 60 = .ok (.iload_n 1, 1) := by decide +kernel
theorem d_Mo_keepsLaw_61 : decode yMo_keepsLaw.2.1 61 = .ok (.aload_n 0, 1) := by decide +kernel
theorem d_Mo_keepsLaw_62 : decode yMo_keepsLaw.2.1 62 = .ok (.aload_n 0, 1) := by decide +kernel
theorem d_Mo_keepsLaw_63 : decode yMo_keepsLaw.2.1 63 = .ok (.getfield 49, 3) := by decide +kernel
theorem d_Mo_keepsLaw_66 : decode yMo_keepsLaw.2.1 66 = .ok (.iload_n 1, 1) := by decide +kernel
theorem d_Mo_keepsLaw_67 : decode yMo_keepsLaw.2.1 67 = .ok (.iaload, 1) := by decide +kernel
theorem d_Mo_keepsLaw_68 : decode yMo_keepsLaw.2.1 68 = .ok (.invokevirtual 496, 3) := by decide +kernel
theorem d_Mo_keepsLaw_71 : decode yMo_keepsLaw.2.1 71 = .ok (.iastore, 1) := by decide +kernel
theorem d_Mo_keepsLaw_72 : decode yMo_keepsLaw.2.1 72 = .ok (.aload_n 0, 1) := by decide +kernel
theorem d_Mo_keepsLaw_73 : decode yMo_keepsLaw.2.1 73 = .ok (.getfield 52, 3) := by decide +kernel
theorem d_Mo_keepsLaw_76 : decode yMo_keepsLaw.2.1 76 = .ok (.iload_n 1, 1) := by decide +kernel
theorem d_Mo_keepsLaw_77 : decode yMo_keepsLaw.2.1 77 = .ok (.aload_n 0, 1) := by decide +kernel
theorem d_Mo_keepsLaw_78 : decode yMo_keepsLaw.2.1 78 = .ok (.aload_n 0, 1) := by decide +kernel
theorem d_Mo_keepsLaw_79 : decode yMo_keepsLaw.2.1 79 = .ok (.getfield 52, 3) := by decide +kernel
theorem d_Mo_keepsLaw_82 : decode yMo_keepsLaw.2.1 82 = .ok (.iload_n 1, 1) := by decide +kernel
theorem d_Mo_keepsLaw_83 : decode yMo_keepsLaw.2.1 83 = .ok (.iaload, 1) := by decide +kernel
theorem d_Mo_keepsLaw_84 : decode yMo_keepsLaw.2.1 84 = .ok (.invokevirtual 496, 3) := by decide +kernel
theorem d_Mo_keepsLaw_87 : decode yMo_keepsLaw.2.1 87 = .ok (.iastore, 1) := by decide +kernel
theorem d_Mo_keepsLaw_88 : decode yMo_keepsLaw.2.1 88 = .ok (.iinc 1 1, 3) := by decide +kernel
theorem d_Mo_keepsLaw_91 : decode yMo_keepsLaw.2.1 91 = .ok (.goto (-73), 3) := by decide +kernel
theorem d_Mo_keepsLaw_94 : decode yMo_keepsLaw.2.1 94 = .ok (.iconst 0, 1) := by decide +kernel
theorem d_Mo_keepsLaw_95 : decode yMo_keepsLaw.2.1 95 = .ok (.istore_n 1, 1) := by decide +kernel
theorem d_Mo_keepsLaw_96 : decode yMo_keepsLaw.2.1 96 = .ok (.iload_n 1, 1) := by decide +kernel
theorem d_Mo_keepsLaw_97 : decode yMo_keepsLaw.2.1 97 = .ok (.sipush 400, 3) := by decide +kernel
theorem d_Mo_keepsLaw_100 : decode yMo_keepsLaw.2.1 100 = .ok (.if_icmp .ge 41, 3) := by decide +kernel
theorem d_Mo_keepsLaw_103 : decode yMo_keepsLaw.2.1 103 = .ok (.aload_n 0, 1) := by decide +kernel
theorem d_Mo_keepsLaw_104 : decode yMo_keepsLaw.2.1 104 = .ok (.getfield 55, 3) := by decide +kernel
theorem d_Mo_keepsLaw_107 : decode yMo_keepsLaw.2.1 107 = .ok (.iload_n 1, 1) := by decide +kernel
theorem d_Mo_keepsLaw_108 : decode yMo_keepsLaw.2.1 108 = .ok (.aload_n 0, 1) := by decide +kernel
theorem d_Mo_keepsLaw_109 : decode yMo_keepsLaw.2.1 109 = .ok (.aload_n 0, 1) := by decide +kernel
theorem d_Mo_keepsLaw_110 : decode yMo_keepsLaw.2.1 110 = .ok (.getfield 55, 3) := by decide +kernel
theorem d_Mo_keepsLaw_113 : decode yMo_keepsLaw.2.1 113 = .ok (.iload_n 1, 1) := by decide +kernel
theorem d_Mo_keepsLaw_114 : decode yMo_keepsLaw.2.1 114 = .ok (.iaload, 1) := by decide +kernel
theorem d_Mo_keepsLaw_115 : decode yMo_keepsLaw.2.1 115 = .ok (.invokevirtual 496, 3) := by decide +kernel
theorem d_Mo_keepsLaw_118 : decode yMo_keepsLaw.2.1 118 = .ok (.iastore, 1) := by decide +kernel
theorem d_Mo_keepsLaw_119 : decode yMo_keepsLaw.2.1 119 = .ok (.aload_n 0, 1) := by decide +kernel
theorem d_Mo_keepsLaw_120 : decode yMo_keepsLaw.2.1 120 = .ok (.getfield 58, 3) := by decide +kernel
theorem d_Mo_keepsLaw_123 : decode yMo_keepsLaw.2.1 123 = .ok (.iload_n 1, 1) := by decide +kernel
theorem d_Mo_keepsLaw_124 : decode yMo_keepsLaw.2.1 124 = .ok (.aload_n 0, 1) := by decide +kernel
theorem d_Mo_keepsLaw_125 : decode yMo_keepsLaw.2.1 125 = .ok (.aload_n 0, 1) := by decide +kernel
theorem d_Mo_keepsLaw_126 : decode yMo_keepsLaw.2.1 126 = .ok (.getfield 58, 3) := by decide +kernel
theorem d_Mo_keepsLaw_129 : decode yMo_keepsLaw.2.1 129 = .ok (.iload_n 1, 1) := by decide +kernel
theorem d_Mo_keepsLaw_130 : decode yMo_keepsLaw.2.1 130 = .ok (.iaload, 1) := by decide +kernel
theorem d_Mo_keepsLaw_131 : decode yMo_keepsLaw.2.1 131 = .ok (.invokevirtual 496, 3) := by decide +kernel
theorem d_Mo_keepsLaw_134 : decode yMo_keepsLaw.2.1 134 = .ok (.iastore, 1) := by decide +kernel
theorem d_Mo_keepsLaw_135 : decode yMo_keepsLaw.2.1 135 = .ok (.iinc 1 1, 3) := by decide +kernel
theorem d_Mo_keepsLaw_138 : decode yMo_keepsLaw.2.1 138 = .ok (.goto (-42), 3) := by decide +kernel
theorem d_Mo_keepsLaw_141 : decode yMo_keepsLaw.2.1 141 = .ok (.return_, 1) := by decide +kernel
def L_Mo_keepsLaw_18 : Nat → Int32 → gb_Mem → Option (gb_Mem)
  | 0, _, _ => none
  | n + 1, x1, I =>
    if 16 ≤ x1 then
      some I
    else
      flod I 12 48 x1 fun v4 =>
      fbd (F_Mo_keeps v4 I) fun (r6, I5) =>
      fsto I5 12 48 x1 r6 fun I7 =>
      flod I7 13 48 x1 fun v8 =>
      fbd (F_Mo_keeps v8 I7) fun (r10, I9) =>
      fsto I9 13 48 x1 r10 fun I11 =>
      flod I11 14 48 x1 fun v12 =>
      fbd (F_Mo_keeps v12 I11) fun (r14, I13) =>
      fsto I13 14 48 x1 r14 fun I15 =>
      flod I15 15 48 x1 fun v16 =>
      fbd (F_Mo_keeps v16 I15) fun (r18, I17) =>
      fsto I17 15 48 x1 r18 fun I19 =>
      L_Mo_keepsLaw_18 n (x1 + 1) I19
set_option maxRecDepth 4000 in
theorem l_Mo_keepsLaw_18 (l : Launch) (d0 : Nat) {post : Option gb_AV → List gb_Ce → gb_Mem → Prop} : ∀ (n : Nat) (x1 : Int32) (I : gb_Mem) {ρ : gb_Mem} (h : L_Mo_keepsLaw_18 n x1 I = some ρ) (hX : ∀ (I2 : gb_Mem), ρ = I2 → gb_Go l yMo_keepsLaw (d0 + 1) 0 0 94 [(0, .inr (some 0))] [] shM I2 post) , gb_Go l yMo_keepsLaw (d0 + 1) 0 0 18 [(0, .inr (some 0)), (1, .inl x1)] [] shM I post := by
  intro n
  induction n with
  | zero => intro x1 I ρ h hX; cases h
  | succ n ih =>
    intro x1 I ρ h hX
    rw [L_Mo_keepsLaw_18] at h
    refine go_iload_n (k := 1) d_Mo_keepsLaw_18 rfl rfl ?_
    refine go_bipush (v := 16) d_Mo_keepsLaw_19 (by decide) ?_
    refine go_cmp_ge (tgt := 94) d_Mo_keepsLaw_21 (by decide) (fun hc => ?_) (fun hc => ?_)
    · rw [if_pos hc] at h
      exact go_lv [0] rfl (hX _ (Option.some.inj h).symm)
    · rw [if_neg hc] at h
      refine go_aload_n (k := 0) d_Mo_keepsLaw_24 rfl rfl ?_
      refine go_getr (ci := 10) (k := 20) (r := 12) d_Mo_keepsLaw_25 a_M_0 rfl (by decide) f_Mo_43 rfl ?_
      refine go_iload_n (k := 1) d_Mo_keepsLaw_28 rfl rfl ?_
      refine go_aload_n (k := 0) d_Mo_keepsLaw_29 rfl rfl ?_
      refine go_aload_n (k := 0) d_Mo_keepsLaw_30 rfl rfl ?_
      refine go_getr (ci := 10) (k := 20) (r := 12) d_Mo_keepsLaw_31 a_M_0 rfl (by decide) f_Mo_43 rfl ?_
      refine go_iload_n (k := 1) d_Mo_keepsLaw_34 rfl rfl ?_
      obtain ⟨hi, v4, ev4, h⟩ := flod_e h
      refine go_iald2 d_Mo_keepsLaw_35 a_M_12 hi ev4 ?_
      obtain ⟨⟨r6, I5⟩, w1, h⟩ := fbd_e h
      try dsimp only at h
      refine go_callV (y := yMo_keeps) (asr := [.inl v4]) (v := some (.inl r6)) (I' := I5) (st1 := [.inl r6, .inl x1, .inr (some 12)]) d_Mo_keepsLaw_36 s_yMo_keeps m_Mo_496 a_M_0 rfl rfl rfl (Nat.le_of_ble_eq_true rfl) rfl rfl (c_Mo_keeps l (d0 + 0) v4 I w1) ?_
      obtain ⟨hi, I7, eI7, h⟩ := fsto_e h
      refine go_iast (I' := I7) d_Mo_keepsLaw_39 a_M_12 hi eI7 ?_
      refine go_aload_n (k := 0) d_Mo_keepsLaw_40 rfl rfl ?_
      refine go_getr (ci := 10) (k := 21) (r := 13) d_Mo_keepsLaw_41 a_M_0 rfl (by decide) f_Mo_46 rfl ?_
      refine go_iload_n (k := 1) d_Mo_keepsLaw_44 rfl rfl ?_
      refine go_aload_n (k := 0) d_Mo_keepsLaw_45 rfl rfl ?_
      refine go_aload_n (k := 0) d_Mo_keepsLaw_46 rfl rfl ?_
      refine go_getr (ci := 10) (k := 21) (r := 13) d_Mo_keepsLaw_47 a_M_0 rfl (by decide) f_Mo_46 rfl ?_
      refine go_iload_n (k := 1) d_Mo_keepsLaw_50 rfl rfl ?_
      obtain ⟨hi, v8, ev8, h⟩ := flod_e h
      refine go_iald2 d_Mo_keepsLaw_51 a_M_13 hi ev8 ?_
      obtain ⟨⟨r10, I9⟩, w1, h⟩ := fbd_e h
      try dsimp only at h
      refine go_callV (y := yMo_keeps) (asr := [.inl v8]) (v := some (.inl r10)) (I' := I9) (st1 := [.inl r10, .inl x1, .inr (some 13)]) d_Mo_keepsLaw_52 s_yMo_keeps m_Mo_496 a_M_0 rfl rfl rfl (Nat.le_of_ble_eq_true rfl) rfl rfl (c_Mo_keeps l (d0 + 0) v8 I7 w1) ?_
      obtain ⟨hi, I11, eI11, h⟩ := fsto_e h
      refine go_iast (I' := I11) d_Mo_keepsLaw_55 a_M_13 hi eI11 ?_
      refine go_aload_n (k := 0) d_Mo_keepsLaw_56 rfl rfl ?_
      refine go_getr (ci := 10) (k := 22) (r := 14) d_Mo_keepsLaw_57 a_M_0 rfl (by decide) f_Mo_49 rfl ?_
      refine go_iload_n (k := 1) d_Mo_keepsLaw_60 rfl rfl ?_
      refine go_aload_n (k := 0) d_Mo_keepsLaw_61 rfl rfl ?_
      refine go_aload_n (k := 0) d_Mo_keepsLaw_62 rfl rfl ?_
      refine go_getr (ci := 10) (k := 22) (r := 14) d_Mo_keepsLaw_63 a_M_0 rfl (by decide) f_Mo_49 rfl ?_
      refine go_iload_n (k := 1) d_Mo_keepsLaw_66 rfl rfl ?_
      obtain ⟨hi, v12, ev12, h⟩ := flod_e h
      refine go_iald2 d_Mo_keepsLaw_67 a_M_14 hi ev12 ?_
      obtain ⟨⟨r14, I13⟩, w1, h⟩ := fbd_e h
      try dsimp only at h
      refine go_callV (y := yMo_keeps) (asr := [.inl v12]) (v := some (.inl r14)) (I' := I13) (st1 := [.inl r14, .inl x1, .inr (some 14)]) d_Mo_keepsLaw_68 s_yMo_keeps m_Mo_496 a_M_0 rfl rfl rfl (Nat.le_of_ble_eq_true rfl) rfl rfl (c_Mo_keeps l (d0 + 0) v12 I11 w1) ?_
      obtain ⟨hi, I15, eI15, h⟩ := fsto_e h
      refine go_iast (I' := I15) d_Mo_keepsLaw_71 a_M_14 hi eI15 ?_
      refine go_aload_n (k := 0) d_Mo_keepsLaw_72 rfl rfl ?_
      refine go_getr (ci := 10) (k := 23) (r := 15) d_Mo_keepsLaw_73 a_M_0 rfl (by decide) f_Mo_52 rfl ?_
      refine go_iload_n (k := 1) d_Mo_keepsLaw_76 rfl rfl ?_
      refine go_aload_n (k := 0) d_Mo_keepsLaw_77 rfl rfl ?_
      refine go_aload_n (k := 0) d_Mo_keepsLaw_78 rfl rfl ?_
      refine go_getr (ci := 10) (k := 23) (r := 15) d_Mo_keepsLaw_79 a_M_0 rfl (by decide) f_Mo_52 rfl ?_
      refine go_iload_n (k := 1) d_Mo_keepsLaw_82 rfl rfl ?_
      obtain ⟨hi, v16, ev16, h⟩ := flod_e h
      refine go_iald2 d_Mo_keepsLaw_83 a_M_15 hi ev16 ?_
      obtain ⟨⟨r18, I17⟩, w1, h⟩ := fbd_e h
      try dsimp only at h
      refine go_callV (y := yMo_keeps) (asr := [.inl v16]) (v := some (.inl r18)) (I' := I17) (st1 := [.inl r18, .inl x1, .inr (some 15)]) d_Mo_keepsLaw_84 s_yMo_keeps m_Mo_496 a_M_0 rfl rfl rfl (Nat.le_of_ble_eq_true rfl) rfl rfl (c_Mo_keeps l (d0 + 0) v16 I15 w1) ?_
      obtain ⟨hi, I19, eI19, h⟩ := fsto_e h
      refine go_iast (I' := I19) d_Mo_keepsLaw_87 a_M_15 hi eI19 ?_
      refine go_iinc (k := 1) (v := x1 + 1) (lv' := [(1, .inl (x1 + 1)), (0, .inr (some 0))]) d_Mo_keepsLaw_88 rfl rfl (by decide) rfl ?_
      refine go_goto (tgt := 18) d_Mo_keepsLaw_91 (by decide) ?_
      exact go_lv [1, 0] rfl (ih (x1 + 1) I19 h hX)
def L_Mo_keepsLaw_96 : Nat → Int32 → gb_Mem → Option (gb_Mem)
  | 0, _, _ => none
  | n + 1, x1, I =>
    if 400 ≤ x1 then
      some I
    else
      flod I 16 1200 x1 fun v21 =>
      fbd (F_Mo_keeps v21 I) fun (r23, I22) =>
      fsto I22 16 1200 x1 r23 fun I24 =>
      flod I24 17 1200 x1 fun v25 =>
      fbd (F_Mo_keeps v25 I24) fun (r27, I26) =>
      fsto I26 17 1200 x1 r27 fun I28 =>
      L_Mo_keepsLaw_96 n (x1 + 1) I28
set_option maxRecDepth 4000 in
theorem l_Mo_keepsLaw_96 (l : Launch) (d0 : Nat) {post : Option gb_AV → List gb_Ce → gb_Mem → Prop} : ∀ (n : Nat) (x1 : Int32) (I : gb_Mem) {ρ : gb_Mem} (h : L_Mo_keepsLaw_96 n x1 I = some ρ) (hX : ∀ (I2 : gb_Mem), ρ = I2 → gb_Go l yMo_keepsLaw (d0 + 1) 0 0 141 [] [] shM I2 post) , gb_Go l yMo_keepsLaw (d0 + 1) 0 0 96 [(0, .inr (some 0)), (1, .inl x1)] [] shM I post := by
  intro n
  induction n with
  | zero => intro x1 I ρ h hX; cases h
  | succ n ih =>
    intro x1 I ρ h hX
    rw [L_Mo_keepsLaw_96] at h
    refine go_iload_n (k := 1) d_Mo_keepsLaw_96 rfl rfl ?_
    refine go_sipush (v := 400) d_Mo_keepsLaw_97 (by decide) ?_
    refine go_cmp_ge (tgt := 141) d_Mo_keepsLaw_100 (by decide) (fun hc => ?_) (fun hc => ?_)
    · rw [if_pos hc] at h
      exact go_lv [] rfl (hX _ (Option.some.inj h).symm)
    · rw [if_neg hc] at h
      refine go_aload_n (k := 0) d_Mo_keepsLaw_103 rfl rfl ?_
      refine go_getr (ci := 10) (k := 24) (r := 16) d_Mo_keepsLaw_104 a_M_0 rfl (by decide) f_Mo_55 rfl ?_
      refine go_iload_n (k := 1) d_Mo_keepsLaw_107 rfl rfl ?_
      refine go_aload_n (k := 0) d_Mo_keepsLaw_108 rfl rfl ?_
      refine go_aload_n (k := 0) d_Mo_keepsLaw_109 rfl rfl ?_
      refine go_getr (ci := 10) (k := 24) (r := 16) d_Mo_keepsLaw_110 a_M_0 rfl (by decide) f_Mo_55 rfl ?_
      refine go_iload_n (k := 1) d_Mo_keepsLaw_113 rfl rfl ?_
      obtain ⟨hi, v21, ev21, h⟩ := flod_e h
      refine go_iald2 d_Mo_keepsLaw_114 a_M_16 hi ev21 ?_
      obtain ⟨⟨r23, I22⟩, w1, h⟩ := fbd_e h
      try dsimp only at h
      refine go_callV (y := yMo_keeps) (asr := [.inl v21]) (v := some (.inl r23)) (I' := I22) (st1 := [.inl r23, .inl x1, .inr (some 16)]) d_Mo_keepsLaw_115 s_yMo_keeps m_Mo_496 a_M_0 rfl rfl rfl (Nat.le_of_ble_eq_true rfl) rfl rfl (c_Mo_keeps l (d0 + 0) v21 I w1) ?_
      obtain ⟨hi, I24, eI24, h⟩ := fsto_e h
      refine go_iast (I' := I24) d_Mo_keepsLaw_118 a_M_16 hi eI24 ?_
      refine go_aload_n (k := 0) d_Mo_keepsLaw_119 rfl rfl ?_
      refine go_getr (ci := 10) (k := 25) (r := 17) d_Mo_keepsLaw_120 a_M_0 rfl (by decide) f_Mo_58 rfl ?_
      refine go_iload_n (k := 1) d_Mo_keepsLaw_123 rfl rfl ?_
      refine go_aload_n (k := 0) d_Mo_keepsLaw_124 rfl rfl ?_
      refine go_aload_n (k := 0) d_Mo_keepsLaw_125 rfl rfl ?_
      refine go_getr (ci := 10) (k := 25) (r := 17) d_Mo_keepsLaw_126 a_M_0 rfl (by decide) f_Mo_58 rfl ?_
      refine go_iload_n (k := 1) d_Mo_keepsLaw_129 rfl rfl ?_
      obtain ⟨hi, v25, ev25, h⟩ := flod_e h
      refine go_iald2 d_Mo_keepsLaw_130 a_M_17 hi ev25 ?_
      obtain ⟨⟨r27, I26⟩, w1, h⟩ := fbd_e h
      try dsimp only at h
      refine go_callV (y := yMo_keeps) (asr := [.inl v25]) (v := some (.inl r27)) (I' := I26) (st1 := [.inl r27, .inl x1, .inr (some 17)]) d_Mo_keepsLaw_131 s_yMo_keeps m_Mo_496 a_M_0 rfl rfl rfl (Nat.le_of_ble_eq_true rfl) rfl rfl (c_Mo_keeps l (d0 + 0) v25 I24 w1) ?_
      obtain ⟨hi, I28, eI28, h⟩ := fsto_e h
      refine go_iast (I' := I28) d_Mo_keepsLaw_134 a_M_17 hi eI28 ?_
      refine go_iinc (k := 1) (v := x1 + 1) (lv' := [(1, .inl (x1 + 1)), (0, .inr (some 0))]) d_Mo_keepsLaw_135 rfl rfl (by decide) rfl ?_
      refine go_goto (tgt := 96) d_Mo_keepsLaw_138 (by decide) ?_
      exact go_lv [1, 0] rfl (ih (x1 + 1) I28 h hX)
def F_Mo_keepsLaw (I : gb_Mem) : Option (gb_Mem) :=
  fbd (F_Mo_keeps (I 11 0) I) fun (r2, I1) =>
  fstf I1 11 0 r2 fun I3 =>
  fbd (L_Mo_keepsLaw_18 5000 0 I3) fun I20 =>
  fbd (L_Mo_keepsLaw_96 5000 0 I20) fun I29 =>
  some I29
set_option maxRecDepth 4000 in
theorem c_Mo_keepsLaw (l : Launch) (d0 : Nat) (I : gb_Mem) {Iz : gb_Mem} (h : F_Mo_keepsLaw I = some Iz) : gb_Cs l yMo_keepsLaw (d0 + 1) [.inr (some 0)] shM I none Iz := by
  refine gb_Ct.of (lv := [(0, .inr (some 0))]) rfl (Nat.le_of_ble_eq_true rfl) rfl ?_
  unfold F_Mo_keepsLaw at h
  show gb_Go l yMo_keepsLaw (d0 + 1) 0 0 0 [(0, .inr (some 0))] [] shM I (gb_po shM none Iz)
  refine go_aload_n (k := 0) d_Mo_keepsLaw_0 rfl rfl ?_
  refine go_getr (ci := 10) (k := 19) (r := 11) d_Mo_keepsLaw_1 a_M_0 rfl (by decide) f_Mo_40 rfl ?_
  refine go_iconst (v := 0) d_Mo_keepsLaw_4 (by decide) ?_
  refine go_aload_n (k := 0) d_Mo_keepsLaw_5 rfl rfl ?_
  refine go_aload_n (k := 0) d_Mo_keepsLaw_6 rfl rfl ?_
  refine go_getr (ci := 10) (k := 19) (r := 11) d_Mo_keepsLaw_7 a_M_0 rfl (by decide) f_Mo_40 rfl ?_
  refine go_iconst (v := 0) d_Mo_keepsLaw_10 (by decide) ?_
  refine go_iald2 (v := I 11 0) d_Mo_keepsLaw_11 a_M_11 (inb_iff.mp (by decide)) rfl ?_
  obtain ⟨⟨r2, I1⟩, w1, h⟩ := fbd_e h
  try dsimp only at h
  refine go_callV (y := yMo_keeps) (asr := [.inl (I 11 0)]) (v := some (.inl r2)) (I' := I1) (st1 := [.inl r2, .inl 0, .inr (some 11)]) d_Mo_keepsLaw_12 s_yMo_keeps m_Mo_496 a_M_0 rfl rfl rfl (Nat.le_of_ble_eq_true rfl) rfl rfl (c_Mo_keeps l (d0 + 0) (I 11 0) I w1) ?_
  obtain ⟨I3, eI3, h⟩ := fstf_e h
  refine go_iast (I' := I3) d_Mo_keepsLaw_15 a_M_11 (inb_iff.mp (by decide)) eI3 ?_
  refine go_iconst (v := 0) d_Mo_keepsLaw_16 (by decide) ?_
  refine go_istore_n (lv' := [(1, .inl 0), (0, .inr (some 0))]) d_Mo_keepsLaw_17 rfl (by decide) rfl ?_
  refine go_lv [1, 0] (lv' := [(0, .inr (some 0)), (1, .inl 0)]) rfl ?_
  obtain ⟨I20, w1, h⟩ := fbd_e h
  refine l_Mo_keepsLaw_18 l d0  5000 0 I3 w1 (fun I20_ e => ?_)
  cases e
  refine go_iconst (v := 0) d_Mo_keepsLaw_94 (by decide) ?_
  refine go_istore_n (lv' := [(1, .inl 0), (0, .inr (some 0))]) d_Mo_keepsLaw_95 rfl (by decide) rfl ?_
  refine go_lv [1, 0] (lv' := [(0, .inr (some 0)), (1, .inl 0)]) rfl ?_
  obtain ⟨I29, w1, h⟩ := fbd_e h
  refine l_Mo_keepsLaw_96 l d0  5000 0 I20 w1 (fun I29_ e => ?_)
  cases e
  cases h
  exact go_return d_Mo_keepsLaw_141 rfl gb_po_i
theorem d_Mo_keepsMany_0 : decode yMo_keepsMany.2.1 0 = .ok (.aload_n 0, 1) := by decide +kernel
theorem d_Mo_keepsMany_1 : decode yMo_keepsMany.2.1 1 = .ok (.aload_n 0, 1) := by decide +kernel
theorem d_Mo_keepsMany_2 : decode yMo_keepsMany.2.1 2 = .ok (.aload_n 0, 1) := by decide +kernel
theorem d_Mo_keepsMany_3 : decode yMo_keepsMany.2.1 3 = .ok (.getfield 150, 3) := by decide +kernel
theorem d_Mo_keepsMany_6 : decode yMo_keepsMany.2.1 6 = .ok (.invokevirtual 496, 3) := by decide +kernel
theorem d_Mo_keepsMany_9 : decode yMo_keepsMany.2.1 9 = .ok (.putfield 150, 3) := by decide +kernel
theorem d_Mo_keepsMany_12 : decode yMo_keepsMany.2.1 12 = .ok (.aload_n 0, 1) := by decide +kernel
theorem d_Mo_keepsMany_13 : decode yMo_keepsMany.2.1 13 = .ok (.aload_n 0, 1) := by decide +kernel
theorem d_Mo_keepsMany_14 : decode yMo_keepsMany.2.1 14 = .ok (.aload_n 0, 1) := by decide +kernel
theorem d_Mo_keepsMany_15 : decode yMo_keepsMany.2.1 15 = .ok (.getfield 306, 3) := by decide +kernel
theorem d_Mo_keepsMany_18 : decode yMo_keepsMany.2.1 18 = .ok (.invokevirtual 496, 3) := by decide +kernel
theorem d_Mo_keepsMany_21 : decode yMo_keepsMany.2.1 21 = .ok (.putfield 306, 3) := by decide +kernel
theorem d_Mo_keepsMany_24 : decode yMo_keepsMany.2.1 24 = .ok (.aload_n 0, 1) := by decide +kernel
theorem d_Mo_keepsMany_25 : decode yMo_keepsMany.2.1 25 = .ok (.aload_n 0, 1) := by decide +kernel
theorem d_Mo_keepsMany_26 : decode yMo_keepsMany.2.1 26 = .ok (.aload_n 0, 1) := by decide +kernel
theorem d_Mo_keepsMany_27 : decode yMo_keepsMany.2.1 27 = .ok (.getfield 309, 3) := by decide +kernel
theorem d_Mo_keepsMany_30 : decode yMo_keepsMany.2.1 30 = .ok (.invokevirtual 496, 3) := by decide +kernel
theorem d_Mo_keepsMany_33 : decode yMo_keepsMany.2.1 33 = .ok (.putfield 309, 3) := by decide +kernel
theorem d_Mo_keepsMany_36 : decode yMo_keepsMany.2.1 36 = .ok (.aload_n 0, 1) := by decide +kernel
theorem d_Mo_keepsMany_37 : decode yMo_keepsMany.2.1 37 = .ok (.aload_n 0, 1) := by decide +kernel
theorem d_Mo_keepsMany_38 : decode yMo_keepsMany.2.1 38 = .ok (.aload_n 0, 1) := by decide +kernel
theorem d_Mo_keepsMany_39 : decode yMo_keepsMany.2.1 39 = .ok (.getfield 303, 3) := by decide +kernel
theorem d_Mo_keepsMany_42 : decode yMo_keepsMany.2.1 42 = .ok (.invokevirtual 496, 3) := by decide +kernel
theorem d_Mo_keepsMany_45 : decode yMo_keepsMany.2.1 45 = .ok (.putfield 303, 3) := by decide +kernel
theorem d_Mo_keepsMany_48 : decode yMo_keepsMany.2.1 48 = .ok (.aload_n 0, 1) := by decide +kernel
theorem d_Mo_keepsMany_49 : decode yMo_keepsMany.2.1 49 = .ok (.getfield 89, 3) := by decide +kernel
theorem d_Mo_keepsMany_52 : decode yMo_keepsMany.2.1 52 = .ok (.iconst 0, 1) := by decide +kernel
theorem d_Mo_keepsMany_53 : decode yMo_keepsMany.2.1 53 = .ok (.aload_n 0, 1) := by decide +kernel
theorem d_Mo_keepsMany_54 : decode yMo_keepsMany.2.1 54 = .ok (.aload_n 0, 1) := by decide +kernel
theorem d_Mo_keepsMany_55 : decode yMo_keepsMany.2.1 55 = .ok (.getfield 89, 3) := by decide +kernel
theorem d_Mo_keepsMany_58 : decode yMo_keepsMany.2.1 58 = .ok (.iconst 0, 1) := by decide +kernel
theorem d_Mo_keepsMany_59 : decode yMo_keepsMany.2.1 59 = .ok (.iaload, 1) := by decide +kernel
theorem d_Mo_keepsMany_60 : decode yMo_keepsMany.2.1 60 = .ok (.invokevirtual 496, 3) := by decide +kernel
theorem d_Mo_keepsMany_63 : decode yMo_keepsMany.2.1 63 = .ok (.iastore, 1) := by decide +kernel
theorem d_Mo_keepsMany_64 : decode yMo_keepsMany.2.1 64 = .ok (.aload_n 0, 1) := by decide +kernel
theorem d_Mo_keepsMany_65 : decode yMo_keepsMany.2.1 65 = .ok (.getfield 89, 3) := by decide +kernel
theorem d_Mo_keepsMany_68 : decode yMo_keepsMany.2.1 68 = .ok (.iconst 1, 1) := by decide +kernel
theorem d_Mo_keepsMany_69 : decode yMo_keepsMany.2.1 69 = .ok (.aload_n 0, 1) := by decide +kernel
theorem d_Mo_keepsMany_70 : decode yMo_keepsMany.2.1 70 = .ok (.aload_n 0, 1) := by decide +kernel
theorem d_Mo_keepsMany_71 : decode yMo_keepsMany.2.1 71 = .ok (.getfield 89, 3) := by decide +kernel
theorem d_Mo_keepsMany_74 : decode yMo_keepsMany.2.1 74 = .ok (.iconst 1, 1) := by decide +kernel
theorem d_Mo_keepsMany_75 : decode yMo_keepsMany.2.1 75 = .ok (.iaload, 1) := by decide +kernel
theorem d_Mo_keepsMany_76 : decode yMo_keepsMany.2.1 76 = .ok (.invokevirtual 496, 3) := by decide +kernel
theorem d_Mo_keepsMany_79 : decode yMo_keepsMany.2.1 79 = .ok (.iastore, 1) := by decide +kernel
theorem d_Mo_keepsMany_80 : decode yMo_keepsMany.2.1 80 = .ok (.aload_n 0, 1) := by decide +kernel
theorem d_Mo_keepsMany_81 : decode yMo_keepsMany.2.1 81 = .ok (.aload_n 0, 1) := by decide +kernel
theorem d_Mo_keepsMany_82 : decode yMo_keepsMany.2.1 82 = .ok (.aload_n 0, 1) := by decide +kernel
theorem d_Mo_keepsMany_83 : decode yMo_keepsMany.2.1 83 = .ok (.getfield 441, 3) := by decide +kernel
theorem d_Mo_keepsMany_86 : decode yMo_keepsMany.2.1 86 = .ok (.invokevirtual 496, 3) := by decide +kernel
theorem d_Mo_keepsMany_89 : decode yMo_keepsMany.2.1 89 = .ok (.putfield 441, 3) := by decide +kernel
theorem d_Mo_keepsMany_92 : decode yMo_keepsMany.2.1 92 = .ok (.aload_n 0, 1) := by decide +kernel
theorem d_Mo_keepsMany_93 : decode yMo_keepsMany.2.1 93 = .ok (.aload_n 0, 1) := by decide +kernel
theorem d_Mo_keepsMany_94 : decode yMo_keepsMany.2.1 94 = .ok (.aload_n 0, 1) := by decide +kernel
theorem d_Mo_keepsMany_95 : decode yMo_keepsMany.2.1 95 = .ok (.getfield 444, 3) := by decide +kernel
theorem d_Mo_keepsMany_98 : decode yMo_keepsMany.2.1 98 = .ok (.invokevirtual 496, 3) := by decide +kernel
theorem d_Mo_keepsMany_101 : decode yMo_keepsMany.2.1 101 = .ok (.putfield 444, 3) := by decide +kernel
theorem d_Mo_keepsMany_104 : decode yMo_keepsMany.2.1 104 = .ok (.aload_n 0, 1) := by decide +kernel
theorem d_Mo_keepsMany_105 : decode yMo_keepsMany.2.1 105 = .ok (.aload_n 0, 1) := by decide +kernel
theorem d_Mo_keepsMany_106 : decode yMo_keepsMany.2.1 106 = .ok (.aload_n 0, 1) := by decide +kernel
theorem d_Mo_keepsMany_107 : decode yMo_keepsMany.2.1 107 = .ok (.getfield 456, 3) := by decide +kernel
theorem d_Mo_keepsMany_110 : decode yMo_keepsMany.2.1 110 = .ok (.invokevirtual 496, 3) := by decide +kernel
theorem d_Mo_keepsMany_113 : decode yMo_keepsMany.2.1 113 = .ok (.putfield 456, 3) := by decide +kernel
theorem d_Mo_keepsMany_116 : decode yMo_keepsMany.2.1 116 = .ok (.aload_n 0, 1) := by decide +kernel
theorem d_Mo_keepsMany_117 : decode yMo_keepsMany.2.1 117 = .ok (.aload_n 0, 1) := by decide +kernel
theorem d_Mo_keepsMany_118 : decode yMo_keepsMany.2.1 118 = .ok (.aload_n 0, 1) := by decide +kernel
theorem d_Mo_keepsMany_119 : decode yMo_keepsMany.2.1 119 = .ok (.getfield 465, 3) := by decide +kernel
theorem d_Mo_keepsMany_122 : decode yMo_keepsMany.2.1 122 = .ok (.invokevirtual 496, 3) := by decide +kernel
theorem d_Mo_keepsMany_125 : decode yMo_keepsMany.2.1 125 = .ok (.putfield 465, 3) := by decide +kernel
theorem d_Mo_keepsMany_128 : decode yMo_keepsMany.2.1 128 = .ok (.aload_n 0, 1) := by decide +kernel
theorem d_Mo_keepsMany_129 : decode yMo_keepsMany.2.1 129 = .ok (.aload_n 0, 1) := by decide +kernel
theorem d_Mo_keepsMany_130 : decode yMo_keepsMany.2.1 130 = .ok (.aload_n 0, 1) := by decide +kernel
theorem d_Mo_keepsMany_131 : decode yMo_keepsMany.2.1 131 = .ok (.getfield 471, 3) := by decide +kernel
theorem d_Mo_keepsMany_134 : decode yMo_keepsMany.2.1 134 = .ok (.invokevirtual 496, 3) := by decide +kernel
theorem d_Mo_keepsMany_137 : decode yMo_keepsMany.2.1 137 = .ok (.putfield 471, 3) := by decide +kernel
theorem d_Mo_keepsMany_140 : decode yMo_keepsMany.2.1 140 = .ok (.aload_n 0, 1) := by decide +kernel
theorem d_Mo_keepsMany_141 : decode yMo_keepsMany.2.1 141 = .ok (.aload_n 0, 1) := by decide +kernel
theorem d_Mo_keepsMany_142 : decode yMo_keepsMany.2.1 142 = .ok (.aload_n 0, 1) := by decide +kernel
theorem d_Mo_keepsMany_143 : decode yMo_keepsMany.2.1 143 = .ok (.getfield 477, 3) := by decide +kernel
theorem d_Mo_keepsMany_146 : decode yMo_keepsMany.2.1 146 = .ok (.invokevirtual 496, 3) := by decide +kernel
theorem d_Mo_keepsMany_149 : decode yMo_keepsMany.2.1 149 = .ok (.putfield 477, 3) := by decide +kernel
theorem d_Mo_keepsMany_152 : decode yMo_keepsMany.2.1 152 = .ok (.return_, 1) := by decide +kernel
def F_Mo_keepsMany (I : gb_Mem) : Option (gb_Mem) :=
  fbd (F_Mo_keeps (I 0 6) I) fun (r2, I1) =>
  fstf I1 0 6 r2 fun I3 =>
  fbd (F_Mo_keeps (I3 0 35) I3) fun (r5, I4) =>
  fstf I4 0 35 r5 fun I6 =>
  fbd (F_Mo_keeps (I6 0 37) I6) fun (r8, I7) =>
  fstf I7 0 37 r8 fun I9 =>
  fbd (F_Mo_keeps (I9 0 39) I9) fun (r11, I10) =>
  fstf I10 0 39 r11 fun I12 =>
  fbd (F_Mo_keeps (I12 26 0) I12) fun (r14, I13) =>
  fstf I13 26 0 r14 fun I15 =>
  fbd (F_Mo_keeps (I15 26 1) I15) fun (r17, I16) =>
  fstf I16 26 1 r17 fun I18 =>
  fbd (F_Mo_keeps (I18 0 50) I18) fun (r20, I19) =>
  fstf I19 0 50 r20 fun I21 =>
  fbd (F_Mo_keeps (I21 0 53) I21) fun (r23, I22) =>
  fstf I22 0 53 r23 fun I24 =>
  fbd (F_Mo_keeps (I24 0 56) I24) fun (r26, I25) =>
  fstf I25 0 56 r26 fun I27 =>
  fbd (F_Mo_keeps (I27 0 58) I27) fun (r29, I28) =>
  fstf I28 0 58 r29 fun I30 =>
  fbd (F_Mo_keeps (I30 0 61) I30) fun (r32, I31) =>
  fstf I31 0 61 r32 fun I33 =>
  fbd (F_Mo_keeps (I33 0 64) I33) fun (r35, I34) =>
  fstf I34 0 64 r35 fun I36 =>
  some I36
set_option maxRecDepth 4000 in
theorem c_Mo_keepsMany (l : Launch) (d0 : Nat) (I : gb_Mem) {Iz : gb_Mem} (h : F_Mo_keepsMany I = some Iz) : gb_Cs l yMo_keepsMany (d0 + 1) [.inr (some 0)] shM I none Iz := by
  refine gb_Ct.of (lv := [(0, .inr (some 0))]) rfl (Nat.le_of_ble_eq_true rfl) rfl ?_
  unfold F_Mo_keepsMany at h
  show gb_Go l yMo_keepsMany (d0 + 1) 0 0 0 [(0, .inr (some 0))] [] shM I (gb_po shM none Iz)
  refine go_aload_n (k := 0) d_Mo_keepsMany_0 rfl rfl ?_
  refine go_aload_n (k := 0) d_Mo_keepsMany_1 rfl rfl ?_
  refine go_aload_n (k := 0) d_Mo_keepsMany_2 rfl rfl ?_
  refine go_geti (ci := 10) (k := 6) d_Mo_keepsMany_3 a_M_0 rfl (by decide) f_Mo_150 rfl ?_
  obtain ⟨⟨r2, I1⟩, w1, h⟩ := fbd_e h
  try dsimp only at h
  refine go_callV (y := yMo_keeps) (asr := [.inl (I 0 6)]) (v := some (.inl r2)) (I' := I1) (st1 := [.inl r2, .inr (some 0)]) d_Mo_keepsMany_6 s_yMo_keeps m_Mo_496 a_M_0 rfl rfl rfl (Nat.le_of_ble_eq_true rfl) rfl rfl (c_Mo_keeps l (d0 + 0) (I 0 6) I w1) ?_
  obtain ⟨I3, eI3, h⟩ := fstf_e h
  refine go_putT (ci := 10) (k := 6) (I' := I3) d_Mo_keepsMany_9 a_M_0 rfl (by decide) f_Mo_150 rfl rfl rfl rfl rfl eI3 ?_
  refine go_aload_n (k := 0) d_Mo_keepsMany_12 rfl rfl ?_
  refine go_aload_n (k := 0) d_Mo_keepsMany_13 rfl rfl ?_
  refine go_aload_n (k := 0) d_Mo_keepsMany_14 rfl rfl ?_
  refine go_geti (ci := 10) (k := 35) d_Mo_keepsMany_15 a_M_0 rfl (by decide) f_Mo_306 rfl ?_
  obtain ⟨⟨r5, I4⟩, w1, h⟩ := fbd_e h
  try dsimp only at h
  refine go_callV (y := yMo_keeps) (asr := [.inl (I3 0 35)]) (v := some (.inl r5)) (I' := I4) (st1 := [.inl r5, .inr (some 0)]) d_Mo_keepsMany_18 s_yMo_keeps m_Mo_496 a_M_0 rfl rfl rfl (Nat.le_of_ble_eq_true rfl) rfl rfl (c_Mo_keeps l (d0 + 0) (I3 0 35) I3 w1) ?_
  obtain ⟨I6, eI6, h⟩ := fstf_e h
  refine go_putT (ci := 10) (k := 35) (I' := I6) d_Mo_keepsMany_21 a_M_0 rfl (by decide) f_Mo_306 rfl rfl rfl rfl rfl eI6 ?_
  refine go_aload_n (k := 0) d_Mo_keepsMany_24 rfl rfl ?_
  refine go_aload_n (k := 0) d_Mo_keepsMany_25 rfl rfl ?_
  refine go_aload_n (k := 0) d_Mo_keepsMany_26 rfl rfl ?_
  refine go_geti (ci := 10) (k := 37) d_Mo_keepsMany_27 a_M_0 rfl (by decide) f_Mo_309 rfl ?_
  obtain ⟨⟨r8, I7⟩, w1, h⟩ := fbd_e h
  try dsimp only at h
  refine go_callV (y := yMo_keeps) (asr := [.inl (I6 0 37)]) (v := some (.inl r8)) (I' := I7) (st1 := [.inl r8, .inr (some 0)]) d_Mo_keepsMany_30 s_yMo_keeps m_Mo_496 a_M_0 rfl rfl rfl (Nat.le_of_ble_eq_true rfl) rfl rfl (c_Mo_keeps l (d0 + 0) (I6 0 37) I6 w1) ?_
  obtain ⟨I9, eI9, h⟩ := fstf_e h
  refine go_putT (ci := 10) (k := 37) (I' := I9) d_Mo_keepsMany_33 a_M_0 rfl (by decide) f_Mo_309 rfl rfl rfl rfl rfl eI9 ?_
  refine go_aload_n (k := 0) d_Mo_keepsMany_36 rfl rfl ?_
  refine go_aload_n (k := 0) d_Mo_keepsMany_37 rfl rfl ?_
  refine go_aload_n (k := 0) d_Mo_keepsMany_38 rfl rfl ?_
  refine go_geti (ci := 10) (k := 39) d_Mo_keepsMany_39 a_M_0 rfl (by decide) f_Mo_303 rfl ?_
  obtain ⟨⟨r11, I10⟩, w1, h⟩ := fbd_e h
  try dsimp only at h
  refine go_callV (y := yMo_keeps) (asr := [.inl (I9 0 39)]) (v := some (.inl r11)) (I' := I10) (st1 := [.inl r11, .inr (some 0)]) d_Mo_keepsMany_42 s_yMo_keeps m_Mo_496 a_M_0 rfl rfl rfl (Nat.le_of_ble_eq_true rfl) rfl rfl (c_Mo_keeps l (d0 + 0) (I9 0 39) I9 w1) ?_
  obtain ⟨I12, eI12, h⟩ := fstf_e h
  refine go_putT (ci := 10) (k := 39) (I' := I12) d_Mo_keepsMany_45 a_M_0 rfl (by decide) f_Mo_303 rfl rfl rfl rfl rfl eI12 ?_
  refine go_aload_n (k := 0) d_Mo_keepsMany_48 rfl rfl ?_
  refine go_getr (ci := 10) (k := 46) (r := 26) d_Mo_keepsMany_49 a_M_0 rfl (by decide) f_Mo_89 rfl ?_
  refine go_iconst (v := 0) d_Mo_keepsMany_52 (by decide) ?_
  refine go_aload_n (k := 0) d_Mo_keepsMany_53 rfl rfl ?_
  refine go_aload_n (k := 0) d_Mo_keepsMany_54 rfl rfl ?_
  refine go_getr (ci := 10) (k := 46) (r := 26) d_Mo_keepsMany_55 a_M_0 rfl (by decide) f_Mo_89 rfl ?_
  refine go_iconst (v := 0) d_Mo_keepsMany_58 (by decide) ?_
  refine go_iald2 (v := I12 26 0) d_Mo_keepsMany_59 a_M_26 (inb_iff.mp (by decide)) rfl ?_
  obtain ⟨⟨r14, I13⟩, w1, h⟩ := fbd_e h
  try dsimp only at h
  refine go_callV (y := yMo_keeps) (asr := [.inl (I12 26 0)]) (v := some (.inl r14)) (I' := I13) (st1 := [.inl r14, .inl 0, .inr (some 26)]) d_Mo_keepsMany_60 s_yMo_keeps m_Mo_496 a_M_0 rfl rfl rfl (Nat.le_of_ble_eq_true rfl) rfl rfl (c_Mo_keeps l (d0 + 0) (I12 26 0) I12 w1) ?_
  obtain ⟨I15, eI15, h⟩ := fstf_e h
  refine go_iast (I' := I15) d_Mo_keepsMany_63 a_M_26 (inb_iff.mp (by decide)) eI15 ?_
  refine go_aload_n (k := 0) d_Mo_keepsMany_64 rfl rfl ?_
  refine go_getr (ci := 10) (k := 46) (r := 26) d_Mo_keepsMany_65 a_M_0 rfl (by decide) f_Mo_89 rfl ?_
  refine go_iconst (v := 1) d_Mo_keepsMany_68 (by decide) ?_
  refine go_aload_n (k := 0) d_Mo_keepsMany_69 rfl rfl ?_
  refine go_aload_n (k := 0) d_Mo_keepsMany_70 rfl rfl ?_
  refine go_getr (ci := 10) (k := 46) (r := 26) d_Mo_keepsMany_71 a_M_0 rfl (by decide) f_Mo_89 rfl ?_
  refine go_iconst (v := 1) d_Mo_keepsMany_74 (by decide) ?_
  refine go_iald2 (v := I15 26 1) d_Mo_keepsMany_75 a_M_26 (inb_iff.mp (by decide)) rfl ?_
  obtain ⟨⟨r17, I16⟩, w1, h⟩ := fbd_e h
  try dsimp only at h
  refine go_callV (y := yMo_keeps) (asr := [.inl (I15 26 1)]) (v := some (.inl r17)) (I' := I16) (st1 := [.inl r17, .inl 1, .inr (some 26)]) d_Mo_keepsMany_76 s_yMo_keeps m_Mo_496 a_M_0 rfl rfl rfl (Nat.le_of_ble_eq_true rfl) rfl rfl (c_Mo_keeps l (d0 + 0) (I15 26 1) I15 w1) ?_
  obtain ⟨I18, eI18, h⟩ := fstf_e h
  refine go_iast (I' := I18) d_Mo_keepsMany_79 a_M_26 (inb_iff.mp (by decide)) eI18 ?_
  refine go_aload_n (k := 0) d_Mo_keepsMany_80 rfl rfl ?_
  refine go_aload_n (k := 0) d_Mo_keepsMany_81 rfl rfl ?_
  refine go_aload_n (k := 0) d_Mo_keepsMany_82 rfl rfl ?_
  refine go_geti (ci := 10) (k := 50) d_Mo_keepsMany_83 a_M_0 rfl (by decide) f_Mo_441 rfl ?_
  obtain ⟨⟨r20, I19⟩, w1, h⟩ := fbd_e h
  try dsimp only at h
  refine go_callV (y := yMo_keeps) (asr := [.inl (I18 0 50)]) (v := some (.inl r20)) (I' := I19) (st1 := [.inl r20, .inr (some 0)]) d_Mo_keepsMany_86 s_yMo_keeps m_Mo_496 a_M_0 rfl rfl rfl (Nat.le_of_ble_eq_true rfl) rfl rfl (c_Mo_keeps l (d0 + 0) (I18 0 50) I18 w1) ?_
  obtain ⟨I21, eI21, h⟩ := fstf_e h
  refine go_putT (ci := 10) (k := 50) (I' := I21) d_Mo_keepsMany_89 a_M_0 rfl (by decide) f_Mo_441 rfl rfl rfl rfl rfl eI21 ?_
  refine go_aload_n (k := 0) d_Mo_keepsMany_92 rfl rfl ?_
  refine go_aload_n (k := 0) d_Mo_keepsMany_93 rfl rfl ?_
  refine go_aload_n (k := 0) d_Mo_keepsMany_94 rfl rfl ?_
  refine go_geti (ci := 10) (k := 53) d_Mo_keepsMany_95 a_M_0 rfl (by decide) f_Mo_444 rfl ?_
  obtain ⟨⟨r23, I22⟩, w1, h⟩ := fbd_e h
  try dsimp only at h
  refine go_callV (y := yMo_keeps) (asr := [.inl (I21 0 53)]) (v := some (.inl r23)) (I' := I22) (st1 := [.inl r23, .inr (some 0)]) d_Mo_keepsMany_98 s_yMo_keeps m_Mo_496 a_M_0 rfl rfl rfl (Nat.le_of_ble_eq_true rfl) rfl rfl (c_Mo_keeps l (d0 + 0) (I21 0 53) I21 w1) ?_
  obtain ⟨I24, eI24, h⟩ := fstf_e h
  refine go_putT (ci := 10) (k := 53) (I' := I24) d_Mo_keepsMany_101 a_M_0 rfl (by decide) f_Mo_444 rfl rfl rfl rfl rfl eI24 ?_
  refine go_aload_n (k := 0) d_Mo_keepsMany_104 rfl rfl ?_
  refine go_aload_n (k := 0) d_Mo_keepsMany_105 rfl rfl ?_
  refine go_aload_n (k := 0) d_Mo_keepsMany_106 rfl rfl ?_
  refine go_geti (ci := 10) (k := 56) d_Mo_keepsMany_107 a_M_0 rfl (by decide) f_Mo_456 rfl ?_
  obtain ⟨⟨r26, I25⟩, w1, h⟩ := fbd_e h
  try dsimp only at h
  refine go_callV (y := yMo_keeps) (asr := [.inl (I24 0 56)]) (v := some (.inl r26)) (I' := I25) (st1 := [.inl r26, .inr (some 0)]) d_Mo_keepsMany_110 s_yMo_keeps m_Mo_496 a_M_0 rfl rfl rfl (Nat.le_of_ble_eq_true rfl) rfl rfl (c_Mo_keeps l (d0 + 0) (I24 0 56) I24 w1) ?_
  obtain ⟨I27, eI27, h⟩ := fstf_e h
  refine go_putT (ci := 10) (k := 56) (I' := I27) d_Mo_keepsMany_113 a_M_0 rfl (by decide) f_Mo_456 rfl rfl rfl rfl rfl eI27 ?_
  refine go_aload_n (k := 0) d_Mo_keepsMany_116 rfl rfl ?_
  refine go_aload_n (k := 0) d_Mo_keepsMany_117 rfl rfl ?_
  refine go_aload_n (k := 0) d_Mo_keepsMany_118 rfl rfl ?_
  refine go_geti (ci := 10) (k := 58) d_Mo_keepsMany_119 a_M_0 rfl (by decide) f_Mo_465 rfl ?_
  obtain ⟨⟨r29, I28⟩, w1, h⟩ := fbd_e h
  try dsimp only at h
  refine go_callV (y := yMo_keeps) (asr := [.inl (I27 0 58)]) (v := some (.inl r29)) (I' := I28) (st1 := [.inl r29, .inr (some 0)]) d_Mo_keepsMany_122 s_yMo_keeps m_Mo_496 a_M_0 rfl rfl rfl (Nat.le_of_ble_eq_true rfl) rfl rfl (c_Mo_keeps l (d0 + 0) (I27 0 58) I27 w1) ?_
  obtain ⟨I30, eI30, h⟩ := fstf_e h
  refine go_putT (ci := 10) (k := 58) (I' := I30) d_Mo_keepsMany_125 a_M_0 rfl (by decide) f_Mo_465 rfl rfl rfl rfl rfl eI30 ?_
  refine go_aload_n (k := 0) d_Mo_keepsMany_128 rfl rfl ?_
  refine go_aload_n (k := 0) d_Mo_keepsMany_129 rfl rfl ?_
  refine go_aload_n (k := 0) d_Mo_keepsMany_130 rfl rfl ?_
  refine go_geti (ci := 10) (k := 61) d_Mo_keepsMany_131 a_M_0 rfl (by decide) f_Mo_471 rfl ?_
  obtain ⟨⟨r32, I31⟩, w1, h⟩ := fbd_e h
  try dsimp only at h
  refine go_callV (y := yMo_keeps) (asr := [.inl (I30 0 61)]) (v := some (.inl r32)) (I' := I31) (st1 := [.inl r32, .inr (some 0)]) d_Mo_keepsMany_134 s_yMo_keeps m_Mo_496 a_M_0 rfl rfl rfl (Nat.le_of_ble_eq_true rfl) rfl rfl (c_Mo_keeps l (d0 + 0) (I30 0 61) I30 w1) ?_
  obtain ⟨I33, eI33, h⟩ := fstf_e h
  refine go_putT (ci := 10) (k := 61) (I' := I33) d_Mo_keepsMany_137 a_M_0 rfl (by decide) f_Mo_471 rfl rfl rfl rfl rfl eI33 ?_
  refine go_aload_n (k := 0) d_Mo_keepsMany_140 rfl rfl ?_
  refine go_aload_n (k := 0) d_Mo_keepsMany_141 rfl rfl ?_
  refine go_aload_n (k := 0) d_Mo_keepsMany_142 rfl rfl ?_
  refine go_geti (ci := 10) (k := 64) d_Mo_keepsMany_143 a_M_0 rfl (by decide) f_Mo_477 rfl ?_
  obtain ⟨⟨r35, I34⟩, w1, h⟩ := fbd_e h
  try dsimp only at h
  refine go_callV (y := yMo_keeps) (asr := [.inl (I33 0 64)]) (v := some (.inl r35)) (I' := I34) (st1 := [.inl r35, .inr (some 0)]) d_Mo_keepsMany_146 s_yMo_keeps m_Mo_496 a_M_0 rfl rfl rfl (Nat.le_of_ble_eq_true rfl) rfl rfl (c_Mo_keeps l (d0 + 0) (I33 0 64) I33 w1) ?_
  obtain ⟨I36, eI36, h⟩ := fstf_e h
  refine go_putT (ci := 10) (k := 64) (I' := I36) d_Mo_keepsMany_149 a_M_0 rfl (by decide) f_Mo_477 rfl rfl rfl rfl rfl eI36 ?_
  cases h
  exact go_return d_Mo_keepsMany_152 rfl gb_po_i
