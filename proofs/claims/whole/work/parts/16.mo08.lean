theorem d_Mo_readLaw_0 : decode yMo_readLaw.2.1 0 = .ok (.iconst 0, 1) := by decide +kernel
theorem d_Mo_readLaw_1 : decode yMo_readLaw.2.1 1 = .ok (.istore_n 1, 1) := by decide +kernel
theorem d_Mo_readLaw_2 : decode yMo_readLaw.2.1 2 = .ok (.aload_n 0, 1) := by decide +kernel
theorem d_Mo_readLaw_3 : decode yMo_readLaw.2.1 3 = .ok (.invokevirtual 259, 3) := by decide +kernel
theorem d_Mo_readLaw_6 : decode yMo_readLaw.2.1 6 = .ok (.ifCond .eq 122, 3) := by decide +kernel
theorem d_Mo_readLaw_9 : decode yMo_readLaw.2.1 9 = .ok (.iload_n 1, 1) := by decide +kernel
theorem d_Mo_readLaw_10 : decode yMo_readLaw.2.1 10 = .ok (.bipush 16, 2) := by decide +kernel
theorem d_Mo_readLaw_12 : decode yMo_readLaw.2.1 12 = .ok (.if_icmp .ne 9, 3) := by decide +kernel
theorem d_Mo_readLaw_15 : decode yMo_readLaw.2.1 15 = .ok (.aload_n 0, 1) := by decide +kernel
theorem d_Mo_readLaw_16 : decode yMo_readLaw.2.1 16 = .ok (.iconst 3, 1) := by decide +kernel
theorem d_Mo_readLaw_17 : decode yMo_readLaw.2.1 17 = .ok (.invokevirtual 218, 3) := by decide +kernel
theorem d_Mo_readLaw_20 : decode yMo_readLaw.2.1 20 = .ok (.ireturn, 1) := by decide +kernel
theorem d_Mo_readLaw_21 : decode yMo_readLaw.2.1 21 = .ok (.bipush 32, 2) := by decide +kernel
theorem d_Mo_readLaw_23 : decode yMo_readLaw.2.1 23 = .ok (.iload_n 1, 1) := by decide +kernel
theorem d_Mo_readLaw_24 : decode yMo_readLaw.2.1 24 = .ok (.iadd, 1) := by decide +kernel
theorem d_Mo_readLaw_25 : decode yMo_readLaw.2.1 25 = .ok (.istore_n 2, 1) := by decide +kernel
theorem d_Mo_readLaw_26 : decode yMo_readLaw.2.1 26 = .ok (.aload_n 0, 1) := by decide +kernel
theorem d_Mo_readLaw_27 : decode yMo_readLaw.2.1 27 = .ok (.getfield 43, 3) := by decide +kernel
theorem d_Mo_readLaw_30 : decode yMo_readLaw.2.1 30 = .ok (.iload_n 2, 1) := by decide +kernel
theorem d_Mo_readLaw_31 : decode yMo_readLaw.2.1 31 = .ok (.aload_n 0, 1) := by decide +kernel
theorem d_Mo_readLaw_32 : decode yMo_readLaw.2.1 32 = .ok (.getfield 190, 3) := by decide +kernel
theorem d_Mo_readLaw_35 : decode yMo_readLaw.2.1 35 = .ok (.iastore, 1) := by decide +kernel
theorem d_Mo_readLaw_36 : decode yMo_readLaw.2.1 36 = .ok (.aload_n 0, 1) := by decide +kernel
theorem d_Mo_readLaw_37 : decode yMo_readLaw.2.1 37 = .ok (.invokevirtual 225, 3) := by decide +kernel
theorem d_Mo_readLaw_40 : decode yMo_readLaw.2.1 40 = .ok (.aload_n 0, 1) := by decide +kernel
theorem d_Mo_readLaw_41 : decode yMo_readLaw.2.1 41 = .ok (.getfield 46, 3) := by decide +kernel
theorem d_Mo_readLaw_44 : decode yMo_readLaw.2.1 44 = .ok (.iload_n 2, 1) := by decide +kernel
theorem d_Mo_readLaw_45 : decode yMo_readLaw.2.1 45 = .ok (.aload_n 0, 1) := by decide +kernel
theorem d_Mo_readLaw_46 : decode yMo_readLaw.2.1 46 = .ok (.getfield 212, 3) := by decide +kernel
theorem d_Mo_readLaw_49 : decode yMo_readLaw.2.1 49 = .ok (.iastore, 1) := by decide +kernel
theorem d_Mo_readLaw_50 : decode yMo_readLaw.2.1 50 = .ok (.aload_n 0, 1) := by decide +kernel
theorem d_Mo_readLaw_51 : decode yMo_readLaw.2.1 51 = .ok (.invokevirtual 238, 3) := by decide +kernel
theorem d_Mo_readLaw_54 : decode yMo_readLaw.2.1 54 = .ok (.iconst (-1), 1) := by decide +kernel
theorem d_Mo_readLaw_55 : decode yMo_readLaw.2.1 55 = .ok (.if_icmp .ne 5, 3) := by decide +kernel
theorem d_Mo_readLaw_58 : decode yMo_readLaw.2.1 58 = .ok (.iconst (-1), 1) := by decide +kernel
theorem d_Mo_readLaw_59 : decode yMo_readLaw.2.1 59 = .ok (.ireturn, 1) := by decide +kernel
theorem d_Mo_readLaw_60 : decode yMo_readLaw.2.1 60 = .ok (.aload_n 0, 1) := by decide +kernel
theorem d_Mo_readLaw_61 : decode yMo_readLaw.2.1 61 = .ok (.getfield 49, 3) := by decide +kernel
theorem d_Mo_readLaw_64 : decode yMo_readLaw.2.1 64 = .ok (.iload_n 2, 1) := by decide +kernel
theorem d_Mo_readLaw_65 : decode yMo_readLaw.2.1 65 = .ok (.aload_n 0, 1) := by decide +kernel
theorem d_Mo_readLaw_66 : decode yMo_readLaw.2.1 66 = .ok (.getfield 212, 3) := by decide +kernel
theorem d_Mo_readLaw_69 : decode yMo_readLaw.2.1 69 = .ok (.iastore, 1) := by decide +kernel
theorem d_Mo_readLaw_70 : decode yMo_readLaw.2.1 70 = .ok (.aload_n 0, 1) := by decide +kernel
theorem d_Mo_readLaw_71 : decode yMo_readLaw.2.1 71 = .ok (.iconst 3, 1) := by decide +kernel
theorem d_Mo_readLaw_72 : decode yMo_readLaw.2.1 72 = .ok (.invokevirtual 247, 3) := by decide +kernel
theorem d_Mo_readLaw_75 : decode yMo_readLaw.2.1 75 = .ok (.ifCond .eq 17, 3) := by decide +kernel
theorem d_Mo_readLaw_78 : decode yMo_readLaw.2.1 78 = .ok (.aload_n 0, 1) := by decide +kernel
theorem d_Mo_readLaw_79 : decode yMo_readLaw.2.1 79 = .ok (.invokevirtual 225, 3) := by decide +kernel
theorem d_Mo_readLaw_82 : decode yMo_readLaw.2.1 82 = .ok (.aload_n 0, 1) := by decide +kernel
theorem d_Mo_readLaw_83 : decode yMo_readLaw.2.1 83 = .ok (.invokevirtual 263, 3) := by decide +kernel
theorem d_Mo_readLaw_86 : decode yMo_readLaw.2.1 86 = .ok (.iconst (-1), 1) := by decide +kernel
theorem d_Mo_readLaw_87 : decode yMo_readLaw.2.1 87 = .ok (.if_icmp .ne 5, 3) := by decide +kernel
theorem d_Mo_readLaw_90 : decode yMo_readLaw.2.1 90 = .ok (.iconst (-1), 1) := by decide +kernel
theorem d_Mo_readLaw_91 : decode yMo_readLaw.2.1 91 = .ok (.ireturn, 1) := by decide +kernel
theorem d_Mo_readLaw_92 : decode yMo_readLaw.2.1 92 = .ok (.aload_n 0, 1) := by decide +kernel
theorem d_Mo_readLaw_93 : decode yMo_readLaw.2.1 93 = .ok (.getfield 52, 3) := by decide +kernel
theorem d_Mo_readLaw_96 : decode yMo_readLaw.2.1 96 = .ok (.iload_n 2, 1) := by decide +kernel
theorem d_Mo_readLaw_97 : decode yMo_readLaw.2.1 97 = .ok (.aload_n 0, 1) := by decide +kernel
theorem d_Mo_readLaw_98 : decode yMo_readLaw.2.1 98 = .ok (.getfield 212, 3) := by decide +kernel
theorem d_Mo_readLaw_101 : decode yMo_readLaw.2.1 101 = .ok (.iastore, 1) := by decide +kernel
theorem d_Mo_readLaw_102 : decode yMo_readLaw.2.1 102 = .ok (.aload_n 0, 1) := by decide +kernel
theorem d_Mo_readLaw_103 : decode yMo_readLaw.2.1 103 = .ok (.bipush 59, 2) := by decide +kernel
theorem d_Mo_readLaw_105 : decode yMo_readLaw.2.1 105 = .ok (.invokevirtual 232, 3) := by decide +kernel
theorem d_Mo_readLaw_108 : decode yMo_readLaw.2.1 108 = .ok (.ifCond .ne 9, 3) := by decide +kernel
theorem d_Mo_readLaw_111 : decode yMo_readLaw.2.1 111 = .ok (.aload_n 0, 1) := by decide +kernel
theorem d_Mo_readLaw_112 : decode yMo_readLaw.2.1 112 = .ok (.iconst 1, 1) := by decide +kernel
theorem d_Mo_readLaw_113 : decode yMo_readLaw.2.1 113 = .ok (.invokevirtual 218, 3) := by decide +kernel
theorem d_Mo_readLaw_116 : decode yMo_readLaw.2.1 116 = .ok (.ireturn, 1) := by decide +kernel
theorem d_Mo_readLaw_117 : decode yMo_readLaw.2.1 117 = .ok (.aload_n 0, 1) := by decide +kernel
theorem d_Mo_readLaw_118 : decode yMo_readLaw.2.1 118 = .ok (.invokevirtual 225, 3) := by decide +kernel
theorem d_Mo_readLaw_121 : decode yMo_readLaw.2.1 121 = .ok (.iload_n 1, 1) := by decide +kernel
theorem d_Mo_readLaw_122 : decode yMo_readLaw.2.1 122 = .ok (.iconst 1, 1) := by decide +kernel
theorem d_Mo_readLaw_123 : decode yMo_readLaw.2.1 123 = .ok (.iadd, 1) := by decide +kernel
theorem d_Mo_readLaw_124 : decode yMo_readLaw.2.1 124 = .ok (.istore_n 1, 1) := by decide +kernel
theorem d_Mo_readLaw_125 : decode yMo_readLaw.2.1 125 = .ok (.goto (-123), 3) := by decide +kernel
theorem d_Mo_readLaw_128 : decode yMo_readLaw.2.1 128 = .ok (.aload_n 0, 1) := by decide +kernel
theorem d_Mo_readLaw_129 : decode yMo_readLaw.2.1 129 = .ok (.getfield 187, 3) := by decide +kernel
theorem d_Mo_readLaw_132 : decode yMo_readLaw.2.1 132 = .ok (.ifCond .ne 7, 3) := by decide +kernel
theorem d_Mo_readLaw_135 : decode yMo_readLaw.2.1 135 = .ok (.iload_n 1, 1) := by decide +kernel
theorem d_Mo_readLaw_136 : decode yMo_readLaw.2.1 136 = .ok (.goto 8, 3) := by decide +kernel
theorem d_Mo_readLaw_139 : decode yMo_readLaw.2.1 139 = .ok (.aload_n 0, 1) := by decide +kernel
theorem d_Mo_readLaw_140 : decode yMo_readLaw.2.1 140 = .ok (.iconst 1, 1) := by decide +kernel
theorem d_Mo_readLaw_141 : decode yMo_readLaw.2.1 141 = .ok (.invokevirtual 218, 3) := by decide +kernel
theorem d_Mo_readLaw_144 : decode yMo_readLaw.2.1 144 = .ok (.ireturn, 1) := by decide +kernel
def J_Mo_readLaw_92 (k : Int32 → gb_Mem → Option ((Int32 × gb_Mem) ⊕ (Int32 × gb_Mem))) (x1 x2 : Int32) (I : gb_Mem) : Option ((Int32 × gb_Mem) ⊕ (Int32 × gb_Mem)) :=
  fsto I 15 48 x2 (I 0 27) fun I7 =>
  if (F_Mo_isSign 59 I7) = 0 then
    fbd (F_Mo_errs 1 I7) fun (r10, I9) =>
    some (.inr (r10, I9))
  else
    fbd (F_Mo_reads  I7) fun I8 =>
    k (x1 + 1) I8
set_option maxRecDepth 4000 in
theorem j_Mo_readLaw_92 (l : Launch) (d0 : Nat) {post : Option gb_AV → List gb_Ce → gb_Mem → Prop} (k : Int32 → gb_Mem → Option ((Int32 × gb_Mem) ⊕ (Int32 × gb_Mem))) (x1 x2 : Int32) (I : gb_Mem) {ρ : (Int32 × gb_Mem) ⊕ (Int32 × gb_Mem)} (h : J_Mo_readLaw_92 k x1 x2 I = some ρ) (hk : ∀ (z1 : Int32) (Iw : gb_Mem), k z1 Iw = some ρ → gb_Go l yMo_readLaw (d0 + 8) 0 0 2 [(0, .inr (some 0)), (1, .inl z1)] [] shM Iw post) (hX : ∀ (o1 : Int32) (I2 : gb_Mem), ρ = .inl (o1, I2) → gb_Go l yMo_readLaw (d0 + 8) 0 0 128 [(0, .inr (some 0)), (1, .inl o1)] [] shM I2 post) (hR : ∀ (v : Int32) (I3 : gb_Mem), ρ = .inr (v, I3) → post (some (.inl v)) shM I3) : gb_Go l yMo_readLaw (d0 + 8) 0 0 92 [(0, .inr (some 0)), (1, .inl x1), (2, .inl x2)] [] shM I post := by
  unfold J_Mo_readLaw_92 at h
  refine go_aload_n (k := 0) d_Mo_readLaw_92 rfl rfl ?_
  refine go_getr (ci := 10) (k := 23) (r := 15) d_Mo_readLaw_93 a_M_0 rfl (by decide) f_Mo_52 rfl ?_
  refine go_iload_n (k := 2) d_Mo_readLaw_96 rfl rfl ?_
  refine go_aload_n (k := 0) d_Mo_readLaw_97 rfl rfl ?_
  refine go_geti (ci := 10) (k := 27) d_Mo_readLaw_98 a_M_0 rfl (by decide) f_Mo_212 rfl ?_
  obtain ⟨hi, I7, eI7, h⟩ := fsto_e h
  refine go_iast (I' := I7) d_Mo_readLaw_101 a_M_15 hi eI7 ?_
  refine go_aload_n (k := 0) d_Mo_readLaw_102 rfl rfl ?_
  refine go_bipush (v := 59) d_Mo_readLaw_103 (by decide) ?_
  refine go_callV (y := yMo_isSign) (asr := [.inl 59]) (v := some (.inl (F_Mo_isSign 59 I7))) (I' := I7) (st1 := [.inl (F_Mo_isSign 59 I7)]) d_Mo_readLaw_105 s_yMo_isSign m_Mo_232 a_M_0 rfl rfl rfl (Nat.le_of_ble_eq_true rfl) rfl rfl (c_Mo_isSign l (d0 + 7) 59 I7) ?_
  refine go_if_ne (tgt := 117) d_Mo_readLaw_108 (by decide) (fun hc => ?_) (fun hc => ?_)
  · rw [if_neg hc] at h
    refine go_aload_n (k := 0) d_Mo_readLaw_117 rfl rfl ?_
    obtain ⟨I8, w1, h⟩ := fbd_e h
    refine go_callV (y := yMo_reads) (asr := []) (v := none) (I' := I8) (st1 := []) d_Mo_readLaw_118 s_yMo_reads m_Mo_225 a_M_0 rfl rfl rfl (Nat.le_of_ble_eq_true rfl) rfl rfl (c_Mo_reads l (d0 + 5)  I7 w1) ?_
    refine go_iload_n (k := 1) d_Mo_readLaw_121 rfl rfl ?_
    refine go_iconst (v := 1) d_Mo_readLaw_122 (by decide) ?_
    refine go_iadd d_Mo_readLaw_123 ?_
    refine go_istore_n (lv' := [(1, .inl (x1 + 1)), (0, .inr (some 0)), (2, .inl x2)]) d_Mo_readLaw_124 rfl (by decide) rfl ?_
    refine go_goto (tgt := 2) d_Mo_readLaw_125 (by decide) ?_
    exact go_lv [1, 0] rfl (hk _ _ h)
  · rw [if_pos hc] at h
    refine go_aload_n (k := 0) d_Mo_readLaw_111 rfl rfl ?_
    refine go_iconst (v := 1) d_Mo_readLaw_112 (by decide) ?_
    obtain ⟨⟨r10, I9⟩, w1, h⟩ := fbd_e h
    try dsimp only at h
    refine go_callV (y := yMo_errs) (asr := [.inl 1]) (v := some (.inl r10)) (I' := I9) (st1 := [.inl r10]) d_Mo_readLaw_113 s_yMo_errs m_Mo_218 a_M_0 rfl rfl rfl (Nat.le_of_ble_eq_true rfl) rfl rfl (c_Mo_errs l (d0 + 7) 1 I7 w1) ?_
    exact go_ireturn d_Mo_readLaw_116 rfl (hR _ _ (Option.some.inj h).symm)
def L_Mo_readLaw_2 : Nat → Int32 → gb_Mem → Option ((Int32 × gb_Mem) ⊕ (Int32 × gb_Mem))
  | 0, _, _ => none
  | n + 1, x1, I =>
    if (F_Mo_isLineWord  I) = 0 then
      some (.inl (x1, I))
    else
      if x1 = 16 then
        fbd (F_Mo_errs 3 I) fun (r15, I14) =>
        some (.inr (r15, I14))
      else
        fsto I 12 48 (32 + x1) (I 0 17) fun I1 =>
        fbd (F_Mo_reads  I1) fun I2 =>
        fsto I2 13 48 (32 + x1) (I2 0 27) fun I3 =>
        fbd (F_Mo_readSum  I3) fun (r5, I4) =>
        if r5 = (-1) then
          some (.inr ((-1), I4))
        else
          fsto I4 14 48 (32 + x1) (I4 0 27) fun I6 =>
          if (F_Mo_isWord 3 I6) = 0 then
            J_Mo_readLaw_92 (L_Mo_readLaw_2 n) x1 (32 + x1) I6
          else
            fbd (F_Mo_reads  I6) fun I11 =>
            fbd (F_Mo_readAny  I11) fun (r13, I12) =>
            if r13 = (-1) then
              some (.inr ((-1), I12))
            else
              J_Mo_readLaw_92 (L_Mo_readLaw_2 n) x1 (32 + x1) I12
set_option maxRecDepth 4000 in
theorem l_Mo_readLaw_2 (l : Launch) (d0 : Nat) {post : Option gb_AV → List gb_Ce → gb_Mem → Prop} : ∀ (n : Nat) (x1 : Int32) (I : gb_Mem) {ρ : (Int32 × gb_Mem) ⊕ (Int32 × gb_Mem)} (h : L_Mo_readLaw_2 n x1 I = some ρ) (hX : ∀ (o1 : Int32) (I2 : gb_Mem), ρ = .inl (o1, I2) → gb_Go l yMo_readLaw (d0 + 8) 0 0 128 [(0, .inr (some 0)), (1, .inl o1)] [] shM I2 post) (hR : ∀ (v : Int32) (I3 : gb_Mem), ρ = .inr (v, I3) → post (some (.inl v)) shM I3) , gb_Go l yMo_readLaw (d0 + 8) 0 0 2 [(0, .inr (some 0)), (1, .inl x1)] [] shM I post := by
  intro n
  induction n with
  | zero => intro x1 I ρ h hX hR; cases h
  | succ n ih =>
    intro x1 I ρ h hX hR
    rw [L_Mo_readLaw_2] at h
    refine go_aload_n (k := 0) d_Mo_readLaw_2 rfl rfl ?_
    refine go_callV (y := yMo_isLineWord) (asr := []) (v := some (.inl (F_Mo_isLineWord  I))) (I' := I) (st1 := [.inl (F_Mo_isLineWord  I)]) d_Mo_readLaw_3 s_yMo_isLineWord m_Mo_259 a_M_0 rfl rfl rfl (Nat.le_of_ble_eq_true rfl) rfl rfl (c_Mo_isLineWord l (d0 + 6)  I) ?_
    refine go_if_eq (tgt := 128) d_Mo_readLaw_6 (by decide) (fun hc => ?_) (fun hc => ?_)
    · rw [if_pos hc] at h
      exact go_lv [0, 1] rfl (hX _ _ (Option.some.inj h).symm)
    · rw [if_neg hc] at h
      refine go_iload_n (k := 1) d_Mo_readLaw_9 rfl rfl ?_
      refine go_bipush (v := 16) d_Mo_readLaw_10 (by decide) ?_
      refine go_cmp_ne (tgt := 21) d_Mo_readLaw_12 (by decide) (fun hc => ?_) (fun hc => ?_)
      · rw [if_neg hc] at h
        refine go_bipush (v := 32) d_Mo_readLaw_21 (by decide) ?_
        refine go_iload_n (k := 1) d_Mo_readLaw_23 rfl rfl ?_
        refine go_iadd d_Mo_readLaw_24 ?_
        refine go_istore_n (lv' := [(2, .inl (32 + x1)), (0, .inr (some 0)), (1, .inl x1)]) d_Mo_readLaw_25 rfl (by decide) rfl ?_
        refine go_aload_n (k := 1) d_Mo_readLaw_26 rfl rfl ?_
        refine go_getr (ci := 10) (k := 20) (r := 12) d_Mo_readLaw_27 a_M_0 rfl (by decide) f_Mo_43 rfl ?_
        refine go_iload_n (k := 0) d_Mo_readLaw_30 rfl rfl ?_
        refine go_aload_n (k := 1) d_Mo_readLaw_31 rfl rfl ?_
        refine go_geti (ci := 10) (k := 17) d_Mo_readLaw_32 a_M_0 rfl (by decide) f_Mo_190 rfl ?_
        obtain ⟨hi, I1, eI1, h⟩ := fsto_e h
        refine go_iast (I' := I1) d_Mo_readLaw_35 a_M_12 hi eI1 ?_
        refine go_aload_n (k := 1) d_Mo_readLaw_36 rfl rfl ?_
        obtain ⟨I2, w1, h⟩ := fbd_e h
        refine go_callV (y := yMo_reads) (asr := []) (v := none) (I' := I2) (st1 := []) d_Mo_readLaw_37 s_yMo_reads m_Mo_225 a_M_0 rfl rfl rfl (Nat.le_of_ble_eq_true rfl) rfl rfl (c_Mo_reads l (d0 + 5)  I1 w1) ?_
        refine go_aload_n (k := 1) d_Mo_readLaw_40 rfl rfl ?_
        refine go_getr (ci := 10) (k := 21) (r := 13) d_Mo_readLaw_41 a_M_0 rfl (by decide) f_Mo_46 rfl ?_
        refine go_iload_n (k := 0) d_Mo_readLaw_44 rfl rfl ?_
        refine go_aload_n (k := 1) d_Mo_readLaw_45 rfl rfl ?_
        refine go_geti (ci := 10) (k := 27) d_Mo_readLaw_46 a_M_0 rfl (by decide) f_Mo_212 rfl ?_
        obtain ⟨hi, I3, eI3, h⟩ := fsto_e h
        refine go_iast (I' := I3) d_Mo_readLaw_49 a_M_13 hi eI3 ?_
        refine go_aload_n (k := 1) d_Mo_readLaw_50 rfl rfl ?_
        obtain ⟨⟨r5, I4⟩, w1, h⟩ := fbd_e h
        try dsimp only at h
        refine go_callV (y := yMo_readSum) (asr := []) (v := some (.inl r5)) (I' := I4) (st1 := [.inl r5]) d_Mo_readLaw_51 s_yMo_readSum m_Mo_238 a_M_0 rfl rfl rfl (Nat.le_of_ble_eq_true rfl) rfl rfl (c_Mo_readSum l (d0 + 2)  I3 w1) ?_
        refine go_iconst (v := (-1)) d_Mo_readLaw_54 (by decide) ?_
        refine go_cmp_ne (tgt := 60) d_Mo_readLaw_55 (by decide) (fun hc => ?_) (fun hc => ?_)
        · rw [if_neg hc] at h
          refine go_aload_n (k := 1) d_Mo_readLaw_60 rfl rfl ?_
          refine go_getr (ci := 10) (k := 22) (r := 14) d_Mo_readLaw_61 a_M_0 rfl (by decide) f_Mo_49 rfl ?_
          refine go_iload_n (k := 0) d_Mo_readLaw_64 rfl rfl ?_
          refine go_aload_n (k := 1) d_Mo_readLaw_65 rfl rfl ?_
          refine go_geti (ci := 10) (k := 27) d_Mo_readLaw_66 a_M_0 rfl (by decide) f_Mo_212 rfl ?_
          obtain ⟨hi, I6, eI6, h⟩ := fsto_e h
          refine go_iast (I' := I6) d_Mo_readLaw_69 a_M_14 hi eI6 ?_
          refine go_aload_n (k := 1) d_Mo_readLaw_70 rfl rfl ?_
          refine go_iconst (v := 3) d_Mo_readLaw_71 (by decide) ?_
          refine go_callV (y := yMo_isWord) (asr := [.inl 3]) (v := some (.inl (F_Mo_isWord 3 I6))) (I' := I6) (st1 := [.inl (F_Mo_isWord 3 I6)]) d_Mo_readLaw_72 s_yMo_isWord m_Mo_247 a_M_0 rfl rfl rfl (Nat.le_of_ble_eq_true rfl) rfl rfl (c_Mo_isWord l (d0 + 7) 3 I6) ?_
          refine go_if_eq (tgt := 92) d_Mo_readLaw_75 (by decide) (fun hc => ?_) (fun hc => ?_)
          · rw [if_pos hc] at h
            exact go_lv [1, 2, 0] rfl (j_Mo_readLaw_92 l d0 (L_Mo_readLaw_2 n) x1 (32 + x1) I6 h (fun z1 Iw hh => ih z1 Iw hh hX hR) hX hR)
          · rw [if_neg hc] at h
            refine go_aload_n (k := 1) d_Mo_readLaw_78 rfl rfl ?_
            obtain ⟨I11, w1, h⟩ := fbd_e h
            refine go_callV (y := yMo_reads) (asr := []) (v := none) (I' := I11) (st1 := []) d_Mo_readLaw_79 s_yMo_reads m_Mo_225 a_M_0 rfl rfl rfl (Nat.le_of_ble_eq_true rfl) rfl rfl (c_Mo_reads l (d0 + 5)  I6 w1) ?_
            refine go_aload_n (k := 1) d_Mo_readLaw_82 rfl rfl ?_
            obtain ⟨⟨r13, I12⟩, w1, h⟩ := fbd_e h
            try dsimp only at h
            refine go_callV (y := yMo_readAny) (asr := []) (v := some (.inl r13)) (I' := I12) (st1 := [.inl r13]) d_Mo_readLaw_83 s_yMo_readAny m_Mo_263 a_M_0 rfl rfl rfl (Nat.le_of_ble_eq_true rfl) rfl rfl (c_Mo_readAny l (d0 + 0)  I11 w1) ?_
            refine go_iconst (v := (-1)) d_Mo_readLaw_86 (by decide) ?_
            refine go_cmp_ne (tgt := 92) d_Mo_readLaw_87 (by decide) (fun hc => ?_) (fun hc => ?_)
            · rw [if_neg hc] at h
              exact go_lv [1, 2, 0] rfl (j_Mo_readLaw_92 l d0 (L_Mo_readLaw_2 n) x1 (32 + x1) I12 h (fun z1 Iw hh => ih z1 Iw hh hX hR) hX hR)
            · rw [if_pos hc] at h
              refine go_iconst (v := (-1)) d_Mo_readLaw_90 (by decide) ?_
              exact go_ireturn d_Mo_readLaw_91 rfl (hR _ _ (Option.some.inj h).symm)
        · rw [if_pos hc] at h
          refine go_iconst (v := (-1)) d_Mo_readLaw_58 (by decide) ?_
          exact go_ireturn d_Mo_readLaw_59 rfl (hR _ _ (Option.some.inj h).symm)
      · rw [if_pos hc] at h
        refine go_aload_n (k := 0) d_Mo_readLaw_15 rfl rfl ?_
        refine go_iconst (v := 3) d_Mo_readLaw_16 (by decide) ?_
        obtain ⟨⟨r15, I14⟩, w1, h⟩ := fbd_e h
        try dsimp only at h
        refine go_callV (y := yMo_errs) (asr := [.inl 3]) (v := some (.inl r15)) (I' := I14) (st1 := [.inl r15]) d_Mo_readLaw_17 s_yMo_errs m_Mo_218 a_M_0 rfl rfl rfl (Nat.le_of_ble_eq_true rfl) rfl rfl (c_Mo_errs l (d0 + 7) 3 I w1) ?_
        exact go_ireturn d_Mo_readLaw_20 rfl (hR _ _ (Option.some.inj h).symm)
def F_Mo_readLaw (I : gb_Mem) : Option (Int32 × gb_Mem) :=
  fbr (L_Mo_readLaw_2 5000 0 I) (fun (o16, I17) =>
    if (I17 0 16) = 0 then
      some (o16, I17)
    else
      fbd (F_Mo_errs 1 I17) fun (r21, I20) =>
      some (r21, I20))
    (fun (q18, I19) => some (q18, I19))
set_option maxRecDepth 4000 in
theorem c_Mo_readLaw (l : Launch) (d0 : Nat) (I : gb_Mem) {rz : Int32} {Iz : gb_Mem} (h : F_Mo_readLaw I = some (rz, Iz)) : gb_Cs l yMo_readLaw (d0 + 8) [.inr (some 0)] shM I (some (.inl rz)) Iz := by
  refine gb_Ct.of (lv := [(0, .inr (some 0))]) rfl (Nat.le_of_ble_eq_true rfl) rfl ?_
  unfold F_Mo_readLaw at h
  show gb_Go l yMo_readLaw (d0 + 8) 0 0 0 [(0, .inr (some 0))] [] shM I (gb_po shM (some (.inl rz)) Iz)
  refine go_iconst (v := 0) d_Mo_readLaw_0 (by decide) ?_
  refine go_istore_n (lv' := [(1, .inl 0), (0, .inr (some 0))]) d_Mo_readLaw_1 rfl (by decide) rfl ?_
  refine go_lv [1, 0] (lv' := [(0, .inr (some 0)), (1, .inl 0)]) rfl ?_
  obtain ⟨ρ, w1, w2, w3⟩ := fbr_e2 h
  refine l_Mo_readLaw_2 l d0  5000 0 I w1 (fun o16 I17 e => ?_) (fun q18 I19 e => ?_)
  · have h := w2 _ e
    try dsimp only at h
    refine go_aload_n (k := 0) d_Mo_readLaw_128 rfl rfl ?_
    refine go_geti (ci := 10) (k := 16) d_Mo_readLaw_129 a_M_0 rfl (by decide) f_Mo_187 rfl ?_
    refine go_if_ne (tgt := 139) d_Mo_readLaw_132 (by decide) (fun hc => ?_) (fun hc => ?_)
    · rw [if_neg hc] at h
      refine go_aload_n (k := 0) d_Mo_readLaw_139 rfl rfl ?_
      refine go_iconst (v := 1) d_Mo_readLaw_140 (by decide) ?_
      obtain ⟨⟨r21, I20⟩, w1, h⟩ := fbd_e h
      try dsimp only at h
      refine go_callV (y := yMo_errs) (asr := [.inl 1]) (v := some (.inl r21)) (I' := I20) (st1 := [.inl r21]) d_Mo_readLaw_141 s_yMo_errs m_Mo_218 a_M_0 rfl rfl rfl (Nat.le_of_ble_eq_true rfl) rfl rfl (c_Mo_errs l (d0 + 7) 1 I17 w1) ?_
      cases h
      exact go_ireturn d_Mo_readLaw_144 rfl gb_po_i
    · rw [if_pos hc] at h
      refine go_iload_n (k := 1) d_Mo_readLaw_135 rfl rfl ?_
      refine go_goto (tgt := 144) d_Mo_readLaw_136 (by decide) ?_
      cases h
      exact go_ireturn d_Mo_readLaw_144 rfl gb_po_i
  · have h := w3 _ e
    try dsimp only at h
    cases h
    exact gb_po_i
theorem d_Mo_readsText_0 : decode yMo_readsText.2.1 0 = .ok (.aload_n 0, 1) := by decide +kernel
theorem d_Mo_readsText_1 : decode yMo_readsText.2.1 1 = .ok (.iconst 0, 1) := by decide +kernel
theorem d_Mo_readsText_2 : decode yMo_readsText.2.1 2 = .ok (.putfield 266, 3) := by decide +kernel
theorem d_Mo_readsText_5 : decode yMo_readsText.2.1 5 = .ok (.aload_n 0, 1) := by decide +kernel
theorem d_Mo_readsText_6 : decode yMo_readsText.2.1 6 = .ok (.invokevirtual 225, 3) := by decide +kernel
theorem d_Mo_readsText_9 : decode yMo_readsText.2.1 9 = .ok (.iload_n 1, 1) := by decide +kernel
theorem d_Mo_readsText_10 : decode yMo_readsText.2.1 10 = .ok (.iconst 1, 1) := by decide +kernel
theorem d_Mo_readsText_11 : decode yMo_readsText.2.1 11 = .ok (.if_icmp .ne 8, 3) := by decide +kernel
theorem d_Mo_readsText_14 : decode yMo_readsText.2.1 14 = .ok (.aload_n 0, 1) := by decide +kernel
theorem d_Mo_readsText_15 : decode yMo_readsText.2.1 15 = .ok (.invokevirtual 291, 3) := by decide +kernel
theorem d_Mo_readsText_18 : decode yMo_readsText.2.1 18 = .ok (.ireturn, 1) := by decide +kernel
theorem d_Mo_readsText_19 : decode yMo_readsText.2.1 19 = .ok (.iload_n 1, 1) := by decide +kernel
theorem d_Mo_readsText_20 : decode yMo_readsText.2.1 20 = .ok (.iconst 2, 1) := by decide +kernel
theorem d_Mo_readsText_21 : decode yMo_readsText.2.1 21 = .ok (.if_icmp .ne 8, 3) := by decide +kernel
theorem d_Mo_readsText_24 : decode yMo_readsText.2.1 24 = .ok (.aload_n 0, 1) := by decide +kernel
theorem d_Mo_readsText_25 : decode yMo_readsText.2.1 25 = .ok (.invokevirtual 294, 3) := by decide +kernel
theorem d_Mo_readsText_28 : decode yMo_readsText.2.1 28 = .ok (.ireturn, 1) := by decide +kernel
theorem d_Mo_readsText_29 : decode yMo_readsText.2.1 29 = .ok (.iload_n 1, 1) := by decide +kernel
theorem d_Mo_readsText_30 : decode yMo_readsText.2.1 30 = .ok (.iconst 3, 1) := by decide +kernel
theorem d_Mo_readsText_31 : decode yMo_readsText.2.1 31 = .ok (.if_icmp .ne 10, 3) := by decide +kernel
theorem d_Mo_readsText_34 : decode yMo_readsText.2.1 34 = .ok (.aload_n 0, 1) := by decide +kernel
theorem d_Mo_readsText_35 : decode yMo_readsText.2.1 35 = .ok (.invokevirtual 297, 3) := by decide +kernel
theorem d_Mo_readsText_38 : decode yMo_readsText.2.1 38 = .ok (.goto 7, 3) := by decide +kernel
theorem d_Mo_readsText_41 : decode yMo_readsText.2.1 41 = .ok (.aload_n 0, 1) := by decide +kernel
theorem d_Mo_readsText_42 : decode yMo_readsText.2.1 42 = .ok (.invokevirtual 300, 3) := by decide +kernel
theorem d_Mo_readsText_45 : decode yMo_readsText.2.1 45 = .ok (.ireturn, 1) := by decide +kernel
def F_Mo_readsText (x1 : Int32) (I : gb_Mem) : Option (Int32 × gb_Mem) :=
  fstf I 0 26 0 fun I1 =>
  fbd (F_Mo_reads  I1) fun I2 =>
  if x1 = 1 then
    fbd (F_Mo_readVoyages  I2) fun (r10, I9) =>
    some (r10, I9)
  else
    if x1 = 2 then
      fbd (F_Mo_readDinner  I2) fun (r8, I7) =>
      some (r8, I7)
    else
      if x1 = 3 then
        fbd (F_Mo_readReaches  I2) fun (r6, I5) =>
        some (r6, I5)
      else
        fbd (F_Mo_readLaw  I2) fun (r4, I3) =>
        some (r4, I3)
set_option maxRecDepth 4000 in
theorem c_Mo_readsText (l : Launch) (d0 : Nat) (x1 : Int32) (I : gb_Mem) {rz : Int32} {Iz : gb_Mem} (h : F_Mo_readsText x1 I = some (rz, Iz)) : gb_Cs l yMo_readsText (d0 + 9) [.inr (some 0), .inl x1] shM I (some (.inl rz)) Iz := by
  refine gb_Ct.of (lv := [(0, .inr (some 0)), (1, .inl x1)]) rfl (Nat.le_of_ble_eq_true rfl) rfl ?_
  unfold F_Mo_readsText at h
  show gb_Go l yMo_readsText (d0 + 9) 0 0 0 [(0, .inr (some 0)), (1, .inl x1)] [] shM I (gb_po shM (some (.inl rz)) Iz)
  refine go_aload_n (k := 0) d_Mo_readsText_0 rfl rfl ?_
  refine go_iconst (v := 0) d_Mo_readsText_1 (by decide) ?_
  obtain ⟨I1, eI1, h⟩ := fstf_e h
  refine go_putT (ci := 10) (k := 26) (I' := I1) d_Mo_readsText_2 a_M_0 rfl (by decide) f_Mo_266 rfl rfl rfl rfl rfl eI1 ?_
  refine go_aload_n (k := 0) d_Mo_readsText_5 rfl rfl ?_
  obtain ⟨I2, w1, h⟩ := fbd_e h
  refine go_callV (y := yMo_reads) (asr := []) (v := none) (I' := I2) (st1 := []) d_Mo_readsText_6 s_yMo_reads m_Mo_225 a_M_0 rfl rfl rfl (Nat.le_of_ble_eq_true rfl) rfl rfl (c_Mo_reads l (d0 + 6)  I1 w1) ?_
  refine go_iload_n (k := 1) d_Mo_readsText_9 rfl rfl ?_
  refine go_iconst (v := 1) d_Mo_readsText_10 (by decide) ?_
  refine go_cmp_ne (tgt := 19) d_Mo_readsText_11 (by decide) (fun hc => ?_) (fun hc => ?_)
  · rw [if_neg hc] at h
    refine go_iload_n (k := 1) d_Mo_readsText_19 rfl rfl ?_
    refine go_iconst (v := 2) d_Mo_readsText_20 (by decide) ?_
    refine go_cmp_ne (tgt := 29) d_Mo_readsText_21 (by decide) (fun hc => ?_) (fun hc => ?_)
    · rw [if_neg hc] at h
      refine go_iload_n (k := 1) d_Mo_readsText_29 rfl rfl ?_
      refine go_iconst (v := 3) d_Mo_readsText_30 (by decide) ?_
      refine go_cmp_ne (tgt := 41) d_Mo_readsText_31 (by decide) (fun hc => ?_) (fun hc => ?_)
      · rw [if_neg hc] at h
        refine go_aload_n (k := 0) d_Mo_readsText_41 rfl rfl ?_
        obtain ⟨⟨r4, I3⟩, w1, h⟩ := fbd_e h
        try dsimp only at h
        refine go_callV (y := yMo_readLaw) (asr := []) (v := some (.inl r4)) (I' := I3) (st1 := [.inl r4]) d_Mo_readsText_42 s_yMo_readLaw m_Mo_300 a_M_0 rfl rfl rfl (Nat.le_of_ble_eq_true rfl) rfl rfl (c_Mo_readLaw l (d0 + 0)  I2 w1) ?_
        cases h
        exact go_ireturn d_Mo_readsText_45 rfl gb_po_i
      · rw [if_pos hc] at h
        refine go_aload_n (k := 0) d_Mo_readsText_34 rfl rfl ?_
        obtain ⟨⟨r6, I5⟩, w1, h⟩ := fbd_e h
        try dsimp only at h
        refine go_callV (y := yMo_readReaches) (asr := []) (v := some (.inl r6)) (I' := I5) (st1 := [.inl r6]) d_Mo_readsText_35 s_yMo_readReaches m_Mo_297 a_M_0 rfl rfl rfl (Nat.le_of_ble_eq_true rfl) rfl rfl (c_Mo_readReaches l (d0 + 2)  I2 w1) ?_
        refine go_goto (tgt := 45) d_Mo_readsText_38 (by decide) ?_
        cases h
        exact go_ireturn d_Mo_readsText_45 rfl gb_po_i
    · rw [if_pos hc] at h
      refine go_aload_n (k := 0) d_Mo_readsText_24 rfl rfl ?_
      obtain ⟨⟨r8, I7⟩, w1, h⟩ := fbd_e h
      try dsimp only at h
      refine go_callV (y := yMo_readDinner) (asr := []) (v := some (.inl r8)) (I' := I7) (st1 := [.inl r8]) d_Mo_readsText_25 s_yMo_readDinner m_Mo_294 a_M_0 rfl rfl rfl (Nat.le_of_ble_eq_true rfl) rfl rfl (c_Mo_readDinner l (d0 + 2)  I2 w1) ?_
      cases h
      exact go_ireturn d_Mo_readsText_28 rfl gb_po_i
  · rw [if_pos hc] at h
    refine go_aload_n (k := 0) d_Mo_readsText_14 rfl rfl ?_
    obtain ⟨⟨r10, I9⟩, w1, h⟩ := fbd_e h
    try dsimp only at h
    refine go_callV (y := yMo_readVoyages) (asr := []) (v := some (.inl r10)) (I' := I9) (st1 := [.inl r10]) d_Mo_readsText_15 s_yMo_readVoyages m_Mo_291 a_M_0 rfl rfl rfl (Nat.le_of_ble_eq_true rfl) rfl rfl (c_Mo_readVoyages l (d0 + 3)  I2 w1) ?_
    cases h
    exact go_ireturn d_Mo_readsText_18 rfl gb_po_i
theorem d_Mo_text_0 : decode yMo_text.2.1 0 = .ok (.aload_n 0, 1) := by decide +kernel
theorem d_Mo_text_1 : decode yMo_text.2.1 1 = .ok (.iconst 0, 1) := by decide +kernel
theorem d_Mo_text_2 : decode yMo_text.2.1 2 = .ok (.putfield 137, 3) := by decide +kernel
theorem d_Mo_text_5 : decode yMo_text.2.1 5 = .ok (.aload_n 0, 1) := by decide +kernel
theorem d_Mo_text_6 : decode yMo_text.2.1 6 = .ok (.iconst 0, 1) := by decide +kernel
theorem d_Mo_text_7 : decode yMo_text.2.1 7 = .ok (.putfield 312, 3) := by decide +kernel
theorem d_Mo_text_10 : decode yMo_text.2.1 10 = .ok (.aload_n 0, 1) := by decide +kernel
theorem d_Mo_text_11 : decode yMo_text.2.1 11 = .ok (.iconst (-1), 1) := by decide +kernel
theorem d_Mo_text_12 : decode yMo_text.2.1 12 = .ok (.putfield 64, 3) := by decide +kernel
theorem d_Mo_text_15 : decode yMo_text.2.1 15 = .ok (.aload_n 0, 1) := by decide +kernel
theorem d_Mo_text_16 : decode yMo_text.2.1 16 = .ok (.iconst 0, 1) := by decide +kernel
theorem d_Mo_text_17 : decode yMo_text.2.1 17 = .ok (.putfield 178, 3) := by decide +kernel
theorem d_Mo_text_20 : decode yMo_text.2.1 20 = .ok (.aload_n 0, 1) := by decide +kernel
theorem d_Mo_text_21 : decode yMo_text.2.1 21 = .ok (.iconst 0, 1) := by decide +kernel
theorem d_Mo_text_22 : decode yMo_text.2.1 22 = .ok (.putfield 212, 3) := by decide +kernel
theorem d_Mo_text_25 : decode yMo_text.2.1 25 = .ok (.aload_n 0, 1) := by decide +kernel
theorem d_Mo_text_26 : decode yMo_text.2.1 26 = .ok (.iconst 0, 1) := by decide +kernel
theorem d_Mo_text_27 : decode yMo_text.2.1 27 = .ok (.putfield 244, 3) := by decide +kernel
theorem d_Mo_text_30 : decode yMo_text.2.1 30 = .ok (.iconst (-1), 1) := by decide +kernel
theorem d_Mo_text_31 : decode yMo_text.2.1 31 = .ok (.istore_n 2, 1) := by decide +kernel
theorem d_Mo_text_32 : decode yMo_text.2.1 32 = .ok (.aload_n 0, 1) := by decide +kernel
theorem d_Mo_text_33 : decode yMo_text.2.1 33 = .ok (.iload_n 1, 1) := by decide +kernel
theorem d_Mo_text_34 : decode yMo_text.2.1 34 = .ok (.iconst 0, 1) := by decide +kernel
theorem d_Mo_text_35 : decode yMo_text.2.1 35 = .ok (.iconst 3, 1) := by decide +kernel
theorem d_Mo_text_36 : decode yMo_text.2.1 36 = .ok (.invokevirtual 157, 3) := by decide +kernel
theorem d_Mo_text_39 : decode yMo_text.2.1 39 = .ok (.ifCond .eq 30, 3) := by decide +kernel
theorem d_Mo_text_42 : decode yMo_text.2.1 42 = .ok (.aload_n 0, 1) := by decide +kernel
theorem d_Mo_text_43 : decode yMo_text.2.1 43 = .ok (.iload_n 1, 1) := by decide +kernel
theorem d_Mo_text_44 : decode yMo_text.2.1 44 = .ok (.invokevirtual 315, 3) := by decide +kernel
theorem d_Mo_text_47 : decode yMo_text.2.1 47 = .ok (.istore_n 2, 1) := by decide +kernel
theorem d_Mo_text_48 : decode yMo_text.2.1 48 = .ok (.iload_n 2, 1) := by decide +kernel
theorem d_Mo_text_49 : decode yMo_text.2.1 49 = .ok (.iconst (-1), 1) := by decide +kernel
theorem d_Mo_text_50 : decode yMo_text.2.1 50 = .ok (.if_icmp .ne 19, 3) := by decide +kernel
theorem d_Mo_text_53 : decode yMo_text.2.1 53 = .ok (.aload_n 0, 1) := by decide +kernel
theorem d_Mo_text_54 : decode yMo_text.2.1 54 = .ok (.aload_n 0, 1) := by decide +kernel
theorem d_Mo_text_55 : decode yMo_text.2.1 55 = .ok (.getfield 206, 3) := by decide +kernel
theorem d_Mo_text_58 : decode yMo_text.2.1 58 = .ok (.putfield 312, 3) := by decide +kernel
theorem d_Mo_text_61 : decode yMo_text.2.1 61 = .ok (.aload_n 0, 1) := by decide +kernel
theorem d_Mo_text_62 : decode yMo_text.2.1 62 = .ok (.aload_n 0, 1) := by decide +kernel
theorem d_Mo_text_63 : decode yMo_text.2.1 63 = .ok (.getfield 209, 3) := by decide +kernel
theorem d_Mo_text_66 : decode yMo_text.2.1 66 = .ok (.putfield 64, 3) := by decide +kernel
theorem d_Mo_text_69 : decode yMo_text.2.1 69 = .ok (.aload_n 0, 1) := by decide +kernel
theorem d_Mo_text_70 : decode yMo_text.2.1 70 = .ok (.iconst 0, 1) := by decide +kernel
theorem d_Mo_text_71 : decode yMo_text.2.1 71 = .ok (.putfield 171, 3) := by decide +kernel
theorem d_Mo_text_74 : decode yMo_text.2.1 74 = .ok (.iload_n 2, 1) := by decide +kernel
theorem d_Mo_text_75 : decode yMo_text.2.1 75 = .ok (.iconst (-1), 1) := by decide +kernel
theorem d_Mo_text_76 : decode yMo_text.2.1 76 = .ok (.if_icmp .ne 5, 3) := by decide +kernel
theorem d_Mo_text_79 : decode yMo_text.2.1 79 = .ok (.iconst (-1), 1) := by decide +kernel
theorem d_Mo_text_80 : decode yMo_text.2.1 80 = .ok (.ireturn, 1) := by decide +kernel
theorem d_Mo_text_81 : decode yMo_text.2.1 81 = .ok (.iload_n 1, 1) := by decide +kernel
theorem d_Mo_text_82 : decode yMo_text.2.1 82 = .ok (.ifCond .ne 11, 3) := by decide +kernel
theorem d_Mo_text_85 : decode yMo_text.2.1 85 = .ok (.aload_n 0, 1) := by decide +kernel
theorem d_Mo_text_86 : decode yMo_text.2.1 86 = .ok (.iload_n 2, 1) := by decide +kernel
theorem d_Mo_text_87 : decode yMo_text.2.1 87 = .ok (.invokevirtual 318, 3) := by decide +kernel
theorem d_Mo_text_90 : decode yMo_text.2.1 90 = .ok (.goto 9, 3) := by decide +kernel
theorem d_Mo_text_93 : decode yMo_text.2.1 93 = .ok (.aload_n 0, 1) := by decide +kernel
theorem d_Mo_text_94 : decode yMo_text.2.1 94 = .ok (.iload_n 1, 1) := by decide +kernel
theorem d_Mo_text_95 : decode yMo_text.2.1 95 = .ok (.iload_n 2, 1) := by decide +kernel
theorem d_Mo_text_96 : decode yMo_text.2.1 96 = .ok (.invokevirtual 321, 3) := by decide +kernel
theorem d_Mo_text_99 : decode yMo_text.2.1 99 = .ok (.iload_n 2, 1) := by decide +kernel
theorem d_Mo_text_100 : decode yMo_text.2.1 100 = .ok (.ireturn, 1) := by decide +kernel
def J_Mo_text_69 (x1 x2 : Int32) (I : gb_Mem) : Option (Int32 × gb_Mem) :=
  fstf I 0 13 0 fun I7 =>
  if x2 = (-1) then
    some ((-1), I7)
  else
    if x1 = 0 then
      fbd (F_Mo_takesLaw x2 I7) fun I9 =>
      some (x2, I9)
    else
      fbd (F_Mo_takesOther x1 x2 I7) fun I8 =>
      some (x2, I8)
set_option maxRecDepth 4000 in
theorem j_Mo_text_69 (l : Launch) (d0 : Nat) (x1 x2 : Int32) (I : gb_Mem) {rz : Int32} {Iz : gb_Mem} (h : J_Mo_text_69 x1 x2 I = some (rz, Iz)) : gb_Go l yMo_text (d0 + 10) 0 0 69 [(0, .inr (some 0)), (1, .inl x1), (2, .inl x2)] [] shM I (gb_po shM (some (.inl rz)) Iz) := by
  unfold J_Mo_text_69 at h
  refine go_aload_n (k := 0) d_Mo_text_69 rfl rfl ?_
  refine go_iconst (v := 0) d_Mo_text_70 (by decide) ?_
  obtain ⟨I7, eI7, h⟩ := fstf_e h
  refine go_putT (ci := 10) (k := 13) (I' := I7) d_Mo_text_71 a_M_0 rfl (by decide) f_Mo_171 rfl rfl rfl rfl rfl eI7 ?_
  refine go_iload_n (k := 2) d_Mo_text_74 rfl rfl ?_
  refine go_iconst (v := (-1)) d_Mo_text_75 (by decide) ?_
  refine go_cmp_ne (tgt := 81) d_Mo_text_76 (by decide) (fun hc => ?_) (fun hc => ?_)
  · rw [if_neg hc] at h
    refine go_iload_n (k := 1) d_Mo_text_81 rfl rfl ?_
    refine go_if_ne (tgt := 93) d_Mo_text_82 (by decide) (fun hc => ?_) (fun hc => ?_)
    · rw [if_neg hc] at h
      refine go_aload_n (k := 0) d_Mo_text_93 rfl rfl ?_
      refine go_iload_n (k := 1) d_Mo_text_94 rfl rfl ?_
      refine go_iload_n (k := 2) d_Mo_text_95 rfl rfl ?_
      obtain ⟨I8, w1, h⟩ := fbd_e h
      refine go_callV (y := yMo_takesOther) (asr := [.inl x1, .inl x2]) (v := none) (I' := I8) (st1 := []) d_Mo_text_96 s_yMo_takesOther m_Mo_321 a_M_0 rfl rfl rfl (Nat.le_of_ble_eq_true rfl) rfl rfl (c_Mo_takesOther l (d0 + 9) x1 x2 I7 w1) ?_
      refine go_iload_n (k := 2) d_Mo_text_99 rfl rfl ?_
      cases h
      exact go_ireturn d_Mo_text_100 rfl gb_po_i
    · rw [if_pos hc] at h
      refine go_aload_n (k := 0) d_Mo_text_85 rfl rfl ?_
      refine go_iload_n (k := 2) d_Mo_text_86 rfl rfl ?_
      obtain ⟨I9, w1, h⟩ := fbd_e h
      refine go_callV (y := yMo_takesLaw) (asr := [.inl x2]) (v := none) (I' := I9) (st1 := []) d_Mo_text_87 s_yMo_takesLaw m_Mo_318 a_M_0 rfl rfl rfl (Nat.le_of_ble_eq_true rfl) rfl rfl (c_Mo_takesLaw l (d0 + 9) x2 I7 w1) ?_
      refine go_goto (tgt := 99) d_Mo_text_90 (by decide) ?_
      refine go_iload_n (k := 2) d_Mo_text_99 rfl rfl ?_
      cases h
      exact go_ireturn d_Mo_text_100 rfl gb_po_i
  · rw [if_pos hc] at h
    refine go_iconst (v := (-1)) d_Mo_text_79 (by decide) ?_
    cases h
    exact go_ireturn d_Mo_text_80 rfl gb_po_i
def F_Mo_text (x1 : Int32) (I : gb_Mem) : Option (Int32 × gb_Mem) :=
  fstf I 0 0 0 fun I1 =>
  fstf I1 0 33 0 fun I2 =>
  fstf I2 0 34 (-1) fun I3 =>
  fstf I3 0 14 0 fun I4 =>
  fstf I4 0 27 0 fun I5 =>
  fstf I5 0 28 0 fun I6 =>
  if (F_Mo_isIn x1 0 3 I6) = 0 then
    J_Mo_text_69 x1 (-1) I6
  else
    fbd (F_Mo_readsText x1 I6) fun (r11, I10) =>
    if r11 = (-1) then
      fstf I10 0 33 (I10 0 31) fun I12 =>
      fstf I12 0 34 (I12 0 32) fun I13 =>
      J_Mo_text_69 x1 r11 I13
    else
      J_Mo_text_69 x1 r11 I10
set_option maxRecDepth 4000 in
theorem c_Mo_text (l : Launch) (d0 : Nat) (x1 : Int32) (I : gb_Mem) {rz : Int32} {Iz : gb_Mem} (h : F_Mo_text x1 I = some (rz, Iz)) : gb_Cs l yMo_text (d0 + 10) [.inr (some 0), .inl x1] shM I (some (.inl rz)) Iz := by
  refine gb_Ct.of (lv := [(0, .inr (some 0)), (1, .inl x1)]) rfl (Nat.le_of_ble_eq_true rfl) rfl ?_
  unfold F_Mo_text at h
  show gb_Go l yMo_text (d0 + 10) 0 0 0 [(0, .inr (some 0)), (1, .inl x1)] [] shM I (gb_po shM (some (.inl rz)) Iz)
  refine go_aload_n (k := 0) d_Mo_text_0 rfl rfl ?_
  refine go_iconst (v := 0) d_Mo_text_1 (by decide) ?_
  obtain ⟨I1, eI1, h⟩ := fstf_e h
  refine go_putT (ci := 10) (k := 0) (I' := I1) d_Mo_text_2 a_M_0 rfl (by decide) f_Mo_137 rfl rfl rfl rfl rfl eI1 ?_
  refine go_aload_n (k := 0) d_Mo_text_5 rfl rfl ?_
  refine go_iconst (v := 0) d_Mo_text_6 (by decide) ?_
  obtain ⟨I2, eI2, h⟩ := fstf_e h
  refine go_putT (ci := 10) (k := 33) (I' := I2) d_Mo_text_7 a_M_0 rfl (by decide) f_Mo_312 rfl rfl rfl rfl rfl eI2 ?_
  refine go_aload_n (k := 0) d_Mo_text_10 rfl rfl ?_
  refine go_iconst (v := (-1)) d_Mo_text_11 (by decide) ?_
  obtain ⟨I3, eI3, h⟩ := fstf_e h
  refine go_putT (ci := 10) (k := 34) (I' := I3) d_Mo_text_12 a_M_0 rfl (by decide) f_Mo_64 rfl rfl rfl rfl rfl eI3 ?_
  refine go_aload_n (k := 0) d_Mo_text_15 rfl rfl ?_
  refine go_iconst (v := 0) d_Mo_text_16 (by decide) ?_
  obtain ⟨I4, eI4, h⟩ := fstf_e h
  refine go_putT (ci := 10) (k := 14) (I' := I4) d_Mo_text_17 a_M_0 rfl (by decide) f_Mo_178 rfl rfl rfl rfl rfl eI4 ?_
  refine go_aload_n (k := 0) d_Mo_text_20 rfl rfl ?_
  refine go_iconst (v := 0) d_Mo_text_21 (by decide) ?_
  obtain ⟨I5, eI5, h⟩ := fstf_e h
  refine go_putT (ci := 10) (k := 27) (I' := I5) d_Mo_text_22 a_M_0 rfl (by decide) f_Mo_212 rfl rfl rfl rfl rfl eI5 ?_
  refine go_aload_n (k := 0) d_Mo_text_25 rfl rfl ?_
  refine go_iconst (v := 0) d_Mo_text_26 (by decide) ?_
  obtain ⟨I6, eI6, h⟩ := fstf_e h
  refine go_putT (ci := 10) (k := 28) (I' := I6) d_Mo_text_27 a_M_0 rfl (by decide) f_Mo_244 rfl rfl rfl rfl rfl eI6 ?_
  refine go_iconst (v := (-1)) d_Mo_text_30 (by decide) ?_
  refine go_istore_n (lv' := [(2, .inl (-1)), (0, .inr (some 0)), (1, .inl x1)]) d_Mo_text_31 rfl (by decide) rfl ?_
  refine go_aload_n (k := 1) d_Mo_text_32 rfl rfl ?_
  refine go_iload_n (k := 2) d_Mo_text_33 rfl rfl ?_
  refine go_iconst (v := 0) d_Mo_text_34 (by decide) ?_
  refine go_iconst (v := 3) d_Mo_text_35 (by decide) ?_
  refine go_callV (y := yMo_isIn) (asr := [.inl x1, .inl 0, .inl 3]) (v := some (.inl (F_Mo_isIn x1 0 3 I6))) (I' := I6) (st1 := [.inl (F_Mo_isIn x1 0 3 I6)]) d_Mo_text_36 s_yMo_isIn m_Mo_157 a_M_0 rfl rfl rfl (Nat.le_of_ble_eq_true rfl) rfl rfl (c_Mo_isIn l (d0 + 9) x1 0 3 I6) ?_
  refine go_if_eq (tgt := 69) d_Mo_text_39 (by decide) (fun hc => ?_) (fun hc => ?_)
  · rw [if_pos hc] at h
    exact go_lv [1, 2, 0] rfl (j_Mo_text_69 l d0 x1 (-1) I6 h)
  · rw [if_neg hc] at h
    refine go_aload_n (k := 1) d_Mo_text_42 rfl rfl ?_
    refine go_iload_n (k := 2) d_Mo_text_43 rfl rfl ?_
    obtain ⟨⟨r11, I10⟩, w1, h⟩ := fbd_e h
    try dsimp only at h
    refine go_callV (y := yMo_readsText) (asr := [.inl x1]) (v := some (.inl r11)) (I' := I10) (st1 := [.inl r11]) d_Mo_text_44 s_yMo_readsText m_Mo_315 a_M_0 rfl rfl rfl (Nat.le_of_ble_eq_true rfl) rfl rfl (c_Mo_readsText l (d0 + 0) x1 I6 w1) ?_
    refine go_istore_n (lv' := [(2, .inl r11), (0, .inr (some 0)), (1, .inl x1)]) d_Mo_text_47 rfl (by decide) rfl ?_
    refine go_iload_n (k := 0) d_Mo_text_48 rfl rfl ?_
    refine go_iconst (v := (-1)) d_Mo_text_49 (by decide) ?_
    refine go_cmp_ne (tgt := 69) d_Mo_text_50 (by decide) (fun hc => ?_) (fun hc => ?_)
    · rw [if_neg hc] at h
      exact go_lv [1, 2, 0] rfl (j_Mo_text_69 l d0 x1 r11 I10 h)
    · rw [if_pos hc] at h
      refine go_aload_n (k := 1) d_Mo_text_53 rfl rfl ?_
      refine go_aload_n (k := 1) d_Mo_text_54 rfl rfl ?_
      refine go_geti (ci := 10) (k := 31) d_Mo_text_55 a_M_0 rfl (by decide) f_Mo_206 rfl ?_
      obtain ⟨I12, eI12, h⟩ := fstf_e h
      refine go_putT (ci := 10) (k := 33) (I' := I12) d_Mo_text_58 a_M_0 rfl (by decide) f_Mo_312 rfl rfl rfl rfl rfl eI12 ?_
      refine go_aload_n (k := 1) d_Mo_text_61 rfl rfl ?_
      refine go_aload_n (k := 1) d_Mo_text_62 rfl rfl ?_
      refine go_geti (ci := 10) (k := 32) d_Mo_text_63 a_M_0 rfl (by decide) f_Mo_209 rfl ?_
      obtain ⟨I13, eI13, h⟩ := fstf_e h
      refine go_putT (ci := 10) (k := 34) (I' := I13) d_Mo_text_66 a_M_0 rfl (by decide) f_Mo_64 rfl rfl rfl rfl rfl eI13 ?_
      exact go_lv [1, 2, 0] rfl (j_Mo_text_69 l d0 x1 r11 I13 h)
