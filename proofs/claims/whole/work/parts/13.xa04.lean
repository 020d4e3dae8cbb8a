theorem d_Re_meetings_0 : decode yRe_meetings.2.1 0 = .ok (.iconst 0, 1) := by decide +kernel
theorem d_Re_meetings_1 : decode yRe_meetings.2.1 1 = .ok (.istore_n 3, 1) := by decide +kernel
theorem d_Re_meetings_2 : decode yRe_meetings.2.1 2 = .ok (.iconst (-1), 1) := by decide +kernel
theorem d_Re_meetings_3 : decode yRe_meetings.2.1 3 = .ok (.istore 4, 2) := by decide +kernel
theorem d_Re_meetings_5 : decode yRe_meetings.2.1 5 = .ok (.iconst 0, 1) := by decide +kernel
theorem d_Re_meetings_6 : decode yRe_meetings.2.1 6 = .ok (.istore 5, 2) := by decide +kernel
theorem d_Re_meetings_8 : decode yRe_meetings.2.1 8 = .ok (.iload 5, 2) := by decide +kernel
theorem d_Re_meetings_10 : decode yRe_meetings.2.1 10 = .ok (.aload_n 1, 1) := by decide +kernel
theorem d_Re_meetings_11 : decode yRe_meetings.2.1 11 = .ok (.getfield 21, 3) := by decide +kernel
theorem d_Re_meetings_14 : decode yRe_meetings.2.1 14 = .ok (.if_icmp .ge 93, 3) := by decide +kernel
theorem d_Re_meetings_17 : decode yRe_meetings.2.1 17 = .ok (.iconst 0, 1) := by decide +kernel
theorem d_Re_meetings_18 : decode yRe_meetings.2.1 18 = .ok (.istore 6, 2) := by decide +kernel
theorem d_Re_meetings_20 : decode yRe_meetings.2.1 20 = .ok (.iload 6, 2) := by decide +kernel
theorem d_Re_meetings_22 : decode yRe_meetings.2.1 22 = .ok (.aload_n 1, 1) := by decide +kernel
theorem d_Re_meetings_23 : decode yRe_meetings.2.1 23 = .ok (.getfield 21, 3) := by decide +kernel
theorem d_Re_meetings_26 : decode yRe_meetings.2.1 26 = .ok (.if_icmp .ge 75, 3) := by decide +kernel
theorem d_Re_meetings_29 : decode yRe_meetings.2.1 29 = .ok (.aload_n 1, 1) := by decide +kernel
theorem d_Re_meetings_30 : decode yRe_meetings.2.1 30 = .ok (.iload 6, 2) := by decide +kernel
theorem d_Re_meetings_32 : decode yRe_meetings.2.1 32 = .ok (.iconst 0, 1) := by decide +kernel
theorem d_Re_meetings_33 : decode yRe_meetings.2.1 33 = .ok (.invokevirtual 36, 3) := by decide +kernel
theorem d_Re_meetings_36 : decode yRe_meetings.2.1 36 = .ok (.aload_n 1, 1) := by decide +kernel
theorem d_Re_meetings_37 : decode yRe_meetings.2.1 37 = .ok (.iload 5, 2) := by decide +kernel
theorem d_Re_meetings_39 : decode yRe_meetings.2.1 39 = .ok (.iconst 0, 1) := by decide +kernel
theorem d_Re_meetings_40 : decode yRe_meetings.2.1 40 = .ok (.invokevirtual 36, 3) := by decide +kernel
theorem d_Re_meetings_43 : decode yRe_meetings.2.1 43 = .ok (.isub, 1) := by decide +kernel
theorem d_Re_meetings_44 : decode yRe_meetings.2.1 44 = .ok (.istore 7, 2) := by decide +kernel
theorem d_Re_meetings_46 : decode yRe_meetings.2.1 46 = .ok (.aload_n 1, 1) := by decide +kernel
theorem d_Re_meetings_47 : decode yRe_meetings.2.1 47 = .ok (.iload 5, 2) := by decide +kernel
theorem d_Re_meetings_49 : decode yRe_meetings.2.1 49 = .ok (.iconst 1, 1) := by decide +kernel
theorem d_Re_meetings_50 : decode yRe_meetings.2.1 50 = .ok (.invokevirtual 36, 3) := by decide +kernel
theorem d_Re_meetings_53 : decode yRe_meetings.2.1 53 = .ok (.iconst 1, 1) := by decide +kernel
theorem d_Re_meetings_54 : decode yRe_meetings.2.1 54 = .ok (.if_icmp .ne 41, 3) := by decide +kernel
theorem d_Re_meetings_57 : decode yRe_meetings.2.1 57 = .ok (.aload_n 1, 1) := by decide +kernel
theorem d_Re_meetings_58 : decode yRe_meetings.2.1 58 = .ok (.iload 6, 2) := by decide +kernel
theorem d_Re_meetings_60 : decode yRe_meetings.2.1 60 = .ok (.iconst 1, 1) := by decide +kernel
theorem d_Re_meetings_61 : decode yRe_meetings.2.1 61 = .ok (.invokevirtual 36, 3) := by decide +kernel
theorem d_Re_meetings_64 : decode yRe_meetings.2.1 64 = .ok (.ifCond .ne 31, 3) := by decide +kernel
theorem d_Re_meetings_67 : decode yRe_meetings.2.1 67 = .ok (.iload 7, 2) := by decide +kernel
theorem d_Re_meetings_69 : decode yRe_meetings.2.1 69 = .ok (.ifCond .le 26, 3) := by decide +kernel
theorem d_Re_meetings_72 : decode yRe_meetings.2.1 72 = .ok (.iinc 3 1, 3) := by decide +kernel
theorem d_Re_meetings_75 : decode yRe_meetings.2.1 75 = .ok (.iload 4, 2) := by decide +kernel
theorem d_Re_meetings_77 : decode yRe_meetings.2.1 77 = .ok (.iconst (-1), 1) := by decide +kernel
theorem d_Re_meetings_78 : decode yRe_meetings.2.1 78 = .ok (.if_icmp .ne 8, 3) := by decide +kernel
theorem d_Re_meetings_81 : decode yRe_meetings.2.1 81 = .ok (.iload 7, 2) := by decide +kernel
theorem d_Re_meetings_83 : decode yRe_meetings.2.1 83 = .ok (.goto 10, 3) := by decide +kernel
theorem d_Re_meetings_86 : decode yRe_meetings.2.1 86 = .ok (.iload 4, 2) := by decide +kernel
theorem d_Re_meetings_88 : decode yRe_meetings.2.1 88 = .ok (.iload 7, 2) := by decide +kernel
theorem d_Re_meetings_90 : decode yRe_meetings.2.1 90 = .ok (.invokestatic 43, 3) := by decide +kernel
theorem d_Re_meetings_93 : decode yRe_meetings.2.1 93 = .ok (.istore 4, 2) := by decide +kernel
theorem d_Re_meetings_95 : decode yRe_meetings.2.1 95 = .ok (.iinc 6 1, 3) := by decide +kernel
theorem d_Re_meetings_98 : decode yRe_meetings.2.1 98 = .ok (.goto (-78), 3) := by decide +kernel
theorem d_Re_meetings_101 : decode yRe_meetings.2.1 101 = .ok (.iinc 5 1, 3) := by decide +kernel
theorem d_Re_meetings_104 : decode yRe_meetings.2.1 104 = .ok (.goto (-96), 3) := by decide +kernel
theorem d_Re_meetings_107 : decode yRe_meetings.2.1 107 = .ok (.iload_n 2, 1) := by decide +kernel
theorem d_Re_meetings_108 : decode yRe_meetings.2.1 108 = .ok (.ifCond .eq 8, 3) := by decide +kernel
theorem d_Re_meetings_111 : decode yRe_meetings.2.1 111 = .ok (.iload 4, 2) := by decide +kernel
theorem d_Re_meetings_113 : decode yRe_meetings.2.1 113 = .ok (.goto 4, 3) := by decide +kernel
theorem d_Re_meetings_116 : decode yRe_meetings.2.1 116 = .ok (.iload_n 3, 1) := by decide +kernel
theorem d_Re_meetings_117 : decode yRe_meetings.2.1 117 = .ok (.ireturn, 1) := by decide +kernel
def J_Re_meetings_95 (h1 n1 : Nat) (k : Int32 → Int32 → Int32 → Option (Int32 × Int32)) (x2 x3 x4 x5 x6 : Int32) (I : gb_Mem) : Option (Int32 × Int32) :=
  k x3 x4 (x6 + 1)
set_option maxRecDepth 4000 in
theorem j_Re_meetings_95 (l : Launch) (d0 : Nat) (h1 n1 : Nat) (H1 : isRo h1 n1) {post : Option gb_AV → List gb_Ce → gb_Mem → Prop} (k : Int32 → Int32 → Int32 → Option (Int32 × Int32)) (x2 x3 x4 x5 x6 : Int32) (I : gb_Mem) {ρ : Int32 × Int32} (h : J_Re_meetings_95 h1 n1 k x2 x3 x4 x5 x6 I = some ρ) (hk : ∀ (z3 z4 z6 : Int32), k z3 z4 z6 = some ρ → gb_Go l yRe_meetings (d0 + 2) 0 0 20 [(1, .inr (some h1)), (2, .inl x2), (3, .inl z3), (4, .inl z4), (5, .inl x5), (6, .inl z6)] [] shX I post) (hX : ∀ (o3 : Int32) (o4 : Int32), ρ = (o3, o4) → gb_Go l yRe_meetings (d0 + 2) 0 0 101 [(1, .inr (some h1)), (2, .inl x2), (3, .inl o3), (4, .inl o4), (5, .inl x5)] [] shX I post) : gb_Go l yRe_meetings (d0 + 2) 0 0 95 [(1, .inr (some h1)), (2, .inl x2), (3, .inl x3), (4, .inl x4), (5, .inl x5), (6, .inl x6)] [] shX I post := by
  unfold J_Re_meetings_95 at h
  refine go_iinc (k := 5) (v := x6 + 1) (lv' := [(6, .inl (x6 + 1)), (1, .inr (some h1)), (2, .inl x2), (3, .inl x3), (4, .inl x4), (5, .inl x5)]) d_Re_meetings_95 rfl rfl (by decide) rfl ?_
  refine go_goto (tgt := 20) d_Re_meetings_98 (by decide) ?_
  exact go_lv [1, 2, 3, 4, 5, 0] rfl (hk _ _ _ h)
def J_Re_meetings_93 (h1 n1 : Nat) (k : Int32 → Int32 → Int32 → Option (Int32 × Int32)) (x2 x3 x5 x6 s0 : Int32) (I : gb_Mem) : Option (Int32 × Int32) :=
  J_Re_meetings_95 h1 n1 k x2 x3 s0 x5 x6 I
set_option maxRecDepth 4000 in
theorem j_Re_meetings_93 (l : Launch) (d0 : Nat) (h1 n1 : Nat) (H1 : isRo h1 n1) {post : Option gb_AV → List gb_Ce → gb_Mem → Prop} (k : Int32 → Int32 → Int32 → Option (Int32 × Int32)) (x2 x3 x5 x6 s0 : Int32) (I : gb_Mem) {ρ : Int32 × Int32} (h : J_Re_meetings_93 h1 n1 k x2 x3 x5 x6 s0 I = some ρ) (hk : ∀ (z3 z4 z6 : Int32), k z3 z4 z6 = some ρ → gb_Go l yRe_meetings (d0 + 2) 0 0 20 [(1, .inr (some h1)), (2, .inl x2), (3, .inl z3), (4, .inl z4), (5, .inl x5), (6, .inl z6)] [] shX I post) (hX : ∀ (o3 : Int32) (o4 : Int32), ρ = (o3, o4) → gb_Go l yRe_meetings (d0 + 2) 0 0 101 [(1, .inr (some h1)), (2, .inl x2), (3, .inl o3), (4, .inl o4), (5, .inl x5)] [] shX I post) : gb_Go l yRe_meetings (d0 + 2) 0 0 93 [(1, .inr (some h1)), (2, .inl x2), (3, .inl x3), (5, .inl x5), (6, .inl x6)] [.inl s0] shX I post := by
  unfold J_Re_meetings_93 at h
  refine go_istore (lv' := [(4, .inl s0), (1, .inr (some h1)), (2, .inl x2), (3, .inl x3), (5, .inl x5), (6, .inl x6)]) d_Re_meetings_93 (by decide) rfl ?_
  exact go_lv [1, 2, 3, 0, 4, 5] rfl (j_Re_meetings_95 l d0 h1 n1 H1 k x2 x3 s0 x5 x6 I h hk hX)
def L_Re_meetings_20 (h1 n1 : Nat) (x2 x5 : Int32) (I : gb_Mem) : Nat → Int32 → Int32 → Int32 → Option (Int32 × Int32)
  | 0, _, _, _ => none
  | n + 1, x3, x4, x6 =>
    if (I h1 2) ≤ x6 then
      some (x3, x4)
    else
      fbd (F_Ro_cell h1 n1 x6 0 I) fun r1 =>
      fbd (F_Ro_cell h1 n1 x5 0 I) fun r2 =>
      fbd (F_Ro_cell h1 n1 x5 1 I) fun r3 =>
      if r3 = 1 then
        fbd (F_Ro_cell h1 n1 x6 1 I) fun r4 =>
        if r4 = 0 then
          if (r1 - r2) ≤ 0 then
            J_Re_meetings_95 h1 n1 (L_Re_meetings_20 h1 n1 x2 x5 I n) x2 x3 x4 x5 x6 I
          else
            if x4 = (-1) then
              J_Re_meetings_93 h1 n1 (L_Re_meetings_20 h1 n1 x2 x5 I n) x2 (x3 + 1) x5 x6 (r1 - r2) I
            else
              J_Re_meetings_93 h1 n1 (L_Re_meetings_20 h1 n1 x2 x5 I n) x2 (x3 + 1) x5 x6 (mn x4 (r1 - r2)) I
        else
          J_Re_meetings_95 h1 n1 (L_Re_meetings_20 h1 n1 x2 x5 I n) x2 x3 x4 x5 x6 I
      else
        J_Re_meetings_95 h1 n1 (L_Re_meetings_20 h1 n1 x2 x5 I n) x2 x3 x4 x5 x6 I
set_option maxRecDepth 4000 in
theorem l_Re_meetings_20 (l : Launch) (d0 : Nat) (h1 n1 : Nat) (H1 : isRo h1 n1) (x2 x5 : Int32) (I : gb_Mem) {post : Option gb_AV → List gb_Ce → gb_Mem → Prop} : ∀ (n : Nat) (x3 x4 x6 : Int32) {ρ : Int32 × Int32} (h : L_Re_meetings_20 h1 n1 x2 x5 I n x3 x4 x6 = some ρ) (hX : ∀ (o3 : Int32) (o4 : Int32), ρ = (o3, o4) → gb_Go l yRe_meetings (d0 + 2) 0 0 101 [(1, .inr (some h1)), (2, .inl x2), (3, .inl o3), (4, .inl o4), (5, .inl x5)] [] shX I post) , gb_Go l yRe_meetings (d0 + 2) 0 0 20 [(1, .inr (some h1)), (2, .inl x2), (3, .inl x3), (4, .inl x4), (5, .inl x5), (6, .inl x6)] [] shX I post := by
  intro n
  induction n with
  | zero => intro x3 x4 x6 ρ h hX; cases h
  | succ n ih =>
    intro x3 x4 x6 ρ h hX
    rw [L_Re_meetings_20] at h
    refine go_iload (k := 5) d_Re_meetings_20 rfl ?_
    refine go_aload_n (k := 0) d_Re_meetings_22 rfl rfl ?_
    refine go_getiN (ci := 4) (k := 2) d_Re_meetings_23 H1.1 rfl (by decide) f_Re_21 rfl ?_
    refine go_cmp_ge (tgt := 101) d_Re_meetings_26 (by decide) (fun hc => ?_) (fun hc => ?_)
    · rw [if_pos hc] at h
      exact go_lv [0, 1, 2, 3, 4] rfl (hX _ _ (Option.some.inj h).symm)
    · rw [if_neg hc] at h
      refine go_aload_n (k := 0) d_Re_meetings_29 rfl rfl ?_
      refine go_iload (k := 5) d_Re_meetings_30 rfl ?_
      refine go_iconst (v := 0) d_Re_meetings_32 (by decide) ?_
      obtain ⟨r1, w1, h⟩ := fbd_e h
      refine go_callV (y := yRo_cell) (asr := [.inl x6, .inl 0]) (v := some (.inl r1)) (I' := I) (st1 := [.inl r1]) d_Re_meetings_33 s_yRo_cell m_Re_36 H1.1 rfl rfl rfl (Nat.le_of_ble_eq_true rfl) rfl rfl (c_Ro_cell l (d0 + 0) h1 n1 H1 x6 0 I w1) ?_
      refine go_aload_n (k := 0) d_Re_meetings_36 rfl rfl ?_
      refine go_iload (k := 4) d_Re_meetings_37 rfl ?_
      refine go_iconst (v := 0) d_Re_meetings_39 (by decide) ?_
      obtain ⟨r2, w1, h⟩ := fbd_e h
      refine go_callV (y := yRo_cell) (asr := [.inl x5, .inl 0]) (v := some (.inl r2)) (I' := I) (st1 := [.inl r2, .inl r1]) d_Re_meetings_40 s_yRo_cell m_Re_36 H1.1 rfl rfl rfl (Nat.le_of_ble_eq_true rfl) rfl rfl (c_Ro_cell l (d0 + 0) h1 n1 H1 x5 0 I w1) ?_
      refine go_isub d_Re_meetings_43 ?_
      refine go_istore (lv' := [(7, .inl (r1 - r2)), (1, .inr (some h1)), (2, .inl x2), (3, .inl x3), (4, .inl x4), (5, .inl x5), (6, .inl x6)]) d_Re_meetings_44 (by decide) rfl ?_
      refine go_aload_n (k := 1) d_Re_meetings_46 rfl rfl ?_
      refine go_iload (k := 5) d_Re_meetings_47 rfl ?_
      refine go_iconst (v := 1) d_Re_meetings_49 (by decide) ?_
      obtain ⟨r3, w1, h⟩ := fbd_e h
      refine go_callV (y := yRo_cell) (asr := [.inl x5, .inl 1]) (v := some (.inl r3)) (I' := I) (st1 := [.inl r3]) d_Re_meetings_50 s_yRo_cell m_Re_36 H1.1 rfl rfl rfl (Nat.le_of_ble_eq_true rfl) rfl rfl (c_Ro_cell l (d0 + 0) h1 n1 H1 x5 1 I w1) ?_
      refine go_iconst (v := 1) d_Re_meetings_53 (by decide) ?_
      refine go_cmp_ne (tgt := 95) d_Re_meetings_54 (by decide) (fun hc => ?_) (fun hc => ?_)
      · rw [if_neg hc] at h
        exact go_lv [1, 2, 3, 4, 5, 6] rfl (j_Re_meetings_95 l d0 h1 n1 H1 (L_Re_meetings_20 h1 n1 x2 x5 I n) x2 x3 x4 x5 x6 I h (fun z3 z4 z6 hh => ih z3 z4 z6 hh hX) hX)
      · rw [if_pos hc] at h
        refine go_aload_n (k := 1) d_Re_meetings_57 rfl rfl ?_
        refine go_iload (k := 6) d_Re_meetings_58 rfl ?_
        refine go_iconst (v := 1) d_Re_meetings_60 (by decide) ?_
        obtain ⟨r4, w1, h⟩ := fbd_e h
        refine go_callV (y := yRo_cell) (asr := [.inl x6, .inl 1]) (v := some (.inl r4)) (I' := I) (st1 := [.inl r4]) d_Re_meetings_61 s_yRo_cell m_Re_36 H1.1 rfl rfl rfl (Nat.le_of_ble_eq_true rfl) rfl rfl (c_Ro_cell l (d0 + 0) h1 n1 H1 x6 1 I w1) ?_
        refine go_if_ne (tgt := 95) d_Re_meetings_64 (by decide) (fun hc => ?_) (fun hc => ?_)
        · rw [if_neg hc] at h
          exact go_lv [1, 2, 3, 4, 5, 6] rfl (j_Re_meetings_95 l d0 h1 n1 H1 (L_Re_meetings_20 h1 n1 x2 x5 I n) x2 x3 x4 x5 x6 I h (fun z3 z4 z6 hh => ih z3 z4 z6 hh hX) hX)
        · rw [if_pos hc] at h
          refine go_iload (k := 0) d_Re_meetings_67 rfl ?_
          refine go_if_le (tgt := 95) d_Re_meetings_69 (by decide) (fun hc => ?_) (fun hc => ?_)
          · rw [if_pos hc] at h
            exact go_lv [1, 2, 3, 4, 5, 6] rfl (j_Re_meetings_95 l d0 h1 n1 H1 (L_Re_meetings_20 h1 n1 x2 x5 I n) x2 x3 x4 x5 x6 I h (fun z3 z4 z6 hh => ih z3 z4 z6 hh hX) hX)
          · rw [if_neg hc] at h
            refine go_iinc (k := 3) (v := x3 + 1) (lv' := [(3, .inl (x3 + 1)), (7, .inl (r1 - r2)), (1, .inr (some h1)), (2, .inl x2), (4, .inl x4), (5, .inl x5), (6, .inl x6)]) d_Re_meetings_72 rfl rfl (by decide) rfl ?_
            refine go_iload (k := 4) d_Re_meetings_75 rfl ?_
            refine go_iconst (v := (-1)) d_Re_meetings_77 (by decide) ?_
            refine go_cmp_ne (tgt := 86) d_Re_meetings_78 (by decide) (fun hc => ?_) (fun hc => ?_)
            · rw [if_neg hc] at h
              refine go_iload (k := 4) d_Re_meetings_86 rfl ?_
              refine go_iload (k := 1) d_Re_meetings_88 rfl ?_
              refine go_mmin d_Re_meetings_90 m_Re_43 (Nat.le_of_ble_eq_true rfl) ?_
              exact go_lv [2, 3, 0, 5, 6] rfl (j_Re_meetings_93 l d0 h1 n1 H1 (L_Re_meetings_20 h1 n1 x2 x5 I n) x2 (x3 + 1) x5 x6 (mn x4 (r1 - r2)) I h (fun z3 z4 z6 hh => ih z3 z4 z6 hh hX) hX)
            · rw [if_pos hc] at h
              refine go_iload (k := 1) d_Re_meetings_81 rfl ?_
              refine go_goto (tgt := 93) d_Re_meetings_83 (by decide) ?_
              exact go_lv [2, 3, 0, 5, 6] rfl (j_Re_meetings_93 l d0 h1 n1 H1 (L_Re_meetings_20 h1 n1 x2 x5 I n) x2 (x3 + 1) x5 x6 (r1 - r2) I h (fun z3 z4 z6 hh => ih z3 z4 z6 hh hX) hX)
def L_Re_meetings_8 (h1 n1 : Nat) (x2 : Int32) (I : gb_Mem) : Nat → Int32 → Int32 → Int32 → Option (Int32 × Int32)
  | 0, _, _, _ => none
  | n + 1, x3, x4, x5 =>
    if (I h1 2) ≤ x5 then
      some (x3, x4)
    else
      fbd (L_Re_meetings_20 h1 n1 x2 x5 I 5000 x3 x4 0) fun (o5, o6) =>
      L_Re_meetings_8 h1 n1 x2 I n o5 o6 (x5 + 1)
set_option maxRecDepth 4000 in
theorem l_Re_meetings_8 (l : Launch) (d0 : Nat) (h1 n1 : Nat) (H1 : isRo h1 n1) (x2 : Int32) (I : gb_Mem) {post : Option gb_AV → List gb_Ce → gb_Mem → Prop} : ∀ (n : Nat) (x3 x4 x5 : Int32) {ρ : Int32 × Int32} (h : L_Re_meetings_8 h1 n1 x2 I n x3 x4 x5 = some ρ) (hX : ∀ (o3 : Int32) (o4 : Int32), ρ = (o3, o4) → gb_Go l yRe_meetings (d0 + 2) 0 0 107 [(2, .inl x2), (3, .inl o3), (4, .inl o4)] [] shX I post) , gb_Go l yRe_meetings (d0 + 2) 0 0 8 [(1, .inr (some h1)), (2, .inl x2), (3, .inl x3), (4, .inl x4), (5, .inl x5)] [] shX I post := by
  intro n
  induction n with
  | zero => intro x3 x4 x5 ρ h hX; cases h
  | succ n ih =>
    intro x3 x4 x5 ρ h hX
    rw [L_Re_meetings_8] at h
    refine go_iload (k := 4) d_Re_meetings_8 rfl ?_
    refine go_aload_n (k := 0) d_Re_meetings_10 rfl rfl ?_
    refine go_getiN (ci := 4) (k := 2) d_Re_meetings_11 H1.1 rfl (by decide) f_Re_21 rfl ?_
    refine go_cmp_ge (tgt := 107) d_Re_meetings_14 (by decide) (fun hc => ?_) (fun hc => ?_)
    · rw [if_pos hc] at h
      exact go_lv [1, 2, 3] rfl (hX _ _ (Option.some.inj h).symm)
    · rw [if_neg hc] at h
      refine go_iconst (v := 0) d_Re_meetings_17 (by decide) ?_
      refine go_istore (lv' := [(6, .inl 0), (1, .inr (some h1)), (2, .inl x2), (3, .inl x3), (4, .inl x4), (5, .inl x5)]) d_Re_meetings_18 (by decide) rfl ?_
      refine go_lv [1, 2, 3, 4, 5, 0] (lv' := [(1, .inr (some h1)), (2, .inl x2), (3, .inl x3), (4, .inl x4), (5, .inl x5), (6, .inl 0)]) rfl ?_
      obtain ⟨⟨o5, o6⟩, w1, h⟩ := fbd_e h
      try dsimp only at h
      refine l_Re_meetings_20 l d0 h1 n1 H1 x2 x5 I 5000 x3 x4 0 w1 (fun o5_ o6_ e => ?_)
      cases e
      refine go_iinc (k := 4) (v := x5 + 1) (lv' := [(5, .inl (x5 + 1)), (1, .inr (some h1)), (2, .inl x2), (3, .inl o5), (4, .inl o6)]) d_Re_meetings_101 rfl rfl (by decide) rfl ?_
      refine go_goto (tgt := 8) d_Re_meetings_104 (by decide) ?_
      exact go_lv [1, 2, 3, 4, 0] rfl (ih o5 o6 (x5 + 1) h hX)
def F_Re_meetings (h1 n1 : Nat) (x2 : Int32) (I : gb_Mem) : Option (Int32) :=
  fbd (L_Re_meetings_8 h1 n1 x2 I 5000 0 (-1) 0) fun (o7, o8) =>
  if x2 = 0 then
    some o7
  else
    some o8
set_option maxRecDepth 4000 in
theorem c_Re_meetings (l : Launch) (d0 : Nat) (h1 n1 : Nat) (H1 : isRo h1 n1) (x2 : Int32) (I : gb_Mem) {rz : Int32} (h : F_Re_meetings h1 n1 x2 I = some rz) : gb_Cs l yRe_meetings (d0 + 2) [.inr (some 106), .inr (some h1), .inl x2] shX I (some (.inl rz)) I := by
  refine gb_Ct.of (lv := [(0, .inr (some 106)), (1, .inr (some h1)), (2, .inl x2)]) rfl (Nat.le_of_ble_eq_true rfl) rfl ?_
  unfold F_Re_meetings at h
  show gb_Go l yRe_meetings (d0 + 2) 0 0 0 [(0, .inr (some 106)), (1, .inr (some h1)), (2, .inl x2)] [] shX I (gb_po shX (some (.inl rz)) I)
  refine go_iconst (v := 0) d_Re_meetings_0 (by decide) ?_
  refine go_istore_n (lv' := [(3, .inl 0), (0, .inr (some 106)), (1, .inr (some h1)), (2, .inl x2)]) d_Re_meetings_1 rfl (by decide) rfl ?_
  refine go_iconst (v := (-1)) d_Re_meetings_2 (by decide) ?_
  refine go_istore (lv' := [(4, .inl (-1)), (3, .inl 0), (0, .inr (some 106)), (1, .inr (some h1)), (2, .inl x2)]) d_Re_meetings_3 (by decide) rfl ?_
  refine go_iconst (v := 0) d_Re_meetings_5 (by decide) ?_
  refine go_istore (lv' := [(5, .inl 0), (4, .inl (-1)), (3, .inl 0), (0, .inr (some 106)), (1, .inr (some h1)), (2, .inl x2)]) d_Re_meetings_6 (by decide) rfl ?_
  refine go_lv [4, 5, 2, 1, 0] (lv' := [(1, .inr (some h1)), (2, .inl x2), (3, .inl 0), (4, .inl (-1)), (5, .inl 0)]) rfl ?_
  obtain ⟨⟨o7, o8⟩, w1, h⟩ := fbd_e h
  try dsimp only at h
  refine l_Re_meetings_8 l d0 h1 n1 H1 x2 I 5000 0 (-1) 0 w1 (fun o7_ o8_ e => ?_)
  cases e
  refine go_iload_n (k := 0) d_Re_meetings_107 rfl rfl ?_
  refine go_if_eq (tgt := 116) d_Re_meetings_108 (by decide) (fun hc => ?_) (fun hc => ?_)
  · rw [if_pos hc] at h
    refine go_iload_n (k := 1) d_Re_meetings_116 rfl rfl ?_
    cases h
    exact go_ireturn d_Re_meetings_117 rfl gb_po_i
  · rw [if_neg hc] at h
    refine go_iload (k := 2) d_Re_meetings_111 rfl ?_
    refine go_goto (tgt := 117) d_Re_meetings_113 (by decide) ?_
    cases h
    exact go_ireturn d_Re_meetings_117 rfl gb_po_i
theorem d_Re_nearestFlag_0 : decode yRe_nearestFlag.2.1 0 = .ok (.iconst (-1), 1) := by decide +kernel
theorem d_Re_nearestFlag_1 : decode yRe_nearestFlag.2.1 1 = .ok (.istore_n 3, 1) := by decide +kernel
theorem d_Re_nearestFlag_2 : decode yRe_nearestFlag.2.1 2 = .ok (.bipush 13, 2) := by decide +kernel
theorem d_Re_nearestFlag_4 : decode yRe_nearestFlag.2.1 4 = .ok (.istore 4, 2) := by decide +kernel
theorem d_Re_nearestFlag_6 : decode yRe_nearestFlag.2.1 6 = .ok (.iconst 0, 1) := by decide +kernel
theorem d_Re_nearestFlag_7 : decode yRe_nearestFlag.2.1 7 = .ok (.istore 5, 2) := by decide +kernel
theorem d_Re_nearestFlag_9 : decode yRe_nearestFlag.2.1 9 = .ok (.iload 5, 2) := by decide +kernel
theorem d_Re_nearestFlag_11 : decode yRe_nearestFlag.2.1 11 = .ok (.aload_n 1, 1) := by decide +kernel
theorem d_Re_nearestFlag_12 : decode yRe_nearestFlag.2.1 12 = .ok (.getfield 21, 3) := by decide +kernel
theorem d_Re_nearestFlag_15 : decode yRe_nearestFlag.2.1 15 = .ok (.if_icmp .ge 37, 3) := by decide +kernel
theorem d_Re_nearestFlag_18 : decode yRe_nearestFlag.2.1 18 = .ok (.aload_n 1, 1) := by decide +kernel
theorem d_Re_nearestFlag_19 : decode yRe_nearestFlag.2.1 19 = .ok (.iload 5, 2) := by decide +kernel
theorem d_Re_nearestFlag_21 : decode yRe_nearestFlag.2.1 21 = .ok (.iconst 0, 1) := by decide +kernel
theorem d_Re_nearestFlag_22 : decode yRe_nearestFlag.2.1 22 = .ok (.invokevirtual 36, 3) := by decide +kernel
theorem d_Re_nearestFlag_25 : decode yRe_nearestFlag.2.1 25 = .ok (.iload_n 2, 1) := by decide +kernel
theorem d_Re_nearestFlag_26 : decode yRe_nearestFlag.2.1 26 = .ok (.ixor, 1) := by decide +kernel
theorem d_Re_nearestFlag_27 : decode yRe_nearestFlag.2.1 27 = .ok (.invokestatic 50, 3) := by decide +kernel
theorem d_Re_nearestFlag_30 : decode yRe_nearestFlag.2.1 30 = .ok (.istore 6, 2) := by decide +kernel
theorem d_Re_nearestFlag_32 : decode yRe_nearestFlag.2.1 32 = .ok (.iload 6, 2) := by decide +kernel
theorem d_Re_nearestFlag_34 : decode yRe_nearestFlag.2.1 34 = .ok (.iload 4, 2) := by decide +kernel
theorem d_Re_nearestFlag_36 : decode yRe_nearestFlag.2.1 36 = .ok (.if_icmp .ge 10, 3) := by decide +kernel
theorem d_Re_nearestFlag_39 : decode yRe_nearestFlag.2.1 39 = .ok (.iload 6, 2) := by decide +kernel
theorem d_Re_nearestFlag_41 : decode yRe_nearestFlag.2.1 41 = .ok (.istore 4, 2) := by decide +kernel
theorem d_Re_nearestFlag_43 : decode yRe_nearestFlag.2.1 43 = .ok (.iload 5, 2) := by decide +kernel
theorem d_Re_nearestFlag_45 : decode yRe_nearestFlag.2.1 45 = .ok (.istore_n 3, 1) := by decide +kernel
theorem d_Re_nearestFlag_46 : decode yRe_nearestFlag.2.1 46 = .ok (.iinc 5 1, 3) := by decide +kernel
theorem d_Re_nearestFlag_49 : decode yRe_nearestFlag.2.1 49 = .ok (.goto (-40), 3) := by decide +kernel
theorem d_Re_nearestFlag_52 : decode yRe_nearestFlag.2.1 52 = .ok (.iload_n 3, 1) := by decide +kernel
theorem d_Re_nearestFlag_53 : decode yRe_nearestFlag.2.1 53 = .ok (.ireturn, 1) := by decide +kernel
def J_Re_nearestFlag_46 (h1 n1 : Nat) (k : Int32 → Int32 → Int32 → Option (Int32)) (x2 x3 x4 x5 : Int32) (I : gb_Mem) : Option (Int32) :=
  k x3 x4 (x5 + 1)
set_option maxRecDepth 4000 in
theorem j_Re_nearestFlag_46 (l : Launch) (d0 : Nat) (h1 n1 : Nat) (H1 : isRo h1 n1) {post : Option gb_AV → List gb_Ce → gb_Mem → Prop} (k : Int32 → Int32 → Int32 → Option (Int32)) (x2 x3 x4 x5 : Int32) (I : gb_Mem) {ρ : Int32} (h : J_Re_nearestFlag_46 h1 n1 k x2 x3 x4 x5 I = some ρ) (hk : ∀ (z3 z4 z5 : Int32), k z3 z4 z5 = some ρ → gb_Go l yRe_nearestFlag (d0 + 2) 0 0 9 [(1, .inr (some h1)), (2, .inl x2), (3, .inl z3), (4, .inl z4), (5, .inl z5)] [] shX I post) (hX : ∀ (o3 : Int32), ρ = o3 → gb_Go l yRe_nearestFlag (d0 + 2) 0 0 52 [(3, .inl o3)] [] shX I post) : gb_Go l yRe_nearestFlag (d0 + 2) 0 0 46 [(1, .inr (some h1)), (2, .inl x2), (3, .inl x3), (4, .inl x4), (5, .inl x5)] [] shX I post := by
  unfold J_Re_nearestFlag_46 at h
  refine go_iinc (k := 4) (v := x5 + 1) (lv' := [(5, .inl (x5 + 1)), (1, .inr (some h1)), (2, .inl x2), (3, .inl x3), (4, .inl x4)]) d_Re_nearestFlag_46 rfl rfl (by decide) rfl ?_
  refine go_goto (tgt := 9) d_Re_nearestFlag_49 (by decide) ?_
  exact go_lv [1, 2, 3, 4, 0] rfl (hk _ _ _ h)
def L_Re_nearestFlag_9 (h1 n1 : Nat) (x2 : Int32) (I : gb_Mem) : Nat → Int32 → Int32 → Int32 → Option (Int32)
  | 0, _, _, _ => none
  | n + 1, x3, x4, x5 =>
    if (I h1 2) ≤ x5 then
      some x3
    else
      fbd (F_Ro_cell h1 n1 x5 0 I) fun r1 =>
      flt (F_Ji_bitCount (r1 ^^^ x2) I) fun y2 =>
      if x4 ≤ y2 then
        J_Re_nearestFlag_46 h1 n1 (L_Re_nearestFlag_9 h1 n1 x2 I n) x2 x3 x4 x5 I
      else
        J_Re_nearestFlag_46 h1 n1 (L_Re_nearestFlag_9 h1 n1 x2 I n) x2 x5 y2 x5 I
set_option maxRecDepth 4000 in
theorem l_Re_nearestFlag_9 (l : Launch) (d0 : Nat) (h1 n1 : Nat) (H1 : isRo h1 n1) (x2 : Int32) (I : gb_Mem) {post : Option gb_AV → List gb_Ce → gb_Mem → Prop} : ∀ (n : Nat) (x3 x4 x5 : Int32) {ρ : Int32} (h : L_Re_nearestFlag_9 h1 n1 x2 I n x3 x4 x5 = some ρ) (hX : ∀ (o3 : Int32), ρ = o3 → gb_Go l yRe_nearestFlag (d0 + 2) 0 0 52 [(3, .inl o3)] [] shX I post) , gb_Go l yRe_nearestFlag (d0 + 2) 0 0 9 [(1, .inr (some h1)), (2, .inl x2), (3, .inl x3), (4, .inl x4), (5, .inl x5)] [] shX I post := by
  intro n
  induction n with
  | zero => intro x3 x4 x5 ρ h hX; cases h
  | succ n ih =>
    intro x3 x4 x5 ρ h hX
    rw [L_Re_nearestFlag_9] at h
    refine go_iload (k := 4) d_Re_nearestFlag_9 rfl ?_
    refine go_aload_n (k := 0) d_Re_nearestFlag_11 rfl rfl ?_
    refine go_getiN (ci := 4) (k := 2) d_Re_nearestFlag_12 H1.1 rfl (by decide) f_Re_21 rfl ?_
    refine go_cmp_ge (tgt := 52) d_Re_nearestFlag_15 (by decide) (fun hc => ?_) (fun hc => ?_)
    · rw [if_pos hc] at h
      exact go_lv [2] rfl (hX _ (Option.some.inj h).symm)
    · rw [if_neg hc] at h
      refine go_aload_n (k := 0) d_Re_nearestFlag_18 rfl rfl ?_
      refine go_iload (k := 4) d_Re_nearestFlag_19 rfl ?_
      refine go_iconst (v := 0) d_Re_nearestFlag_21 (by decide) ?_
      obtain ⟨r1, w1, h⟩ := fbd_e h
      refine go_callV (y := yRo_cell) (asr := [.inl x5, .inl 0]) (v := some (.inl r1)) (I' := I) (st1 := [.inl r1]) d_Re_nearestFlag_22 s_yRo_cell m_Re_36 H1.1 rfl rfl rfl (Nat.le_of_ble_eq_true rfl) rfl rfl (c_Ro_cell l (d0 + 0) h1 n1 H1 x5 0 I w1) ?_
      refine go_iload_n (k := 1) d_Re_nearestFlag_25 rfl rfl ?_
      refine go_ixor d_Re_nearestFlag_26 ?_
      refine go_callS (y := yJi_bitCount) (asr := [.inl (r1 ^^^ x2)]) (v := some (.inl (F_Ji_bitCount (r1 ^^^ x2) I))) (I' := I) (st1 := [.inl (F_Ji_bitCount (r1 ^^^ x2) I)]) d_Re_nearestFlag_27 s_yJi_bitCount m_Re_50 rfl (Nat.le_of_ble_eq_true rfl) rfl rfl (c_Ji_bitCount l (d0 + 1) (r1 ^^^ x2) I) ?_
      obtain ⟨y2, ey2, h⟩ := flt_e h
      refine go_top ey2 ?_
      refine go_istore (lv' := [(6, .inl y2), (1, .inr (some h1)), (2, .inl x2), (3, .inl x3), (4, .inl x4), (5, .inl x5)]) d_Re_nearestFlag_30 (by decide) rfl ?_
      refine go_iload (k := 0) d_Re_nearestFlag_32 rfl ?_
      refine go_iload (k := 4) d_Re_nearestFlag_34 rfl ?_
      refine go_cmp_ge (tgt := 46) d_Re_nearestFlag_36 (by decide) (fun hc => ?_) (fun hc => ?_)
      · rw [if_pos hc] at h
        exact go_lv [1, 2, 3, 4, 5] rfl (j_Re_nearestFlag_46 l d0 h1 n1 H1 (L_Re_nearestFlag_9 h1 n1 x2 I n) x2 x3 x4 x5 I h (fun z3 z4 z5 hh => ih z3 z4 z5 hh hX) hX)
      · rw [if_neg hc] at h
        refine go_iload (k := 0) d_Re_nearestFlag_39 rfl ?_
        refine go_istore (lv' := [(4, .inl y2), (6, .inl y2), (1, .inr (some h1)), (2, .inl x2), (3, .inl x3), (5, .inl x5)]) d_Re_nearestFlag_41 (by decide) rfl ?_
        refine go_iload (k := 5) d_Re_nearestFlag_43 rfl ?_
        refine go_istore_n (lv' := [(3, .inl x5), (4, .inl y2), (6, .inl y2), (1, .inr (some h1)), (2, .inl x2), (5, .inl x5)]) d_Re_nearestFlag_45 rfl (by decide) rfl ?_
        exact go_lv [3, 4, 0, 1, 5] rfl (j_Re_nearestFlag_46 l d0 h1 n1 H1 (L_Re_nearestFlag_9 h1 n1 x2 I n) x2 x5 y2 x5 I h (fun z3 z4 z5 hh => ih z3 z4 z5 hh hX) hX)
def F_Re_nearestFlag (h1 n1 : Nat) (x2 : Int32) (I : gb_Mem) : Option (Int32) :=
  fbd (L_Re_nearestFlag_9 h1 n1 x2 I 5000 (-1) 13 0) fun o3 =>
  some o3
set_option maxRecDepth 4000 in
theorem c_Re_nearestFlag (l : Launch) (d0 : Nat) (h1 n1 : Nat) (H1 : isRo h1 n1) (x2 : Int32) (I : gb_Mem) {rz : Int32} (h : F_Re_nearestFlag h1 n1 x2 I = some rz) : gb_Cs l yRe_nearestFlag (d0 + 2) [.inr (some 106), .inr (some h1), .inl x2] shX I (some (.inl rz)) I := by
  refine gb_Ct.of (lv := [(0, .inr (some 106)), (1, .inr (some h1)), (2, .inl x2)]) rfl (Nat.le_of_ble_eq_true rfl) rfl ?_
  unfold F_Re_nearestFlag at h
  show gb_Go l yRe_nearestFlag (d0 + 2) 0 0 0 [(0, .inr (some 106)), (1, .inr (some h1)), (2, .inl x2)] [] shX I (gb_po shX (some (.inl rz)) I)
  refine go_iconst (v := (-1)) d_Re_nearestFlag_0 (by decide) ?_
  refine go_istore_n (lv' := [(3, .inl (-1)), (0, .inr (some 106)), (1, .inr (some h1)), (2, .inl x2)]) d_Re_nearestFlag_1 rfl (by decide) rfl ?_
  refine go_bipush (v := 13) d_Re_nearestFlag_2 (by decide) ?_
  refine go_istore (lv' := [(4, .inl 13), (3, .inl (-1)), (0, .inr (some 106)), (1, .inr (some h1)), (2, .inl x2)]) d_Re_nearestFlag_4 (by decide) rfl ?_
  refine go_iconst (v := 0) d_Re_nearestFlag_6 (by decide) ?_
  refine go_istore (lv' := [(5, .inl 0), (4, .inl 13), (3, .inl (-1)), (0, .inr (some 106)), (1, .inr (some h1)), (2, .inl x2)]) d_Re_nearestFlag_7 (by decide) rfl ?_
  refine go_lv [4, 5, 2, 1, 0] (lv' := [(1, .inr (some h1)), (2, .inl x2), (3, .inl (-1)), (4, .inl 13), (5, .inl 0)]) rfl ?_
  obtain ⟨o3, w1, h⟩ := fbd_e h
  refine l_Re_nearestFlag_9 l d0 h1 n1 H1 x2 I 5000 (-1) 13 0 w1 (fun o3_ e => ?_)
  cases e
  refine go_iload_n (k := 0) d_Re_nearestFlag_52 rfl rfl ?_
  cases h
  exact go_ireturn d_Re_nearestFlag_53 rfl gb_po_i
theorem d_Re_roundGoers_0 : decode yRe_roundGoers.2.1 0 = .ok (.iconst 0, 1) := by decide +kernel
theorem d_Re_roundGoers_1 : decode yRe_roundGoers.2.1 1 = .ok (.istore_n 2, 1) := by decide +kernel
theorem d_Re_roundGoers_2 : decode yRe_roundGoers.2.1 2 = .ok (.iconst 0, 1) := by decide +kernel
theorem d_Re_roundGoers_3 : decode yRe_roundGoers.2.1 3 = .ok (.istore_n 3, 1) := by decide +kernel
theorem d_Re_roundGoers_4 : decode yRe_roundGoers.2.1 4 = .ok (.iload_n 3, 1) := by decide +kernel
theorem d_Re_roundGoers_5 : decode yRe_roundGoers.2.1 5 = .ok (.bipush 8, 2) := by decide +kernel
theorem d_Re_roundGoers_7 : decode yRe_roundGoers.2.1 7 = .ok (.if_icmp .ge 104, 3) := by decide +kernel
theorem d_Re_roundGoers_10 : decode yRe_roundGoers.2.1 10 = .ok (.iconst 0, 1) := by decide +kernel
theorem d_Re_roundGoers_11 : decode yRe_roundGoers.2.1 11 = .ok (.istore 4, 2) := by decide +kernel
theorem d_Re_roundGoers_13 : decode yRe_roundGoers.2.1 13 = .ok (.iconst 0, 1) := by decide +kernel
theorem d_Re_roundGoers_14 : decode yRe_roundGoers.2.1 14 = .ok (.istore 5, 2) := by decide +kernel
theorem d_Re_roundGoers_16 : decode yRe_roundGoers.2.1 16 = .ok (.iload 5, 2) := by decide +kernel
theorem d_Re_roundGoers_18 : decode yRe_roundGoers.2.1 18 = .ok (.bipush 8, 2) := by decide +kernel
theorem d_Re_roundGoers_20 : decode yRe_roundGoers.2.1 20 = .ok (.if_icmp .ge 76, 3) := by decide +kernel
theorem d_Re_roundGoers_23 : decode yRe_roundGoers.2.1 23 = .ok (.iload 5, 2) := by decide +kernel
theorem d_Re_roundGoers_25 : decode yRe_roundGoers.2.1 25 = .ok (.ifCond .ne 9, 3) := by decide +kernel
theorem d_Re_roundGoers_28 : decode yRe_roundGoers.2.1 28 = .ok (.iconst 1, 1) := by decide +kernel
theorem d_Re_roundGoers_29 : decode yRe_roundGoers.2.1 29 = .ok (.iload_n 3, 1) := by decide +kernel
theorem d_Re_roundGoers_30 : decode yRe_roundGoers.2.1 30 = .ok (.ishl, 1) := by decide +kernel
theorem d_Re_roundGoers_31 : decode yRe_roundGoers.2.1 31 = .ok (.goto 5, 3) := by decide +kernel
theorem d_Re_roundGoers_34 : decode yRe_roundGoers.2.1 34 = .ok (.iload 4, 2) := by decide +kernel
theorem d_Re_roundGoers_36 : decode yRe_roundGoers.2.1 36 = .ok (.istore 6, 2) := by decide +kernel
theorem d_Re_roundGoers_38 : decode yRe_roundGoers.2.1 38 = .ok (.iconst 0, 1) := by decide +kernel
theorem d_Re_roundGoers_39 : decode yRe_roundGoers.2.1 39 = .ok (.istore 7, 2) := by decide +kernel
theorem d_Re_roundGoers_41 : decode yRe_roundGoers.2.1 41 = .ok (.iload 7, 2) := by decide +kernel
theorem d_Re_roundGoers_43 : decode yRe_roundGoers.2.1 43 = .ok (.aload_n 1, 1) := by decide +kernel
theorem d_Re_roundGoers_44 : decode yRe_roundGoers.2.1 44 = .ok (.getfield 21, 3) := by decide +kernel
theorem d_Re_roundGoers_47 : decode yRe_roundGoers.2.1 47 = .ok (.if_icmp .ge 43, 3) := by decide +kernel
theorem d_Re_roundGoers_50 : decode yRe_roundGoers.2.1 50 = .ok (.iload 4, 2) := by decide +kernel
theorem d_Re_roundGoers_52 : decode yRe_roundGoers.2.1 52 = .ok (.iload 6, 2) := by decide +kernel
theorem d_Re_roundGoers_54 : decode yRe_roundGoers.2.1 54 = .ok (.aload_n 1, 1) := by decide +kernel
theorem d_Re_roundGoers_55 : decode yRe_roundGoers.2.1 55 = .ok (.iload 7, 2) := by decide +kernel
theorem d_Re_roundGoers_57 : decode yRe_roundGoers.2.1 57 = .ok (.iconst 0, 1) := by decide +kernel
theorem d_Re_roundGoers_58 : decode yRe_roundGoers.2.1 58 = .ok (.invokevirtual 36, 3) := by decide +kernel
theorem d_Re_roundGoers_61 : decode yRe_roundGoers.2.1 61 = .ok (.ishr, 1) := by decide +kernel
theorem d_Re_roundGoers_62 : decode yRe_roundGoers.2.1 62 = .ok (.iconst 1, 1) := by decide +kernel
theorem d_Re_roundGoers_63 : decode yRe_roundGoers.2.1 63 = .ok (.iand, 1) := by decide +kernel
theorem d_Re_roundGoers_64 : decode yRe_roundGoers.2.1 64 = .ok (.iconst 1, 1) := by decide +kernel
theorem d_Re_roundGoers_65 : decode yRe_roundGoers.2.1 65 = .ok (.if_icmp .ne 15, 3) := by decide +kernel
theorem d_Re_roundGoers_68 : decode yRe_roundGoers.2.1 68 = .ok (.iconst 1, 1) := by decide +kernel
theorem d_Re_roundGoers_69 : decode yRe_roundGoers.2.1 69 = .ok (.aload_n 1, 1) := by decide +kernel
theorem d_Re_roundGoers_70 : decode yRe_roundGoers.2.1 70 = .ok (.iload 7, 2) := by decide +kernel
theorem d_Re_roundGoers_72 : decode yRe_roundGoers.2.1 72 = .ok (.iconst 1, 1) := by decide +kernel
theorem d_Re_roundGoers_73 : decode yRe_roundGoers.2.1 73 = .ok (.invokevirtual 36, 3) := by decide +kernel
theorem d_Re_roundGoers_76 : decode yRe_roundGoers.2.1 76 = .ok (.ishl, 1) := by decide +kernel
theorem d_Re_roundGoers_77 : decode yRe_roundGoers.2.1 77 = .ok (.goto 4, 3) := by decide +kernel
theorem d_Re_roundGoers_80 : decode yRe_roundGoers.2.1 80 = .ok (.iconst 0, 1) := by decide +kernel
theorem d_Re_roundGoers_81 : decode yRe_roundGoers.2.1 81 = .ok (.ior, 1) := by decide +kernel
theorem d_Re_roundGoers_82 : decode yRe_roundGoers.2.1 82 = .ok (.istore 4, 2) := by decide +kernel
theorem d_Re_roundGoers_84 : decode yRe_roundGoers.2.1 84 = .ok (.iinc 7 1, 3) := by decide +kernel
theorem d_Re_roundGoers_87 : decode yRe_roundGoers.2.1 87 = .ok (.goto (-46), 3) := by decide +kernel
theorem d_Re_roundGoers_90 : decode yRe_roundGoers.2.1 90 = .ok (.iinc 5 1, 3) := by decide +kernel
theorem d_Re_roundGoers_93 : decode yRe_roundGoers.2.1 93 = .ok (.goto (-77), 3) := by decide +kernel
theorem d_Re_roundGoers_96 : decode yRe_roundGoers.2.1 96 = .ok (.iload_n 2, 1) := by decide +kernel
theorem d_Re_roundGoers_97 : decode yRe_roundGoers.2.1 97 = .ok (.iload 4, 2) := by decide +kernel
theorem d_Re_roundGoers_99 : decode yRe_roundGoers.2.1 99 = .ok (.iconst 1, 1) := by decide +kernel
theorem d_Re_roundGoers_100 : decode yRe_roundGoers.2.1 100 = .ok (.iload_n 3, 1) := by decide +kernel
theorem d_Re_roundGoers_101 : decode yRe_roundGoers.2.1 101 = .ok (.ishl, 1) := by decide +kernel
theorem d_Re_roundGoers_102 : decode yRe_roundGoers.2.1 102 = .ok (.iand, 1) := by decide +kernel
theorem d_Re_roundGoers_103 : decode yRe_roundGoers.2.1 103 = .ok (.ior, 1) := by decide +kernel
theorem d_Re_roundGoers_104 : decode yRe_roundGoers.2.1 104 = .ok (.istore_n 2, 1) := by decide +kernel
theorem d_Re_roundGoers_105 : decode yRe_roundGoers.2.1 105 = .ok (.iinc 3 1, 3) := by decide +kernel
theorem d_Re_roundGoers_108 : decode yRe_roundGoers.2.1 108 = .ok (.goto (-104), 3) := by decide +kernel
theorem d_Re_roundGoers_111 : decode yRe_roundGoers.2.1 111 = .ok (.iload_n 2, 1) := by decide +kernel
theorem d_Re_roundGoers_112 : decode yRe_roundGoers.2.1 112 = .ok (.ireturn, 1) := by decide +kernel
def J_Re_roundGoers_81 (h1 n1 : Nat) (k : Int32 → Int32 → Option (Int32)) (x2 x3 x5 x6 x7 s0 s1 : Int32) (I : gb_Mem) : Option (Int32) :=
  k (s1 ||| s0) (x7 + 1)
set_option maxRecDepth 4000 in
theorem j_Re_roundGoers_81 (l : Launch) (d0 : Nat) (h1 n1 : Nat) (H1 : isRo h1 n1) {post : Option gb_AV → List gb_Ce → gb_Mem → Prop} (k : Int32 → Int32 → Option (Int32)) (x2 x3 x5 x6 x7 s0 s1 : Int32) (I : gb_Mem) {ρ : Int32} (h : J_Re_roundGoers_81 h1 n1 k x2 x3 x5 x6 x7 s0 s1 I = some ρ) (hk : ∀ (z4 z7 : Int32), k z4 z7 = some ρ → gb_Go l yRe_roundGoers (d0 + 2) 0 0 41 [(1, .inr (some h1)), (2, .inl x2), (3, .inl x3), (4, .inl z4), (5, .inl x5), (6, .inl x6), (7, .inl z7)] [] shX I post) (hX : ∀ (o4 : Int32), ρ = o4 → gb_Go l yRe_roundGoers (d0 + 2) 0 0 90 [(1, .inr (some h1)), (2, .inl x2), (3, .inl x3), (4, .inl o4), (5, .inl x5)] [] shX I post) : gb_Go l yRe_roundGoers (d0 + 2) 0 0 81 [(1, .inr (some h1)), (2, .inl x2), (3, .inl x3), (5, .inl x5), (6, .inl x6), (7, .inl x7)] [.inl s0, .inl s1] shX I post := by
  unfold J_Re_roundGoers_81 at h
  refine go_ior d_Re_roundGoers_81 ?_
  refine go_istore (lv' := [(4, .inl (s1 ||| s0)), (1, .inr (some h1)), (2, .inl x2), (3, .inl x3), (5, .inl x5), (6, .inl x6), (7, .inl x7)]) d_Re_roundGoers_82 (by decide) rfl ?_
  refine go_iinc (k := 6) (v := x7 + 1) (lv' := [(7, .inl (x7 + 1)), (4, .inl (s1 ||| s0)), (1, .inr (some h1)), (2, .inl x2), (3, .inl x3), (5, .inl x5), (6, .inl x6)]) d_Re_roundGoers_84 rfl rfl (by decide) rfl ?_
  refine go_goto (tgt := 41) d_Re_roundGoers_87 (by decide) ?_
  exact go_lv [2, 3, 4, 1, 5, 6, 0] rfl (hk _ _ h)
def L_Re_roundGoers_41 (h1 n1 : Nat) (x2 x3 x5 x6 : Int32) (I : gb_Mem) : Nat → Int32 → Int32 → Option (Int32)
  | 0, _, _ => none
  | n + 1, x4, x7 =>
    if (I h1 2) ≤ x7 then
      some x4
    else
      fbd (F_Ro_cell h1 n1 x7 0 I) fun r1 =>
      if ((x6 >>> (r1 &&& 31)) &&& 1) = 1 then
        fbd (F_Ro_cell h1 n1 x7 1 I) fun r2 =>
        J_Re_roundGoers_81 h1 n1 (L_Re_roundGoers_41 h1 n1 x2 x3 x5 x6 I n) x2 x3 x5 x6 x7 (1 <<< (r2 &&& 31)) x4 I
      else
        J_Re_roundGoers_81 h1 n1 (L_Re_roundGoers_41 h1 n1 x2 x3 x5 x6 I n) x2 x3 x5 x6 x7 0 x4 I
set_option maxRecDepth 4000 in
theorem l_Re_roundGoers_41 (l : Launch) (d0 : Nat) (h1 n1 : Nat) (H1 : isRo h1 n1) (x2 x3 x5 x6 : Int32) (I : gb_Mem) {post : Option gb_AV → List gb_Ce → gb_Mem → Prop} : ∀ (n : Nat) (x4 x7 : Int32) {ρ : Int32} (h : L_Re_roundGoers_41 h1 n1 x2 x3 x5 x6 I n x4 x7 = some ρ) (hX : ∀ (o4 : Int32), ρ = o4 → gb_Go l yRe_roundGoers (d0 + 2) 0 0 90 [(1, .inr (some h1)), (2, .inl x2), (3, .inl x3), (4, .inl o4), (5, .inl x5)] [] shX I post) , gb_Go l yRe_roundGoers (d0 + 2) 0 0 41 [(1, .inr (some h1)), (2, .inl x2), (3, .inl x3), (4, .inl x4), (5, .inl x5), (6, .inl x6), (7, .inl x7)] [] shX I post := by
  intro n
  induction n with
  | zero => intro x4 x7 ρ h hX; cases h
  | succ n ih =>
    intro x4 x7 ρ h hX
    rw [L_Re_roundGoers_41] at h
    refine go_iload (k := 6) d_Re_roundGoers_41 rfl ?_
    refine go_aload_n (k := 0) d_Re_roundGoers_43 rfl rfl ?_
    refine go_getiN (ci := 4) (k := 2) d_Re_roundGoers_44 H1.1 rfl (by decide) f_Re_21 rfl ?_
    refine go_cmp_ge (tgt := 90) d_Re_roundGoers_47 (by decide) (fun hc => ?_) (fun hc => ?_)
    · rw [if_pos hc] at h
      exact go_lv [0, 1, 2, 3, 4] rfl (hX _ (Option.some.inj h).symm)
    · rw [if_neg hc] at h
      refine go_iload (k := 3) d_Re_roundGoers_50 rfl ?_
      refine go_iload (k := 5) d_Re_roundGoers_52 rfl ?_
      refine go_aload_n (k := 0) d_Re_roundGoers_54 rfl rfl ?_
      refine go_iload (k := 6) d_Re_roundGoers_55 rfl ?_
      refine go_iconst (v := 0) d_Re_roundGoers_57 (by decide) ?_
      obtain ⟨r1, w1, h⟩ := fbd_e h
      refine go_callV (y := yRo_cell) (asr := [.inl x7, .inl 0]) (v := some (.inl r1)) (I' := I) (st1 := [.inl r1, .inl x6, .inl x4]) d_Re_roundGoers_58 s_yRo_cell m_Re_36 H1.1 rfl rfl rfl (Nat.le_of_ble_eq_true rfl) rfl rfl (c_Ro_cell l (d0 + 0) h1 n1 H1 x7 0 I w1) ?_
      refine go_ishr d_Re_roundGoers_61 ?_
      refine go_iconst (v := 1) d_Re_roundGoers_62 (by decide) ?_
      refine go_iand d_Re_roundGoers_63 ?_
      refine go_iconst (v := 1) d_Re_roundGoers_64 (by decide) ?_
      refine go_cmp_ne (tgt := 80) d_Re_roundGoers_65 (by decide) (fun hc => ?_) (fun hc => ?_)
      · rw [if_neg hc] at h
        refine go_iconst (v := 0) d_Re_roundGoers_80 (by decide) ?_
        exact go_lv [0, 1, 2, 4, 5, 6] rfl (j_Re_roundGoers_81 l d0 h1 n1 H1 (L_Re_roundGoers_41 h1 n1 x2 x3 x5 x6 I n) x2 x3 x5 x6 x7 0 x4 I h (fun z4 z7 hh => ih z4 z7 hh hX) hX)
      · rw [if_pos hc] at h
        refine go_iconst (v := 1) d_Re_roundGoers_68 (by decide) ?_
        refine go_aload_n (k := 0) d_Re_roundGoers_69 rfl rfl ?_
        refine go_iload (k := 6) d_Re_roundGoers_70 rfl ?_
        refine go_iconst (v := 1) d_Re_roundGoers_72 (by decide) ?_
        obtain ⟨r2, w1, h⟩ := fbd_e h
        refine go_callV (y := yRo_cell) (asr := [.inl x7, .inl 1]) (v := some (.inl r2)) (I' := I) (st1 := [.inl r2, .inl 1, .inl x4]) d_Re_roundGoers_73 s_yRo_cell m_Re_36 H1.1 rfl rfl rfl (Nat.le_of_ble_eq_true rfl) rfl rfl (c_Ro_cell l (d0 + 0) h1 n1 H1 x7 1 I w1) ?_
        refine go_ishl d_Re_roundGoers_76 ?_
        refine go_goto (tgt := 81) d_Re_roundGoers_77 (by decide) ?_
        exact go_lv [0, 1, 2, 4, 5, 6] rfl (j_Re_roundGoers_81 l d0 h1 n1 H1 (L_Re_roundGoers_41 h1 n1 x2 x3 x5 x6 I n) x2 x3 x5 x6 x7 (1 <<< (r2 &&& 31)) x4 I h (fun z4 z7 hh => ih z4 z7 hh hX) hX)
def J_Re_roundGoers_36 (h1 n1 : Nat) (k : Int32 → Int32 → Option (Int32)) (x2 x3 x4 x5 s0 : Int32) (I : gb_Mem) : Option (Int32) :=
  fbd (L_Re_roundGoers_41 h1 n1 x2 x3 x5 s0 I 5000 x4 0) fun o3 =>
  k o3 (x5 + 1)
set_option maxRecDepth 4000 in
theorem j_Re_roundGoers_36 (l : Launch) (d0 : Nat) (h1 n1 : Nat) (H1 : isRo h1 n1) {post : Option gb_AV → List gb_Ce → gb_Mem → Prop} (k : Int32 → Int32 → Option (Int32)) (x2 x3 x4 x5 s0 : Int32) (I : gb_Mem) {ρ : Int32} (h : J_Re_roundGoers_36 h1 n1 k x2 x3 x4 x5 s0 I = some ρ) (hk : ∀ (z4 z5 : Int32), k z4 z5 = some ρ → gb_Go l yRe_roundGoers (d0 + 2) 0 0 16 [(1, .inr (some h1)), (2, .inl x2), (3, .inl x3), (4, .inl z4), (5, .inl z5)] [] shX I post) (hX : ∀ (o4 : Int32), ρ = o4 → gb_Go l yRe_roundGoers (d0 + 2) 0 0 96 [(1, .inr (some h1)), (2, .inl x2), (3, .inl x3), (4, .inl o4)] [] shX I post) : gb_Go l yRe_roundGoers (d0 + 2) 0 0 36 [(1, .inr (some h1)), (2, .inl x2), (3, .inl x3), (4, .inl x4), (5, .inl x5)] [.inl s0] shX I post := by
  unfold J_Re_roundGoers_36 at h
  refine go_istore (lv' := [(6, .inl s0), (1, .inr (some h1)), (2, .inl x2), (3, .inl x3), (4, .inl x4), (5, .inl x5)]) d_Re_roundGoers_36 (by decide) rfl ?_
  refine go_iconst (v := 0) d_Re_roundGoers_38 (by decide) ?_
  refine go_istore (lv' := [(7, .inl 0), (6, .inl s0), (1, .inr (some h1)), (2, .inl x2), (3, .inl x3), (4, .inl x4), (5, .inl x5)]) d_Re_roundGoers_39 (by decide) rfl ?_
  refine go_lv [2, 3, 4, 5, 6, 1, 0] (lv' := [(1, .inr (some h1)), (2, .inl x2), (3, .inl x3), (4, .inl x4), (5, .inl x5), (6, .inl s0), (7, .inl 0)]) rfl ?_
  obtain ⟨o3, w1, h⟩ := fbd_e h
  refine l_Re_roundGoers_41 l d0 h1 n1 H1 x2 x3 x5 s0 I 5000 x4 0 w1 (fun o3_ e => ?_)
  cases e
  refine go_iinc (k := 4) (v := x5 + 1) (lv' := [(5, .inl (x5 + 1)), (1, .inr (some h1)), (2, .inl x2), (3, .inl x3), (4, .inl o3)]) d_Re_roundGoers_90 rfl rfl (by decide) rfl ?_
  refine go_goto (tgt := 16) d_Re_roundGoers_93 (by decide) ?_
  exact go_lv [1, 2, 3, 4, 0] rfl (hk _ _ h)
def L_Re_roundGoers_16 (h1 n1 : Nat) (x2 x3 : Int32) (I : gb_Mem) : Nat → Int32 → Int32 → Option (Int32)
  | 0, _, _ => none
  | n + 1, x4, x5 =>
    if 8 ≤ x5 then
      some x4
    else
      if x5 = 0 then
        J_Re_roundGoers_36 h1 n1 (L_Re_roundGoers_16 h1 n1 x2 x3 I n) x2 x3 x4 x5 (1 <<< (x3 &&& 31)) I
      else
        J_Re_roundGoers_36 h1 n1 (L_Re_roundGoers_16 h1 n1 x2 x3 I n) x2 x3 x4 x5 x4 I
set_option maxRecDepth 4000 in
theorem l_Re_roundGoers_16 (l : Launch) (d0 : Nat) (h1 n1 : Nat) (H1 : isRo h1 n1) (x2 x3 : Int32) (I : gb_Mem) {post : Option gb_AV → List gb_Ce → gb_Mem → Prop} : ∀ (n : Nat) (x4 x5 : Int32) {ρ : Int32} (h : L_Re_roundGoers_16 h1 n1 x2 x3 I n x4 x5 = some ρ) (hX : ∀ (o4 : Int32), ρ = o4 → gb_Go l yRe_roundGoers (d0 + 2) 0 0 96 [(1, .inr (some h1)), (2, .inl x2), (3, .inl x3), (4, .inl o4)] [] shX I post) , gb_Go l yRe_roundGoers (d0 + 2) 0 0 16 [(1, .inr (some h1)), (2, .inl x2), (3, .inl x3), (4, .inl x4), (5, .inl x5)] [] shX I post := by
  intro n
  induction n with
  | zero => intro x4 x5 ρ h hX; cases h
  | succ n ih =>
    intro x4 x5 ρ h hX
    rw [L_Re_roundGoers_16] at h
    refine go_iload (k := 4) d_Re_roundGoers_16 rfl ?_
    refine go_bipush (v := 8) d_Re_roundGoers_18 (by decide) ?_
    refine go_cmp_ge (tgt := 96) d_Re_roundGoers_20 (by decide) (fun hc => ?_) (fun hc => ?_)
    · rw [if_pos hc] at h
      exact go_lv [0, 1, 2, 3] rfl (hX _ (Option.some.inj h).symm)
    · rw [if_neg hc] at h
      refine go_iload (k := 4) d_Re_roundGoers_23 rfl ?_
      refine go_if_ne (tgt := 34) d_Re_roundGoers_25 (by decide) (fun hc => ?_) (fun hc => ?_)
      · rw [if_neg hc] at h
        refine go_iload (k := 3) d_Re_roundGoers_34 rfl ?_
        exact go_lv [0, 1, 2, 3, 4] rfl (j_Re_roundGoers_36 l d0 h1 n1 H1 (L_Re_roundGoers_16 h1 n1 x2 x3 I n) x2 x3 x4 x5 x4 I h (fun z4 z5 hh => ih z4 z5 hh hX) hX)
      · rw [if_pos hc] at h
        refine go_iconst (v := 1) d_Re_roundGoers_28 (by decide) ?_
        refine go_iload_n (k := 2) d_Re_roundGoers_29 rfl rfl ?_
        refine go_ishl d_Re_roundGoers_30 ?_
        refine go_goto (tgt := 36) d_Re_roundGoers_31 (by decide) ?_
        exact go_lv [0, 1, 2, 3, 4] rfl (j_Re_roundGoers_36 l d0 h1 n1 H1 (L_Re_roundGoers_16 h1 n1 x2 x3 I n) x2 x3 x4 x5 (1 <<< (x3 &&& 31)) I h (fun z4 z5 hh => ih z4 z5 hh hX) hX)
def L_Re_roundGoers_4 (h1 n1 : Nat) (I : gb_Mem) : Nat → Int32 → Int32 → Option (Int32)
  | 0, _, _ => none
  | n + 1, x2, x3 =>
    if 8 ≤ x3 then
      some x2
    else
      fbd (L_Re_roundGoers_16 h1 n1 x2 x3 I 5000 0 0) fun o4 =>
      flt (x2 ||| (o4 &&& (1 <<< (x3 &&& 31)))) fun y5 =>
      L_Re_roundGoers_4 h1 n1 I n y5 (x3 + 1)
set_option maxRecDepth 4000 in
theorem l_Re_roundGoers_4 (l : Launch) (d0 : Nat) (h1 n1 : Nat) (H1 : isRo h1 n1) (I : gb_Mem) {post : Option gb_AV → List gb_Ce → gb_Mem → Prop} : ∀ (n : Nat) (x2 x3 : Int32) {ρ : Int32} (h : L_Re_roundGoers_4 h1 n1 I n x2 x3 = some ρ) (hX : ∀ (o2 : Int32), ρ = o2 → gb_Go l yRe_roundGoers (d0 + 2) 0 0 111 [(2, .inl o2)] [] shX I post) , gb_Go l yRe_roundGoers (d0 + 2) 0 0 4 [(1, .inr (some h1)), (2, .inl x2), (3, .inl x3)] [] shX I post := by
  intro n
  induction n with
  | zero => intro x2 x3 ρ h hX; cases h
  | succ n ih =>
    intro x2 x3 ρ h hX
    rw [L_Re_roundGoers_4] at h
    refine go_iload_n (k := 2) d_Re_roundGoers_4 rfl rfl ?_
    refine go_bipush (v := 8) d_Re_roundGoers_5 (by decide) ?_
    refine go_cmp_ge (tgt := 111) d_Re_roundGoers_7 (by decide) (fun hc => ?_) (fun hc => ?_)
    · rw [if_pos hc] at h
      exact go_lv [1] rfl (hX _ (Option.some.inj h).symm)
    · rw [if_neg hc] at h
      refine go_iconst (v := 0) d_Re_roundGoers_10 (by decide) ?_
      refine go_istore (lv' := [(4, .inl 0), (1, .inr (some h1)), (2, .inl x2), (3, .inl x3)]) d_Re_roundGoers_11 (by decide) rfl ?_
      refine go_iconst (v := 0) d_Re_roundGoers_13 (by decide) ?_
      refine go_istore (lv' := [(5, .inl 0), (4, .inl 0), (1, .inr (some h1)), (2, .inl x2), (3, .inl x3)]) d_Re_roundGoers_14 (by decide) rfl ?_
      refine go_lv [2, 3, 4, 1, 0] (lv' := [(1, .inr (some h1)), (2, .inl x2), (3, .inl x3), (4, .inl 0), (5, .inl 0)]) rfl ?_
      obtain ⟨o4, w1, h⟩ := fbd_e h
      refine l_Re_roundGoers_16 l d0 h1 n1 H1 x2 x3 I 5000 0 0 w1 (fun o4_ e => ?_)
      cases e
      refine go_iload_n (k := 1) d_Re_roundGoers_96 rfl rfl ?_
      refine go_iload (k := 3) d_Re_roundGoers_97 rfl ?_
      refine go_iconst (v := 1) d_Re_roundGoers_99 (by decide) ?_
      refine go_iload_n (k := 2) d_Re_roundGoers_100 rfl rfl ?_
      refine go_ishl d_Re_roundGoers_101 ?_
      refine go_iand d_Re_roundGoers_102 ?_
      refine go_ior d_Re_roundGoers_103 ?_
      obtain ⟨y5, ey5, h⟩ := flt_e h
      refine go_top ey5 ?_
      refine go_istore_n (lv' := [(2, .inl y5), (1, .inr (some h1)), (3, .inl x3), (4, .inl o4)]) d_Re_roundGoers_104 rfl (by decide) rfl ?_
      refine go_iinc (k := 2) (v := x3 + 1) (lv' := [(3, .inl (x3 + 1)), (2, .inl y5), (1, .inr (some h1)), (4, .inl o4)]) d_Re_roundGoers_105 rfl rfl (by decide) rfl ?_
      refine go_goto (tgt := 4) d_Re_roundGoers_108 (by decide) ?_
      exact go_lv [2, 1, 0] rfl (ih y5 (x3 + 1) h hX)
def F_Re_roundGoers (h1 n1 : Nat) (I : gb_Mem) : Option (Int32) :=
  fbd (L_Re_roundGoers_4 h1 n1 I 5000 0 0) fun o6 =>
  some o6
set_option maxRecDepth 4000 in
theorem c_Re_roundGoers (l : Launch) (d0 : Nat) (h1 n1 : Nat) (H1 : isRo h1 n1) (I : gb_Mem) {rz : Int32} (h : F_Re_roundGoers h1 n1 I = some rz) : gb_Cs l yRe_roundGoers (d0 + 2) [.inr (some 106), .inr (some h1)] shX I (some (.inl rz)) I := by
  refine gb_Ct.of (lv := [(0, .inr (some 106)), (1, .inr (some h1))]) rfl (Nat.le_of_ble_eq_true rfl) rfl ?_
  unfold F_Re_roundGoers at h
  show gb_Go l yRe_roundGoers (d0 + 2) 0 0 0 [(0, .inr (some 106)), (1, .inr (some h1))] [] shX I (gb_po shX (some (.inl rz)) I)
  refine go_iconst (v := 0) d_Re_roundGoers_0 (by decide) ?_
  refine go_istore_n (lv' := [(2, .inl 0), (0, .inr (some 106)), (1, .inr (some h1))]) d_Re_roundGoers_1 rfl (by decide) rfl ?_
  refine go_iconst (v := 0) d_Re_roundGoers_2 (by decide) ?_
  refine go_istore_n (lv' := [(3, .inl 0), (2, .inl 0), (0, .inr (some 106)), (1, .inr (some h1))]) d_Re_roundGoers_3 rfl (by decide) rfl ?_
  refine go_lv [3, 1, 0] (lv' := [(1, .inr (some h1)), (2, .inl 0), (3, .inl 0)]) rfl ?_
  obtain ⟨o6, w1, h⟩ := fbd_e h
  refine l_Re_roundGoers_4 l d0 h1 n1 H1 I 5000 0 0 w1 (fun o6_ e => ?_)
  cases e
  refine go_iload_n (k := 0) d_Re_roundGoers_111 rfl rfl ?_
  cases h
  exact go_ireturn d_Re_roundGoers_112 rfl gb_po_i
theorem d_Re_stowing_0 : decode yRe_stowing.2.1 0 = .ok (.iconst 0, 1) := by decide +kernel
theorem d_Re_stowing_1 : decode yRe_stowing.2.1 1 = .ok (.istore 5, 2) := by decide +kernel
theorem d_Re_stowing_3 : decode yRe_stowing.2.1 3 = .ok (.iconst 0, 1) := by decide +kernel
theorem d_Re_stowing_4 : decode yRe_stowing.2.1 4 = .ok (.istore 6, 2) := by decide +kernel
theorem d_Re_stowing_6 : decode yRe_stowing.2.1 6 = .ok (.iconst 1, 1) := by decide +kernel
theorem d_Re_stowing_7 : decode yRe_stowing.2.1 7 = .ok (.istore 7, 2) := by decide +kernel
theorem d_Re_stowing_9 : decode yRe_stowing.2.1 9 = .ok (.iconst 0, 1) := by decide +kernel
theorem d_Re_stowing_10 : decode yRe_stowing.2.1 10 = .ok (.istore 8, 2) := by decide +kernel
theorem d_Re_stowing_12 : decode yRe_stowing.2.1 12 = .ok (.iload 8, 2) := by decide +kernel
theorem d_Re_stowing_14 : decode yRe_stowing.2.1 14 = .ok (.aload_n 1, 1) := by decide +kernel
theorem d_Re_stowing_15 : decode yRe_stowing.2.1 15 = .ok (.getfield 21, 3) := by decide +kernel
theorem d_Re_stowing_18 : decode yRe_stowing.2.1 18 = .ok (.if_icmp .ge 141, 3) := by decide +kernel
theorem d_Re_stowing_21 : decode yRe_stowing.2.1 21 = .ok (.iconst 2, 1) := by decide +kernel
theorem d_Re_stowing_22 : decode yRe_stowing.2.1 22 = .ok (.iload 7, 2) := by decide +kernel
theorem d_Re_stowing_24 : decode yRe_stowing.2.1 24 = .ok (.imul, 1) := by decide +kernel
theorem d_Re_stowing_25 : decode yRe_stowing.2.1 25 = .ok (.aload_n 0, 1) := by decide +kernel
theorem d_Re_stowing_26 : decode yRe_stowing.2.1 26 = .ok (.getfield 15, 3) := by decide +kernel
theorem d_Re_stowing_29 : decode yRe_stowing.2.1 29 = .ok (.arraylength, 1) := by decide +kernel
theorem d_Re_stowing_30 : decode yRe_stowing.2.1 30 = .ok (.if_icmp .gt 129, 3) := by decide +kernel
theorem d_Re_stowing_33 : decode yRe_stowing.2.1 33 = .ok (.iload 7, 2) := by decide +kernel
theorem d_Re_stowing_35 : decode yRe_stowing.2.1 35 = .ok (.istore 9, 2) := by decide +kernel
theorem d_Re_stowing_37 : decode yRe_stowing.2.1 37 = .ok (.iload 9, 2) := by decide +kernel
theorem d_Re_stowing_39 : decode yRe_stowing.2.1 39 = .ok (.iconst 2, 1) := by decide +kernel
theorem d_Re_stowing_40 : decode yRe_stowing.2.1 40 = .ok (.iload 7, 2) := by decide +kernel
theorem d_Re_stowing_42 : decode yRe_stowing.2.1 42 = .ok (.imul, 1) := by decide +kernel
theorem d_Re_stowing_43 : decode yRe_stowing.2.1 43 = .ok (.if_icmp .ge 104, 3) := by decide +kernel
theorem d_Re_stowing_46 : decode yRe_stowing.2.1 46 = .ok (.aload_n 0, 1) := by decide +kernel
theorem d_Re_stowing_47 : decode yRe_stowing.2.1 47 = .ok (.getfield 15, 3) := by decide +kernel
theorem d_Re_stowing_50 : decode yRe_stowing.2.1 50 = .ok (.iload 9, 2) := by decide +kernel
theorem d_Re_stowing_52 : decode yRe_stowing.2.1 52 = .ok (.aload_n 0, 1) := by decide +kernel
theorem d_Re_stowing_53 : decode yRe_stowing.2.1 53 = .ok (.getfield 15, 3) := by decide +kernel
theorem d_Re_stowing_56 : decode yRe_stowing.2.1 56 = .ok (.iload 9, 2) := by decide +kernel
theorem d_Re_stowing_58 : decode yRe_stowing.2.1 58 = .ok (.iload 7, 2) := by decide +kernel
theorem d_Re_stowing_60 : decode yRe_stowing.2.1 60 = .ok (.isub, 1) := by decide +kernel
theorem d_Re_stowing_61 : decode yRe_stowing.2.1 61 = .ok (.iaload, 1) := by decide +kernel
theorem d_Re_stowing_62 : decode yRe_stowing.2.1 62 = .ok (.aload_n 1, 1) := by decide +kernel
theorem d_Re_stowing_63 : decode yRe_stowing.2.1 63 = .ok (.iload 8, 2) := by decide +kernel
theorem d_Re_stowing_65 : decode yRe_stowing.2.1 65 = .ok (.iconst 0, 1) := by decide +kernel
theorem d_Re_stowing_66 : decode yRe_stowing.2.1 66 = .ok (.invokevirtual 36, 3) := by decide +kernel
theorem d_Re_stowing_69 : decode yRe_stowing.2.1 69 = .ok (.iadd, 1) := by decide +kernel
theorem d_Re_stowing_70 : decode yRe_stowing.2.1 70 = .ok (.iastore, 1) := by decide +kernel
theorem d_Re_stowing_71 : decode yRe_stowing.2.1 71 = .ok (.aload_n 0, 1) := by decide +kernel
theorem d_Re_stowing_72 : decode yRe_stowing.2.1 72 = .ok (.getfield 18, 3) := by decide +kernel
theorem d_Re_stowing_75 : decode yRe_stowing.2.1 75 = .ok (.iload 9, 2) := by decide +kernel
theorem d_Re_stowing_77 : decode yRe_stowing.2.1 77 = .ok (.aload_n 0, 1) := by decide +kernel
theorem d_Re_stowing_78 : decode yRe_stowing.2.1 78 = .ok (.getfield 18, 3) := by decide +kernel
theorem d_Re_stowing_81 : decode yRe_stowing.2.1 81 = .ok (.iload 9, 2) := by decide +kernel
theorem d_Re_stowing_83 : decode yRe_stowing.2.1 83 = .ok (.iload 7, 2) := by decide +kernel
theorem d_Re_stowing_85 : decode yRe_stowing.2.1 85 = .ok (.isub, 1) := by decide +kernel
theorem d_Re_stowing_86 : decode yRe_stowing.2.1 86 = .ok (.iaload, 1) := by decide +kernel
theorem d_Re_stowing_87 : decode yRe_stowing.2.1 87 = .ok (.aload_n 1, 1) := by decide +kernel
theorem d_Re_stowing_88 : decode yRe_stowing.2.1 88 = .ok (.iload 8, 2) := by decide +kernel
theorem d_Re_stowing_90 : decode yRe_stowing.2.1 90 = .ok (.iconst 1, 1) := by decide +kernel
theorem d_Re_stowing_91 : decode yRe_stowing.2.1 91 = .ok (.invokevirtual 36, 3) := by decide +kernel
theorem d_Re_stowing_94 : decode yRe_stowing.2.1 94 = .ok (.iadd, 1) := by decide +kernel
theorem d_Re_stowing_95 : decode yRe_stowing.2.1 95 = .ok (.iastore, 1) := by decide +kernel
theorem d_Re_stowing_96 : decode yRe_stowing.2.1 96 = .ok (.aload_n 0, 1) := by decide +kernel
theorem d_Re_stowing_97 : decode yRe_stowing.2.1 97 = .ok (.getfield 18, 3) := by decide +kernel
theorem d_Re_stowing_100 : decode yRe_stowing.2.1 100 = .ok (.iload 9, 2) := by decide +kernel
theorem d_Re_stowing_102 : decode yRe_stowing.2.1 102 = .ok (.iaload, 1) := by decide +kernel
theorem d_Re_stowing_103 : decode yRe_stowing.2.1 103 = .ok (.iload 5, 2) := by decide +kernel
theorem d_Re_stowing_105 : decode yRe_stowing.2.1 105 = .ok (.if_icmp .le 14, 3) := by decide +kernel
theorem d_Re_stowing_108 : decode yRe_stowing.2.1 108 = .ok (.aload_n 0, 1) := by decide +kernel
theorem d_Re_stowing_109 : decode yRe_stowing.2.1 109 = .ok (.iload 9, 2) := by decide +kernel
theorem d_Re_stowing_111 : decode yRe_stowing.2.1 111 = .ok (.iload_n 2, 1) := by decide +kernel
theorem d_Re_stowing_112 : decode yRe_stowing.2.1 112 = .ok (.iload_n 3, 1) := by decide +kernel
theorem d_Re_stowing_113 : decode yRe_stowing.2.1 113 = .ok (.invokevirtual 61, 3) := by decide +kernel
theorem d_Re_stowing_116 : decode yRe_stowing.2.1 116 = .ok (.goto 4, 3) := by decide +kernel
theorem d_Re_stowing_119 : decode yRe_stowing.2.1 119 = .ok (.iconst (-1), 1) := by decide +kernel
theorem d_Re_stowing_120 : decode yRe_stowing.2.1 120 = .ok (.istore 10, 2) := by decide +kernel
theorem d_Re_stowing_122 : decode yRe_stowing.2.1 122 = .ok (.iload 10, 2) := by decide +kernel
theorem d_Re_stowing_124 : decode yRe_stowing.2.1 124 = .ok (.iconst (-1), 1) := by decide +kernel
theorem d_Re_stowing_125 : decode yRe_stowing.2.1 125 = .ok (.if_icmp .eq 16, 3) := by decide +kernel
theorem d_Re_stowing_128 : decode yRe_stowing.2.1 128 = .ok (.aload_n 0, 1) := by decide +kernel
theorem d_Re_stowing_129 : decode yRe_stowing.2.1 129 = .ok (.getfield 18, 3) := by decide +kernel
theorem d_Re_stowing_132 : decode yRe_stowing.2.1 132 = .ok (.iload 9, 2) := by decide +kernel
theorem d_Re_stowing_134 : decode yRe_stowing.2.1 134 = .ok (.iaload, 1) := by decide +kernel
theorem d_Re_stowing_135 : decode yRe_stowing.2.1 135 = .ok (.istore 5, 2) := by decide +kernel
theorem d_Re_stowing_137 : decode yRe_stowing.2.1 137 = .ok (.iload 10, 2) := by decide +kernel
theorem d_Re_stowing_139 : decode yRe_stowing.2.1 139 = .ok (.istore 6, 2) := by decide +kernel
theorem d_Re_stowing_141 : decode yRe_stowing.2.1 141 = .ok (.iinc 9 1, 3) := by decide +kernel
theorem d_Re_stowing_144 : decode yRe_stowing.2.1 144 = .ok (.goto (-107), 3) := by decide +kernel
theorem d_Re_stowing_147 : decode yRe_stowing.2.1 147 = .ok (.iload 7, 2) := by decide +kernel
theorem d_Re_stowing_149 : decode yRe_stowing.2.1 149 = .ok (.iconst 2, 1) := by decide +kernel
theorem d_Re_stowing_150 : decode yRe_stowing.2.1 150 = .ok (.imul, 1) := by decide +kernel
theorem d_Re_stowing_151 : decode yRe_stowing.2.1 151 = .ok (.istore 7, 2) := by decide +kernel
theorem d_Re_stowing_153 : decode yRe_stowing.2.1 153 = .ok (.iinc 8 1, 3) := by decide +kernel
theorem d_Re_stowing_156 : decode yRe_stowing.2.1 156 = .ok (.goto (-144), 3) := by decide +kernel
theorem d_Re_stowing_159 : decode yRe_stowing.2.1 159 = .ok (.iload 4, 2) := by decide +kernel
theorem d_Re_stowing_161 : decode yRe_stowing.2.1 161 = .ok (.ifCond .eq 8, 3) := by decide +kernel
theorem d_Re_stowing_164 : decode yRe_stowing.2.1 164 = .ok (.iload 6, 2) := by decide +kernel
theorem d_Re_stowing_166 : decode yRe_stowing.2.1 166 = .ok (.goto 5, 3) := by decide +kernel
theorem d_Re_stowing_169 : decode yRe_stowing.2.1 169 = .ok (.iload 5, 2) := by decide +kernel
theorem d_Re_stowing_171 : decode yRe_stowing.2.1 171 = .ok (.ireturn, 1) := by decide +kernel
def J_Re_stowing_141 (h1 n1 : Nat) (k : Int32 → Int32 → Int32 → gb_Mem → Option (Int32 × Int32 × gb_Mem)) (x2 x3 x4 x5 x6 x7 x8 x9 : Int32) (I : gb_Mem) : Option (Int32 × Int32 × gb_Mem) :=
  k x5 x6 (x9 + 1) I
set_option maxRecDepth 4000 in
theorem j_Re_stowing_141 (l : Launch) (d0 : Nat) (h1 n1 : Nat) (H1 : isRo h1 n1) {post : Option gb_AV → List gb_Ce → gb_Mem → Prop} (k : Int32 → Int32 → Int32 → gb_Mem → Option (Int32 × Int32 × gb_Mem)) (x2 x3 x4 x5 x6 x7 x8 x9 : Int32) (I : gb_Mem) {ρ : Int32 × Int32 × gb_Mem} (h : J_Re_stowing_141 h1 n1 k x2 x3 x4 x5 x6 x7 x8 x9 I = some ρ) (hk : ∀ (z5 z6 z9 : Int32) (Iw : gb_Mem), k z5 z6 z9 Iw = some ρ → gb_Go l yRe_stowing (d0 + 2) 0 0 37 [(0, .inr (some 106)), (1, .inr (some h1)), (2, .inl x2), (3, .inl x3), (4, .inl x4), (5, .inl z5), (6, .inl z6), (7, .inl x7), (8, .inl x8), (9, .inl z9)] [] shX Iw post) (hX : ∀ (o5 : Int32) (o6 : Int32) (I2 : gb_Mem), ρ = (o5, o6, I2) → gb_Go l yRe_stowing (d0 + 2) 0 0 147 [(0, .inr (some 106)), (1, .inr (some h1)), (2, .inl x2), (3, .inl x3), (4, .inl x4), (5, .inl o5), (6, .inl o6), (7, .inl x7), (8, .inl x8)] [] shX I2 post) : gb_Go l yRe_stowing (d0 + 2) 0 0 141 [(0, .inr (some 106)), (1, .inr (some h1)), (2, .inl x2), (3, .inl x3), (4, .inl x4), (5, .inl x5), (6, .inl x6), (7, .inl x7), (8, .inl x8), (9, .inl x9)] [] shX I post := by
  unfold J_Re_stowing_141 at h
  refine go_iinc (k := 9) (v := x9 + 1) (lv' := [(9, .inl (x9 + 1)), (0, .inr (some 106)), (1, .inr (some h1)), (2, .inl x2), (3, .inl x3), (4, .inl x4), (5, .inl x5), (6, .inl x6), (7, .inl x7), (8, .inl x8)]) d_Re_stowing_141 rfl rfl (by decide) rfl ?_
  refine go_goto (tgt := 37) d_Re_stowing_144 (by decide) ?_
  exact go_lv [1, 2, 3, 4, 5, 6, 7, 8, 9, 0] rfl (hk _ _ _ _ h)
def J_Re_stowing_120 (h1 n1 : Nat) (k : Int32 → Int32 → Int32 → gb_Mem → Option (Int32 × Int32 × gb_Mem)) (x2 x3 x4 x5 x6 x7 x8 x9 s0 : Int32) (I : gb_Mem) : Option (Int32 × Int32 × gb_Mem) :=
  if s0 = (-1) then
    J_Re_stowing_141 h1 n1 k x2 x3 x4 x5 x6 x7 x8 x9 I
  else
    flod I 109 512 x9 fun v8 =>
    J_Re_stowing_141 h1 n1 k x2 x3 x4 v8 s0 x7 x8 x9 I
set_option maxRecDepth 4000 in
theorem j_Re_stowing_120 (l : Launch) (d0 : Nat) (h1 n1 : Nat) (H1 : isRo h1 n1) {post : Option gb_AV → List gb_Ce → gb_Mem → Prop} (k : Int32 → Int32 → Int32 → gb_Mem → Option (Int32 × Int32 × gb_Mem)) (x2 x3 x4 x5 x6 x7 x8 x9 s0 : Int32) (I : gb_Mem) {ρ : Int32 × Int32 × gb_Mem} (h : J_Re_stowing_120 h1 n1 k x2 x3 x4 x5 x6 x7 x8 x9 s0 I = some ρ) (hk : ∀ (z5 z6 z9 : Int32) (Iw : gb_Mem), k z5 z6 z9 Iw = some ρ → gb_Go l yRe_stowing (d0 + 2) 0 0 37 [(0, .inr (some 106)), (1, .inr (some h1)), (2, .inl x2), (3, .inl x3), (4, .inl x4), (5, .inl z5), (6, .inl z6), (7, .inl x7), (8, .inl x8), (9, .inl z9)] [] shX Iw post) (hX : ∀ (o5 : Int32) (o6 : Int32) (I2 : gb_Mem), ρ = (o5, o6, I2) → gb_Go l yRe_stowing (d0 + 2) 0 0 147 [(0, .inr (some 106)), (1, .inr (some h1)), (2, .inl x2), (3, .inl x3), (4, .inl x4), (5, .inl o5), (6, .inl o6), (7, .inl x7), (8, .inl x8)] [] shX I2 post) : gb_Go l yRe_stowing (d0 + 2) 0 0 120 [(0, .inr (some 106)), (1, .inr (some h1)), (2, .inl x2), (3, .inl x3), (4, .inl x4), (5, .inl x5), (6, .inl x6), (7, .inl x7), (8, .inl x8), (9, .inl x9)] [.inl s0] shX I post := by
  unfold J_Re_stowing_120 at h
  refine go_istore (lv' := [(10, .inl s0), (0, .inr (some 106)), (1, .inr (some h1)), (2, .inl x2), (3, .inl x3), (4, .inl x4), (5, .inl x5), (6, .inl x6), (7, .inl x7), (8, .inl x8), (9, .inl x9)]) d_Re_stowing_120 (by decide) rfl ?_
  refine go_iload (k := 0) d_Re_stowing_122 rfl ?_
  refine go_iconst (v := (-1)) d_Re_stowing_124 (by decide) ?_
  refine go_cmp_eq (tgt := 141) d_Re_stowing_125 (by decide) (fun hc => ?_) (fun hc => ?_)
  · rw [if_pos hc] at h
    exact go_lv [1, 2, 3, 4, 5, 6, 7, 8, 9, 10] rfl (j_Re_stowing_141 l d0 h1 n1 H1 k x2 x3 x4 x5 x6 x7 x8 x9 I h hk hX)
  · rw [if_neg hc] at h
    refine go_aload_n (k := 1) d_Re_stowing_128 rfl rfl ?_
    refine go_getr (ci := 8) (k := 2) (r := 109) d_Re_stowing_129 a_X_106 rfl (by decide) f_Re_18 rfl ?_
    refine go_iload (k := 10) d_Re_stowing_132 rfl ?_
    obtain ⟨hi, v8, ev8, h⟩ := flod_e h
    refine go_iald2 d_Re_stowing_134 a_X_109 hi ev8 ?_
    refine go_istore (lv' := [(5, .inl v8), (10, .inl s0), (0, .inr (some 106)), (1, .inr (some h1)), (2, .inl x2), (3, .inl x3), (4, .inl x4), (6, .inl x6), (7, .inl x7), (8, .inl x8), (9, .inl x9)]) d_Re_stowing_135 (by decide) rfl ?_
    refine go_iload (k := 1) d_Re_stowing_137 rfl ?_
    refine go_istore (lv' := [(6, .inl s0), (5, .inl v8), (10, .inl s0), (0, .inr (some 106)), (1, .inr (some h1)), (2, .inl x2), (3, .inl x3), (4, .inl x4), (7, .inl x7), (8, .inl x8), (9, .inl x9)]) d_Re_stowing_139 (by decide) rfl ?_
    exact go_lv [3, 4, 5, 6, 7, 1, 0, 8, 9, 10] rfl (j_Re_stowing_141 l d0 h1 n1 H1 k x2 x3 x4 v8 s0 x7 x8 x9 I h hk hX)
def L_Re_stowing_37 (h1 n1 : Nat) (x2 x3 x4 x7 x8 : Int32) : Nat → Int32 → Int32 → Int32 → gb_Mem → Option (Int32 × Int32 × gb_Mem)
  | 0, _, _, _, _ => none
  | n + 1, x5, x6, x9, I =>
    if (2 * x7) ≤ x9 then
      some (x5, x6, I)
    else
      flod I 108 512 (x9 - x7) fun v1 =>
      fbd (F_Ro_cell h1 n1 x8 0 I) fun r2 =>
      fsto I 108 512 x9 (v1 + r2) fun I3 =>
      flod I3 109 512 (x9 - x7) fun v4 =>
      fbd (F_Ro_cell h1 n1 x8 1 I3) fun r5 =>
      fsto I3 109 512 x9 (v4 + r5) fun I6 =>
      flod I6 109 512 x9 fun v7 =>
      if v7 ≤ x5 then
        J_Re_stowing_120 h1 n1 (L_Re_stowing_37 h1 n1 x2 x3 x4 x7 x8 n) x2 x3 x4 x5 x6 x7 x8 x9 (-1) I6
      else
        fbd (F_Re_partFor x9 x2 x3 I6) fun r9 =>
        J_Re_stowing_120 h1 n1 (L_Re_stowing_37 h1 n1 x2 x3 x4 x7 x8 n) x2 x3 x4 x5 x6 x7 x8 x9 r9 I6
set_option maxRecDepth 4000 in
theorem l_Re_stowing_37 (l : Launch) (d0 : Nat) (h1 n1 : Nat) (H1 : isRo h1 n1) (x2 x3 x4 x7 x8 : Int32) {post : Option gb_AV → List gb_Ce → gb_Mem → Prop} : ∀ (n : Nat) (x5 x6 x9 : Int32) (I : gb_Mem) {ρ : Int32 × Int32 × gb_Mem} (h : L_Re_stowing_37 h1 n1 x2 x3 x4 x7 x8 n x5 x6 x9 I = some ρ) (hX : ∀ (o5 : Int32) (o6 : Int32) (I2 : gb_Mem), ρ = (o5, o6, I2) → gb_Go l yRe_stowing (d0 + 2) 0 0 147 [(0, .inr (some 106)), (1, .inr (some h1)), (2, .inl x2), (3, .inl x3), (4, .inl x4), (5, .inl o5), (6, .inl o6), (7, .inl x7), (8, .inl x8)] [] shX I2 post) , gb_Go l yRe_stowing (d0 + 2) 0 0 37 [(0, .inr (some 106)), (1, .inr (some h1)), (2, .inl x2), (3, .inl x3), (4, .inl x4), (5, .inl x5), (6, .inl x6), (7, .inl x7), (8, .inl x8), (9, .inl x9)] [] shX I post := by
  intro n
  induction n with
  | zero => intro x5 x6 x9 I ρ h hX; cases h
  | succ n ih =>
    intro x5 x6 x9 I ρ h hX
    rw [L_Re_stowing_37] at h
    refine go_iload (k := 9) d_Re_stowing_37 rfl ?_
    refine go_iconst (v := 2) d_Re_stowing_39 (by decide) ?_
    refine go_iload (k := 7) d_Re_stowing_40 rfl ?_
    refine go_imul d_Re_stowing_42 ?_
    refine go_cmp_ge (tgt := 147) d_Re_stowing_43 (by decide) (fun hc => ?_) (fun hc => ?_)
    · rw [if_pos hc] at h
      exact go_lv [0, 1, 2, 3, 4, 5, 6, 7, 8] rfl (hX _ _ _ (Option.some.inj h).symm)
    · rw [if_neg hc] at h
      refine go_aload_n (k := 0) d_Re_stowing_46 rfl rfl ?_
      refine go_getr (ci := 8) (k := 1) (r := 108) d_Re_stowing_47 a_X_106 rfl (by decide) f_Re_15 rfl ?_
      refine go_iload (k := 9) d_Re_stowing_50 rfl ?_
      refine go_aload_n (k := 0) d_Re_stowing_52 rfl rfl ?_
      refine go_getr (ci := 8) (k := 1) (r := 108) d_Re_stowing_53 a_X_106 rfl (by decide) f_Re_15 rfl ?_
      refine go_iload (k := 9) d_Re_stowing_56 rfl ?_
      refine go_iload (k := 7) d_Re_stowing_58 rfl ?_
      refine go_isub d_Re_stowing_60 ?_
      obtain ⟨hi, v1, ev1, h⟩ := flod_e h
      refine go_iald2 d_Re_stowing_61 a_X_108 hi ev1 ?_
      refine go_aload_n (k := 1) d_Re_stowing_62 rfl rfl ?_
      refine go_iload (k := 8) d_Re_stowing_63 rfl ?_
      refine go_iconst (v := 0) d_Re_stowing_65 (by decide) ?_
      obtain ⟨r2, w1, h⟩ := fbd_e h
      refine go_callV (y := yRo_cell) (asr := [.inl x8, .inl 0]) (v := some (.inl r2)) (I' := I) (st1 := [.inl r2, .inl v1, .inl x9, .inr (some 108)]) d_Re_stowing_66 s_yRo_cell m_Re_36 H1.1 rfl rfl rfl (Nat.le_of_ble_eq_true rfl) rfl rfl (c_Ro_cell l (d0 + 0) h1 n1 H1 x8 0 I w1) ?_
      refine go_iadd d_Re_stowing_69 ?_
      obtain ⟨hi, I3, eI3, h⟩ := fsto_e h
      refine go_iast (I' := I3) d_Re_stowing_70 a_X_108 hi eI3 ?_
      refine go_aload_n (k := 0) d_Re_stowing_71 rfl rfl ?_
      refine go_getr (ci := 8) (k := 2) (r := 109) d_Re_stowing_72 a_X_106 rfl (by decide) f_Re_18 rfl ?_
      refine go_iload (k := 9) d_Re_stowing_75 rfl ?_
      refine go_aload_n (k := 0) d_Re_stowing_77 rfl rfl ?_
      refine go_getr (ci := 8) (k := 2) (r := 109) d_Re_stowing_78 a_X_106 rfl (by decide) f_Re_18 rfl ?_
      refine go_iload (k := 9) d_Re_stowing_81 rfl ?_
      refine go_iload (k := 7) d_Re_stowing_83 rfl ?_
      refine go_isub d_Re_stowing_85 ?_
      obtain ⟨hi, v4, ev4, h⟩ := flod_e h
      refine go_iald2 d_Re_stowing_86 a_X_109 hi ev4 ?_
      refine go_aload_n (k := 1) d_Re_stowing_87 rfl rfl ?_
      refine go_iload (k := 8) d_Re_stowing_88 rfl ?_
      refine go_iconst (v := 1) d_Re_stowing_90 (by decide) ?_
      obtain ⟨r5, w1, h⟩ := fbd_e h
      refine go_callV (y := yRo_cell) (asr := [.inl x8, .inl 1]) (v := some (.inl r5)) (I' := I3) (st1 := [.inl r5, .inl v4, .inl x9, .inr (some 109)]) d_Re_stowing_91 s_yRo_cell m_Re_36 H1.1 rfl rfl rfl (Nat.le_of_ble_eq_true rfl) rfl rfl (c_Ro_cell l (d0 + 0) h1 n1 H1 x8 1 I3 w1) ?_
      refine go_iadd d_Re_stowing_94 ?_
      obtain ⟨hi, I6, eI6, h⟩ := fsto_e h
      refine go_iast (I' := I6) d_Re_stowing_95 a_X_109 hi eI6 ?_
      refine go_aload_n (k := 0) d_Re_stowing_96 rfl rfl ?_
      refine go_getr (ci := 8) (k := 2) (r := 109) d_Re_stowing_97 a_X_106 rfl (by decide) f_Re_18 rfl ?_
      refine go_iload (k := 9) d_Re_stowing_100 rfl ?_
      obtain ⟨hi, v7, ev7, h⟩ := flod_e h
      refine go_iald2 d_Re_stowing_102 a_X_109 hi ev7 ?_
      refine go_iload (k := 5) d_Re_stowing_103 rfl ?_
      refine go_cmp_le (tgt := 119) d_Re_stowing_105 (by decide) (fun hc => ?_) (fun hc => ?_)
      · rw [if_pos hc] at h
        refine go_iconst (v := (-1)) d_Re_stowing_119 (by decide) ?_
        exact go_lv [0, 1, 2, 3, 4, 5, 6, 7, 8, 9] rfl (j_Re_stowing_120 l d0 h1 n1 H1 (L_Re_stowing_37 h1 n1 x2 x3 x4 x7 x8 n) x2 x3 x4 x5 x6 x7 x8 x9 (-1) I6 h (fun z5 z6 z9 Iw hh => ih z5 z6 z9 Iw hh hX) hX)
      · rw [if_neg hc] at h
        refine go_aload_n (k := 0) d_Re_stowing_108 rfl rfl ?_
        refine go_iload (k := 9) d_Re_stowing_109 rfl ?_
        refine go_iload_n (k := 2) d_Re_stowing_111 rfl rfl ?_
        refine go_iload_n (k := 3) d_Re_stowing_112 rfl rfl ?_
        obtain ⟨r9, w1, h⟩ := fbd_e h
        refine go_callV (y := yRe_partFor) (asr := [.inl x9, .inl x2, .inl x3]) (v := some (.inl r9)) (I' := I6) (st1 := [.inl r9]) d_Re_stowing_113 s_yRe_partFor m_Re_61 a_X_106 rfl rfl rfl (Nat.le_of_ble_eq_true rfl) rfl rfl (c_Re_partFor l (d0 + 0) x9 x2 x3 I6 w1) ?_
        refine go_goto (tgt := 120) d_Re_stowing_116 (by decide) ?_
        exact go_lv [0, 1, 2, 3, 4, 5, 6, 7, 8, 9] rfl (j_Re_stowing_120 l d0 h1 n1 H1 (L_Re_stowing_37 h1 n1 x2 x3 x4 x7 x8 n) x2 x3 x4 x5 x6 x7 x8 x9 r9 I6 h (fun z5 z6 z9 Iw hh => ih z5 z6 z9 Iw hh hX) hX)
def L_Re_stowing_12 (h1 n1 : Nat) (x2 x3 x4 : Int32) : Nat → Int32 → Int32 → Int32 → Int32 → gb_Mem → Option (Int32 × Int32 × gb_Mem)
  | 0, _, _, _, _, _ => none
  | n + 1, x5, x6, x7, x8, I =>
    if (I h1 2) ≤ x8 then
      some (x5, x6, I)
    else
      if 512 < (2 * x7) then
        some (x5, x6, I)
      else
        fbd (L_Re_stowing_37 h1 n1 x2 x3 x4 x7 x8 5000 x5 x6 x7 I) fun (o10, o11, I12) =>
        L_Re_stowing_12 h1 n1 x2 x3 x4 n o10 o11 (x7 * 2) (x8 + 1) I12
set_option maxRecDepth 4000 in
theorem l_Re_stowing_12 (l : Launch) (d0 : Nat) (h1 n1 : Nat) (H1 : isRo h1 n1) (x2 x3 x4 : Int32) {post : Option gb_AV → List gb_Ce → gb_Mem → Prop} : ∀ (n : Nat) (x5 x6 x7 x8 : Int32) (I : gb_Mem) {ρ : Int32 × Int32 × gb_Mem} (h : L_Re_stowing_12 h1 n1 x2 x3 x4 n x5 x6 x7 x8 I = some ρ) (hX : ∀ (o5 : Int32) (o6 : Int32) (I2 : gb_Mem), ρ = (o5, o6, I2) → gb_Go l yRe_stowing (d0 + 2) 0 0 159 [(4, .inl x4), (5, .inl o5), (6, .inl o6)] [] shX I2 post) , gb_Go l yRe_stowing (d0 + 2) 0 0 12 [(0, .inr (some 106)), (1, .inr (some h1)), (2, .inl x2), (3, .inl x3), (4, .inl x4), (5, .inl x5), (6, .inl x6), (7, .inl x7), (8, .inl x8)] [] shX I post := by
  intro n
  induction n with
  | zero => intro x5 x6 x7 x8 I ρ h hX; cases h
  | succ n ih =>
    intro x5 x6 x7 x8 I ρ h hX
    rw [L_Re_stowing_12] at h
    refine go_iload (k := 8) d_Re_stowing_12 rfl ?_
    refine go_aload_n (k := 1) d_Re_stowing_14 rfl rfl ?_
    refine go_getiN (ci := 4) (k := 2) d_Re_stowing_15 H1.1 rfl (by decide) f_Re_21 rfl ?_
    refine go_cmp_ge (tgt := 159) d_Re_stowing_18 (by decide) (fun hc => ?_) (fun hc => ?_)
    · rw [if_pos hc] at h
      exact go_lv [4, 5, 6] rfl (hX _ _ _ (Option.some.inj h).symm)
    · rw [if_neg hc] at h
      refine go_iconst (v := 2) d_Re_stowing_21 (by decide) ?_
      refine go_iload (k := 7) d_Re_stowing_22 rfl ?_
      refine go_imul d_Re_stowing_24 ?_
      refine go_aload_n (k := 0) d_Re_stowing_25 rfl rfl ?_
      refine go_getr (ci := 8) (k := 1) (r := 108) d_Re_stowing_26 a_X_106 rfl (by decide) f_Re_15 rfl ?_
      refine go_alen d_Re_stowing_29 a_X_108 ?_
      refine go_top (v := 512) rfl ?_
      refine go_cmp_gt (tgt := 159) d_Re_stowing_30 (by decide) (fun hc => ?_) (fun hc => ?_)
      · rw [if_pos hc] at h
        exact go_lv [4, 5, 6] rfl (hX _ _ _ (Option.some.inj h).symm)
      · rw [if_neg hc] at h
        refine go_iload (k := 7) d_Re_stowing_33 rfl ?_
        refine go_istore (lv' := [(9, .inl x7), (0, .inr (some 106)), (1, .inr (some h1)), (2, .inl x2), (3, .inl x3), (4, .inl x4), (5, .inl x5), (6, .inl x6), (7, .inl x7), (8, .inl x8)]) d_Re_stowing_35 (by decide) rfl ?_
        refine go_lv [1, 2, 3, 4, 5, 6, 7, 8, 9, 0] (lv' := [(0, .inr (some 106)), (1, .inr (some h1)), (2, .inl x2), (3, .inl x3), (4, .inl x4), (5, .inl x5), (6, .inl x6), (7, .inl x7), (8, .inl x8), (9, .inl x7)]) rfl ?_
        obtain ⟨⟨o10, o11, I12⟩, w1, h⟩ := fbd_e h
        try dsimp only at h
        refine l_Re_stowing_37 l d0 h1 n1 H1 x2 x3 x4 x7 x8 5000 x5 x6 x7 I w1 (fun o10_ o11_ I12_ e => ?_)
        cases e
        refine go_iload (k := 7) d_Re_stowing_147 rfl ?_
        refine go_iconst (v := 2) d_Re_stowing_149 (by decide) ?_
        refine go_imul d_Re_stowing_150 ?_
        refine go_istore (lv' := [(7, .inl (x7 * 2)), (0, .inr (some 106)), (1, .inr (some h1)), (2, .inl x2), (3, .inl x3), (4, .inl x4), (5, .inl o10), (6, .inl o11), (8, .inl x8)]) d_Re_stowing_151 (by decide) rfl ?_
        refine go_iinc (k := 8) (v := x8 + 1) (lv' := [(8, .inl (x8 + 1)), (7, .inl (x7 * 2)), (0, .inr (some 106)), (1, .inr (some h1)), (2, .inl x2), (3, .inl x3), (4, .inl x4), (5, .inl o10), (6, .inl o11)]) d_Re_stowing_153 rfl rfl (by decide) rfl ?_
        refine go_goto (tgt := 12) d_Re_stowing_156 (by decide) ?_
        exact go_lv [2, 3, 4, 5, 6, 7, 8, 1, 0] rfl (ih o10 o11 (x7 * 2) (x8 + 1) I12 h hX)
def J_Re_stowing_159 (h1 n1 : Nat) (x4 x5 x6 : Int32) (I : gb_Mem) : Option (Int32 × gb_Mem) :=
  if x4 = 0 then
    some (x5, I)
  else
    some (x6, I)
set_option maxRecDepth 4000 in
theorem j_Re_stowing_159 (l : Launch) (d0 : Nat) (h1 n1 : Nat) (H1 : isRo h1 n1) (x4 x5 x6 : Int32) (I : gb_Mem) {rz : Int32} {Iz : gb_Mem} (h : J_Re_stowing_159 h1 n1 x4 x5 x6 I = some (rz, Iz)) : gb_Go l yRe_stowing (d0 + 2) 0 0 159 [(4, .inl x4), (5, .inl x5), (6, .inl x6)] [] shX I (gb_po shX (some (.inl rz)) Iz) := by
  unfold J_Re_stowing_159 at h
  refine go_iload (k := 0) d_Re_stowing_159 rfl ?_
  refine go_if_eq (tgt := 169) d_Re_stowing_161 (by decide) (fun hc => ?_) (fun hc => ?_)
  · rw [if_pos hc] at h
    refine go_iload (k := 1) d_Re_stowing_169 rfl ?_
    cases h
    exact go_ireturn d_Re_stowing_171 rfl gb_po_i
  · rw [if_neg hc] at h
    refine go_iload (k := 2) d_Re_stowing_164 rfl ?_
    refine go_goto (tgt := 171) d_Re_stowing_166 (by decide) ?_
    cases h
    exact go_ireturn d_Re_stowing_171 rfl gb_po_i
def F_Re_stowing (h1 n1 : Nat) (x2 x3 x4 : Int32) (I : gb_Mem) : Option (Int32 × gb_Mem) :=
  fbd (L_Re_stowing_12 h1 n1 x2 x3 x4 5000 0 0 1 0 I) fun (o13, o14, I15) =>
  J_Re_stowing_159 h1 n1 x4 o13 o14 I15
set_option maxRecDepth 4000 in
theorem c_Re_stowing (l : Launch) (d0 : Nat) (h1 n1 : Nat) (H1 : isRo h1 n1) (x2 x3 x4 : Int32) (I : gb_Mem) {rz : Int32} {Iz : gb_Mem} (h : F_Re_stowing h1 n1 x2 x3 x4 I = some (rz, Iz)) : gb_Cs l yRe_stowing (d0 + 2) [.inr (some 106), .inr (some h1), .inl x2, .inl x3, .inl x4] shX I (some (.inl rz)) Iz := by
  refine gb_Ct.of (lv := [(0, .inr (some 106)), (1, .inr (some h1)), (2, .inl x2), (3, .inl x3), (4, .inl x4)]) rfl (Nat.le_of_ble_eq_true rfl) rfl ?_
  unfold F_Re_stowing at h
  show gb_Go l yRe_stowing (d0 + 2) 0 0 0 [(0, .inr (some 106)), (1, .inr (some h1)), (2, .inl x2), (3, .inl x3), (4, .inl x4)] [] shX I (gb_po shX (some (.inl rz)) Iz)
  refine go_iconst (v := 0) d_Re_stowing_0 (by decide) ?_
  refine go_istore (lv' := [(5, .inl 0), (0, .inr (some 106)), (1, .inr (some h1)), (2, .inl x2), (3, .inl x3), (4, .inl x4)]) d_Re_stowing_1 (by decide) rfl ?_
  refine go_iconst (v := 0) d_Re_stowing_3 (by decide) ?_
  refine go_istore (lv' := [(6, .inl 0), (5, .inl 0), (0, .inr (some 106)), (1, .inr (some h1)), (2, .inl x2), (3, .inl x3), (4, .inl x4)]) d_Re_stowing_4 (by decide) rfl ?_
  refine go_iconst (v := 1) d_Re_stowing_6 (by decide) ?_
  refine go_istore (lv' := [(7, .inl 1), (6, .inl 0), (5, .inl 0), (0, .inr (some 106)), (1, .inr (some h1)), (2, .inl x2), (3, .inl x3), (4, .inl x4)]) d_Re_stowing_7 (by decide) rfl ?_
  refine go_iconst (v := 0) d_Re_stowing_9 (by decide) ?_
  refine go_istore (lv' := [(8, .inl 0), (7, .inl 1), (6, .inl 0), (5, .inl 0), (0, .inr (some 106)), (1, .inr (some h1)), (2, .inl x2), (3, .inl x3), (4, .inl x4)]) d_Re_stowing_10 (by decide) rfl ?_
  refine go_lv [4, 5, 6, 7, 8, 3, 2, 1, 0] (lv' := [(0, .inr (some 106)), (1, .inr (some h1)), (2, .inl x2), (3, .inl x3), (4, .inl x4), (5, .inl 0), (6, .inl 0), (7, .inl 1), (8, .inl 0)]) rfl ?_
  obtain ⟨⟨o13, o14, I15⟩, w1, h⟩ := fbd_e h
  try dsimp only at h
  refine l_Re_stowing_12 l d0 h1 n1 H1 x2 x3 x4 5000 0 0 1 0 I w1 (fun o13_ o14_ I15_ e => ?_)
  cases e
  exact go_lv [0, 1, 2] rfl (j_Re_stowing_159 l d0 h1 n1 H1 x4 o13 o14 I15 h)
theorem d_Ro_hasFirst_0 : decode yRo_hasFirst.2.1 0 = .ok (.iconst 0, 1) := by decide +kernel
theorem d_Ro_hasFirst_1 : decode yRo_hasFirst.2.1 1 = .ok (.istore_n 2, 1) := by decide +kernel
theorem d_Ro_hasFirst_2 : decode yRo_hasFirst.2.1 2 = .ok (.iload_n 2, 1) := by decide +kernel
theorem d_Ro_hasFirst_3 : decode yRo_hasFirst.2.1 3 = .ok (.aload_n 0, 1) := by decide +kernel
theorem d_Ro_hasFirst_4 : decode yRo_hasFirst.2.1 4 = .ok (.getfield 25, 3) := by decide +kernel
theorem d_Ro_hasFirst_7 : decode yRo_hasFirst.2.1 7 = .ok (.if_icmp .ge 21, 3) := by decide +kernel
theorem d_Ro_hasFirst_10 : decode yRo_hasFirst.2.1 10 = .ok (.aload_n 0, 1) := by decide +kernel
theorem d_Ro_hasFirst_11 : decode yRo_hasFirst.2.1 11 = .ok (.iload_n 2, 1) := by decide +kernel
theorem d_Ro_hasFirst_12 : decode yRo_hasFirst.2.1 12 = .ok (.iconst 0, 1) := by decide +kernel
theorem d_Ro_hasFirst_13 : decode yRo_hasFirst.2.1 13 = .ok (.invokevirtual 32, 3) := by decide +kernel
theorem d_Ro_hasFirst_16 : decode yRo_hasFirst.2.1 16 = .ok (.iload_n 1, 1) := by decide +kernel
theorem d_Ro_hasFirst_17 : decode yRo_hasFirst.2.1 17 = .ok (.if_icmp .ne 5, 3) := by decide +kernel
theorem d_Ro_hasFirst_20 : decode yRo_hasFirst.2.1 20 = .ok (.iconst 1, 1) := by decide +kernel
theorem d_Ro_hasFirst_21 : decode yRo_hasFirst.2.1 21 = .ok (.ireturn, 1) := by decide +kernel
theorem d_Ro_hasFirst_22 : decode yRo_hasFirst.2.1 22 = .ok (.iinc 2 1, 3) := by decide +kernel
theorem d_Ro_hasFirst_25 : decode yRo_hasFirst.2.1 25 = .ok (.goto (-23), 3) := by decide +kernel
theorem d_Ro_hasFirst_28 : decode yRo_hasFirst.2.1 28 = .ok (.iconst 0, 1) := by decide +kernel
theorem d_Ro_hasFirst_29 : decode yRo_hasFirst.2.1 29 = .ok (.ireturn, 1) := by decide +kernel
def L_Ro_hasFirst_2 (h0 n0 : Nat) (x1 : Int32) (I : gb_Mem) : Nat → Int32 → Option ((Unit) ⊕ (Int32))
  | 0, _ => none
  | n + 1, x2 =>
    if (I h0 2) ≤ x2 then
      some (.inl ())
    else
      fbd (F_Ro_cell h0 n0 x2 0 I) fun r1 =>
      if r1 = x1 then
        some (.inr 1)
      else
        L_Ro_hasFirst_2 h0 n0 x1 I n (x2 + 1)
set_option maxRecDepth 4000 in
theorem l_Ro_hasFirst_2 (l : Launch) (d0 : Nat) (h0 n0 : Nat) (H0 : isRo h0 n0) (x1 : Int32) (I : gb_Mem) {post : Option gb_AV → List gb_Ce → gb_Mem → Prop} : ∀ (n : Nat) (x2 : Int32) {ρ : (Unit) ⊕ (Int32)} (h : L_Ro_hasFirst_2 h0 n0 x1 I n x2 = some ρ) (hX : ρ = .inl () → gb_Go l yRo_hasFirst (d0 + 2) 0 0 28 [] [] shX I post) (hR : ∀ (v : Int32), ρ = .inr v → post (some (.inl v)) shX I) , gb_Go l yRo_hasFirst (d0 + 2) 0 0 2 [(0, .inr (some h0)), (1, .inl x1), (2, .inl x2)] [] shX I post := by
  intro n
  induction n with
  | zero => intro x2 ρ h hX hR; cases h
  | succ n ih =>
    intro x2 ρ h hX hR
    rw [L_Ro_hasFirst_2] at h
    refine go_iload_n (k := 2) d_Ro_hasFirst_2 rfl rfl ?_
    refine go_aload_n (k := 0) d_Ro_hasFirst_3 rfl rfl ?_
    refine go_geti (ci := 4) (k := 2) d_Ro_hasFirst_4 H0.1 rfl (by decide) f_Ro_25 rfl ?_
    refine go_cmp_ge (tgt := 28) d_Ro_hasFirst_7 (by decide) (fun hc => ?_) (fun hc => ?_)
    · rw [if_pos hc] at h
      exact go_lv [] rfl (hX (Option.some.inj h).symm)
    · rw [if_neg hc] at h
      refine go_aload_n (k := 0) d_Ro_hasFirst_10 rfl rfl ?_
      refine go_iload_n (k := 2) d_Ro_hasFirst_11 rfl rfl ?_
      refine go_iconst (v := 0) d_Ro_hasFirst_12 (by decide) ?_
      obtain ⟨r1, w1, h⟩ := fbd_e h
      refine go_callV (y := yRo_cell) (asr := [.inl x2, .inl 0]) (v := some (.inl r1)) (I' := I) (st1 := [.inl r1]) d_Ro_hasFirst_13 s_yRo_cell m_Ro_32 H0.1 rfl rfl rfl (Nat.le_of_ble_eq_true rfl) rfl rfl (c_Ro_cell l (d0 + 0) h0 n0 H0 x2 0 I w1) ?_
      refine go_iload_n (k := 1) d_Ro_hasFirst_16 rfl rfl ?_
      refine go_cmp_ne (tgt := 22) d_Ro_hasFirst_17 (by decide) (fun hc => ?_) (fun hc => ?_)
      · rw [if_neg hc] at h
        refine go_iinc (k := 2) (v := x2 + 1) (lv' := [(2, .inl (x2 + 1)), (0, .inr (some h0)), (1, .inl x1)]) d_Ro_hasFirst_22 rfl rfl (by decide) rfl ?_
        refine go_goto (tgt := 2) d_Ro_hasFirst_25 (by decide) ?_
        exact go_lv [1, 2, 0] rfl (ih (x2 + 1) h hX hR)
      · rw [if_pos hc] at h
        refine go_iconst (v := 1) d_Ro_hasFirst_20 (by decide) ?_
        exact go_zreturn d_Ro_hasFirst_21 rfl (Or.inr rfl) (hR _ (Option.some.inj h).symm)
def F_Ro_hasFirst (h0 n0 : Nat) (x1 : Int32) (I : gb_Mem) : Option (Int32) :=
  fbr (L_Ro_hasFirst_2 h0 n0 x1 I 5000 0) (fun _ =>
    some 0)
    (fun q2 => some q2)
set_option maxRecDepth 4000 in
theorem c_Ro_hasFirst (l : Launch) (d0 : Nat) (h0 n0 : Nat) (H0 : isRo h0 n0) (x1 : Int32) (I : gb_Mem) {rz : Int32} (h : F_Ro_hasFirst h0 n0 x1 I = some rz) : gb_Cs l yRo_hasFirst (d0 + 2) [.inr (some h0), .inl x1] shX I (some (.inl rz)) I := by
  refine gb_Ct.of (lv := [(0, .inr (some h0)), (1, .inl x1)]) rfl (Nat.le_of_ble_eq_true rfl) rfl ?_
  unfold F_Ro_hasFirst at h
  show gb_Go l yRo_hasFirst (d0 + 2) 0 0 0 [(0, .inr (some h0)), (1, .inl x1)] [] shX I (gb_po shX (some (.inl rz)) I)
  refine go_iconst (v := 0) d_Ro_hasFirst_0 (by decide) ?_
  refine go_istore_n (lv' := [(2, .inl 0), (0, .inr (some h0)), (1, .inl x1)]) d_Ro_hasFirst_1 rfl (by decide) rfl ?_
  refine go_lv [1, 2, 0] (lv' := [(0, .inr (some h0)), (1, .inl x1), (2, .inl 0)]) rfl ?_
  obtain ⟨ρ, w1, w2, w3⟩ := fbr_e2 h
  refine l_Ro_hasFirst_2 l d0 h0 n0 H0 x1 I 5000 0 w1 (fun  e => ?_) (fun q2 e => ?_)
  · have h := w2 _ e
    try dsimp only at h
    refine go_iconst (v := 0) d_Ro_hasFirst_28 (by decide) ?_
    cases h
    exact go_zreturn d_Ro_hasFirst_29 rfl (Or.inl rfl) gb_po_i
  · have h := w3 _ e
    try dsimp only at h
    cases h
    exact gb_po_i
theorem d_Se_ladling_0 : decode ySe_ladling.2.1 0 = .ok (.iconst 0, 1) := by decide +kernel
theorem d_Se_ladling_1 : decode ySe_ladling.2.1 1 = .ok (.istore_n 2, 1) := by decide +kernel
theorem d_Se_ladling_2 : decode ySe_ladling.2.1 2 = .ok (.iconst 0, 1) := by decide +kernel
theorem d_Se_ladling_3 : decode ySe_ladling.2.1 3 = .ok (.istore_n 3, 1) := by decide +kernel
theorem d_Se_ladling_4 : decode ySe_ladling.2.1 4 = .ok (.iload_n 3, 1) := by decide +kernel
theorem d_Se_ladling_5 : decode ySe_ladling.2.1 5 = .ok (.bipush 12, 2) := by decide +kernel
theorem d_Se_ladling_7 : decode ySe_ladling.2.1 7 = .ok (.if_icmp .ge 27, 3) := by decide +kernel
theorem d_Se_ladling_10 : decode ySe_ladling.2.1 10 = .ok (.iload_n 2, 1) := by decide +kernel
theorem d_Se_ladling_11 : decode ySe_ladling.2.1 11 = .ok (.aload_n 0, 1) := by decide +kernel
theorem d_Se_ladling_12 : decode ySe_ladling.2.1 12 = .ok (.getfield 15, 3) := by decide +kernel
theorem d_Se_ladling_15 : decode ySe_ladling.2.1 15 = .ok (.getfield 49, 3) := by decide +kernel
theorem d_Se_ladling_18 : decode ySe_ladling.2.1 18 = .ok (.iconst 4, 1) := by decide +kernel
theorem d_Se_ladling_19 : decode ySe_ladling.2.1 19 = .ok (.iload_n 3, 1) := by decide +kernel
theorem d_Se_ladling_20 : decode ySe_ladling.2.1 20 = .ok (.invokevirtual 53, 3) := by decide +kernel
theorem d_Se_ladling_23 : decode ySe_ladling.2.1 23 = .ok (.invokestatic 63, 3) := by decide +kernel
theorem d_Se_ladling_26 : decode ySe_ladling.2.1 26 = .ok (.ixor, 1) := by decide +kernel
theorem d_Se_ladling_27 : decode ySe_ladling.2.1 27 = .ok (.istore_n 2, 1) := by decide +kernel
theorem d_Se_ladling_28 : decode ySe_ladling.2.1 28 = .ok (.iinc 3 1, 3) := by decide +kernel
theorem d_Se_ladling_31 : decode ySe_ladling.2.1 31 = .ok (.goto (-27), 3) := by decide +kernel
theorem d_Se_ladling_34 : decode ySe_ladling.2.1 34 = .ok (.iconst 0, 1) := by decide +kernel
theorem d_Se_ladling_35 : decode ySe_ladling.2.1 35 = .ok (.istore_n 3, 1) := by decide +kernel
theorem d_Se_ladling_36 : decode ySe_ladling.2.1 36 = .ok (.iload_n 2, 1) := by decide +kernel
theorem d_Se_ladling_37 : decode ySe_ladling.2.1 37 = .ok (.ifCond .eq 86, 3) := by decide +kernel
theorem d_Se_ladling_40 : decode ySe_ladling.2.1 40 = .ok (.iload_n 3, 1) := by decide +kernel
theorem d_Se_ladling_41 : decode ySe_ladling.2.1 41 = .ok (.bipush 12, 2) := by decide +kernel
theorem d_Se_ladling_43 : decode ySe_ladling.2.1 43 = .ok (.if_icmp .ge 80, 3) := by decide +kernel
theorem d_Se_ladling_46 : decode ySe_ladling.2.1 46 = .ok (.aload_n 0, 1) := by decide +kernel
theorem d_Se_ladling_47 : decode ySe_ladling.2.1 47 = .ok (.getfield 15, 3) := by decide +kernel
theorem d_Se_ladling_50 : decode ySe_ladling.2.1 50 = .ok (.getfield 49, 3) := by decide +kernel
theorem d_Se_ladling_53 : decode ySe_ladling.2.1 53 = .ok (.iconst 4, 1) := by decide +kernel
theorem d_Se_ladling_54 : decode ySe_ladling.2.1 54 = .ok (.iload_n 3, 1) := by decide +kernel
theorem d_Se_ladling_55 : decode ySe_ladling.2.1 55 = .ok (.invokevirtual 53, 3) := by decide +kernel
theorem d_Se_ladling_58 : decode ySe_ladling.2.1 58 = .ok (.istore 4, 2) := by decide +kernel
theorem d_Se_ladling_60 : decode ySe_ladling.2.1 60 = .ok (.iload_n 2, 1) := by decide +kernel
theorem d_Se_ladling_61 : decode ySe_ladling.2.1 61 = .ok (.iload 4, 2) := by decide +kernel
theorem d_Se_ladling_63 : decode ySe_ladling.2.1 63 = .ok (.invokestatic 63, 3) := by decide +kernel
theorem d_Se_ladling_66 : decode ySe_ladling.2.1 66 = .ok (.ixor, 1) := by decide +kernel
theorem d_Se_ladling_67 : decode ySe_ladling.2.1 67 = .ok (.istore 5, 2) := by decide +kernel
theorem d_Se_ladling_69 : decode ySe_ladling.2.1 69 = .ok (.iload 4, 2) := by decide +kernel
theorem d_Se_ladling_71 : decode ySe_ladling.2.1 71 = .ok (.ifCond .le 25, 3) := by decide +kernel
theorem d_Se_ladling_74 : decode ySe_ladling.2.1 74 = .ok (.iload 4, 2) := by decide +kernel
theorem d_Se_ladling_76 : decode ySe_ladling.2.1 76 = .ok (.iconst 1, 1) := by decide +kernel
theorem d_Se_ladling_77 : decode ySe_ladling.2.1 77 = .ok (.isub, 1) := by decide +kernel
theorem d_Se_ladling_78 : decode ySe_ladling.2.1 78 = .ok (.invokestatic 63, 3) := by decide +kernel
theorem d_Se_ladling_81 : decode ySe_ladling.2.1 81 = .ok (.iload 5, 2) := by decide +kernel
theorem d_Se_ladling_83 : decode ySe_ladling.2.1 83 = .ok (.if_icmp .ne 13, 3) := by decide +kernel
theorem d_Se_ladling_86 : decode ySe_ladling.2.1 86 = .ok (.iload_n 1, 1) := by decide +kernel
theorem d_Se_ladling_87 : decode ySe_ladling.2.1 87 = .ok (.ifCond .eq 7, 3) := by decide +kernel
theorem d_Se_ladling_90 : decode ySe_ladling.2.1 90 = .ok (.iconst 1, 1) := by decide +kernel
theorem d_Se_ladling_91 : decode ySe_ladling.2.1 91 = .ok (.goto 4, 3) := by decide +kernel
theorem d_Se_ladling_94 : decode ySe_ladling.2.1 94 = .ok (.iload_n 3, 1) := by decide +kernel
theorem d_Se_ladling_95 : decode ySe_ladling.2.1 95 = .ok (.ireturn, 1) := by decide +kernel
theorem d_Se_ladling_96 : decode ySe_ladling.2.1 96 = .ok (.iload 4, 2) := by decide +kernel
theorem d_Se_ladling_98 : decode ySe_ladling.2.1 98 = .ok (.ifCond .le 19, 3) := by decide +kernel
theorem d_Se_ladling_101 : decode ySe_ladling.2.1 101 = .ok (.iload 5, 2) := by decide +kernel
theorem d_Se_ladling_103 : decode ySe_ladling.2.1 103 = .ok (.ifCond .ne 14, 3) := by decide +kernel
theorem d_Se_ladling_106 : decode ySe_ladling.2.1 106 = .ok (.iload_n 1, 1) := by decide +kernel
theorem d_Se_ladling_107 : decode ySe_ladling.2.1 107 = .ok (.ifCond .eq 8, 3) := by decide +kernel
theorem d_Se_ladling_110 : decode ySe_ladling.2.1 110 = .ok (.iload 4, 2) := by decide +kernel
theorem d_Se_ladling_112 : decode ySe_ladling.2.1 112 = .ok (.goto 4, 3) := by decide +kernel
theorem d_Se_ladling_115 : decode ySe_ladling.2.1 115 = .ok (.iload_n 3, 1) := by decide +kernel
theorem d_Se_ladling_116 : decode ySe_ladling.2.1 116 = .ok (.ireturn, 1) := by decide +kernel
theorem d_Se_ladling_117 : decode ySe_ladling.2.1 117 = .ok (.iinc 3 1, 3) := by decide +kernel
theorem d_Se_ladling_120 : decode ySe_ladling.2.1 120 = .ok (.goto (-84), 3) := by decide +kernel
theorem d_Se_ladling_123 : decode ySe_ladling.2.1 123 = .ok (.iconst (-1), 1) := by decide +kernel
theorem d_Se_ladling_124 : decode ySe_ladling.2.1 124 = .ok (.ireturn, 1) := by decide +kernel
def L_Se_ladling_4 (x1 : Int32) (I : gb_Mem) : Nat → Int32 → Int32 → Option (Int32)
  | 0, _, _ => none
  | n + 1, x2, x3 =>
    if 12 ≤ x3 then
      some x2
    else
      fbd (F_Ta_ofSeat 2 4 x3 I) fun r1 =>
      flt (x2 ^^^ (F_Se_nimberOf r1 I)) fun y2 =>
      L_Se_ladling_4 x1 I n y2 (x3 + 1)
set_option maxRecDepth 4000 in
theorem l_Se_ladling_4 (l : Launch) (d0 : Nat) (x1 : Int32) (I : gb_Mem) {post : Option gb_AV → List gb_Ce → gb_Mem → Prop} : ∀ (n : Nat) (x2 x3 : Int32) {ρ : Int32} (h : L_Se_ladling_4 x1 I n x2 x3 = some ρ) (hX : ∀ (o2 : Int32), ρ = o2 → gb_Go l ySe_ladling (d0 + 2) 0 0 34 [(0, .inr (some 104)), (1, .inl x1), (2, .inl o2)] [] shX I post) , gb_Go l ySe_ladling (d0 + 2) 0 0 4 [(0, .inr (some 104)), (1, .inl x1), (2, .inl x2), (3, .inl x3)] [] shX I post := by
  intro n
  induction n with
  | zero => intro x2 x3 ρ h hX; cases h
  | succ n ih =>
    intro x2 x3 ρ h hX
    rw [L_Se_ladling_4] at h
    refine go_iload_n (k := 3) d_Se_ladling_4 rfl rfl ?_
    refine go_bipush (v := 12) d_Se_ladling_5 (by decide) ?_
    refine go_cmp_ge (tgt := 34) d_Se_ladling_7 (by decide) (fun hc => ?_) (fun hc => ?_)
    · rw [if_pos hc] at h
      exact go_lv [0, 1, 2] rfl (hX _ (Option.some.inj h).symm)
    · rw [if_neg hc] at h
      refine go_iload_n (k := 2) d_Se_ladling_10 rfl rfl ?_
      refine go_aload_n (k := 0) d_Se_ladling_11 rfl rfl ?_
      refine go_getr (ci := 7) (k := 0) (r := 1) d_Se_ladling_12 a_X_104 rfl (by decide) f_Se_15 rfl ?_
      refine go_getrN (ci := 1) (k := 0) (r := 2) d_Se_ladling_15 a_X_1 rfl (by decide) f_Se_49 rfl ?_
      refine go_iconst (v := 4) d_Se_ladling_18 (by decide) ?_
      refine go_iload_n (k := 3) d_Se_ladling_19 rfl rfl ?_
      obtain ⟨r1, w1, h⟩ := fbd_e h
      refine go_callV (y := yTa_ofSeat) (asr := [.inl 4, .inl x3]) (v := some (.inl r1)) (I' := I) (st1 := [.inl r1, .inl x2]) d_Se_ladling_20 s_yTa_ofSeat m_Se_53 a_X_2 rfl rfl rfl (Nat.le_of_ble_eq_true rfl) rfl rfl (c_Ta_ofSeat l (d0 + 0) 2 isTa_2 4 x3 I w1) ?_
      refine go_callS (y := ySe_nimberOf) (asr := [.inl r1]) (v := some (.inl (F_Se_nimberOf r1 I))) (I' := I) (st1 := [.inl (F_Se_nimberOf r1 I), .inl x2]) d_Se_ladling_23 s_ySe_nimberOf m_Se_63 rfl (Nat.le_of_ble_eq_true rfl) rfl rfl (c_Se_nimberOf l (d0 + 1) r1 I) ?_
      refine go_ixor d_Se_ladling_26 ?_
      obtain ⟨y2, ey2, h⟩ := flt_e h
      refine go_top ey2 ?_
      refine go_istore_n (lv' := [(2, .inl y2), (0, .inr (some 104)), (1, .inl x1), (3, .inl x3)]) d_Se_ladling_27 rfl (by decide) rfl ?_
      refine go_iinc (k := 3) (v := x3 + 1) (lv' := [(3, .inl (x3 + 1)), (2, .inl y2), (0, .inr (some 104)), (1, .inl x1)]) d_Se_ladling_28 rfl rfl (by decide) rfl ?_
      refine go_goto (tgt := 4) d_Se_ladling_31 (by decide) ?_
      exact go_lv [2, 3, 1, 0] rfl (ih y2 (x3 + 1) h hX)
def J_Se_ladling_117 (k : Int32 → Option ((Unit) ⊕ (Int32))) (x1 x2 x3 : Int32) (I : gb_Mem) : Option ((Unit) ⊕ (Int32)) :=
  k (x3 + 1)
set_option maxRecDepth 4000 in
theorem j_Se_ladling_117 (l : Launch) (d0 : Nat) {post : Option gb_AV → List gb_Ce → gb_Mem → Prop} (k : Int32 → Option ((Unit) ⊕ (Int32))) (x1 x2 x3 : Int32) (I : gb_Mem) {ρ : (Unit) ⊕ (Int32)} (h : J_Se_ladling_117 k x1 x2 x3 I = some ρ) (hk : ∀ (z3 : Int32), k z3 = some ρ → gb_Go l ySe_ladling (d0 + 2) 0 0 36 [(0, .inr (some 104)), (1, .inl x1), (2, .inl x2), (3, .inl z3)] [] shX I post) (hX : ρ = .inl () → gb_Go l ySe_ladling (d0 + 2) 0 0 123 [] [] shX I post) (hR : ∀ (v : Int32), ρ = .inr v → post (some (.inl v)) shX I) : gb_Go l ySe_ladling (d0 + 2) 0 0 117 [(0, .inr (some 104)), (1, .inl x1), (2, .inl x2), (3, .inl x3)] [] shX I post := by
  unfold J_Se_ladling_117 at h
  refine go_iinc (k := 3) (v := x3 + 1) (lv' := [(3, .inl (x3 + 1)), (0, .inr (some 104)), (1, .inl x1), (2, .inl x2)]) d_Se_ladling_117 rfl rfl (by decide) rfl ?_
  refine go_goto (tgt := 36) d_Se_ladling_120 (by decide) ?_
  exact go_lv [1, 2, 3, 0] rfl (hk _ h)
def J_Se_ladling_96 (k : Int32 → Option ((Unit) ⊕ (Int32))) (x1 x2 x3 x4 x5 : Int32) (I : gb_Mem) : Option ((Unit) ⊕ (Int32)) :=
  if x4 ≤ 0 then
    J_Se_ladling_117 k x1 x2 x3 I
  else
    if x5 = 0 then
      if x1 = 0 then
        some (.inr x3)
      else
        some (.inr x4)
    else
      J_Se_ladling_117 k x1 x2 x3 I
set_option maxRecDepth 4000 in
theorem j_Se_ladling_96 (l : Launch) (d0 : Nat) {post : Option gb_AV → List gb_Ce → gb_Mem → Prop} (k : Int32 → Option ((Unit) ⊕ (Int32))) (x1 x2 x3 x4 x5 : Int32) (I : gb_Mem) {ρ : (Unit) ⊕ (Int32)} (h : J_Se_ladling_96 k x1 x2 x3 x4 x5 I = some ρ) (hk : ∀ (z3 : Int32), k z3 = some ρ → gb_Go l ySe_ladling (d0 + 2) 0 0 36 [(0, .inr (some 104)), (1, .inl x1), (2, .inl x2), (3, .inl z3)] [] shX I post) (hX : ρ = .inl () → gb_Go l ySe_ladling (d0 + 2) 0 0 123 [] [] shX I post) (hR : ∀ (v : Int32), ρ = .inr v → post (some (.inl v)) shX I) : gb_Go l ySe_ladling (d0 + 2) 0 0 96 [(0, .inr (some 104)), (1, .inl x1), (2, .inl x2), (3, .inl x3), (4, .inl x4), (5, .inl x5)] [] shX I post := by
  unfold J_Se_ladling_96 at h
  refine go_iload (k := 4) d_Se_ladling_96 rfl ?_
  refine go_if_le (tgt := 117) d_Se_ladling_98 (by decide) (fun hc => ?_) (fun hc => ?_)
  · rw [if_pos hc] at h
    exact go_lv [0, 1, 2, 3] rfl (j_Se_ladling_117 l d0 k x1 x2 x3 I h hk hX hR)
  · rw [if_neg hc] at h
    refine go_iload (k := 5) d_Se_ladling_101 rfl ?_
    refine go_if_ne (tgt := 117) d_Se_ladling_103 (by decide) (fun hc => ?_) (fun hc => ?_)
    · rw [if_neg hc] at h
      exact go_lv [0, 1, 2, 3] rfl (j_Se_ladling_117 l d0 k x1 x2 x3 I h hk hX hR)
    · rw [if_pos hc] at h
      refine go_iload_n (k := 1) d_Se_ladling_106 rfl rfl ?_
      refine go_if_eq (tgt := 115) d_Se_ladling_107 (by decide) (fun hc => ?_) (fun hc => ?_)
      · rw [if_pos hc] at h
        refine go_iload_n (k := 3) d_Se_ladling_115 rfl rfl ?_
        exact go_ireturn d_Se_ladling_116 rfl (hR _ (Option.some.inj h).symm)
      · rw [if_neg hc] at h
        refine go_iload (k := 4) d_Se_ladling_110 rfl ?_
        refine go_goto (tgt := 116) d_Se_ladling_112 (by decide) ?_
        exact go_ireturn d_Se_ladling_116 rfl (hR _ (Option.some.inj h).symm)
def L_Se_ladling_36 (x1 x2 : Int32) (I : gb_Mem) : Nat → Int32 → Option ((Unit) ⊕ (Int32))
  | 0, _ => none
  | n + 1, x3 =>
    if x2 = 0 then
      some (.inl ())
    else
      if 12 ≤ x3 then
        some (.inl ())
      else
        fbd (F_Ta_ofSeat 2 4 x3 I) fun r4 =>
        flt (x2 ^^^ (F_Se_nimberOf r4 I)) fun y5 =>
        if r4 ≤ 0 then
          J_Se_ladling_96 (L_Se_ladling_36 x1 x2 I n) x1 x2 x3 r4 y5 I
        else
          if (F_Se_nimberOf (r4 - 1) I) = y5 then
            if x1 = 0 then
              some (.inr x3)
            else
              some (.inr 1)
          else
            J_Se_ladling_96 (L_Se_ladling_36 x1 x2 I n) x1 x2 x3 r4 y5 I
set_option maxRecDepth 4000 in
theorem l_Se_ladling_36 (l : Launch) (d0 : Nat) (x1 x2 : Int32) (I : gb_Mem) {post : Option gb_AV → List gb_Ce → gb_Mem → Prop} : ∀ (n : Nat) (x3 : Int32) {ρ : (Unit) ⊕ (Int32)} (h : L_Se_ladling_36 x1 x2 I n x3 = some ρ) (hX : ρ = .inl () → gb_Go l ySe_ladling (d0 + 2) 0 0 123 [] [] shX I post) (hR : ∀ (v : Int32), ρ = .inr v → post (some (.inl v)) shX I) , gb_Go l ySe_ladling (d0 + 2) 0 0 36 [(0, .inr (some 104)), (1, .inl x1), (2, .inl x2), (3, .inl x3)] [] shX I post := by
  intro n
  induction n with
  | zero => intro x3 ρ h hX hR; cases h
  | succ n ih =>
    intro x3 ρ h hX hR
    rw [L_Se_ladling_36] at h
    refine go_iload_n (k := 2) d_Se_ladling_36 rfl rfl ?_
    refine go_if_eq (tgt := 123) d_Se_ladling_37 (by decide) (fun hc => ?_) (fun hc => ?_)
    · rw [if_pos hc] at h
      exact go_lv [] rfl (hX (Option.some.inj h).symm)
    · rw [if_neg hc] at h
      refine go_iload_n (k := 3) d_Se_ladling_40 rfl rfl ?_
      refine go_bipush (v := 12) d_Se_ladling_41 (by decide) ?_
      refine go_cmp_ge (tgt := 123) d_Se_ladling_43 (by decide) (fun hc => ?_) (fun hc => ?_)
      · rw [if_pos hc] at h
        exact go_lv [] rfl (hX (Option.some.inj h).symm)
      · rw [if_neg hc] at h
        refine go_aload_n (k := 0) d_Se_ladling_46 rfl rfl ?_
        refine go_getr (ci := 7) (k := 0) (r := 1) d_Se_ladling_47 a_X_104 rfl (by decide) f_Se_15 rfl ?_
        refine go_getrN (ci := 1) (k := 0) (r := 2) d_Se_ladling_50 a_X_1 rfl (by decide) f_Se_49 rfl ?_
        refine go_iconst (v := 4) d_Se_ladling_53 (by decide) ?_
        refine go_iload_n (k := 3) d_Se_ladling_54 rfl rfl ?_
        obtain ⟨r4, w1, h⟩ := fbd_e h
        refine go_callV (y := yTa_ofSeat) (asr := [.inl 4, .inl x3]) (v := some (.inl r4)) (I' := I) (st1 := [.inl r4]) d_Se_ladling_55 s_yTa_ofSeat m_Se_53 a_X_2 rfl rfl rfl (Nat.le_of_ble_eq_true rfl) rfl rfl (c_Ta_ofSeat l (d0 + 0) 2 isTa_2 4 x3 I w1) ?_
        refine go_istore (lv' := [(4, .inl r4), (0, .inr (some 104)), (1, .inl x1), (2, .inl x2), (3, .inl x3)]) d_Se_ladling_58 (by decide) rfl ?_
        refine go_iload_n (k := 3) d_Se_ladling_60 rfl rfl ?_
        refine go_iload (k := 0) d_Se_ladling_61 rfl ?_
        refine go_callS (y := ySe_nimberOf) (asr := [.inl r4]) (v := some (.inl (F_Se_nimberOf r4 I))) (I' := I) (st1 := [.inl (F_Se_nimberOf r4 I), .inl x2]) d_Se_ladling_63 s_ySe_nimberOf m_Se_63 rfl (Nat.le_of_ble_eq_true rfl) rfl rfl (c_Se_nimberOf l (d0 + 1) r4 I) ?_
        refine go_ixor d_Se_ladling_66 ?_
        obtain ⟨y5, ey5, h⟩ := flt_e h
        refine go_top ey5 ?_
        refine go_istore (lv' := [(5, .inl y5), (4, .inl r4), (0, .inr (some 104)), (1, .inl x1), (2, .inl x2), (3, .inl x3)]) d_Se_ladling_67 (by decide) rfl ?_
        refine go_iload (k := 1) d_Se_ladling_69 rfl ?_
        refine go_if_le (tgt := 96) d_Se_ladling_71 (by decide) (fun hc => ?_) (fun hc => ?_)
        · rw [if_pos hc] at h
          exact go_lv [2, 3, 4, 5, 1, 0] rfl (j_Se_ladling_96 l d0 (L_Se_ladling_36 x1 x2 I n) x1 x2 x3 r4 y5 I h (fun z3 hh => ih z3 hh hX hR) hX hR)
        · rw [if_neg hc] at h
          refine go_iload (k := 1) d_Se_ladling_74 rfl ?_
          refine go_iconst (v := 1) d_Se_ladling_76 (by decide) ?_
          refine go_isub d_Se_ladling_77 ?_
          refine go_callS (y := ySe_nimberOf) (asr := [.inl (r4 - 1)]) (v := some (.inl (F_Se_nimberOf (r4 - 1) I))) (I' := I) (st1 := [.inl (F_Se_nimberOf (r4 - 1) I)]) d_Se_ladling_78 s_ySe_nimberOf m_Se_63 rfl (Nat.le_of_ble_eq_true rfl) rfl rfl (c_Se_nimberOf l (d0 + 1) (r4 - 1) I) ?_
          refine go_iload (k := 0) d_Se_ladling_81 rfl ?_
          refine go_cmp_ne (tgt := 96) d_Se_ladling_83 (by decide) (fun hc => ?_) (fun hc => ?_)
          · rw [if_neg hc] at h
            exact go_lv [2, 3, 4, 5, 1, 0] rfl (j_Se_ladling_96 l d0 (L_Se_ladling_36 x1 x2 I n) x1 x2 x3 r4 y5 I h (fun z3 hh => ih z3 hh hX hR) hX hR)
          · rw [if_pos hc] at h
            refine go_iload_n (k := 3) d_Se_ladling_86 rfl rfl ?_
            refine go_if_eq (tgt := 94) d_Se_ladling_87 (by decide) (fun hc => ?_) (fun hc => ?_)
            · rw [if_pos hc] at h
              refine go_iload_n (k := 5) d_Se_ladling_94 rfl rfl ?_
              exact go_ireturn d_Se_ladling_95 rfl (hR _ (Option.some.inj h).symm)
            · rw [if_neg hc] at h
              refine go_iconst (v := 1) d_Se_ladling_90 (by decide) ?_
              refine go_goto (tgt := 95) d_Se_ladling_91 (by decide) ?_
              exact go_ireturn d_Se_ladling_95 rfl (hR _ (Option.some.inj h).symm)
def F_Se_ladling (x1 : Int32) (I : gb_Mem) : Option (Int32) :=
  fbd (L_Se_ladling_4 x1 I 5000 0 0) fun o3 =>
  fbr (L_Se_ladling_36 x1 o3 I 5000 0) (fun _ =>
    some (-1))
    (fun q6 => some q6)
set_option maxRecDepth 4000 in
theorem c_Se_ladling (l : Launch) (d0 : Nat) (x1 : Int32) (I : gb_Mem) {rz : Int32} (h : F_Se_ladling x1 I = some rz) : gb_Cs l ySe_ladling (d0 + 2) [.inr (some 104), .inl x1] shX I (some (.inl rz)) I := by
  refine gb_Ct.of (lv := [(0, .inr (some 104)), (1, .inl x1)]) rfl (Nat.le_of_ble_eq_true rfl) rfl ?_
  unfold F_Se_ladling at h
  show gb_Go l ySe_ladling (d0 + 2) 0 0 0 [(0, .inr (some 104)), (1, .inl x1)] [] shX I (gb_po shX (some (.inl rz)) I)
  refine go_iconst (v := 0) d_Se_ladling_0 (by decide) ?_
  refine go_istore_n (lv' := [(2, .inl 0), (0, .inr (some 104)), (1, .inl x1)]) d_Se_ladling_1 rfl (by decide) rfl ?_
  refine go_iconst (v := 0) d_Se_ladling_2 (by decide) ?_
  refine go_istore_n (lv' := [(3, .inl 0), (2, .inl 0), (0, .inr (some 104)), (1, .inl x1)]) d_Se_ladling_3 rfl (by decide) rfl ?_
  refine go_lv [2, 3, 1, 0] (lv' := [(0, .inr (some 104)), (1, .inl x1), (2, .inl 0), (3, .inl 0)]) rfl ?_
  obtain ⟨o3, w1, h⟩ := fbd_e h
  refine l_Se_ladling_4 l d0 x1 I 5000 0 0 w1 (fun o3_ e => ?_)
  cases e
  refine go_iconst (v := 0) d_Se_ladling_34 (by decide) ?_
  refine go_istore_n (lv' := [(3, .inl 0), (0, .inr (some 104)), (1, .inl x1), (2, .inl o3)]) d_Se_ladling_35 rfl (by decide) rfl ?_
  refine go_lv [1, 2, 3, 0] (lv' := [(0, .inr (some 104)), (1, .inl x1), (2, .inl o3), (3, .inl 0)]) rfl ?_
  obtain ⟨ρ, w1, w2, w3⟩ := fbr_e2 h
  refine l_Se_ladling_36 l d0 x1 o3 I 5000 0 w1 (fun  e => ?_) (fun q6 e => ?_)
  · have h := w2 _ e
    try dsimp only at h
    refine go_iconst (v := (-1)) d_Se_ladling_123 (by decide) ?_
    cases h
    exact go_ireturn d_Se_ladling_124 rfl gb_po_i
  · have h := w3 _ e
    try dsimp only at h
    cases h
    exact gb_po_i
theorem d_Se_moreCandles_0 : decode ySe_moreCandles.2.1 0 = .ok (.iconst 0, 1) := by decide +kernel
theorem d_Se_moreCandles_1 : decode ySe_moreCandles.2.1 1 = .ok (.istore_n 3, 1) := by decide +kernel
theorem d_Se_moreCandles_2 : decode ySe_moreCandles.2.1 2 = .ok (.iconst 0, 1) := by decide +kernel
theorem d_Se_moreCandles_3 : decode ySe_moreCandles.2.1 3 = .ok (.istore 4, 2) := by decide +kernel
theorem d_Se_moreCandles_5 : decode ySe_moreCandles.2.1 5 = .ok (.iload 4, 2) := by decide +kernel
theorem d_Se_moreCandles_7 : decode ySe_moreCandles.2.1 7 = .ok (.bipush 12, 2) := by decide +kernel
theorem d_Se_moreCandles_9 : decode ySe_moreCandles.2.1 9 = .ok (.if_icmp .ge 32, 3) := by decide +kernel
theorem d_Se_moreCandles_12 : decode ySe_moreCandles.2.1 12 = .ok (.iload_n 3, 1) := by decide +kernel
theorem d_Se_moreCandles_13 : decode ySe_moreCandles.2.1 13 = .ok (.iload_n 1, 1) := by decide +kernel
theorem d_Se_moreCandles_14 : decode ySe_moreCandles.2.1 14 = .ok (.iload 4, 2) := by decide +kernel
theorem d_Se_moreCandles_16 : decode ySe_moreCandles.2.1 16 = .ok (.ishr, 1) := by decide +kernel
theorem d_Se_moreCandles_17 : decode ySe_moreCandles.2.1 17 = .ok (.iconst 1, 1) := by decide +kernel
theorem d_Se_moreCandles_18 : decode ySe_moreCandles.2.1 18 = .ok (.iand, 1) := by decide +kernel
theorem d_Se_moreCandles_19 : decode ySe_moreCandles.2.1 19 = .ok (.iconst 1, 1) := by decide +kernel
theorem d_Se_moreCandles_20 : decode ySe_moreCandles.2.1 20 = .ok (.if_icmp .ne 12, 3) := by decide +kernel
theorem d_Se_moreCandles_23 : decode ySe_moreCandles.2.1 23 = .ok (.iload 4, 2) := by decide +kernel
theorem d_Se_moreCandles_25 : decode ySe_moreCandles.2.1 25 = .ok (.iload_n 2, 1) := by decide +kernel
theorem d_Se_moreCandles_26 : decode ySe_moreCandles.2.1 26 = .ok (.invokestatic 19, 3) := by decide +kernel
theorem d_Se_moreCandles_29 : decode ySe_moreCandles.2.1 29 = .ok (.goto 4, 3) := by decide +kernel
theorem d_Se_moreCandles_32 : decode ySe_moreCandles.2.1 32 = .ok (.iconst 0, 1) := by decide +kernel
theorem d_Se_moreCandles_33 : decode ySe_moreCandles.2.1 33 = .ok (.ior, 1) := by decide +kernel
theorem d_Se_moreCandles_34 : decode ySe_moreCandles.2.1 34 = .ok (.istore_n 3, 1) := by decide +kernel
theorem d_Se_moreCandles_35 : decode ySe_moreCandles.2.1 35 = .ok (.iinc 4 1, 3) := by decide +kernel
theorem d_Se_moreCandles_38 : decode ySe_moreCandles.2.1 38 = .ok (.goto (-33), 3) := by decide +kernel
theorem d_Se_moreCandles_41 : decode ySe_moreCandles.2.1 41 = .ok (.iconst 0, 1) := by decide +kernel
theorem d_Se_moreCandles_42 : decode ySe_moreCandles.2.1 42 = .ok (.istore 4, 2) := by decide +kernel
theorem d_Se_moreCandles_44 : decode ySe_moreCandles.2.1 44 = .ok (.bipush 11, 2) := by decide +kernel
theorem d_Se_moreCandles_46 : decode ySe_moreCandles.2.1 46 = .ok (.istore 5, 2) := by decide +kernel
theorem d_Se_moreCandles_48 : decode ySe_moreCandles.2.1 48 = .ok (.iload 5, 2) := by decide +kernel
theorem d_Se_moreCandles_50 : decode ySe_moreCandles.2.1 50 = .ok (.ifCond .lt 46, 3) := by decide +kernel
theorem d_Se_moreCandles_53 : decode ySe_moreCandles.2.1 53 = .ok (.iload_n 3, 1) := by decide +kernel
theorem d_Se_moreCandles_54 : decode ySe_moreCandles.2.1 54 = .ok (.iload 5, 2) := by decide +kernel
theorem d_Se_moreCandles_56 : decode ySe_moreCandles.2.1 56 = .ok (.ishr, 1) := by decide +kernel
theorem d_Se_moreCandles_57 : decode ySe_moreCandles.2.1 57 = .ok (.iconst 1, 1) := by decide +kernel
theorem d_Se_moreCandles_58 : decode ySe_moreCandles.2.1 58 = .ok (.iand, 1) := by decide +kernel
theorem d_Se_moreCandles_59 : decode ySe_moreCandles.2.1 59 = .ok (.ifCond .ne 31, 3) := by decide +kernel
theorem d_Se_moreCandles_62 : decode ySe_moreCandles.2.1 62 = .ok (.iconst 0, 1) := by decide +kernel
theorem d_Se_moreCandles_63 : decode ySe_moreCandles.2.1 63 = .ok (.iload 5, 2) := by decide +kernel
theorem d_Se_moreCandles_65 : decode ySe_moreCandles.2.1 65 = .ok (.iload_n 2, 1) := by decide +kernel
theorem d_Se_moreCandles_66 : decode ySe_moreCandles.2.1 66 = .ok (.isub, 1) := by decide +kernel
theorem d_Se_moreCandles_67 : decode ySe_moreCandles.2.1 67 = .ok (.invokestatic 58, 3) := by decide +kernel
theorem d_Se_moreCandles_70 : decode ySe_moreCandles.2.1 70 = .ok (.istore 6, 2) := by decide +kernel
theorem d_Se_moreCandles_72 : decode ySe_moreCandles.2.1 72 = .ok (.iload 4, 2) := by decide +kernel
theorem d_Se_moreCandles_74 : decode ySe_moreCandles.2.1 74 = .ok (.iconst 1, 1) := by decide +kernel
theorem d_Se_moreCandles_75 : decode ySe_moreCandles.2.1 75 = .ok (.iload 6, 2) := by decide +kernel
theorem d_Se_moreCandles_77 : decode ySe_moreCandles.2.1 77 = .ok (.ishl, 1) := by decide +kernel
theorem d_Se_moreCandles_78 : decode ySe_moreCandles.2.1 78 = .ok (.ior, 1) := by decide +kernel
theorem d_Se_moreCandles_79 : decode ySe_moreCandles.2.1 79 = .ok (.istore 4, 2) := by decide +kernel
theorem d_Se_moreCandles_81 : decode ySe_moreCandles.2.1 81 = .ok (.iload_n 3, 1) := by decide +kernel
theorem d_Se_moreCandles_82 : decode ySe_moreCandles.2.1 82 = .ok (.iload 6, 2) := by decide +kernel
theorem d_Se_moreCandles_84 : decode ySe_moreCandles.2.1 84 = .ok (.iload_n 2, 1) := by decide +kernel
theorem d_Se_moreCandles_85 : decode ySe_moreCandles.2.1 85 = .ok (.invokestatic 19, 3) := by decide +kernel
theorem d_Se_moreCandles_88 : decode ySe_moreCandles.2.1 88 = .ok (.ior, 1) := by decide +kernel
theorem d_Se_moreCandles_89 : decode ySe_moreCandles.2.1 89 = .ok (.istore_n 3, 1) := by decide +kernel
theorem d_Se_moreCandles_90 : decode ySe_moreCandles.2.1 90 = .ok (.iinc 5 (-1), 3) := by decide +kernel
theorem d_Se_moreCandles_93 : decode ySe_moreCandles.2.1 93 = .ok (.goto (-45), 3) := by decide +kernel
theorem d_Se_moreCandles_96 : decode ySe_moreCandles.2.1 96 = .ok (.iload 4, 2) := by decide +kernel
theorem d_Se_moreCandles_98 : decode ySe_moreCandles.2.1 98 = .ok (.ireturn, 1) := by decide +kernel
def J_Se_moreCandles_33 (k : Int32 → Int32 → Option (Int32)) (x1 x2 x4 s0 s1 : Int32) (I : gb_Mem) : Option (Int32) :=
  k (s1 ||| s0) (x4 + 1)
set_option maxRecDepth 4000 in
theorem j_Se_moreCandles_33 (l : Launch) (d0 : Nat) {post : Option gb_AV → List gb_Ce → gb_Mem → Prop} (k : Int32 → Int32 → Option (Int32)) (x1 x2 x4 s0 s1 : Int32) (I : gb_Mem) {ρ : Int32} (h : J_Se_moreCandles_33 k x1 x2 x4 s0 s1 I = some ρ) (hk : ∀ (z3 z4 : Int32), k z3 z4 = some ρ → gb_Go l ySe_moreCandles (d0 + 2) 0 0 5 [(1, .inl x1), (2, .inl x2), (3, .inl z3), (4, .inl z4)] [] shX I post) (hX : ∀ (o3 : Int32), ρ = o3 → gb_Go l ySe_moreCandles (d0 + 2) 0 0 41 [(2, .inl x2), (3, .inl o3)] [] shX I post) : gb_Go l ySe_moreCandles (d0 + 2) 0 0 33 [(1, .inl x1), (2, .inl x2), (4, .inl x4)] [.inl s0, .inl s1] shX I post := by
  unfold J_Se_moreCandles_33 at h
  refine go_ior d_Se_moreCandles_33 ?_
  refine go_istore_n (lv' := [(3, .inl (s1 ||| s0)), (1, .inl x1), (2, .inl x2), (4, .inl x4)]) d_Se_moreCandles_34 rfl (by decide) rfl ?_
  refine go_iinc (k := 3) (v := x4 + 1) (lv' := [(4, .inl (x4 + 1)), (3, .inl (s1 ||| s0)), (1, .inl x1), (2, .inl x2)]) d_Se_moreCandles_35 rfl rfl (by decide) rfl ?_
  refine go_goto (tgt := 5) d_Se_moreCandles_38 (by decide) ?_
  exact go_lv [2, 3, 1, 0] rfl (hk _ _ h)
def L_Se_moreCandles_5 (x1 x2 : Int32) (I : gb_Mem) : Nat → Int32 → Int32 → Option (Int32)
  | 0, _, _ => none
  | n + 1, x3, x4 =>
    if 12 ≤ x4 then
      some x3
    else
      if ((x1 >>> (x4 &&& 31)) &&& 1) = 1 then
        fbd (F_Se_around x4 x2 I) fun r1 =>
        J_Se_moreCandles_33 (L_Se_moreCandles_5 x1 x2 I n) x1 x2 x4 r1 x3 I
      else
        J_Se_moreCandles_33 (L_Se_moreCandles_5 x1 x2 I n) x1 x2 x4 0 x3 I
set_option maxRecDepth 4000 in
theorem l_Se_moreCandles_5 (l : Launch) (d0 : Nat) (x1 x2 : Int32) (I : gb_Mem) {post : Option gb_AV → List gb_Ce → gb_Mem → Prop} : ∀ (n : Nat) (x3 x4 : Int32) {ρ : Int32} (h : L_Se_moreCandles_5 x1 x2 I n x3 x4 = some ρ) (hX : ∀ (o3 : Int32), ρ = o3 → gb_Go l ySe_moreCandles (d0 + 2) 0 0 41 [(2, .inl x2), (3, .inl o3)] [] shX I post) , gb_Go l ySe_moreCandles (d0 + 2) 0 0 5 [(1, .inl x1), (2, .inl x2), (3, .inl x3), (4, .inl x4)] [] shX I post := by
  intro n
  induction n with
  | zero => intro x3 x4 ρ h hX; cases h
  | succ n ih =>
    intro x3 x4 ρ h hX
    rw [L_Se_moreCandles_5] at h
    refine go_iload (k := 3) d_Se_moreCandles_5 rfl ?_
    refine go_bipush (v := 12) d_Se_moreCandles_7 (by decide) ?_
    refine go_cmp_ge (tgt := 41) d_Se_moreCandles_9 (by decide) (fun hc => ?_) (fun hc => ?_)
    · rw [if_pos hc] at h
      exact go_lv [1, 2] rfl (hX _ (Option.some.inj h).symm)
    · rw [if_neg hc] at h
      refine go_iload_n (k := 2) d_Se_moreCandles_12 rfl rfl ?_
      refine go_iload_n (k := 0) d_Se_moreCandles_13 rfl rfl ?_
      refine go_iload (k := 3) d_Se_moreCandles_14 rfl ?_
      refine go_ishr d_Se_moreCandles_16 ?_
      refine go_iconst (v := 1) d_Se_moreCandles_17 (by decide) ?_
      refine go_iand d_Se_moreCandles_18 ?_
      refine go_iconst (v := 1) d_Se_moreCandles_19 (by decide) ?_
      refine go_cmp_ne (tgt := 32) d_Se_moreCandles_20 (by decide) (fun hc => ?_) (fun hc => ?_)
      · rw [if_neg hc] at h
        refine go_iconst (v := 0) d_Se_moreCandles_32 (by decide) ?_
        exact go_lv [0, 1, 3] rfl (j_Se_moreCandles_33 l d0 (L_Se_moreCandles_5 x1 x2 I n) x1 x2 x4 0 x3 I h (fun z3 z4 hh => ih z3 z4 hh hX) hX)
      · rw [if_pos hc] at h
        refine go_iload (k := 3) d_Se_moreCandles_23 rfl ?_
        refine go_iload_n (k := 1) d_Se_moreCandles_25 rfl rfl ?_
        obtain ⟨r1, w1, h⟩ := fbd_e h
        refine go_callS (y := ySe_around) (asr := [.inl x4, .inl x2]) (v := some (.inl r1)) (I' := I) (st1 := [.inl r1, .inl x3]) d_Se_moreCandles_26 s_ySe_around m_Se_19 rfl (Nat.le_of_ble_eq_true rfl) rfl rfl (c_Se_around l (d0 + 0) x4 x2 I w1) ?_
        refine go_goto (tgt := 33) d_Se_moreCandles_29 (by decide) ?_
        exact go_lv [0, 1, 3] rfl (j_Se_moreCandles_33 l d0 (L_Se_moreCandles_5 x1 x2 I n) x1 x2 x4 r1 x3 I h (fun z3 z4 hh => ih z3 z4 hh hX) hX)
def J_Se_moreCandles_90 (k : Int32 → Int32 → Int32 → Option (Int32)) (x2 x3 x4 x5 : Int32) (I : gb_Mem) : Option (Int32) :=
  k x3 x4 (x5 + (-1))
set_option maxRecDepth 4000 in
theorem j_Se_moreCandles_90 (l : Launch) (d0 : Nat) {post : Option gb_AV → List gb_Ce → gb_Mem → Prop} (k : Int32 → Int32 → Int32 → Option (Int32)) (x2 x3 x4 x5 : Int32) (I : gb_Mem) {ρ : Int32} (h : J_Se_moreCandles_90 k x2 x3 x4 x5 I = some ρ) (hk : ∀ (z3 z4 z5 : Int32), k z3 z4 z5 = some ρ → gb_Go l ySe_moreCandles (d0 + 2) 0 0 48 [(2, .inl x2), (3, .inl z3), (4, .inl z4), (5, .inl z5)] [] shX I post) (hX : ∀ (o4 : Int32), ρ = o4 → gb_Go l ySe_moreCandles (d0 + 2) 0 0 96 [(4, .inl o4)] [] shX I post) : gb_Go l ySe_moreCandles (d0 + 2) 0 0 90 [(2, .inl x2), (3, .inl x3), (4, .inl x4), (5, .inl x5)] [] shX I post := by
  unfold J_Se_moreCandles_90 at h
  refine go_iinc (k := 3) (v := x5 + (-1)) (lv' := [(5, .inl (x5 + (-1))), (2, .inl x2), (3, .inl x3), (4, .inl x4)]) d_Se_moreCandles_90 rfl rfl (by decide) rfl ?_
  refine go_goto (tgt := 48) d_Se_moreCandles_93 (by decide) ?_
  exact go_lv [1, 2, 3, 0] rfl (hk _ _ _ h)
def L_Se_moreCandles_48 (x2 : Int32) (I : gb_Mem) : Nat → Int32 → Int32 → Int32 → Option (Int32)
  | 0, _, _, _ => none
  | n + 1, x3, x4, x5 =>
    if x5 < 0 then
      some x4
    else
      if ((x3 >>> (x5 &&& 31)) &&& 1) = 0 then
        flt (x4 ||| (1 <<< ((mx 0 (x5 - x2)) &&& 31))) fun y3 =>
        fbd (F_Se_around (mx 0 (x5 - x2)) x2 I) fun r4 =>
        J_Se_moreCandles_90 (L_Se_moreCandles_48 x2 I n) x2 (x3 ||| r4) y3 x5 I
      else
        J_Se_moreCandles_90 (L_Se_moreCandles_48 x2 I n) x2 x3 x4 x5 I
set_option maxRecDepth 4000 in
theorem l_Se_moreCandles_48 (l : Launch) (d0 : Nat) (x2 : Int32) (I : gb_Mem) {post : Option gb_AV → List gb_Ce → gb_Mem → Prop} : ∀ (n : Nat) (x3 x4 x5 : Int32) {ρ : Int32} (h : L_Se_moreCandles_48 x2 I n x3 x4 x5 = some ρ) (hX : ∀ (o4 : Int32), ρ = o4 → gb_Go l ySe_moreCandles (d0 + 2) 0 0 96 [(4, .inl o4)] [] shX I post) , gb_Go l ySe_moreCandles (d0 + 2) 0 0 48 [(2, .inl x2), (3, .inl x3), (4, .inl x4), (5, .inl x5)] [] shX I post := by
  intro n
  induction n with
  | zero => intro x3 x4 x5 ρ h hX; cases h
  | succ n ih =>
    intro x3 x4 x5 ρ h hX
    rw [L_Se_moreCandles_48] at h
    refine go_iload (k := 3) d_Se_moreCandles_48 rfl ?_
    refine go_if_lt (tgt := 96) d_Se_moreCandles_50 (by decide) (fun hc => ?_) (fun hc => ?_)
    · rw [if_pos hc] at h
      exact go_lv [2] rfl (hX _ (Option.some.inj h).symm)
    · rw [if_neg hc] at h
      refine go_iload_n (k := 1) d_Se_moreCandles_53 rfl rfl ?_
      refine go_iload (k := 3) d_Se_moreCandles_54 rfl ?_
      refine go_ishr d_Se_moreCandles_56 ?_
      refine go_iconst (v := 1) d_Se_moreCandles_57 (by decide) ?_
      refine go_iand d_Se_moreCandles_58 ?_
      refine go_if_ne (tgt := 90) d_Se_moreCandles_59 (by decide) (fun hc => ?_) (fun hc => ?_)
      · rw [if_neg hc] at h
        exact go_lv [0, 1, 2, 3] rfl (j_Se_moreCandles_90 l d0 (L_Se_moreCandles_48 x2 I n) x2 x3 x4 x5 I h (fun z3 z4 z5 hh => ih z3 z4 z5 hh hX) hX)
      · rw [if_pos hc] at h
        refine go_iconst (v := 0) d_Se_moreCandles_62 (by decide) ?_
        refine go_iload (k := 3) d_Se_moreCandles_63 rfl ?_
        refine go_iload_n (k := 0) d_Se_moreCandles_65 rfl rfl ?_
        refine go_isub d_Se_moreCandles_66 ?_
        refine go_mmax d_Se_moreCandles_67 m_Se_58 (Nat.le_of_ble_eq_true rfl) ?_
        refine go_istore (lv' := [(6, .inl (mx 0 (x5 - x2))), (2, .inl x2), (3, .inl x3), (4, .inl x4), (5, .inl x5)]) d_Se_moreCandles_70 (by decide) rfl ?_
        refine go_iload (k := 3) d_Se_moreCandles_72 rfl ?_
        refine go_iconst (v := 1) d_Se_moreCandles_74 (by decide) ?_
        refine go_iload (k := 0) d_Se_moreCandles_75 rfl ?_
        refine go_ishl d_Se_moreCandles_77 ?_
        refine go_ior d_Se_moreCandles_78 ?_
        obtain ⟨y3, ey3, h⟩ := flt_e h
        refine go_top ey3 ?_
        refine go_istore (lv' := [(4, .inl y3), (6, .inl (mx 0 (x5 - x2))), (2, .inl x2), (3, .inl x3), (5, .inl x5)]) d_Se_moreCandles_79 (by decide) rfl ?_
        refine go_iload_n (k := 3) d_Se_moreCandles_81 rfl rfl ?_
        refine go_iload (k := 1) d_Se_moreCandles_82 rfl ?_
        refine go_iload_n (k := 2) d_Se_moreCandles_84 rfl rfl ?_
        obtain ⟨r4, w1, h⟩ := fbd_e h
        refine go_callS (y := ySe_around) (asr := [.inl (mx 0 (x5 - x2)), .inl x2]) (v := some (.inl r4)) (I' := I) (st1 := [.inl r4, .inl x3]) d_Se_moreCandles_85 s_ySe_around m_Se_19 rfl (Nat.le_of_ble_eq_true rfl) rfl rfl (c_Se_around l (d0 + 0) (mx 0 (x5 - x2)) x2 I w1) ?_
        refine go_ior d_Se_moreCandles_88 ?_
        refine go_istore_n (lv' := [(3, .inl (x3 ||| r4)), (4, .inl y3), (6, .inl (mx 0 (x5 - x2))), (2, .inl x2), (5, .inl x5)]) d_Se_moreCandles_89 rfl (by decide) rfl ?_
        exact go_lv [3, 0, 1, 4] rfl (j_Se_moreCandles_90 l d0 (L_Se_moreCandles_48 x2 I n) x2 (x3 ||| r4) y3 x5 I h (fun z3 z4 z5 hh => ih z3 z4 z5 hh hX) hX)
def F_Se_moreCandles (x1 x2 : Int32) (I : gb_Mem) : Option (Int32) :=
  fbd (L_Se_moreCandles_5 x1 x2 I 5000 0 0) fun o2 =>
  fbd (L_Se_moreCandles_48 x2 I 5000 o2 0 11) fun o5 =>
  some o5
set_option maxRecDepth 4000 in
theorem c_Se_moreCandles (l : Launch) (d0 : Nat) (x1 x2 : Int32) (I : gb_Mem) {rz : Int32} (h : F_Se_moreCandles x1 x2 I = some rz) : gb_Cs l ySe_moreCandles (d0 + 2) [.inr (some 104), .inl x1, .inl x2] shX I (some (.inl rz)) I := by
  refine gb_Ct.of (lv := [(0, .inr (some 104)), (1, .inl x1), (2, .inl x2)]) rfl (Nat.le_of_ble_eq_true rfl) rfl ?_
  unfold F_Se_moreCandles at h
  show gb_Go l ySe_moreCandles (d0 + 2) 0 0 0 [(0, .inr (some 104)), (1, .inl x1), (2, .inl x2)] [] shX I (gb_po shX (some (.inl rz)) I)
  refine go_iconst (v := 0) d_Se_moreCandles_0 (by decide) ?_
  refine go_istore_n (lv' := [(3, .inl 0), (0, .inr (some 104)), (1, .inl x1), (2, .inl x2)]) d_Se_moreCandles_1 rfl (by decide) rfl ?_
  refine go_iconst (v := 0) d_Se_moreCandles_2 (by decide) ?_
  refine go_istore (lv' := [(4, .inl 0), (3, .inl 0), (0, .inr (some 104)), (1, .inl x1), (2, .inl x2)]) d_Se_moreCandles_3 (by decide) rfl ?_
  refine go_lv [3, 4, 1, 0] (lv' := [(1, .inl x1), (2, .inl x2), (3, .inl 0), (4, .inl 0)]) rfl ?_
  obtain ⟨o2, w1, h⟩ := fbd_e h
  refine l_Se_moreCandles_5 l d0 x1 x2 I 5000 0 0 w1 (fun o2_ e => ?_)
  cases e
  refine go_iconst (v := 0) d_Se_moreCandles_41 (by decide) ?_
  refine go_istore (lv' := [(4, .inl 0), (2, .inl x2), (3, .inl o2)]) d_Se_moreCandles_42 (by decide) rfl ?_
  refine go_bipush (v := 11) d_Se_moreCandles_44 (by decide) ?_
  refine go_istore (lv' := [(5, .inl 11), (4, .inl 0), (2, .inl x2), (3, .inl o2)]) d_Se_moreCandles_46 (by decide) rfl ?_
  refine go_lv [2, 3, 1, 0] (lv' := [(2, .inl x2), (3, .inl o2), (4, .inl 0), (5, .inl 11)]) rfl ?_
  obtain ⟨o5, w1, h⟩ := fbd_e h
  refine l_Se_moreCandles_48 l d0 x2 I 5000 o2 0 11 w1 (fun o5_ e => ?_)
  cases e
  refine go_iload (k := 0) d_Se_moreCandles_96 rfl ?_
  cases h
  exact go_ireturn d_Se_moreCandles_98 rfl gb_po_i
theorem d_Se_reachedFrom_0 : decode ySe_reachedFrom.2.1 0 = .ok (.iload_n 1, 1) := by decide +kernel
theorem d_Se_reachedFrom_1 : decode ySe_reachedFrom.2.1 1 = .ok (.iconst 1, 1) := by decide +kernel
theorem d_Se_reachedFrom_2 : decode ySe_reachedFrom.2.1 2 = .ok (.invokestatic 19, 3) := by decide +kernel
theorem d_Se_reachedFrom_5 : decode ySe_reachedFrom.2.1 5 = .ok (.iconst 1, 1) := by decide +kernel
theorem d_Se_reachedFrom_6 : decode ySe_reachedFrom.2.1 6 = .ok (.iload_n 1, 1) := by decide +kernel
theorem d_Se_reachedFrom_7 : decode ySe_reachedFrom.2.1 7 = .ok (.ishl, 1) := by decide +kernel
theorem d_Se_reachedFrom_8 : decode ySe_reachedFrom.2.1 8 = .ok (.iconst (-1), 1) := by decide +kernel
theorem d_Se_reachedFrom_9 : decode ySe_reachedFrom.2.1 9 = .ok (.ixor, 1) := by decide +kernel
theorem d_Se_reachedFrom_10 : decode ySe_reachedFrom.2.1 10 = .ok (.iand, 1) := by decide +kernel
theorem d_Se_reachedFrom_11 : decode ySe_reachedFrom.2.1 11 = .ok (.istore_n 2, 1) := by decide +kernel
theorem d_Se_reachedFrom_12 : decode ySe_reachedFrom.2.1 12 = .ok (.aload_n 0, 1) := by decide +kernel
theorem d_Se_reachedFrom_13 : decode ySe_reachedFrom.2.1 13 = .ok (.getfield 15, 3) := by decide +kernel
theorem d_Se_reachedFrom_16 : decode ySe_reachedFrom.2.1 16 = .ok (.getfield 23, 3) := by decide +kernel
theorem d_Se_reachedFrom_19 : decode ySe_reachedFrom.2.1 19 = .ok (.astore_n 3, 1) := by decide +kernel
theorem d_Se_reachedFrom_20 : decode ySe_reachedFrom.2.1 20 = .ok (.iconst 0, 1) := by decide +kernel
theorem d_Se_reachedFrom_21 : decode ySe_reachedFrom.2.1 21 = .ok (.istore 4, 2) := by decide +kernel
theorem d_Se_reachedFrom_23 : decode ySe_reachedFrom.2.1 23 = .ok (.iload 4, 2) := by decide +kernel
theorem d_Se_reachedFrom_25 : decode ySe_reachedFrom.2.1 25 = .ok (.aload_n 3, 1) := by decide +kernel
theorem d_Se_reachedFrom_26 : decode ySe_reachedFrom.2.1 26 = .ok (.getfield 29, 3) := by decide +kernel
theorem d_Se_reachedFrom_29 : decode ySe_reachedFrom.2.1 29 = .ok (.if_icmp .ge 56, 3) := by decide +kernel
theorem d_Se_reachedFrom_32 : decode ySe_reachedFrom.2.1 32 = .ok (.aload_n 3, 1) := by decide +kernel
theorem d_Se_reachedFrom_33 : decode ySe_reachedFrom.2.1 33 = .ok (.iload 4, 2) := by decide +kernel
theorem d_Se_reachedFrom_35 : decode ySe_reachedFrom.2.1 35 = .ok (.iconst 0, 1) := by decide +kernel
theorem d_Se_reachedFrom_36 : decode ySe_reachedFrom.2.1 36 = .ok (.invokevirtual 35, 3) := by decide +kernel
theorem d_Se_reachedFrom_39 : decode ySe_reachedFrom.2.1 39 = .ok (.istore 5, 2) := by decide +kernel
theorem d_Se_reachedFrom_41 : decode ySe_reachedFrom.2.1 41 = .ok (.aload_n 3, 1) := by decide +kernel
theorem d_Se_reachedFrom_42 : decode ySe_reachedFrom.2.1 42 = .ok (.iload 4, 2) := by decide +kernel
theorem d_Se_reachedFrom_44 : decode ySe_reachedFrom.2.1 44 = .ok (.iconst 1, 1) := by decide +kernel
theorem d_Se_reachedFrom_45 : decode ySe_reachedFrom.2.1 45 = .ok (.invokevirtual 35, 3) := by decide +kernel
theorem d_Se_reachedFrom_48 : decode ySe_reachedFrom.2.1 48 = .ok (.istore 6, 2) := by decide +kernel
theorem d_Se_reachedFrom_50 : decode ySe_reachedFrom.2.1 50 = .ok (.iload 5, 2) := by decide +kernel
theorem d_Se_reachedFrom_52 : decode ySe_reachedFrom.2.1 52 = .ok (.iload_n 1, 1) := by decide +kernel
theorem d_Se_reachedFrom_53 : decode ySe_reachedFrom.2.1 53 = .ok (.if_icmp .ne 13, 3) := by decide +kernel
theorem d_Se_reachedFrom_56 : decode ySe_reachedFrom.2.1 56 = .ok (.iload_n 2, 1) := by decide +kernel
theorem d_Se_reachedFrom_57 : decode ySe_reachedFrom.2.1 57 = .ok (.iconst 1, 1) := by decide +kernel
theorem d_Se_reachedFrom_58 : decode ySe_reachedFrom.2.1 58 = .ok (.iload 6, 2) := by decide +kernel
theorem d_Se_reachedFrom_60 : decode ySe_reachedFrom.2.1 60 = .ok (.ishl, 1) := by decide +kernel
theorem d_Se_reachedFrom_61 : decode ySe_reachedFrom.2.1 61 = .ok (.ior, 1) := by decide +kernel
theorem d_Se_reachedFrom_62 : decode ySe_reachedFrom.2.1 62 = .ok (.istore_n 2, 1) := by decide +kernel
theorem d_Se_reachedFrom_63 : decode ySe_reachedFrom.2.1 63 = .ok (.goto 16, 3) := by decide +kernel
theorem d_Se_reachedFrom_66 : decode ySe_reachedFrom.2.1 66 = .ok (.iload 6, 2) := by decide +kernel
theorem d_Se_reachedFrom_68 : decode ySe_reachedFrom.2.1 68 = .ok (.iload_n 1, 1) := by decide +kernel
theorem d_Se_reachedFrom_69 : decode ySe_reachedFrom.2.1 69 = .ok (.if_icmp .ne 10, 3) := by decide +kernel
theorem d_Se_reachedFrom_72 : decode ySe_reachedFrom.2.1 72 = .ok (.iload_n 2, 1) := by decide +kernel
theorem d_Se_reachedFrom_73 : decode ySe_reachedFrom.2.1 73 = .ok (.iconst 1, 1) := by decide +kernel
theorem d_Se_reachedFrom_74 : decode ySe_reachedFrom.2.1 74 = .ok (.iload 5, 2) := by decide +kernel
theorem d_Se_reachedFrom_76 : decode ySe_reachedFrom.2.1 76 = .ok (.ishl, 1) := by decide +kernel
theorem d_Se_reachedFrom_77 : decode ySe_reachedFrom.2.1 77 = .ok (.ior, 1) := by decide +kernel
theorem d_Se_reachedFrom_78 : decode ySe_reachedFrom.2.1 78 = .ok (.istore_n 2, 1) := by decide +kernel
theorem d_Se_reachedFrom_79 : decode ySe_reachedFrom.2.1 79 = .ok (.iinc 4 1, 3) := by decide +kernel
theorem d_Se_reachedFrom_82 : decode ySe_reachedFrom.2.1 82 = .ok (.goto (-59), 3) := by decide +kernel
theorem d_Se_reachedFrom_85 : decode ySe_reachedFrom.2.1 85 = .ok (.iload_n 2, 1) := by decide +kernel
theorem d_Se_reachedFrom_86 : decode ySe_reachedFrom.2.1 86 = .ok (.ireturn, 1) := by decide +kernel
def J_Se_reachedFrom_79 (k : Int32 → Int32 → Option (Int32)) (x1 x2 x4 : Int32) (I : gb_Mem) : Option (Int32) :=
  k x2 (x4 + 1)
set_option maxRecDepth 4000 in
theorem j_Se_reachedFrom_79 (l : Launch) (d0 : Nat) {post : Option gb_AV → List gb_Ce → gb_Mem → Prop} (k : Int32 → Int32 → Option (Int32)) (x1 x2 x4 : Int32) (I : gb_Mem) {ρ : Int32} (h : J_Se_reachedFrom_79 k x1 x2 x4 I = some ρ) (hk : ∀ (z2 z4 : Int32), k z2 z4 = some ρ → gb_Go l ySe_reachedFrom (d0 + 2) 0 0 23 [(1, .inl x1), (2, .inl z2), (3, .inr (some 15)), (4, .inl z4)] [] shX I post) (hX : ∀ (o2 : Int32), ρ = o2 → gb_Go l ySe_reachedFrom (d0 + 2) 0 0 85 [(2, .inl o2)] [] shX I post) : gb_Go l ySe_reachedFrom (d0 + 2) 0 0 79 [(1, .inl x1), (2, .inl x2), (3, .inr (some 15)), (4, .inl x4)] [] shX I post := by
  unfold J_Se_reachedFrom_79 at h
  refine go_iinc (k := 3) (v := x4 + 1) (lv' := [(4, .inl (x4 + 1)), (1, .inl x1), (2, .inl x2), (3, .inr (some 15))]) d_Se_reachedFrom_79 rfl rfl (by decide) rfl ?_
  refine go_goto (tgt := 23) d_Se_reachedFrom_82 (by decide) ?_
  exact go_lv [1, 2, 3, 0] rfl (hk _ _ h)
def L_Se_reachedFrom_23 (x1 : Int32) (I : gb_Mem) : Nat → Int32 → Int32 → Option (Int32)
  | 0, _, _ => none
  | n + 1, x2, x4 =>
    if (I 15 2) ≤ x4 then
      some x2
    else
      fbd (F_Ro_cell 15 64 x4 0 I) fun r3 =>
      fbd (F_Ro_cell 15 64 x4 1 I) fun r4 =>
      if r3 = x1 then
        flt (x2 ||| (1 <<< (r4 &&& 31))) fun y6 =>
        J_Se_reachedFrom_79 (L_Se_reachedFrom_23 x1 I n) x1 y6 x4 I
      else
        if r4 = x1 then
          flt (x2 ||| (1 <<< (r3 &&& 31))) fun y5 =>
          J_Se_reachedFrom_79 (L_Se_reachedFrom_23 x1 I n) x1 y5 x4 I
        else
          J_Se_reachedFrom_79 (L_Se_reachedFrom_23 x1 I n) x1 x2 x4 I
set_option maxRecDepth 4000 in
theorem l_Se_reachedFrom_23 (l : Launch) (d0 : Nat) (x1 : Int32) (I : gb_Mem) {post : Option gb_AV → List gb_Ce → gb_Mem → Prop} : ∀ (n : Nat) (x2 x4 : Int32) {ρ : Int32} (h : L_Se_reachedFrom_23 x1 I n x2 x4 = some ρ) (hX : ∀ (o2 : Int32), ρ = o2 → gb_Go l ySe_reachedFrom (d0 + 2) 0 0 85 [(2, .inl o2)] [] shX I post) , gb_Go l ySe_reachedFrom (d0 + 2) 0 0 23 [(1, .inl x1), (2, .inl x2), (3, .inr (some 15)), (4, .inl x4)] [] shX I post := by
  intro n
  induction n with
  | zero => intro x2 x4 ρ h hX; cases h
  | succ n ih =>
    intro x2 x4 ρ h hX
    rw [L_Se_reachedFrom_23] at h
    refine go_iload (k := 3) d_Se_reachedFrom_23 rfl ?_
    refine go_aload_n (k := 2) d_Se_reachedFrom_25 rfl rfl ?_
    refine go_getiN (ci := 4) (k := 2) d_Se_reachedFrom_26 a_X_15 rfl (by decide) f_Se_29 rfl ?_
    refine go_cmp_ge (tgt := 85) d_Se_reachedFrom_29 (by decide) (fun hc => ?_) (fun hc => ?_)
    · rw [if_pos hc] at h
      exact go_lv [1] rfl (hX _ (Option.some.inj h).symm)
    · rw [if_neg hc] at h
      refine go_aload_n (k := 2) d_Se_reachedFrom_32 rfl rfl ?_
      refine go_iload (k := 3) d_Se_reachedFrom_33 rfl ?_
      refine go_iconst (v := 0) d_Se_reachedFrom_35 (by decide) ?_
      obtain ⟨r3, w1, h⟩ := fbd_e h
      refine go_callV (y := yRo_cell) (asr := [.inl x4, .inl 0]) (v := some (.inl r3)) (I' := I) (st1 := [.inl r3]) d_Se_reachedFrom_36 s_yRo_cell m_Se_35 a_X_15 rfl rfl rfl (Nat.le_of_ble_eq_true rfl) rfl rfl (c_Ro_cell l (d0 + 0) 15 64 isRo_15 x4 0 I w1) ?_
      refine go_istore (lv' := [(5, .inl r3), (1, .inl x1), (2, .inl x2), (3, .inr (some 15)), (4, .inl x4)]) d_Se_reachedFrom_39 (by decide) rfl ?_
      refine go_aload_n (k := 3) d_Se_reachedFrom_41 rfl rfl ?_
      refine go_iload (k := 4) d_Se_reachedFrom_42 rfl ?_
      refine go_iconst (v := 1) d_Se_reachedFrom_44 (by decide) ?_
      obtain ⟨r4, w1, h⟩ := fbd_e h
      refine go_callV (y := yRo_cell) (asr := [.inl x4, .inl 1]) (v := some (.inl r4)) (I' := I) (st1 := [.inl r4]) d_Se_reachedFrom_45 s_yRo_cell m_Se_35 a_X_15 rfl rfl rfl (Nat.le_of_ble_eq_true rfl) rfl rfl (c_Ro_cell l (d0 + 0) 15 64 isRo_15 x4 1 I w1) ?_
      refine go_istore (lv' := [(6, .inl r4), (5, .inl r3), (1, .inl x1), (2, .inl x2), (3, .inr (some 15)), (4, .inl x4)]) d_Se_reachedFrom_48 (by decide) rfl ?_
      refine go_iload (k := 1) d_Se_reachedFrom_50 rfl ?_
      refine go_iload_n (k := 2) d_Se_reachedFrom_52 rfl rfl ?_
      refine go_cmp_ne (tgt := 66) d_Se_reachedFrom_53 (by decide) (fun hc => ?_) (fun hc => ?_)
      · rw [if_neg hc] at h
        refine go_iload (k := 0) d_Se_reachedFrom_66 rfl ?_
        refine go_iload_n (k := 2) d_Se_reachedFrom_68 rfl rfl ?_
        refine go_cmp_ne (tgt := 79) d_Se_reachedFrom_69 (by decide) (fun hc => ?_) (fun hc => ?_)
        · rw [if_neg hc] at h
          exact go_lv [2, 3, 4, 5] rfl (j_Se_reachedFrom_79 l d0 (L_Se_reachedFrom_23 x1 I n) x1 x2 x4 I h (fun z2 z4 hh => ih z2 z4 hh hX) hX)
        · rw [if_pos hc] at h
          refine go_iload_n (k := 3) d_Se_reachedFrom_72 rfl rfl ?_
          refine go_iconst (v := 1) d_Se_reachedFrom_73 (by decide) ?_
          refine go_iload (k := 1) d_Se_reachedFrom_74 rfl ?_
          refine go_ishl d_Se_reachedFrom_76 ?_
          refine go_ior d_Se_reachedFrom_77 ?_
          obtain ⟨y5, ey5, h⟩ := flt_e h
          refine go_top ey5 ?_
          refine go_istore_n (lv' := [(2, .inl y5), (6, .inl r4), (5, .inl r3), (1, .inl x1), (3, .inr (some 15)), (4, .inl x4)]) d_Se_reachedFrom_78 rfl (by decide) rfl ?_
          exact go_lv [3, 0, 4, 5] rfl (j_Se_reachedFrom_79 l d0 (L_Se_reachedFrom_23 x1 I n) x1 y5 x4 I h (fun z2 z4 hh => ih z2 z4 hh hX) hX)
      · rw [if_pos hc] at h
        refine go_iload_n (k := 3) d_Se_reachedFrom_56 rfl rfl ?_
        refine go_iconst (v := 1) d_Se_reachedFrom_57 (by decide) ?_
        refine go_iload (k := 0) d_Se_reachedFrom_58 rfl ?_
        refine go_ishl d_Se_reachedFrom_60 ?_
        refine go_ior d_Se_reachedFrom_61 ?_
        obtain ⟨y6, ey6, h⟩ := flt_e h
        refine go_top ey6 ?_
        refine go_istore_n (lv' := [(2, .inl y6), (6, .inl r4), (5, .inl r3), (1, .inl x1), (3, .inr (some 15)), (4, .inl x4)]) d_Se_reachedFrom_62 rfl (by decide) rfl ?_
        refine go_goto (tgt := 79) d_Se_reachedFrom_63 (by decide) ?_
        exact go_lv [3, 0, 4, 5] rfl (j_Se_reachedFrom_79 l d0 (L_Se_reachedFrom_23 x1 I n) x1 y6 x4 I h (fun z2 z4 hh => ih z2 z4 hh hX) hX)
def F_Se_reachedFrom (x1 : Int32) (I : gb_Mem) : Option (Int32) :=
  fbd (F_Se_around x1 1 I) fun r1 =>
  flt (r1 &&& ((1 <<< (x1 &&& 31)) ^^^ (-1))) fun y2 =>
  fbd (L_Se_reachedFrom_23 x1 I 5000 y2 0) fun o7 =>
  some o7
set_option maxRecDepth 4000 in
theorem c_Se_reachedFrom (l : Launch) (d0 : Nat) (x1 : Int32) (I : gb_Mem) {rz : Int32} (h : F_Se_reachedFrom x1 I = some rz) : gb_Cs l ySe_reachedFrom (d0 + 2) [.inr (some 104), .inl x1] shX I (some (.inl rz)) I := by
  refine gb_Ct.of (lv := [(0, .inr (some 104)), (1, .inl x1)]) rfl (Nat.le_of_ble_eq_true rfl) rfl ?_
  unfold F_Se_reachedFrom at h
  show gb_Go l ySe_reachedFrom (d0 + 2) 0 0 0 [(0, .inr (some 104)), (1, .inl x1)] [] shX I (gb_po shX (some (.inl rz)) I)
  refine go_iload_n (k := 1) d_Se_reachedFrom_0 rfl rfl ?_
  refine go_iconst (v := 1) d_Se_reachedFrom_1 (by decide) ?_
  obtain ⟨r1, w1, h⟩ := fbd_e h
  refine go_callS (y := ySe_around) (asr := [.inl x1, .inl 1]) (v := some (.inl r1)) (I' := I) (st1 := [.inl r1]) d_Se_reachedFrom_2 s_ySe_around m_Se_19 rfl (Nat.le_of_ble_eq_true rfl) rfl rfl (c_Se_around l (d0 + 0) x1 1 I w1) ?_
  refine go_iconst (v := 1) d_Se_reachedFrom_5 (by decide) ?_
  refine go_iload_n (k := 1) d_Se_reachedFrom_6 rfl rfl ?_
  refine go_ishl d_Se_reachedFrom_7 ?_
  refine go_iconst (v := (-1)) d_Se_reachedFrom_8 (by decide) ?_
  refine go_ixor d_Se_reachedFrom_9 ?_
  refine go_iand d_Se_reachedFrom_10 ?_
  obtain ⟨y2, ey2, h⟩ := flt_e h
  refine go_top ey2 ?_
  refine go_istore_n (lv' := [(2, .inl y2), (0, .inr (some 104)), (1, .inl x1)]) d_Se_reachedFrom_11 rfl (by decide) rfl ?_
  refine go_aload_n (k := 1) d_Se_reachedFrom_12 rfl rfl ?_
  refine go_getr (ci := 7) (k := 0) (r := 1) d_Se_reachedFrom_13 a_X_104 rfl (by decide) f_Se_15 rfl ?_
  refine go_getrN (ci := 1) (k := 4) (r := 15) d_Se_reachedFrom_16 a_X_1 rfl (by decide) f_Se_23 rfl ?_
  refine go_astore_n (lv' := [(3, .inr (some 15)), (2, .inl y2), (0, .inr (some 104)), (1, .inl x1)]) d_Se_reachedFrom_19 rfl (by decide) rfl ?_
  refine go_iconst (v := 0) d_Se_reachedFrom_20 (by decide) ?_
  refine go_istore (lv' := [(4, .inl 0), (3, .inr (some 15)), (2, .inl y2), (0, .inr (some 104)), (1, .inl x1)]) d_Se_reachedFrom_21 (by decide) rfl ?_
  refine go_lv [4, 2, 1, 0] (lv' := [(1, .inl x1), (2, .inl y2), (3, .inr (some 15)), (4, .inl 0)]) rfl ?_
  obtain ⟨o7, w1, h⟩ := fbd_e h
  refine l_Se_reachedFrom_23 l d0 x1 I 5000 y2 0 w1 (fun o7_ e => ?_)
  cases e
  refine go_iload_n (k := 0) d_Se_reachedFrom_85 rfl rfl ?_
  cases h
  exact go_ireturn d_Se_reachedFrom_86 rfl gb_po_i
theorem d_Se_stainsJoined_0 : decode ySe_stainsJoined.2.1 0 = .ok (.iconst 0, 1) := by decide +kernel
theorem d_Se_stainsJoined_1 : decode ySe_stainsJoined.2.1 1 = .ok (.istore_n 2, 1) := by decide +kernel
theorem d_Se_stainsJoined_2 : decode ySe_stainsJoined.2.1 2 = .ok (.iconst (-1), 1) := by decide +kernel
theorem d_Se_stainsJoined_3 : decode ySe_stainsJoined.2.1 3 = .ok (.istore_n 3, 1) := by decide +kernel
theorem d_Se_stainsJoined_4 : decode ySe_stainsJoined.2.1 4 = .ok (.iconst (-1), 1) := by decide +kernel
theorem d_Se_stainsJoined_5 : decode ySe_stainsJoined.2.1 5 = .ok (.istore 4, 2) := by decide +kernel
theorem d_Se_stainsJoined_7 : decode ySe_stainsJoined.2.1 7 = .ok (.iconst 0, 1) := by decide +kernel
theorem d_Se_stainsJoined_8 : decode ySe_stainsJoined.2.1 8 = .ok (.istore 5, 2) := by decide +kernel
theorem d_Se_stainsJoined_10 : decode ySe_stainsJoined.2.1 10 = .ok (.iconst 0, 1) := by decide +kernel
theorem d_Se_stainsJoined_11 : decode ySe_stainsJoined.2.1 11 = .ok (.istore 6, 2) := by decide +kernel
theorem d_Se_stainsJoined_13 : decode ySe_stainsJoined.2.1 13 = .ok (.iconst 0, 1) := by decide +kernel
theorem d_Se_stainsJoined_14 : decode ySe_stainsJoined.2.1 14 = .ok (.istore 7, 2) := by decide +kernel
theorem d_Se_stainsJoined_16 : decode ySe_stainsJoined.2.1 16 = .ok (.iload 7, 2) := by decide +kernel
theorem d_Se_stainsJoined_18 : decode ySe_stainsJoined.2.1 18 = .ok (.bipush 12, 2) := by decide +kernel
theorem d_Se_stainsJoined_20 : decode ySe_stainsJoined.2.1 20 = .ok (.if_icmp .ge 75, 3) := by decide +kernel
theorem d_Se_stainsJoined_23 : decode ySe_stainsJoined.2.1 23 = .ok (.aload_n 0, 1) := by decide +kernel
theorem d_Se_stainsJoined_24 : decode ySe_stainsJoined.2.1 24 = .ok (.getfield 15, 3) := by decide +kernel
theorem d_Se_stainsJoined_27 : decode ySe_stainsJoined.2.1 27 = .ok (.getfield 49, 3) := by decide +kernel
theorem d_Se_stainsJoined_30 : decode ySe_stainsJoined.2.1 30 = .ok (.iconst 4, 1) := by decide +kernel
theorem d_Se_stainsJoined_31 : decode ySe_stainsJoined.2.1 31 = .ok (.iload 7, 2) := by decide +kernel
theorem d_Se_stainsJoined_33 : decode ySe_stainsJoined.2.1 33 = .ok (.invokevirtual 53, 3) := by decide +kernel
theorem d_Se_stainsJoined_36 : decode ySe_stainsJoined.2.1 36 = .ok (.istore 8, 2) := by decide +kernel
theorem d_Se_stainsJoined_38 : decode ySe_stainsJoined.2.1 38 = .ok (.iload 8, 2) := by decide +kernel
theorem d_Se_stainsJoined_40 : decode ySe_stainsJoined.2.1 40 = .ok (.ifCond .le 15, 3) := by decide +kernel
theorem d_Se_stainsJoined_43 : decode ySe_stainsJoined.2.1 43 = .ok (.iload 5, 2) := by decide +kernel
theorem d_Se_stainsJoined_45 : decode ySe_stainsJoined.2.1 45 = .ok (.ifCond .ne 10, 3) := by decide +kernel
theorem d_Se_stainsJoined_48 : decode ySe_stainsJoined.2.1 48 = .ok (.iinc 2 1, 3) := by decide +kernel
theorem d_Se_stainsJoined_51 : decode ySe_stainsJoined.2.1 51 = .ok (.iload 7, 2) := by decide +kernel
theorem d_Se_stainsJoined_53 : decode ySe_stainsJoined.2.1 53 = .ok (.istore 6, 2) := by decide +kernel
theorem d_Se_stainsJoined_55 : decode ySe_stainsJoined.2.1 55 = .ok (.iload 8, 2) := by decide +kernel
theorem d_Se_stainsJoined_57 : decode ySe_stainsJoined.2.1 57 = .ok (.ifCond .le 11, 3) := by decide +kernel
theorem d_Se_stainsJoined_60 : decode ySe_stainsJoined.2.1 60 = .ok (.iload 5, 2) := by decide +kernel
theorem d_Se_stainsJoined_62 : decode ySe_stainsJoined.2.1 62 = .ok (.iload 8, 2) := by decide +kernel
theorem d_Se_stainsJoined_64 : decode ySe_stainsJoined.2.1 64 = .ok (.iadd, 1) := by decide +kernel
theorem d_Se_stainsJoined_65 : decode ySe_stainsJoined.2.1 65 = .ok (.goto 4, 3) := by decide +kernel
theorem d_Se_stainsJoined_68 : decode ySe_stainsJoined.2.1 68 = .ok (.iconst 0, 1) := by decide +kernel
theorem d_Se_stainsJoined_69 : decode ySe_stainsJoined.2.1 69 = .ok (.istore 5, 2) := by decide +kernel
theorem d_Se_stainsJoined_71 : decode ySe_stainsJoined.2.1 71 = .ok (.iload 5, 2) := by decide +kernel
theorem d_Se_stainsJoined_73 : decode ySe_stainsJoined.2.1 73 = .ok (.ifCond .le 16, 3) := by decide +kernel
theorem d_Se_stainsJoined_76 : decode ySe_stainsJoined.2.1 76 = .ok (.iload 5, 2) := by decide +kernel
theorem d_Se_stainsJoined_78 : decode ySe_stainsJoined.2.1 78 = .ok (.iload_n 3, 1) := by decide +kernel
theorem d_Se_stainsJoined_79 : decode ySe_stainsJoined.2.1 79 = .ok (.if_icmp .le 10, 3) := by decide +kernel
theorem d_Se_stainsJoined_82 : decode ySe_stainsJoined.2.1 82 = .ok (.iload 5, 2) := by decide +kernel
theorem d_Se_stainsJoined_84 : decode ySe_stainsJoined.2.1 84 = .ok (.istore_n 3, 1) := by decide +kernel
theorem d_Se_stainsJoined_85 : decode ySe_stainsJoined.2.1 85 = .ok (.iload 6, 2) := by decide +kernel
theorem d_Se_stainsJoined_87 : decode ySe_stainsJoined.2.1 87 = .ok (.istore 4, 2) := by decide +kernel
theorem d_Se_stainsJoined_89 : decode ySe_stainsJoined.2.1 89 = .ok (.iinc 7 1, 3) := by decide +kernel
theorem d_Se_stainsJoined_92 : decode ySe_stainsJoined.2.1 92 = .ok (.goto (-76), 3) := by decide +kernel
theorem d_Se_stainsJoined_95 : decode ySe_stainsJoined.2.1 95 = .ok (.iload_n 1, 1) := by decide +kernel
theorem d_Se_stainsJoined_96 : decode ySe_stainsJoined.2.1 96 = .ok (.ifCond .ne 7, 3) := by decide +kernel
theorem d_Se_stainsJoined_99 : decode ySe_stainsJoined.2.1 99 = .ok (.iload_n 2, 1) := by decide +kernel
theorem d_Se_stainsJoined_100 : decode ySe_stainsJoined.2.1 100 = .ok (.goto 14, 3) := by decide +kernel
theorem d_Se_stainsJoined_103 : decode ySe_stainsJoined.2.1 103 = .ok (.iload_n 1, 1) := by decide +kernel
theorem d_Se_stainsJoined_104 : decode ySe_stainsJoined.2.1 104 = .ok (.iconst 1, 1) := by decide +kernel
theorem d_Se_stainsJoined_105 : decode ySe_stainsJoined.2.1 105 = .ok (.if_icmp .ne 7, 3) := by decide +kernel
theorem d_Se_stainsJoined_108 : decode ySe_stainsJoined.2.1 108 = .ok (.iload_n 3, 1) := by decide +kernel
theorem d_Se_stainsJoined_109 : decode ySe_stainsJoined.2.1 109 = .ok (.goto 5, 3) := by decide +kernel
theorem d_Se_stainsJoined_112 : decode ySe_stainsJoined.2.1 112 = .ok (.iload 4, 2) := by decide +kernel
theorem d_Se_stainsJoined_114 : decode ySe_stainsJoined.2.1 114 = .ok (.ireturn, 1) := by decide +kernel
def J_Se_stainsJoined_89 (k : Int32 → Int32 → Int32 → Int32 → Int32 → Int32 → Option (Int32 × Int32 × Int32)) (x1 x2 x3 x4 x5 x6 x7 : Int32) (I : gb_Mem) : Option (Int32 × Int32 × Int32) :=
  k x2 x3 x4 x5 x6 (x7 + 1)
set_option maxRecDepth 4000 in
theorem j_Se_stainsJoined_89 (l : Launch) (d0 : Nat) {post : Option gb_AV → List gb_Ce → gb_Mem → Prop} (k : Int32 → Int32 → Int32 → Int32 → Int32 → Int32 → Option (Int32 × Int32 × Int32)) (x1 x2 x3 x4 x5 x6 x7 : Int32) (I : gb_Mem) {ρ : Int32 × Int32 × Int32} (h : J_Se_stainsJoined_89 k x1 x2 x3 x4 x5 x6 x7 I = some ρ) (hk : ∀ (z2 z3 z4 z5 z6 z7 : Int32), k z2 z3 z4 z5 z6 z7 = some ρ → gb_Go l ySe_stainsJoined (d0 + 2) 0 0 16 [(0, .inr (some 104)), (1, .inl x1), (2, .inl z2), (3, .inl z3), (4, .inl z4), (5, .inl z5), (6, .inl z6), (7, .inl z7)] [] shX I post) (hX : ∀ (o2 : Int32) (o3 : Int32) (o4 : Int32), ρ = (o2, o3, o4) → gb_Go l ySe_stainsJoined (d0 + 2) 0 0 95 [(1, .inl x1), (2, .inl o2), (3, .inl o3), (4, .inl o4)] [] shX I post) : gb_Go l ySe_stainsJoined (d0 + 2) 0 0 89 [(0, .inr (some 104)), (1, .inl x1), (2, .inl x2), (3, .inl x3), (4, .inl x4), (5, .inl x5), (6, .inl x6), (7, .inl x7)] [] shX I post := by
  unfold J_Se_stainsJoined_89 at h
  refine go_iinc (k := 7) (v := x7 + 1) (lv' := [(7, .inl (x7 + 1)), (0, .inr (some 104)), (1, .inl x1), (2, .inl x2), (3, .inl x3), (4, .inl x4), (5, .inl x5), (6, .inl x6)]) d_Se_stainsJoined_89 rfl rfl (by decide) rfl ?_
  refine go_goto (tgt := 16) d_Se_stainsJoined_92 (by decide) ?_
  exact go_lv [1, 2, 3, 4, 5, 6, 7, 0] rfl (hk _ _ _ _ _ _ h)
def J_Se_stainsJoined_69 (k : Int32 → Int32 → Int32 → Int32 → Int32 → Int32 → Option (Int32 × Int32 × Int32)) (x1 x2 x3 x4 x6 x7 s0 : Int32) (I : gb_Mem) : Option (Int32 × Int32 × Int32) :=
  if s0 ≤ 0 then
    J_Se_stainsJoined_89 k x1 x2 x3 x4 s0 x6 x7 I
  else
    if s0 ≤ x3 then
      J_Se_stainsJoined_89 k x1 x2 x3 x4 s0 x6 x7 I
    else
      J_Se_stainsJoined_89 k x1 x2 s0 x6 s0 x6 x7 I
set_option maxRecDepth 4000 in
theorem j_Se_stainsJoined_69 (l : Launch) (d0 : Nat) {post : Option gb_AV → List gb_Ce → gb_Mem → Prop} (k : Int32 → Int32 → Int32 → Int32 → Int32 → Int32 → Option (Int32 × Int32 × Int32)) (x1 x2 x3 x4 x6 x7 s0 : Int32) (I : gb_Mem) {ρ : Int32 × Int32 × Int32} (h : J_Se_stainsJoined_69 k x1 x2 x3 x4 x6 x7 s0 I = some ρ) (hk : ∀ (z2 z3 z4 z5 z6 z7 : Int32), k z2 z3 z4 z5 z6 z7 = some ρ → gb_Go l ySe_stainsJoined (d0 + 2) 0 0 16 [(0, .inr (some 104)), (1, .inl x1), (2, .inl z2), (3, .inl z3), (4, .inl z4), (5, .inl z5), (6, .inl z6), (7, .inl z7)] [] shX I post) (hX : ∀ (o2 : Int32) (o3 : Int32) (o4 : Int32), ρ = (o2, o3, o4) → gb_Go l ySe_stainsJoined (d0 + 2) 0 0 95 [(1, .inl x1), (2, .inl o2), (3, .inl o3), (4, .inl o4)] [] shX I post) : gb_Go l ySe_stainsJoined (d0 + 2) 0 0 69 [(0, .inr (some 104)), (1, .inl x1), (2, .inl x2), (3, .inl x3), (4, .inl x4), (6, .inl x6), (7, .inl x7)] [.inl s0] shX I post := by
  unfold J_Se_stainsJoined_69 at h
  refine go_istore (lv' := [(5, .inl s0), (0, .inr (some 104)), (1, .inl x1), (2, .inl x2), (3, .inl x3), (4, .inl x4), (6, .inl x6), (7, .inl x7)]) d_Se_stainsJoined_69 (by decide) rfl ?_
  refine go_iload (k := 0) d_Se_stainsJoined_71 rfl ?_
  refine go_if_le (tgt := 89) d_Se_stainsJoined_73 (by decide) (fun hc => ?_) (fun hc => ?_)
  · rw [if_pos hc] at h
    exact go_lv [1, 2, 3, 4, 5, 0, 6, 7] rfl (j_Se_stainsJoined_89 l d0 k x1 x2 x3 x4 s0 x6 x7 I h hk hX)
  · rw [if_neg hc] at h
    refine go_iload (k := 0) d_Se_stainsJoined_76 rfl ?_
    refine go_iload_n (k := 4) d_Se_stainsJoined_78 rfl rfl ?_
    refine go_cmp_le (tgt := 89) d_Se_stainsJoined_79 (by decide) (fun hc => ?_) (fun hc => ?_)
    · rw [if_pos hc] at h
      exact go_lv [1, 2, 3, 4, 5, 0, 6, 7] rfl (j_Se_stainsJoined_89 l d0 k x1 x2 x3 x4 s0 x6 x7 I h hk hX)
    · rw [if_neg hc] at h
      refine go_iload (k := 0) d_Se_stainsJoined_82 rfl ?_
      refine go_istore_n (lv' := [(3, .inl s0), (5, .inl s0), (0, .inr (some 104)), (1, .inl x1), (2, .inl x2), (4, .inl x4), (6, .inl x6), (7, .inl x7)]) d_Se_stainsJoined_84 rfl (by decide) rfl ?_
      refine go_iload (k := 6) d_Se_stainsJoined_85 rfl ?_
      refine go_istore (lv' := [(4, .inl x6), (3, .inl s0), (5, .inl s0), (0, .inr (some 104)), (1, .inl x1), (2, .inl x2), (6, .inl x6), (7, .inl x7)]) d_Se_stainsJoined_87 (by decide) rfl ?_
      exact go_lv [3, 4, 5, 1, 0, 2, 6, 7] rfl (j_Se_stainsJoined_89 l d0 k x1 x2 s0 x6 s0 x6 x7 I h hk hX)
def J_Se_stainsJoined_55 (k : Int32 → Int32 → Int32 → Int32 → Int32 → Int32 → Option (Int32 × Int32 × Int32)) (x1 x2 x3 x4 x5 x6 x7 x8 : Int32) (I : gb_Mem) : Option (Int32 × Int32 × Int32) :=
  if x8 ≤ 0 then
    J_Se_stainsJoined_69 k x1 x2 x3 x4 x6 x7 0 I
  else
    J_Se_stainsJoined_69 k x1 x2 x3 x4 x6 x7 (x5 + x8) I
set_option maxRecDepth 4000 in
theorem j_Se_stainsJoined_55 (l : Launch) (d0 : Nat) {post : Option gb_AV → List gb_Ce → gb_Mem → Prop} (k : Int32 → Int32 → Int32 → Int32 → Int32 → Int32 → Option (Int32 × Int32 × Int32)) (x1 x2 x3 x4 x5 x6 x7 x8 : Int32) (I : gb_Mem) {ρ : Int32 × Int32 × Int32} (h : J_Se_stainsJoined_55 k x1 x2 x3 x4 x5 x6 x7 x8 I = some ρ) (hk : ∀ (z2 z3 z4 z5 z6 z7 : Int32), k z2 z3 z4 z5 z6 z7 = some ρ → gb_Go l ySe_stainsJoined (d0 + 2) 0 0 16 [(0, .inr (some 104)), (1, .inl x1), (2, .inl z2), (3, .inl z3), (4, .inl z4), (5, .inl z5), (6, .inl z6), (7, .inl z7)] [] shX I post) (hX : ∀ (o2 : Int32) (o3 : Int32) (o4 : Int32), ρ = (o2, o3, o4) → gb_Go l ySe_stainsJoined (d0 + 2) 0 0 95 [(1, .inl x1), (2, .inl o2), (3, .inl o3), (4, .inl o4)] [] shX I post) : gb_Go l ySe_stainsJoined (d0 + 2) 0 0 55 [(0, .inr (some 104)), (1, .inl x1), (2, .inl x2), (3, .inl x3), (4, .inl x4), (5, .inl x5), (6, .inl x6), (7, .inl x7), (8, .inl x8)] [] shX I post := by
  unfold J_Se_stainsJoined_55 at h
  refine go_iload (k := 8) d_Se_stainsJoined_55 rfl ?_
  refine go_if_le (tgt := 68) d_Se_stainsJoined_57 (by decide) (fun hc => ?_) (fun hc => ?_)
  · rw [if_pos hc] at h
    refine go_iconst (v := 0) d_Se_stainsJoined_68 (by decide) ?_
    exact go_lv [0, 1, 2, 3, 4, 6, 7] rfl (j_Se_stainsJoined_69 l d0 k x1 x2 x3 x4 x6 x7 0 I h hk hX)
  · rw [if_neg hc] at h
    refine go_iload (k := 5) d_Se_stainsJoined_60 rfl ?_
    refine go_iload (k := 8) d_Se_stainsJoined_62 rfl ?_
    refine go_iadd d_Se_stainsJoined_64 ?_
    refine go_goto (tgt := 69) d_Se_stainsJoined_65 (by decide) ?_
    exact go_lv [0, 1, 2, 3, 4, 6, 7] rfl (j_Se_stainsJoined_69 l d0 k x1 x2 x3 x4 x6 x7 (x5 + x8) I h hk hX)
def L_Se_stainsJoined_16 (x1 : Int32) (I : gb_Mem) : Nat → Int32 → Int32 → Int32 → Int32 → Int32 → Int32 → Option (Int32 × Int32 × Int32)
  | 0, _, _, _, _, _, _ => none
  | n + 1, x2, x3, x4, x5, x6, x7 =>
    if 12 ≤ x7 then
      some (x2, x3, x4)
    else
      fbd (F_Ta_ofSeat 2 4 x7 I) fun r1 =>
      if r1 ≤ 0 then
        J_Se_stainsJoined_55 (L_Se_stainsJoined_16 x1 I n) x1 x2 x3 x4 x5 x6 x7 r1 I
      else
        if x5 = 0 then
          J_Se_stainsJoined_55 (L_Se_stainsJoined_16 x1 I n) x1 (x2 + 1) x3 x4 x5 x7 x7 r1 I
        else
          J_Se_stainsJoined_55 (L_Se_stainsJoined_16 x1 I n) x1 x2 x3 x4 x5 x6 x7 r1 I
set_option maxRecDepth 4000 in
theorem l_Se_stainsJoined_16 (l : Launch) (d0 : Nat) (x1 : Int32) (I : gb_Mem) {post : Option gb_AV → List gb_Ce → gb_Mem → Prop} : ∀ (n : Nat) (x2 x3 x4 x5 x6 x7 : Int32) {ρ : Int32 × Int32 × Int32} (h : L_Se_stainsJoined_16 x1 I n x2 x3 x4 x5 x6 x7 = some ρ) (hX : ∀ (o2 : Int32) (o3 : Int32) (o4 : Int32), ρ = (o2, o3, o4) → gb_Go l ySe_stainsJoined (d0 + 2) 0 0 95 [(1, .inl x1), (2, .inl o2), (3, .inl o3), (4, .inl o4)] [] shX I post) , gb_Go l ySe_stainsJoined (d0 + 2) 0 0 16 [(0, .inr (some 104)), (1, .inl x1), (2, .inl x2), (3, .inl x3), (4, .inl x4), (5, .inl x5), (6, .inl x6), (7, .inl x7)] [] shX I post := by
  intro n
  induction n with
  | zero => intro x2 x3 x4 x5 x6 x7 ρ h hX; cases h
  | succ n ih =>
    intro x2 x3 x4 x5 x6 x7 ρ h hX
    rw [L_Se_stainsJoined_16] at h
    refine go_iload (k := 7) d_Se_stainsJoined_16 rfl ?_
    refine go_bipush (v := 12) d_Se_stainsJoined_18 (by decide) ?_
    refine go_cmp_ge (tgt := 95) d_Se_stainsJoined_20 (by decide) (fun hc => ?_) (fun hc => ?_)
    · rw [if_pos hc] at h
      exact go_lv [1, 2, 3, 4] rfl (hX _ _ _ (Option.some.inj h).symm)
    · rw [if_neg hc] at h
      refine go_aload_n (k := 0) d_Se_stainsJoined_23 rfl rfl ?_
      refine go_getr (ci := 7) (k := 0) (r := 1) d_Se_stainsJoined_24 a_X_104 rfl (by decide) f_Se_15 rfl ?_
      refine go_getrN (ci := 1) (k := 0) (r := 2) d_Se_stainsJoined_27 a_X_1 rfl (by decide) f_Se_49 rfl ?_
      refine go_iconst (v := 4) d_Se_stainsJoined_30 (by decide) ?_
      refine go_iload (k := 7) d_Se_stainsJoined_31 rfl ?_
      obtain ⟨r1, w1, h⟩ := fbd_e h
      refine go_callV (y := yTa_ofSeat) (asr := [.inl 4, .inl x7]) (v := some (.inl r1)) (I' := I) (st1 := [.inl r1]) d_Se_stainsJoined_33 s_yTa_ofSeat m_Se_53 a_X_2 rfl rfl rfl (Nat.le_of_ble_eq_true rfl) rfl rfl (c_Ta_ofSeat l (d0 + 0) 2 isTa_2 4 x7 I w1) ?_
      refine go_istore (lv' := [(8, .inl r1), (0, .inr (some 104)), (1, .inl x1), (2, .inl x2), (3, .inl x3), (4, .inl x4), (5, .inl x5), (6, .inl x6), (7, .inl x7)]) d_Se_stainsJoined_36 (by decide) rfl ?_
      refine go_iload (k := 0) d_Se_stainsJoined_38 rfl ?_
      refine go_if_le (tgt := 55) d_Se_stainsJoined_40 (by decide) (fun hc => ?_) (fun hc => ?_)
      · rw [if_pos hc] at h
        exact go_lv [1, 2, 3, 4, 5, 6, 7, 8, 0] rfl (j_Se_stainsJoined_55 l d0 (L_Se_stainsJoined_16 x1 I n) x1 x2 x3 x4 x5 x6 x7 r1 I h (fun z2 z3 z4 z5 z6 z7 hh => ih z2 z3 z4 z5 z6 z7 hh hX) hX)
      · rw [if_neg hc] at h
        refine go_iload (k := 6) d_Se_stainsJoined_43 rfl ?_
        refine go_if_ne (tgt := 55) d_Se_stainsJoined_45 (by decide) (fun hc => ?_) (fun hc => ?_)
        · rw [if_neg hc] at h
          exact go_lv [1, 2, 3, 4, 5, 6, 7, 8, 0] rfl (j_Se_stainsJoined_55 l d0 (L_Se_stainsJoined_16 x1 I n) x1 x2 x3 x4 x5 x6 x7 r1 I h (fun z2 z3 z4 z5 z6 z7 hh => ih z2 z3 z4 z5 z6 z7 hh hX) hX)
        · rw [if_pos hc] at h
          refine go_iinc (k := 3) (v := x2 + 1) (lv' := [(2, .inl (x2 + 1)), (8, .inl r1), (0, .inr (some 104)), (1, .inl x1), (3, .inl x3), (4, .inl x4), (5, .inl x5), (6, .inl x6), (7, .inl x7)]) d_Se_stainsJoined_48 rfl rfl (by decide) rfl ?_
          refine go_iload (k := 8) d_Se_stainsJoined_51 rfl ?_
          refine go_istore (lv' := [(6, .inl x7), (2, .inl (x2 + 1)), (8, .inl r1), (0, .inr (some 104)), (1, .inl x1), (3, .inl x3), (4, .inl x4), (5, .inl x5), (7, .inl x7)]) d_Se_stainsJoined_53 (by decide) rfl ?_
          exact go_lv [3, 4, 1, 5, 6, 7, 0, 8, 2] rfl (j_Se_stainsJoined_55 l d0 (L_Se_stainsJoined_16 x1 I n) x1 (x2 + 1) x3 x4 x5 x7 x7 r1 I h (fun z2 z3 z4 z5 z6 z7 hh => ih z2 z3 z4 z5 z6 z7 hh hX) hX)
def F_Se_stainsJoined (x1 : Int32) (I : gb_Mem) : Option (Int32) :=
  fbd (L_Se_stainsJoined_16 x1 I 5000 0 (-1) (-1) 0 0 0) fun (o2, o3, o4) =>
  if x1 = 0 then
    some o2
  else
    if x1 = 1 then
      some o3
    else
      some o4
set_option maxRecDepth 4000 in
theorem c_Se_stainsJoined (l : Launch) (d0 : Nat) (x1 : Int32) (I : gb_Mem) {rz : Int32} (h : F_Se_stainsJoined x1 I = some rz) : gb_Cs l ySe_stainsJoined (d0 + 2) [.inr (some 104), .inl x1] shX I (some (.inl rz)) I := by
  refine gb_Ct.of (lv := [(0, .inr (some 104)), (1, .inl x1)]) rfl (Nat.le_of_ble_eq_true rfl) rfl ?_
  unfold F_Se_stainsJoined at h
  show gb_Go l ySe_stainsJoined (d0 + 2) 0 0 0 [(0, .inr (some 104)), (1, .inl x1)] [] shX I (gb_po shX (some (.inl rz)) I)
  refine go_iconst (v := 0) d_Se_stainsJoined_0 (by decide) ?_
  refine go_istore_n (lv' := [(2, .inl 0), (0, .inr (some 104)), (1, .inl x1)]) d_Se_stainsJoined_1 rfl (by decide) rfl ?_
  refine go_iconst (v := (-1)) d_Se_stainsJoined_2 (by decide) ?_
  refine go_istore_n (lv' := [(3, .inl (-1)), (2, .inl 0), (0, .inr (some 104)), (1, .inl x1)]) d_Se_stainsJoined_3 rfl (by decide) rfl ?_
  refine go_iconst (v := (-1)) d_Se_stainsJoined_4 (by decide) ?_
  refine go_istore (lv' := [(4, .inl (-1)), (3, .inl (-1)), (2, .inl 0), (0, .inr (some 104)), (1, .inl x1)]) d_Se_stainsJoined_5 (by decide) rfl ?_
  refine go_iconst (v := 0) d_Se_stainsJoined_7 (by decide) ?_
  refine go_istore (lv' := [(5, .inl 0), (4, .inl (-1)), (3, .inl (-1)), (2, .inl 0), (0, .inr (some 104)), (1, .inl x1)]) d_Se_stainsJoined_8 (by decide) rfl ?_
  refine go_iconst (v := 0) d_Se_stainsJoined_10 (by decide) ?_
  refine go_istore (lv' := [(6, .inl 0), (5, .inl 0), (4, .inl (-1)), (3, .inl (-1)), (2, .inl 0), (0, .inr (some 104)), (1, .inl x1)]) d_Se_stainsJoined_11 (by decide) rfl ?_
  refine go_iconst (v := 0) d_Se_stainsJoined_13 (by decide) ?_
  refine go_istore (lv' := [(7, .inl 0), (6, .inl 0), (5, .inl 0), (4, .inl (-1)), (3, .inl (-1)), (2, .inl 0), (0, .inr (some 104)), (1, .inl x1)]) d_Se_stainsJoined_14 (by decide) rfl ?_
  refine go_lv [6, 7, 5, 4, 3, 2, 1, 0] (lv' := [(0, .inr (some 104)), (1, .inl x1), (2, .inl 0), (3, .inl (-1)), (4, .inl (-1)), (5, .inl 0), (6, .inl 0), (7, .inl 0)]) rfl ?_
  obtain ⟨⟨o2, o3, o4⟩, w1, h⟩ := fbd_e h
  try dsimp only at h
  refine l_Se_stainsJoined_16 l d0 x1 I 5000 0 (-1) (-1) 0 0 0 w1 (fun o2_ o3_ o4_ e => ?_)
  cases e
  refine go_iload_n (k := 0) d_Se_stainsJoined_95 rfl rfl ?_
  refine go_if_ne (tgt := 103) d_Se_stainsJoined_96 (by decide) (fun hc => ?_) (fun hc => ?_)
  · rw [if_neg hc] at h
    refine go_iload_n (k := 0) d_Se_stainsJoined_103 rfl rfl ?_
    refine go_iconst (v := 1) d_Se_stainsJoined_104 (by decide) ?_
    refine go_cmp_ne (tgt := 112) d_Se_stainsJoined_105 (by decide) (fun hc => ?_) (fun hc => ?_)
    · rw [if_neg hc] at h
      refine go_iload (k := 3) d_Se_stainsJoined_112 rfl ?_
      cases h
      exact go_ireturn d_Se_stainsJoined_114 rfl gb_po_i
    · rw [if_pos hc] at h
      refine go_iload_n (k := 2) d_Se_stainsJoined_108 rfl rfl ?_
      refine go_goto (tgt := 114) d_Se_stainsJoined_109 (by decide) ?_
      cases h
      exact go_ireturn d_Se_stainsJoined_114 rfl gb_po_i
  · rw [if_pos hc] at h
    refine go_iload_n (k := 1) d_Se_stainsJoined_99 rfl rfl ?_
    refine go_goto (tgt := 114) d_Se_stainsJoined_100 (by decide) ?_
    cases h
    exact go_ireturn d_Se_stainsJoined_114 rfl gb_po_i
theorem d_Ta_isAtItsShore_0 : decode yTa_isAtItsShore.2.1 0 = .ok (.aload_n 0, 1) := by decide +kernel
theorem d_Ta_isAtItsShore_1 : decode yTa_isAtItsShore.2.1 1 = .ok (.iconst 2, 1) := by decide +kernel
theorem d_Ta_isAtItsShore_2 : decode yTa_isAtItsShore.2.1 2 = .ok (.iload_n 1, 1) := by decide +kernel
theorem d_Ta_isAtItsShore_3 : decode yTa_isAtItsShore.2.1 3 = .ok (.invokevirtual 52, 3) := by decide +kernel
theorem d_Ta_isAtItsShore_6 : decode yTa_isAtItsShore.2.1 6 = .ok (.aload_n 0, 1) := by decide +kernel
theorem d_Ta_isAtItsShore_7 : decode yTa_isAtItsShore.2.1 7 = .ok (.iconst 3, 1) := by decide +kernel
theorem d_Ta_isAtItsShore_8 : decode yTa_isAtItsShore.2.1 8 = .ok (.iload_n 1, 1) := by decide +kernel
theorem d_Ta_isAtItsShore_9 : decode yTa_isAtItsShore.2.1 9 = .ok (.invokevirtual 52, 3) := by decide +kernel
theorem d_Ta_isAtItsShore_12 : decode yTa_isAtItsShore.2.1 12 = .ok (.invokestatic 56, 3) := by decide +kernel
theorem d_Ta_isAtItsShore_15 : decode yTa_isAtItsShore.2.1 15 = .ok (.if_icmp .ne 7, 3) := by decide +kernel
theorem d_Ta_isAtItsShore_18 : decode yTa_isAtItsShore.2.1 18 = .ok (.iconst 1, 1) := by decide +kernel
theorem d_Ta_isAtItsShore_19 : decode yTa_isAtItsShore.2.1 19 = .ok (.goto 4, 3) := by decide +kernel
theorem d_Ta_isAtItsShore_22 : decode yTa_isAtItsShore.2.1 22 = .ok (.iconst 0, 1) := by decide +kernel
theorem d_Ta_isAtItsShore_23 : decode yTa_isAtItsShore.2.1 23 = .ok (.ireturn, 1) := by decide +kernel
def F_Ta_isAtItsShore (h0 : Nat) (x1 : Int32) (I : gb_Mem) : Option (Int32) :=
  fbd (F_Ta_ofBoat h0 2 x1 I) fun r1 =>
  fbd (F_Ta_ofBoat h0 3 x1 I) fun r2 =>
  if r1 = (F_Gb_shoreOf r2 I) then
    some 1
  else
    some 0
set_option maxRecDepth 4000 in
theorem c_Ta_isAtItsShore (l : Launch) (d0 : Nat) (h0 : Nat) (H0 : isTa h0) (x1 : Int32) (I : gb_Mem) {rz : Int32} (h : F_Ta_isAtItsShore h0 x1 I = some rz) : gb_Cs l yTa_isAtItsShore (d0 + 2) [.inr (some h0), .inl x1] shX I (some (.inl rz)) I := by
  refine gb_Ct.of (lv := [(0, .inr (some h0)), (1, .inl x1)]) rfl (Nat.le_of_ble_eq_true rfl) rfl ?_
  unfold F_Ta_isAtItsShore at h
  show gb_Go l yTa_isAtItsShore (d0 + 2) 0 0 0 [(0, .inr (some h0)), (1, .inl x1)] [] shX I (gb_po shX (some (.inl rz)) I)
  refine go_aload_n (k := 0) d_Ta_isAtItsShore_0 rfl rfl ?_
  refine go_iconst (v := 2) d_Ta_isAtItsShore_1 (by decide) ?_
  refine go_iload_n (k := 1) d_Ta_isAtItsShore_2 rfl rfl ?_
  obtain ⟨r1, w1, h⟩ := fbd_e h
  refine go_callV (y := yTa_ofBoat) (asr := [.inl 2, .inl x1]) (v := some (.inl r1)) (I' := I) (st1 := [.inl r1]) d_Ta_isAtItsShore_3 s_yTa_ofBoat m_Ta_52 H0.1 rfl rfl rfl (Nat.le_of_ble_eq_true rfl) rfl rfl (c_Ta_ofBoat l (d0 + 0) h0 H0 2 x1 I w1) ?_
  refine go_aload_n (k := 0) d_Ta_isAtItsShore_6 rfl rfl ?_
  refine go_iconst (v := 3) d_Ta_isAtItsShore_7 (by decide) ?_
  refine go_iload_n (k := 1) d_Ta_isAtItsShore_8 rfl rfl ?_
  obtain ⟨r2, w1, h⟩ := fbd_e h
  refine go_callV (y := yTa_ofBoat) (asr := [.inl 3, .inl x1]) (v := some (.inl r2)) (I' := I) (st1 := [.inl r2, .inl r1]) d_Ta_isAtItsShore_9 s_yTa_ofBoat m_Ta_52 H0.1 rfl rfl rfl (Nat.le_of_ble_eq_true rfl) rfl rfl (c_Ta_ofBoat l (d0 + 0) h0 H0 3 x1 I w1) ?_
  refine go_callSN (y := yGb_shoreOf) (asr := [.inl r2]) (v := some (.inl (F_Gb_shoreOf r2 I))) (I' := I) (st1 := [.inl (F_Gb_shoreOf r2 I), .inl r1]) d_Ta_isAtItsShore_12 s_yGb_shoreOf m_Ta_56 rfl (Nat.le_of_ble_eq_true rfl) rfl rfl (c_Gb_shoreOf l (d0 + 1) r2 I) ?_
  refine go_cmp_ne (tgt := 22) d_Ta_isAtItsShore_15 (by decide) (fun hc => ?_) (fun hc => ?_)
  · rw [if_neg hc] at h
    refine go_iconst (v := 0) d_Ta_isAtItsShore_22 (by decide) ?_
    cases h
    exact go_zreturn d_Ta_isAtItsShore_23 rfl (Or.inl rfl) gb_po_i
  · rw [if_pos hc] at h
    refine go_iconst (v := 1) d_Ta_isAtItsShore_18 (by decide) ?_
    refine go_goto (tgt := 23) d_Ta_isAtItsShore_19 (by decide) ?_
    cases h
    exact go_zreturn d_Ta_isAtItsShore_23 rfl (Or.inr rfl) gb_po_i
theorem d_Ta_sumOf_0 : decode yTa_sumOf.2.1 0 = .ok (.iload_n 1, 1) := by decide +kernel
theorem d_Ta_sumOf_1 : decode yTa_sumOf.2.1 1 = .ok (.iconst 1, 1) := by decide +kernel
theorem d_Ta_sumOf_2 : decode yTa_sumOf.2.1 2 = .ok (.if_icmp .ne 10, 3) := by decide +kernel
theorem d_Ta_sumOf_5 : decode yTa_sumOf.2.1 5 = .ok (.aload_n 0, 1) := by decide +kernel
theorem d_Ta_sumOf_6 : decode yTa_sumOf.2.1 6 = .ok (.getfield 25, 3) := by decide +kernel
theorem d_Ta_sumOf_9 : decode yTa_sumOf.2.1 9 = .ok (.goto 4, 3) := by decide +kernel
theorem d_Ta_sumOf_12 : decode yTa_sumOf.2.1 12 = .ok (.iconst 0, 1) := by decide +kernel
theorem d_Ta_sumOf_13 : decode yTa_sumOf.2.1 13 = .ok (.istore_n 2, 1) := by decide +kernel
theorem d_Ta_sumOf_14 : decode yTa_sumOf.2.1 14 = .ok (.iconst 0, 1) := by decide +kernel
theorem d_Ta_sumOf_15 : decode yTa_sumOf.2.1 15 = .ok (.istore_n 3, 1) := by decide +kernel
theorem d_Ta_sumOf_16 : decode yTa_sumOf.2.1 16 = .ok (.iload_n 1, 1) := by decide +kernel
theorem d_Ta_sumOf_17 : decode yTa_sumOf.2.1 17 = .ok (.ifCond .ne 27, 3) := by decide +kernel
theorem d_Ta_sumOf_20 : decode yTa_sumOf.2.1 20 = .ok (.iload_n 3, 1) := by decide +kernel
theorem d_Ta_sumOf_21 : decode yTa_sumOf.2.1 21 = .ok (.aload_n 0, 1) := by decide +kernel
theorem d_Ta_sumOf_22 : decode yTa_sumOf.2.1 22 = .ok (.getfield 18, 3) := by decide +kernel
theorem d_Ta_sumOf_25 : decode yTa_sumOf.2.1 25 = .ok (.arraylength, 1) := by decide +kernel
theorem d_Ta_sumOf_26 : decode yTa_sumOf.2.1 26 = .ok (.if_icmp .ge 18, 3) := by decide +kernel
theorem d_Ta_sumOf_29 : decode yTa_sumOf.2.1 29 = .ok (.iload_n 2, 1) := by decide +kernel
theorem d_Ta_sumOf_30 : decode yTa_sumOf.2.1 30 = .ok (.aload_n 0, 1) := by decide +kernel
theorem d_Ta_sumOf_31 : decode yTa_sumOf.2.1 31 = .ok (.getfield 18, 3) := by decide +kernel
theorem d_Ta_sumOf_34 : decode yTa_sumOf.2.1 34 = .ok (.iload_n 3, 1) := by decide +kernel
theorem d_Ta_sumOf_35 : decode yTa_sumOf.2.1 35 = .ok (.iaload, 1) := by decide +kernel
theorem d_Ta_sumOf_36 : decode yTa_sumOf.2.1 36 = .ok (.iadd, 1) := by decide +kernel
theorem d_Ta_sumOf_37 : decode yTa_sumOf.2.1 37 = .ok (.istore_n 2, 1) := by decide +kernel
theorem d_Ta_sumOf_38 : decode yTa_sumOf.2.1 38 = .ok (.iinc 3 1, 3) := by decide +kernel
theorem d_Ta_sumOf_41 : decode yTa_sumOf.2.1 41 = .ok (.goto (-25), 3) := by decide +kernel
theorem d_Ta_sumOf_44 : decode yTa_sumOf.2.1 44 = .ok (.iconst 0, 1) := by decide +kernel
theorem d_Ta_sumOf_45 : decode yTa_sumOf.2.1 45 = .ok (.istore_n 3, 1) := by decide +kernel
theorem d_Ta_sumOf_46 : decode yTa_sumOf.2.1 46 = .ok (.iload_n 1, 1) := by decide +kernel
theorem d_Ta_sumOf_47 : decode yTa_sumOf.2.1 47 = .ok (.iconst 2, 1) := by decide +kernel
theorem d_Ta_sumOf_48 : decode yTa_sumOf.2.1 48 = .ok (.if_icmp .ne 24, 3) := by decide +kernel
theorem d_Ta_sumOf_51 : decode yTa_sumOf.2.1 51 = .ok (.iload_n 3, 1) := by decide +kernel
theorem d_Ta_sumOf_52 : decode yTa_sumOf.2.1 52 = .ok (.bipush 12, 2) := by decide +kernel
theorem d_Ta_sumOf_54 : decode yTa_sumOf.2.1 54 = .ok (.if_icmp .ge 18, 3) := by decide +kernel
theorem d_Ta_sumOf_57 : decode yTa_sumOf.2.1 57 = .ok (.iload_n 2, 1) := by decide +kernel
theorem d_Ta_sumOf_58 : decode yTa_sumOf.2.1 58 = .ok (.aload_n 0, 1) := by decide +kernel
theorem d_Ta_sumOf_59 : decode yTa_sumOf.2.1 59 = .ok (.iconst 4, 1) := by decide +kernel
theorem d_Ta_sumOf_60 : decode yTa_sumOf.2.1 60 = .ok (.iload_n 3, 1) := by decide +kernel
theorem d_Ta_sumOf_61 : decode yTa_sumOf.2.1 61 = .ok (.invokevirtual 69, 3) := by decide +kernel
theorem d_Ta_sumOf_64 : decode yTa_sumOf.2.1 64 = .ok (.iadd, 1) := by decide +kernel
theorem d_Ta_sumOf_65 : decode yTa_sumOf.2.1 65 = .ok (.istore_n 2, 1) := by decide +kernel
theorem d_Ta_sumOf_66 : decode yTa_sumOf.2.1 66 = .ok (.iinc 3 1, 3) := by decide +kernel
theorem d_Ta_sumOf_69 : decode yTa_sumOf.2.1 69 = .ok (.goto (-23), 3) := by decide +kernel
theorem d_Ta_sumOf_72 : decode yTa_sumOf.2.1 72 = .ok (.iconst 0, 1) := by decide +kernel
theorem d_Ta_sumOf_73 : decode yTa_sumOf.2.1 73 = .ok (.istore_n 3, 1) := by decide +kernel
theorem d_Ta_sumOf_74 : decode yTa_sumOf.2.1 74 = .ok (.iload_n 1, 1) := by decide +kernel
theorem d_Ta_sumOf_75 : decode yTa_sumOf.2.1 75 = .ok (.iconst 3, 1) := by decide +kernel
theorem d_Ta_sumOf_76 : decode yTa_sumOf.2.1 76 = .ok (.if_icmp .ne 26, 3) := by decide +kernel
theorem d_Ta_sumOf_79 : decode yTa_sumOf.2.1 79 = .ok (.iload_n 3, 1) := by decide +kernel
theorem d_Ta_sumOf_80 : decode yTa_sumOf.2.1 80 = .ok (.aload_n 0, 1) := by decide +kernel
theorem d_Ta_sumOf_81 : decode yTa_sumOf.2.1 81 = .ok (.getfield 37, 3) := by decide +kernel
theorem d_Ta_sumOf_84 : decode yTa_sumOf.2.1 84 = .ok (.if_icmp .ge 18, 3) := by decide +kernel
theorem d_Ta_sumOf_87 : decode yTa_sumOf.2.1 87 = .ok (.iload_n 2, 1) := by decide +kernel
theorem d_Ta_sumOf_88 : decode yTa_sumOf.2.1 88 = .ok (.aload_n 0, 1) := by decide +kernel
theorem d_Ta_sumOf_89 : decode yTa_sumOf.2.1 89 = .ok (.iconst 4, 1) := by decide +kernel
theorem d_Ta_sumOf_90 : decode yTa_sumOf.2.1 90 = .ok (.iload_n 3, 1) := by decide +kernel
theorem d_Ta_sumOf_91 : decode yTa_sumOf.2.1 91 = .ok (.invokevirtual 52, 3) := by decide +kernel
theorem d_Ta_sumOf_94 : decode yTa_sumOf.2.1 94 = .ok (.iadd, 1) := by decide +kernel
theorem d_Ta_sumOf_95 : decode yTa_sumOf.2.1 95 = .ok (.istore_n 2, 1) := by decide +kernel
theorem d_Ta_sumOf_96 : decode yTa_sumOf.2.1 96 = .ok (.iinc 3 1, 3) := by decide +kernel
theorem d_Ta_sumOf_99 : decode yTa_sumOf.2.1 99 = .ok (.goto (-25), 3) := by decide +kernel
theorem d_Ta_sumOf_102 : decode yTa_sumOf.2.1 102 = .ok (.iload_n 2, 1) := by decide +kernel
theorem d_Ta_sumOf_103 : decode yTa_sumOf.2.1 103 = .ok (.ireturn, 1) := by decide +kernel
def L_Ta_sumOf_16 (h0 : Nat) (x1 : Int32) (I : gb_Mem) : Nat → Int32 → Int32 → Option (Int32)
  | 0, _, _ => none
  | n + 1, x2, x3 =>
    if x1 = 0 then
      if 10 ≤ x3 then
        some x2
      else
        flod I (h0 + 3) 10 x3 fun v1 =>
        L_Ta_sumOf_16 h0 x1 I n (x2 + v1) (x3 + 1)
    else
      some x2
set_option maxRecDepth 4000 in
theorem l_Ta_sumOf_16 (l : Launch) (d0 : Nat) (h0 : Nat) (H0 : isTa h0) (x1 : Int32) (I : gb_Mem) {post : Option gb_AV → List gb_Ce → gb_Mem → Prop} : ∀ (n : Nat) (x2 x3 : Int32) {ρ : Int32} (h : L_Ta_sumOf_16 h0 x1 I n x2 x3 = some ρ) (hX : ∀ (o2 : Int32), ρ = o2 → gb_Go l yTa_sumOf (d0 + 2) 0 0 44 [(0, .inr (some h0)), (1, .inl x1), (2, .inl o2)] [] shX I post) , gb_Go l yTa_sumOf (d0 + 2) 0 0 16 [(0, .inr (some h0)), (1, .inl x1), (2, .inl x2), (3, .inl x3)] [] shX I post := by
  intro n
  induction n with
  | zero => intro x2 x3 ρ h hX; cases h
  | succ n ih =>
    intro x2 x3 ρ h hX
    rw [L_Ta_sumOf_16] at h
    refine go_iload_n (k := 1) d_Ta_sumOf_16 rfl rfl ?_
    refine go_if_ne (tgt := 44) d_Ta_sumOf_17 (by decide) (fun hc => ?_) (fun hc => ?_)
    · rw [if_neg hc] at h
      exact go_lv [0, 1, 2] rfl (hX _ (Option.some.inj h).symm)
    · rw [if_pos hc] at h
      refine go_iload_n (k := 3) d_Ta_sumOf_20 rfl rfl ?_
      refine go_aload_n (k := 0) d_Ta_sumOf_21 rfl rfl ?_
      refine go_getr (ci := 2) (k := 8) (r := (h0 + 3)) d_Ta_sumOf_22 H0.1 rfl (by decide) f_Ta_18 rfl ?_
      refine go_alen d_Ta_sumOf_25 H0.2.2.2 ?_
      refine go_top (v := 10) rfl ?_
      refine go_cmp_ge (tgt := 44) d_Ta_sumOf_26 (by decide) (fun hc => ?_) (fun hc => ?_)
      · rw [if_pos hc] at h
        exact go_lv [0, 1, 2] rfl (hX _ (Option.some.inj h).symm)
      · rw [if_neg hc] at h
        refine go_iload_n (k := 2) d_Ta_sumOf_29 rfl rfl ?_
        refine go_aload_n (k := 0) d_Ta_sumOf_30 rfl rfl ?_
        refine go_getr (ci := 2) (k := 8) (r := (h0 + 3)) d_Ta_sumOf_31 H0.1 rfl (by decide) f_Ta_18 rfl ?_
        refine go_iload_n (k := 3) d_Ta_sumOf_34 rfl rfl ?_
        obtain ⟨hi, v1, ev1, h⟩ := flod_e h
        refine go_iald2 d_Ta_sumOf_35 H0.2.2.2 hi ev1 ?_
        refine go_iadd d_Ta_sumOf_36 ?_
        refine go_istore_n (lv' := [(2, .inl (x2 + v1)), (0, .inr (some h0)), (1, .inl x1), (3, .inl x3)]) d_Ta_sumOf_37 rfl (by decide) rfl ?_
        refine go_iinc (k := 3) (v := x3 + 1) (lv' := [(3, .inl (x3 + 1)), (2, .inl (x2 + v1)), (0, .inr (some h0)), (1, .inl x1)]) d_Ta_sumOf_38 rfl rfl (by decide) rfl ?_
        refine go_goto (tgt := 16) d_Ta_sumOf_41 (by decide) ?_
        exact go_lv [2, 3, 1, 0] rfl (ih (x2 + v1) (x3 + 1) h hX)
def L_Ta_sumOf_46 (h0 : Nat) (x1 : Int32) (I : gb_Mem) : Nat → Int32 → Int32 → Option (Int32)
  | 0, _, _ => none
  | n + 1, x2, x3 =>
    if x1 = 2 then
      if 12 ≤ x3 then
        some x2
      else
        fbd (F_Ta_ofSeat h0 4 x3 I) fun r3 =>
        L_Ta_sumOf_46 h0 x1 I n (x2 + r3) (x3 + 1)
    else
      some x2
set_option maxRecDepth 4000 in
theorem l_Ta_sumOf_46 (l : Launch) (d0 : Nat) (h0 : Nat) (H0 : isTa h0) (x1 : Int32) (I : gb_Mem) {post : Option gb_AV → List gb_Ce → gb_Mem → Prop} : ∀ (n : Nat) (x2 x3 : Int32) {ρ : Int32} (h : L_Ta_sumOf_46 h0 x1 I n x2 x3 = some ρ) (hX : ∀ (o2 : Int32), ρ = o2 → gb_Go l yTa_sumOf (d0 + 2) 0 0 72 [(0, .inr (some h0)), (1, .inl x1), (2, .inl o2)] [] shX I post) , gb_Go l yTa_sumOf (d0 + 2) 0 0 46 [(0, .inr (some h0)), (1, .inl x1), (2, .inl x2), (3, .inl x3)] [] shX I post := by
  intro n
  induction n with
  | zero => intro x2 x3 ρ h hX; cases h
  | succ n ih =>
    intro x2 x3 ρ h hX
    rw [L_Ta_sumOf_46] at h
    refine go_iload_n (k := 1) d_Ta_sumOf_46 rfl rfl ?_
    refine go_iconst (v := 2) d_Ta_sumOf_47 (by decide) ?_
    refine go_cmp_ne (tgt := 72) d_Ta_sumOf_48 (by decide) (fun hc => ?_) (fun hc => ?_)
    · rw [if_neg hc] at h
      exact go_lv [0, 1, 2] rfl (hX _ (Option.some.inj h).symm)
    · rw [if_pos hc] at h
      refine go_iload_n (k := 3) d_Ta_sumOf_51 rfl rfl ?_
      refine go_bipush (v := 12) d_Ta_sumOf_52 (by decide) ?_
      refine go_cmp_ge (tgt := 72) d_Ta_sumOf_54 (by decide) (fun hc => ?_) (fun hc => ?_)
      · rw [if_pos hc] at h
        exact go_lv [0, 1, 2] rfl (hX _ (Option.some.inj h).symm)
      · rw [if_neg hc] at h
        refine go_iload_n (k := 2) d_Ta_sumOf_57 rfl rfl ?_
        refine go_aload_n (k := 0) d_Ta_sumOf_58 rfl rfl ?_
        refine go_iconst (v := 4) d_Ta_sumOf_59 (by decide) ?_
        refine go_iload_n (k := 3) d_Ta_sumOf_60 rfl rfl ?_
        obtain ⟨r3, w1, h⟩ := fbd_e h
        refine go_callV (y := yTa_ofSeat) (asr := [.inl 4, .inl x3]) (v := some (.inl r3)) (I' := I) (st1 := [.inl r3, .inl x2]) d_Ta_sumOf_61 s_yTa_ofSeat m_Ta_69 H0.1 rfl rfl rfl (Nat.le_of_ble_eq_true rfl) rfl rfl (c_Ta_ofSeat l (d0 + 0) h0 H0 4 x3 I w1) ?_
        refine go_iadd d_Ta_sumOf_64 ?_
        refine go_istore_n (lv' := [(2, .inl (x2 + r3)), (0, .inr (some h0)), (1, .inl x1), (3, .inl x3)]) d_Ta_sumOf_65 rfl (by decide) rfl ?_
        refine go_iinc (k := 3) (v := x3 + 1) (lv' := [(3, .inl (x3 + 1)), (2, .inl (x2 + r3)), (0, .inr (some h0)), (1, .inl x1)]) d_Ta_sumOf_66 rfl rfl (by decide) rfl ?_
        refine go_goto (tgt := 46) d_Ta_sumOf_69 (by decide) ?_
        exact go_lv [2, 3, 1, 0] rfl (ih (x2 + r3) (x3 + 1) h hX)
def L_Ta_sumOf_74 (h0 : Nat) (x1 : Int32) (I : gb_Mem) : Nat → Int32 → Int32 → Option (Int32)
  | 0, _, _ => none
  | n + 1, x2, x3 =>
    if x1 = 3 then
      if (I h0 5) ≤ x3 then
        some x2
      else
        fbd (F_Ta_ofBoat h0 4 x3 I) fun r5 =>
        L_Ta_sumOf_74 h0 x1 I n (x2 + r5) (x3 + 1)
    else
      some x2
set_option maxRecDepth 4000 in
theorem l_Ta_sumOf_74 (l : Launch) (d0 : Nat) (h0 : Nat) (H0 : isTa h0) (x1 : Int32) (I : gb_Mem) {post : Option gb_AV → List gb_Ce → gb_Mem → Prop} : ∀ (n : Nat) (x2 x3 : Int32) {ρ : Int32} (h : L_Ta_sumOf_74 h0 x1 I n x2 x3 = some ρ) (hX : ∀ (o2 : Int32), ρ = o2 → gb_Go l yTa_sumOf (d0 + 2) 0 0 102 [(2, .inl o2)] [] shX I post) , gb_Go l yTa_sumOf (d0 + 2) 0 0 74 [(0, .inr (some h0)), (1, .inl x1), (2, .inl x2), (3, .inl x3)] [] shX I post := by
  intro n
  induction n with
  | zero => intro x2 x3 ρ h hX; cases h
  | succ n ih =>
    intro x2 x3 ρ h hX
    rw [L_Ta_sumOf_74] at h
    refine go_iload_n (k := 1) d_Ta_sumOf_74 rfl rfl ?_
    refine go_iconst (v := 3) d_Ta_sumOf_75 (by decide) ?_
    refine go_cmp_ne (tgt := 102) d_Ta_sumOf_76 (by decide) (fun hc => ?_) (fun hc => ?_)
    · rw [if_neg hc] at h
      exact go_lv [2] rfl (hX _ (Option.some.inj h).symm)
    · rw [if_pos hc] at h
      refine go_iload_n (k := 3) d_Ta_sumOf_79 rfl rfl ?_
      refine go_aload_n (k := 0) d_Ta_sumOf_80 rfl rfl ?_
      refine go_geti (ci := 2) (k := 5) d_Ta_sumOf_81 H0.1 rfl (by decide) f_Ta_37 rfl ?_
      refine go_cmp_ge (tgt := 102) d_Ta_sumOf_84 (by decide) (fun hc => ?_) (fun hc => ?_)
      · rw [if_pos hc] at h
        exact go_lv [2] rfl (hX _ (Option.some.inj h).symm)
      · rw [if_neg hc] at h
        refine go_iload_n (k := 2) d_Ta_sumOf_87 rfl rfl ?_
        refine go_aload_n (k := 0) d_Ta_sumOf_88 rfl rfl ?_
        refine go_iconst (v := 4) d_Ta_sumOf_89 (by decide) ?_
        refine go_iload_n (k := 3) d_Ta_sumOf_90 rfl rfl ?_
        obtain ⟨r5, w1, h⟩ := fbd_e h
        refine go_callV (y := yTa_ofBoat) (asr := [.inl 4, .inl x3]) (v := some (.inl r5)) (I' := I) (st1 := [.inl r5, .inl x2]) d_Ta_sumOf_91 s_yTa_ofBoat m_Ta_52 H0.1 rfl rfl rfl (Nat.le_of_ble_eq_true rfl) rfl rfl (c_Ta_ofBoat l (d0 + 0) h0 H0 4 x3 I w1) ?_
        refine go_iadd d_Ta_sumOf_94 ?_
        refine go_istore_n (lv' := [(2, .inl (x2 + r5)), (0, .inr (some h0)), (1, .inl x1), (3, .inl x3)]) d_Ta_sumOf_95 rfl (by decide) rfl ?_
        refine go_iinc (k := 3) (v := x3 + 1) (lv' := [(3, .inl (x3 + 1)), (2, .inl (x2 + r5)), (0, .inr (some h0)), (1, .inl x1)]) d_Ta_sumOf_96 rfl rfl (by decide) rfl ?_
        refine go_goto (tgt := 74) d_Ta_sumOf_99 (by decide) ?_
        exact go_lv [2, 3, 1, 0] rfl (ih (x2 + r5) (x3 + 1) h hX)
def J_Ta_sumOf_72 (h0 : Nat) (x1 x2 : Int32) (I : gb_Mem) : Option (Int32) :=
  fbd (L_Ta_sumOf_74 h0 x1 I 5000 x2 0) fun o6 =>
  some o6
set_option maxRecDepth 4000 in
theorem j_Ta_sumOf_72 (l : Launch) (d0 : Nat) (h0 : Nat) (H0 : isTa h0) (x1 x2 : Int32) (I : gb_Mem) {rz : Int32} (h : J_Ta_sumOf_72 h0 x1 x2 I = some rz) : gb_Go l yTa_sumOf (d0 + 2) 0 0 72 [(0, .inr (some h0)), (1, .inl x1), (2, .inl x2)] [] shX I (gb_po shX (some (.inl rz)) I) := by
  unfold J_Ta_sumOf_72 at h
  refine go_iconst (v := 0) d_Ta_sumOf_72 (by decide) ?_
  refine go_istore_n (lv' := [(3, .inl 0), (0, .inr (some h0)), (1, .inl x1), (2, .inl x2)]) d_Ta_sumOf_73 rfl (by decide) rfl ?_
  refine go_lv [1, 2, 3, 0] (lv' := [(0, .inr (some h0)), (1, .inl x1), (2, .inl x2), (3, .inl 0)]) rfl ?_
  obtain ⟨o6, w1, h⟩ := fbd_e h
  refine l_Ta_sumOf_74 l d0 h0 H0 x1 I 5000 x2 0 w1 (fun o6_ e => ?_)
  cases e
  refine go_iload_n (k := 0) d_Ta_sumOf_102 rfl rfl ?_
  cases h
  exact go_ireturn d_Ta_sumOf_103 rfl gb_po_i
def J_Ta_sumOf_44 (h0 : Nat) (x1 x2 : Int32) (I : gb_Mem) : Option (Int32) :=
  fbd (L_Ta_sumOf_46 h0 x1 I 5000 x2 0) fun o4 =>
  J_Ta_sumOf_72 h0 x1 o4 I
set_option maxRecDepth 4000 in
theorem j_Ta_sumOf_44 (l : Launch) (d0 : Nat) (h0 : Nat) (H0 : isTa h0) (x1 x2 : Int32) (I : gb_Mem) {rz : Int32} (h : J_Ta_sumOf_44 h0 x1 x2 I = some rz) : gb_Go l yTa_sumOf (d0 + 2) 0 0 44 [(0, .inr (some h0)), (1, .inl x1), (2, .inl x2)] [] shX I (gb_po shX (some (.inl rz)) I) := by
  unfold J_Ta_sumOf_44 at h
  refine go_iconst (v := 0) d_Ta_sumOf_44 (by decide) ?_
  refine go_istore_n (lv' := [(3, .inl 0), (0, .inr (some h0)), (1, .inl x1), (2, .inl x2)]) d_Ta_sumOf_45 rfl (by decide) rfl ?_
  refine go_lv [1, 2, 3, 0] (lv' := [(0, .inr (some h0)), (1, .inl x1), (2, .inl x2), (3, .inl 0)]) rfl ?_
  obtain ⟨o4, w1, h⟩ := fbd_e h
  refine l_Ta_sumOf_46 l d0 h0 H0 x1 I 5000 x2 0 w1 (fun o4_ e => ?_)
  cases e
  exact go_lv [0, 1, 2] rfl (j_Ta_sumOf_72 l d0 h0 H0 x1 o4 I h)
def J_Ta_sumOf_13 (h0 : Nat) (x1 s0 : Int32) (I : gb_Mem) : Option (Int32) :=
  fbd (L_Ta_sumOf_16 h0 x1 I 5000 s0 0) fun o2 =>
  J_Ta_sumOf_44 h0 x1 o2 I
set_option maxRecDepth 4000 in
theorem j_Ta_sumOf_13 (l : Launch) (d0 : Nat) (h0 : Nat) (H0 : isTa h0) (x1 s0 : Int32) (I : gb_Mem) {rz : Int32} (h : J_Ta_sumOf_13 h0 x1 s0 I = some rz) : gb_Go l yTa_sumOf (d0 + 2) 0 0 13 [(0, .inr (some h0)), (1, .inl x1)] [.inl s0] shX I (gb_po shX (some (.inl rz)) I) := by
  unfold J_Ta_sumOf_13 at h
  refine go_istore_n (lv' := [(2, .inl s0), (0, .inr (some h0)), (1, .inl x1)]) d_Ta_sumOf_13 rfl (by decide) rfl ?_
  refine go_iconst (v := 0) d_Ta_sumOf_14 (by decide) ?_
  refine go_istore_n (lv' := [(3, .inl 0), (2, .inl s0), (0, .inr (some h0)), (1, .inl x1)]) d_Ta_sumOf_15 rfl (by decide) rfl ?_
  refine go_lv [2, 3, 1, 0] (lv' := [(0, .inr (some h0)), (1, .inl x1), (2, .inl s0), (3, .inl 0)]) rfl ?_
  obtain ⟨o2, w1, h⟩ := fbd_e h
  refine l_Ta_sumOf_16 l d0 h0 H0 x1 I 5000 s0 0 w1 (fun o2_ e => ?_)
  cases e
  exact go_lv [0, 1, 2] rfl (j_Ta_sumOf_44 l d0 h0 H0 x1 o2 I h)
def F_Ta_sumOf (h0 : Nat) (x1 : Int32) (I : gb_Mem) : Option (Int32) :=
  if x1 = 1 then
    J_Ta_sumOf_13 h0 x1 (I h0 1) I
  else
    J_Ta_sumOf_13 h0 x1 0 I
set_option maxRecDepth 4000 in
theorem c_Ta_sumOf (l : Launch) (d0 : Nat) (h0 : Nat) (H0 : isTa h0) (x1 : Int32) (I : gb_Mem) {rz : Int32} (h : F_Ta_sumOf h0 x1 I = some rz) : gb_Cs l yTa_sumOf (d0 + 2) [.inr (some h0), .inl x1] shX I (some (.inl rz)) I := by
  refine gb_Ct.of (lv := [(0, .inr (some h0)), (1, .inl x1)]) rfl (Nat.le_of_ble_eq_true rfl) rfl ?_
  unfold F_Ta_sumOf at h
  show gb_Go l yTa_sumOf (d0 + 2) 0 0 0 [(0, .inr (some h0)), (1, .inl x1)] [] shX I (gb_po shX (some (.inl rz)) I)
  refine go_iload_n (k := 1) d_Ta_sumOf_0 rfl rfl ?_
  refine go_iconst (v := 1) d_Ta_sumOf_1 (by decide) ?_
  refine go_cmp_ne (tgt := 12) d_Ta_sumOf_2 (by decide) (fun hc => ?_) (fun hc => ?_)
  · rw [if_neg hc] at h
    refine go_iconst (v := 0) d_Ta_sumOf_12 (by decide) ?_
    exact go_lv [0, 1] rfl (j_Ta_sumOf_13 l d0 h0 H0 x1 0 I h)
  · rw [if_pos hc] at h
    refine go_aload_n (k := 0) d_Ta_sumOf_5 rfl rfl ?_
    refine go_geti (ci := 2) (k := 1) d_Ta_sumOf_6 H0.1 rfl (by decide) f_Ta_25 rfl ?_
    refine go_goto (tgt := 13) d_Ta_sumOf_9 (by decide) ?_
    exact go_lv [0, 1] rfl (j_Ta_sumOf_13 l d0 h0 H0 x1 (I h0 1) I h)
theorem d_Ta_thickenSkin_0 : decode yTa_thickenSkin.2.1 0 = .ok (.aload_n 0, 1) := by decide +kernel
theorem d_Ta_thickenSkin_1 : decode yTa_thickenSkin.2.1 1 = .ok (.iconst 4, 1) := by decide +kernel
theorem d_Ta_thickenSkin_2 : decode yTa_thickenSkin.2.1 2 = .ok (.iload_n 1, 1) := by decide +kernel
theorem d_Ta_thickenSkin_3 : decode yTa_thickenSkin.2.1 3 = .ok (.bipush 9, 2) := by decide +kernel
theorem d_Ta_thickenSkin_5 : decode yTa_thickenSkin.2.1 5 = .ok (.aload_n 0, 1) := by decide +kernel
theorem d_Ta_thickenSkin_6 : decode yTa_thickenSkin.2.1 6 = .ok (.iconst 4, 1) := by decide +kernel
theorem d_Ta_thickenSkin_7 : decode yTa_thickenSkin.2.1 7 = .ok (.iload_n 1, 1) := by decide +kernel
theorem d_Ta_thickenSkin_8 : decode yTa_thickenSkin.2.1 8 = .ok (.invokevirtual 52, 3) := by decide +kernel
theorem d_Ta_thickenSkin_11 : decode yTa_thickenSkin.2.1 11 = .ok (.iconst 1, 1) := by decide +kernel
theorem d_Ta_thickenSkin_12 : decode yTa_thickenSkin.2.1 12 = .ok (.iadd, 1) := by decide +kernel
theorem d_Ta_thickenSkin_13 : decode yTa_thickenSkin.2.1 13 = .ok (.invokestatic 60, 3) := by decide +kernel
theorem d_Ta_thickenSkin_16 : decode yTa_thickenSkin.2.1 16 = .ok (.invokevirtual 65, 3) := by decide +kernel
theorem d_Ta_thickenSkin_19 : decode yTa_thickenSkin.2.1 19 = .ok (.return_, 1) := by decide +kernel
def F_Ta_thickenSkin (h0 : Nat) (x1 : Int32) (I : gb_Mem) : Option (gb_Mem) :=
  fbd (F_Ta_ofBoat h0 4 x1 I) fun r1 =>
  fbd (F_Ta_putBoat h0 4 x1 (mn 9 (r1 + 1)) I) fun I2 =>
  some I2
set_option maxRecDepth 4000 in
theorem c_Ta_thickenSkin (l : Launch) (d0 : Nat) (h0 : Nat) (H0 : isTa h0) (x1 : Int32) (I : gb_Mem) {Iz : gb_Mem} (h : F_Ta_thickenSkin h0 x1 I = some Iz) : gb_Cs l yTa_thickenSkin (d0 + 2) [.inr (some h0), .inl x1] shX I none Iz := by
  refine gb_Ct.of (lv := [(0, .inr (some h0)), (1, .inl x1)]) rfl (Nat.le_of_ble_eq_true rfl) rfl ?_
  unfold F_Ta_thickenSkin at h
  show gb_Go l yTa_thickenSkin (d0 + 2) 0 0 0 [(0, .inr (some h0)), (1, .inl x1)] [] shX I (gb_po shX none Iz)
  refine go_aload_n (k := 0) d_Ta_thickenSkin_0 rfl rfl ?_
  refine go_iconst (v := 4) d_Ta_thickenSkin_1 (by decide) ?_
  refine go_iload_n (k := 1) d_Ta_thickenSkin_2 rfl rfl ?_
  refine go_bipush (v := 9) d_Ta_thickenSkin_3 (by decide) ?_
  refine go_aload_n (k := 0) d_Ta_thickenSkin_5 rfl rfl ?_
  refine go_iconst (v := 4) d_Ta_thickenSkin_6 (by decide) ?_
  refine go_iload_n (k := 1) d_Ta_thickenSkin_7 rfl rfl ?_
  obtain ⟨r1, w1, h⟩ := fbd_e h
  refine go_callV (y := yTa_ofBoat) (asr := [.inl 4, .inl x1]) (v := some (.inl r1)) (I' := I) (st1 := [.inl r1, .inl 9, .inl x1, .inl 4, .inr (some h0)]) d_Ta_thickenSkin_8 s_yTa_ofBoat m_Ta_52 H0.1 rfl rfl rfl (Nat.le_of_ble_eq_true rfl) rfl rfl (c_Ta_ofBoat l (d0 + 0) h0 H0 4 x1 I w1) ?_
  refine go_iconst (v := 1) d_Ta_thickenSkin_11 (by decide) ?_
  refine go_iadd d_Ta_thickenSkin_12 ?_
  refine go_mmin d_Ta_thickenSkin_13 m_Ta_60 (Nat.le_of_ble_eq_true rfl) ?_
  obtain ⟨I2, w1, h⟩ := fbd_e h
  refine go_callV (y := yTa_putBoat) (asr := [.inl 4, .inl x1, .inl (mn 9 (r1 + 1))]) (v := none) (I' := I2) (st1 := []) d_Ta_thickenSkin_16 s_yTa_putBoat m_Ta_65 H0.1 rfl rfl rfl (Nat.le_of_ble_eq_true rfl) rfl rfl (c_Ta_putBoat l (d0 + 0) h0 H0 4 x1 (mn 9 (r1 + 1)) I w1) ?_
  cases h
  exact go_return d_Ta_thickenSkin_19 rfl gb_po_i
theorem d_Ta_turn_0 : decode yTa_turn.2.1 0 = .ok (.aload_n 0, 1) := by decide +kernel
theorem d_Ta_turn_1 : decode yTa_turn.2.1 1 = .ok (.iconst 3, 1) := by decide +kernel
theorem d_Ta_turn_2 : decode yTa_turn.2.1 2 = .ok (.iload_n 1, 1) := by decide +kernel
theorem d_Ta_turn_3 : decode yTa_turn.2.1 3 = .ok (.iconst 1, 1) := by decide +kernel
theorem d_Ta_turn_4 : decode yTa_turn.2.1 4 = .ok (.aload_n 0, 1) := by decide +kernel
theorem d_Ta_turn_5 : decode yTa_turn.2.1 5 = .ok (.iconst 3, 1) := by decide +kernel
theorem d_Ta_turn_6 : decode yTa_turn.2.1 6 = .ok (.iload_n 1, 1) := by decide +kernel
theorem d_Ta_turn_7 : decode yTa_turn.2.1 7 = .ok (.invokevirtual 52, 3) := by decide +kernel
theorem d_Ta_turn_10 : decode yTa_turn.2.1 10 = .ok (.isub, 1) := by decide +kernel
theorem d_Ta_turn_11 : decode yTa_turn.2.1 11 = .ok (.invokevirtual 65, 3) := by decide +kernel
theorem d_Ta_turn_14 : decode yTa_turn.2.1 14 = .ok (.return_, 1) := by decide +kernel
def F_Ta_turn (h0 : Nat) (x1 : Int32) (I : gb_Mem) : Option (gb_Mem) :=
  fbd (F_Ta_ofBoat h0 3 x1 I) fun r1 =>
  fbd (F_Ta_putBoat h0 3 x1 (1 - r1) I) fun I2 =>
  some I2
set_option maxRecDepth 4000 in
theorem c_Ta_turn (l : Launch) (d0 : Nat) (h0 : Nat) (H0 : isTa h0) (x1 : Int32) (I : gb_Mem) {Iz : gb_Mem} (h : F_Ta_turn h0 x1 I = some Iz) : gb_Cs l yTa_turn (d0 + 2) [.inr (some h0), .inl x1] shX I none Iz := by
  refine gb_Ct.of (lv := [(0, .inr (some h0)), (1, .inl x1)]) rfl (Nat.le_of_ble_eq_true rfl) rfl ?_
  unfold F_Ta_turn at h
  show gb_Go l yTa_turn (d0 + 2) 0 0 0 [(0, .inr (some h0)), (1, .inl x1)] [] shX I (gb_po shX none Iz)
  refine go_aload_n (k := 0) d_Ta_turn_0 rfl rfl ?_
  refine go_iconst (v := 3) d_Ta_turn_1 (by decide) ?_
  refine go_iload_n (k := 1) d_Ta_turn_2 rfl rfl ?_
  refine go_iconst (v := 1) d_Ta_turn_3 (by decide) ?_
  refine go_aload_n (k := 0) d_Ta_turn_4 rfl rfl ?_
  refine go_iconst (v := 3) d_Ta_turn_5 (by decide) ?_
  refine go_iload_n (k := 1) d_Ta_turn_6 rfl rfl ?_
  obtain ⟨r1, w1, h⟩ := fbd_e h
  refine go_callV (y := yTa_ofBoat) (asr := [.inl 3, .inl x1]) (v := some (.inl r1)) (I' := I) (st1 := [.inl r1, .inl 1, .inl x1, .inl 3, .inr (some h0)]) d_Ta_turn_7 s_yTa_ofBoat m_Ta_52 H0.1 rfl rfl rfl (Nat.le_of_ble_eq_true rfl) rfl rfl (c_Ta_ofBoat l (d0 + 0) h0 H0 3 x1 I w1) ?_
  refine go_isub d_Ta_turn_10 ?_
  obtain ⟨I2, w1, h⟩ := fbd_e h
  refine go_callV (y := yTa_putBoat) (asr := [.inl 3, .inl x1, .inl (1 - r1)]) (v := none) (I' := I2) (st1 := []) d_Ta_turn_11 s_yTa_putBoat m_Ta_65 H0.1 rfl rfl rfl (Nat.le_of_ble_eq_true rfl) rfl rfl (c_Ta_putBoat l (d0 + 0) h0 H0 3 x1 (1 - r1) I w1) ?_
  cases h
  exact go_return d_Ta_turn_14 rfl gb_po_i
theorem d_Wo_copyFrom_0 : decode yWo_copyFrom.2.1 0 = .ok (.aload_n 0, 1) := by decide +kernel
theorem d_Wo_copyFrom_1 : decode yWo_copyFrom.2.1 1 = .ok (.getfield 12, 3) := by decide +kernel
theorem d_Wo_copyFrom_4 : decode yWo_copyFrom.2.1 4 = .ok (.aload_n 1, 1) := by decide +kernel
theorem d_Wo_copyFrom_5 : decode yWo_copyFrom.2.1 5 = .ok (.getfield 12, 3) := by decide +kernel
theorem d_Wo_copyFrom_8 : decode yWo_copyFrom.2.1 8 = .ok (.invokevirtual 67, 3) := by decide +kernel
theorem d_Wo_copyFrom_11 : decode yWo_copyFrom.2.1 11 = .ok (.aload_n 0, 1) := by decide +kernel
theorem d_Wo_copyFrom_12 : decode yWo_copyFrom.2.1 12 = .ok (.getfield 21, 3) := by decide +kernel
theorem d_Wo_copyFrom_15 : decode yWo_copyFrom.2.1 15 = .ok (.aload_n 1, 1) := by decide +kernel
theorem d_Wo_copyFrom_16 : decode yWo_copyFrom.2.1 16 = .ok (.getfield 21, 3) := by decide +kernel
theorem d_Wo_copyFrom_19 : decode yWo_copyFrom.2.1 19 = .ok (.invokevirtual 71, 3) := by decide +kernel
theorem d_Wo_copyFrom_22 : decode yWo_copyFrom.2.1 22 = .ok (.aload_n 0, 1) := by decide +kernel
theorem d_Wo_copyFrom_23 : decode yWo_copyFrom.2.1 23 = .ok (.getfield 30, 3) := by decide +kernel
theorem d_Wo_copyFrom_26 : decode yWo_copyFrom.2.1 26 = .ok (.aload_n 1, 1) := by decide +kernel
theorem d_Wo_copyFrom_27 : decode yWo_copyFrom.2.1 27 = .ok (.getfield 30, 3) := by decide +kernel
theorem d_Wo_copyFrom_30 : decode yWo_copyFrom.2.1 30 = .ok (.invokevirtual 74, 3) := by decide +kernel
theorem d_Wo_copyFrom_33 : decode yWo_copyFrom.2.1 33 = .ok (.aload_n 0, 1) := by decide +kernel
theorem d_Wo_copyFrom_34 : decode yWo_copyFrom.2.1 34 = .ok (.getfield 34, 3) := by decide +kernel
theorem d_Wo_copyFrom_37 : decode yWo_copyFrom.2.1 37 = .ok (.aload_n 1, 1) := by decide +kernel
theorem d_Wo_copyFrom_38 : decode yWo_copyFrom.2.1 38 = .ok (.getfield 34, 3) := by decide +kernel
theorem d_Wo_copyFrom_41 : decode yWo_copyFrom.2.1 41 = .ok (.invokevirtual 74, 3) := by decide +kernel
theorem d_Wo_copyFrom_44 : decode yWo_copyFrom.2.1 44 = .ok (.aload_n 0, 1) := by decide +kernel
theorem d_Wo_copyFrom_45 : decode yWo_copyFrom.2.1 45 = .ok (.getfield 37, 3) := by decide +kernel
theorem d_Wo_copyFrom_48 : decode yWo_copyFrom.2.1 48 = .ok (.aload_n 1, 1) := by decide +kernel
theorem d_Wo_copyFrom_49 : decode yWo_copyFrom.2.1 49 = .ok (.getfield 37, 3) := by decide +kernel
theorem d_Wo_copyFrom_52 : decode yWo_copyFrom.2.1 52 = .ok (.invokevirtual 74, 3) := by decide +kernel
theorem d_Wo_copyFrom_55 : decode yWo_copyFrom.2.1 55 = .ok (.aload_n 0, 1) := by decide +kernel
theorem d_Wo_copyFrom_56 : decode yWo_copyFrom.2.1 56 = .ok (.getfield 40, 3) := by decide +kernel
theorem d_Wo_copyFrom_59 : decode yWo_copyFrom.2.1 59 = .ok (.aload_n 1, 1) := by decide +kernel
theorem d_Wo_copyFrom_60 : decode yWo_copyFrom.2.1 60 = .ok (.getfield 40, 3) := by decide +kernel
theorem d_Wo_copyFrom_63 : decode yWo_copyFrom.2.1 63 = .ok (.invokevirtual 74, 3) := by decide +kernel
theorem d_Wo_copyFrom_66 : decode yWo_copyFrom.2.1 66 = .ok (.aload_n 0, 1) := by decide +kernel
theorem d_Wo_copyFrom_67 : decode yWo_copyFrom.2.1 67 = .ok (.getfield 43, 3) := by decide +kernel
theorem d_Wo_copyFrom_70 : decode yWo_copyFrom.2.1 70 = .ok (.aload_n 1, 1) := by decide +kernel
theorem d_Wo_copyFrom_71 : decode yWo_copyFrom.2.1 71 = .ok (.getfield 43, 3) := by decide +kernel
theorem d_Wo_copyFrom_74 : decode yWo_copyFrom.2.1 74 = .ok (.invokevirtual 74, 3) := by decide +kernel
theorem d_Wo_copyFrom_77 : decode yWo_copyFrom.2.1 77 = .ok (.aload_n 0, 1) := by decide +kernel
theorem d_Wo_copyFrom_78 : decode yWo_copyFrom.2.1 78 = .ok (.getfield 46, 3) := by decide +kernel
theorem d_Wo_copyFrom_81 : decode yWo_copyFrom.2.1 81 = .ok (.aload_n 1, 1) := by decide +kernel
theorem d_Wo_copyFrom_82 : decode yWo_copyFrom.2.1 82 = .ok (.getfield 46, 3) := by decide +kernel
theorem d_Wo_copyFrom_85 : decode yWo_copyFrom.2.1 85 = .ok (.invokevirtual 74, 3) := by decide +kernel
theorem d_Wo_copyFrom_88 : decode yWo_copyFrom.2.1 88 = .ok (.aload_n 0, 1) := by decide +kernel
theorem d_Wo_copyFrom_89 : decode yWo_copyFrom.2.1 89 = .ok (.getfield 49, 3) := by decide +kernel
theorem d_Wo_copyFrom_92 : decode yWo_copyFrom.2.1 92 = .ok (.aload_n 1, 1) := by decide +kernel
theorem d_Wo_copyFrom_93 : decode yWo_copyFrom.2.1 93 = .ok (.getfield 49, 3) := by decide +kernel
theorem d_Wo_copyFrom_96 : decode yWo_copyFrom.2.1 96 = .ok (.invokevirtual 74, 3) := by decide +kernel
theorem d_Wo_copyFrom_99 : decode yWo_copyFrom.2.1 99 = .ok (.aload_n 0, 1) := by decide +kernel
theorem d_Wo_copyFrom_100 : decode yWo_copyFrom.2.1 100 = .ok (.getfield 52, 3) := by decide +kernel
theorem d_Wo_copyFrom_103 : decode yWo_copyFrom.2.1 103 = .ok (.aload_n 1, 1) := by decide +kernel
theorem d_Wo_copyFrom_104 : decode yWo_copyFrom.2.1 104 = .ok (.getfield 52, 3) := by decide +kernel
theorem d_Wo_copyFrom_107 : decode yWo_copyFrom.2.1 107 = .ok (.invokevirtual 74, 3) := by decide +kernel
theorem d_Wo_copyFrom_110 : decode yWo_copyFrom.2.1 110 = .ok (.aload_n 0, 1) := by decide +kernel
theorem d_Wo_copyFrom_111 : decode yWo_copyFrom.2.1 111 = .ok (.getfield 55, 3) := by decide +kernel
theorem d_Wo_copyFrom_114 : decode yWo_copyFrom.2.1 114 = .ok (.aload_n 1, 1) := by decide +kernel
theorem d_Wo_copyFrom_115 : decode yWo_copyFrom.2.1 115 = .ok (.getfield 55, 3) := by decide +kernel
theorem d_Wo_copyFrom_118 : decode yWo_copyFrom.2.1 118 = .ok (.invokevirtual 74, 3) := by decide +kernel
theorem d_Wo_copyFrom_121 : decode yWo_copyFrom.2.1 121 = .ok (.aload_n 0, 1) := by decide +kernel
theorem d_Wo_copyFrom_122 : decode yWo_copyFrom.2.1 122 = .ok (.getfield 58, 3) := by decide +kernel
theorem d_Wo_copyFrom_125 : decode yWo_copyFrom.2.1 125 = .ok (.aload_n 1, 1) := by decide +kernel
theorem d_Wo_copyFrom_126 : decode yWo_copyFrom.2.1 126 = .ok (.getfield 58, 3) := by decide +kernel
theorem d_Wo_copyFrom_129 : decode yWo_copyFrom.2.1 129 = .ok (.invokevirtual 74, 3) := by decide +kernel
theorem d_Wo_copyFrom_132 : decode yWo_copyFrom.2.1 132 = .ok (.aload_n 0, 1) := by decide +kernel
theorem d_Wo_copyFrom_133 : decode yWo_copyFrom.2.1 133 = .ok (.getfield 61, 3) := by decide +kernel
theorem d_Wo_copyFrom_136 : decode yWo_copyFrom.2.1 136 = .ok (.aload_n 1, 1) := by decide +kernel
theorem d_Wo_copyFrom_137 : decode yWo_copyFrom.2.1 137 = .ok (.getfield 61, 3) := by decide +kernel
theorem d_Wo_copyFrom_140 : decode yWo_copyFrom.2.1 140 = .ok (.invokevirtual 74, 3) := by decide +kernel
theorem d_Wo_copyFrom_143 : decode yWo_copyFrom.2.1 143 = .ok (.aload_n 0, 1) := by decide +kernel
theorem d_Wo_copyFrom_144 : decode yWo_copyFrom.2.1 144 = .ok (.getfield 64, 3) := by decide +kernel
theorem d_Wo_copyFrom_147 : decode yWo_copyFrom.2.1 147 = .ok (.aload_n 1, 1) := by decide +kernel
theorem d_Wo_copyFrom_148 : decode yWo_copyFrom.2.1 148 = .ok (.getfield 64, 3) := by decide +kernel
theorem d_Wo_copyFrom_151 : decode yWo_copyFrom.2.1 151 = .ok (.invokevirtual 74, 3) := by decide +kernel
theorem d_Wo_copyFrom_154 : decode yWo_copyFrom.2.1 154 = .ok (.return_, 1) := by decide +kernel
def F_Wo_copyFrom (h0 h1 : Nat) (I : gb_Mem) : Option (gb_Mem) :=
  fbd (F_Ta_copyFrom (h0 + 1) (h1 + 1) I) fun I1 =>
  fbd (F_La_copyFrom (h0 + 5) (h1 + 5) I1) fun I2 =>
  fbd (F_Ro_copyFrom (h0 + 10) 64 (h1 + 10) 64 I2) fun I3 =>
  fbd (F_Ro_copyFrom (h0 + 12) 64 (h1 + 12) 64 I3) fun I4 =>
  fbd (F_Ro_copyFrom (h0 + 14) 64 (h1 + 14) 64 I4) fun I5 =>
  fbd (F_Ro_copyFrom (h0 + 16) 600 (h1 + 16) 600 I5) fun I6 =>
  fbd (F_Ro_copyFrom (h0 + 18) 48 (h1 + 18) 48 I6) fun I7 =>
  fbd (F_Ro_copyFrom (h0 + 20) 48 (h1 + 20) 48 I7) fun I8 =>
  fbd (F_Ro_copyFrom (h0 + 22) 32 (h1 + 22) 32 I8) fun I9 =>
  fbd (F_Ro_copyFrom (h0 + 24) 40 (h1 + 24) 40 I9) fun I10 =>
  fbd (F_Ro_copyFrom (h0 + 26) 64 (h1 + 26) 64 I10) fun I11 =>
  fbd (F_Ro_copyFrom (h0 + 28) 36 (h1 + 28) 36 I11) fun I12 =>
  fbd (F_Ro_copyFrom (h0 + 30) 32 (h1 + 30) 32 I12) fun I13 =>
  fbd (F_Ro_copyFrom (h0 + 32) 36 (h1 + 32) 36 I13) fun I14 =>
  some I14
set_option maxRecDepth 4000 in
theorem c_Wo_copyFrom (l : Launch) (d0 : Nat) (h0 h1 : Nat) (H0 : isWo h0) (H1 : isWo h1) (I : gb_Mem) {Iz : gb_Mem} (h : F_Wo_copyFrom h0 h1 I = some Iz) : gb_Cs l yWo_copyFrom (d0 + 2) [.inr (some h0), .inr (some h1)] shX I none Iz := by
  refine gb_Ct.of (lv := [(0, .inr (some h0)), (1, .inr (some h1))]) rfl (Nat.le_of_ble_eq_true rfl) rfl ?_
  unfold F_Wo_copyFrom at h
  show gb_Go l yWo_copyFrom (d0 + 2) 0 0 0 [(0, .inr (some h0)), (1, .inr (some h1))] [] shX I (gb_po shX none Iz)
  refine go_aload_n (k := 0) d_Wo_copyFrom_0 rfl rfl ?_
  refine go_getr (ci := 1) (k := 0) (r := (h0 + 1)) d_Wo_copyFrom_1 H0.1 rfl (by decide) f_Wo_12 rfl ?_
  refine go_aload_n (k := 1) d_Wo_copyFrom_4 rfl rfl ?_
  refine go_getr (ci := 1) (k := 0) (r := (h1 + 1)) d_Wo_copyFrom_5 H1.1 rfl (by decide) f_Wo_12 rfl ?_
  obtain ⟨I1, w1, h⟩ := fbd_e h
  refine go_callV (y := yTa_copyFrom) (asr := [.inr (some (h1 + 1))]) (v := none) (I' := I1) (st1 := []) d_Wo_copyFrom_8 s_yTa_copyFrom m_Wo_67 H0.2.1.1 rfl rfl rfl (Nat.le_of_ble_eq_true rfl) rfl rfl (c_Ta_copyFrom l (d0 + 0) (h0 + 1) (h1 + 1) H0.2.1 H1.2.1 I w1) ?_
  refine go_aload_n (k := 0) d_Wo_copyFrom_11 rfl rfl ?_
  refine go_getr (ci := 1) (k := 1) (r := (h0 + 5)) d_Wo_copyFrom_12 H0.1 rfl (by decide) f_Wo_21 rfl ?_
  refine go_aload_n (k := 1) d_Wo_copyFrom_15 rfl rfl ?_
  refine go_getr (ci := 1) (k := 1) (r := (h1 + 5)) d_Wo_copyFrom_16 H1.1 rfl (by decide) f_Wo_21 rfl ?_
  obtain ⟨I2, w1, h⟩ := fbd_e h
  refine go_callV (y := yLa_copyFrom) (asr := [.inr (some (h1 + 5))]) (v := none) (I' := I2) (st1 := []) d_Wo_copyFrom_19 s_yLa_copyFrom m_Wo_71 H0.2.2.1.1 rfl rfl rfl (Nat.le_of_ble_eq_true rfl) rfl rfl (c_La_copyFrom l (d0 + 0) (h0 + 5) (h1 + 5) H0.2.2.1 H1.2.2.1 I1 w1) ?_
  refine go_aload_n (k := 0) d_Wo_copyFrom_22 rfl rfl ?_
  refine go_getr (ci := 1) (k := 2) (r := (h0 + 10)) d_Wo_copyFrom_23 H0.1 rfl (by decide) f_Wo_30 rfl ?_
  refine go_aload_n (k := 1) d_Wo_copyFrom_26 rfl rfl ?_
  refine go_getr (ci := 1) (k := 2) (r := (h1 + 10)) d_Wo_copyFrom_27 H1.1 rfl (by decide) f_Wo_30 rfl ?_
  obtain ⟨I3, w1, h⟩ := fbd_e h
  refine go_callV (y := yRo_copyFrom) (asr := [.inr (some (h1 + 10))]) (v := none) (I' := I3) (st1 := []) d_Wo_copyFrom_30 s_yRo_copyFrom m_Wo_74 H0.2.2.2.1.1 rfl rfl rfl (Nat.le_of_ble_eq_true rfl) rfl rfl (c_Ro_copyFrom l (d0 + 0) (h0 + 10) 64 (h1 + 10) 64 H0.2.2.2.1 H1.2.2.2.1 I2 w1) ?_
  refine go_aload_n (k := 0) d_Wo_copyFrom_33 rfl rfl ?_
  refine go_getr (ci := 1) (k := 3) (r := (h0 + 12)) d_Wo_copyFrom_34 H0.1 rfl (by decide) f_Wo_34 rfl ?_
  refine go_aload_n (k := 1) d_Wo_copyFrom_37 rfl rfl ?_
  refine go_getr (ci := 1) (k := 3) (r := (h1 + 12)) d_Wo_copyFrom_38 H1.1 rfl (by decide) f_Wo_34 rfl ?_
  obtain ⟨I4, w1, h⟩ := fbd_e h
  refine go_callV (y := yRo_copyFrom) (asr := [.inr (some (h1 + 12))]) (v := none) (I' := I4) (st1 := []) d_Wo_copyFrom_41 s_yRo_copyFrom m_Wo_74 H0.2.2.2.2.1.1 rfl rfl rfl (Nat.le_of_ble_eq_true rfl) rfl rfl (c_Ro_copyFrom l (d0 + 0) (h0 + 12) 64 (h1 + 12) 64 H0.2.2.2.2.1 H1.2.2.2.2.1 I3 w1) ?_
  refine go_aload_n (k := 0) d_Wo_copyFrom_44 rfl rfl ?_
  refine go_getr (ci := 1) (k := 4) (r := (h0 + 14)) d_Wo_copyFrom_45 H0.1 rfl (by decide) f_Wo_37 rfl ?_
  refine go_aload_n (k := 1) d_Wo_copyFrom_48 rfl rfl ?_
  refine go_getr (ci := 1) (k := 4) (r := (h1 + 14)) d_Wo_copyFrom_49 H1.1 rfl (by decide) f_Wo_37 rfl ?_
  obtain ⟨I5, w1, h⟩ := fbd_e h
  refine go_callV (y := yRo_copyFrom) (asr := [.inr (some (h1 + 14))]) (v := none) (I' := I5) (st1 := []) d_Wo_copyFrom_52 s_yRo_copyFrom m_Wo_74 H0.2.2.2.2.2.1.1 rfl rfl rfl (Nat.le_of_ble_eq_true rfl) rfl rfl (c_Ro_copyFrom l (d0 + 0) (h0 + 14) 64 (h1 + 14) 64 H0.2.2.2.2.2.1 H1.2.2.2.2.2.1 I4 w1) ?_
  refine go_aload_n (k := 0) d_Wo_copyFrom_55 rfl rfl ?_
  refine go_getr (ci := 1) (k := 5) (r := (h0 + 16)) d_Wo_copyFrom_56 H0.1 rfl (by decide) f_Wo_40 rfl ?_
  refine go_aload_n (k := 1) d_Wo_copyFrom_59 rfl rfl ?_
  refine go_getr (ci := 1) (k := 5) (r := (h1 + 16)) d_Wo_copyFrom_60 H1.1 rfl (by decide) f_Wo_40 rfl ?_
  obtain ⟨I6, w1, h⟩ := fbd_e h
  refine go_callV (y := yRo_copyFrom) (asr := [.inr (some (h1 + 16))]) (v := none) (I' := I6) (st1 := []) d_Wo_copyFrom_63 s_yRo_copyFrom m_Wo_74 H0.2.2.2.2.2.2.1.1 rfl rfl rfl (Nat.le_of_ble_eq_true rfl) rfl rfl (c_Ro_copyFrom l (d0 + 0) (h0 + 16) 600 (h1 + 16) 600 H0.2.2.2.2.2.2.1 H1.2.2.2.2.2.2.1 I5 w1) ?_
  refine go_aload_n (k := 0) d_Wo_copyFrom_66 rfl rfl ?_
  refine go_getr (ci := 1) (k := 6) (r := (h0 + 18)) d_Wo_copyFrom_67 H0.1 rfl (by decide) f_Wo_43 rfl ?_
  refine go_aload_n (k := 1) d_Wo_copyFrom_70 rfl rfl ?_
  refine go_getr (ci := 1) (k := 6) (r := (h1 + 18)) d_Wo_copyFrom_71 H1.1 rfl (by decide) f_Wo_43 rfl ?_
  obtain ⟨I7, w1, h⟩ := fbd_e h
  refine go_callV (y := yRo_copyFrom) (asr := [.inr (some (h1 + 18))]) (v := none) (I' := I7) (st1 := []) d_Wo_copyFrom_74 s_yRo_copyFrom m_Wo_74 H0.2.2.2.2.2.2.2.1.1 rfl rfl rfl (Nat.le_of_ble_eq_true rfl) rfl rfl (c_Ro_copyFrom l (d0 + 0) (h0 + 18) 48 (h1 + 18) 48 H0.2.2.2.2.2.2.2.1 H1.2.2.2.2.2.2.2.1 I6 w1) ?_
  refine go_aload_n (k := 0) d_Wo_copyFrom_77 rfl rfl ?_
  refine go_getr (ci := 1) (k := 7) (r := (h0 + 20)) d_Wo_copyFrom_78 H0.1 rfl (by decide) f_Wo_46 rfl ?_
  refine go_aload_n (k := 1) d_Wo_copyFrom_81 rfl rfl ?_
  refine go_getr (ci := 1) (k := 7) (r := (h1 + 20)) d_Wo_copyFrom_82 H1.1 rfl (by decide) f_Wo_46 rfl ?_
  obtain ⟨I8, w1, h⟩ := fbd_e h
  refine go_callV (y := yRo_copyFrom) (asr := [.inr (some (h1 + 20))]) (v := none) (I' := I8) (st1 := []) d_Wo_copyFrom_85 s_yRo_copyFrom m_Wo_74 H0.2.2.2.2.2.2.2.2.1.1 rfl rfl rfl (Nat.le_of_ble_eq_true rfl) rfl rfl (c_Ro_copyFrom l (d0 + 0) (h0 + 20) 48 (h1 + 20) 48 H0.2.2.2.2.2.2.2.2.1 H1.2.2.2.2.2.2.2.2.1 I7 w1) ?_
  refine go_aload_n (k := 0) d_Wo_copyFrom_88 rfl rfl ?_
  refine go_getr (ci := 1) (k := 8) (r := (h0 + 22)) d_Wo_copyFrom_89 H0.1 rfl (by decide) f_Wo_49 rfl ?_
  refine go_aload_n (k := 1) d_Wo_copyFrom_92 rfl rfl ?_
  refine go_getr (ci := 1) (k := 8) (r := (h1 + 22)) d_Wo_copyFrom_93 H1.1 rfl (by decide) f_Wo_49 rfl ?_
  obtain ⟨I9, w1, h⟩ := fbd_e h
  refine go_callV (y := yRo_copyFrom) (asr := [.inr (some (h1 + 22))]) (v := none) (I' := I9) (st1 := []) d_Wo_copyFrom_96 s_yRo_copyFrom m_Wo_74 H0.2.2.2.2.2.2.2.2.2.1.1 rfl rfl rfl (Nat.le_of_ble_eq_true rfl) rfl rfl (c_Ro_copyFrom l (d0 + 0) (h0 + 22) 32 (h1 + 22) 32 H0.2.2.2.2.2.2.2.2.2.1 H1.2.2.2.2.2.2.2.2.2.1 I8 w1) ?_
  refine go_aload_n (k := 0) d_Wo_copyFrom_99 rfl rfl ?_
  refine go_getr (ci := 1) (k := 9) (r := (h0 + 24)) d_Wo_copyFrom_100 H0.1 rfl (by decide) f_Wo_52 rfl ?_
  refine go_aload_n (k := 1) d_Wo_copyFrom_103 rfl rfl ?_
  refine go_getr (ci := 1) (k := 9) (r := (h1 + 24)) d_Wo_copyFrom_104 H1.1 rfl (by decide) f_Wo_52 rfl ?_
  obtain ⟨I10, w1, h⟩ := fbd_e h
  refine go_callV (y := yRo_copyFrom) (asr := [.inr (some (h1 + 24))]) (v := none) (I' := I10) (st1 := []) d_Wo_copyFrom_107 s_yRo_copyFrom m_Wo_74 H0.2.2.2.2.2.2.2.2.2.2.1.1 rfl rfl rfl (Nat.le_of_ble_eq_true rfl) rfl rfl (c_Ro_copyFrom l (d0 + 0) (h0 + 24) 40 (h1 + 24) 40 H0.2.2.2.2.2.2.2.2.2.2.1 H1.2.2.2.2.2.2.2.2.2.2.1 I9 w1) ?_
  refine go_aload_n (k := 0) d_Wo_copyFrom_110 rfl rfl ?_
  refine go_getr (ci := 1) (k := 10) (r := (h0 + 26)) d_Wo_copyFrom_111 H0.1 rfl (by decide) f_Wo_55 rfl ?_
  refine go_aload_n (k := 1) d_Wo_copyFrom_114 rfl rfl ?_
  refine go_getr (ci := 1) (k := 10) (r := (h1 + 26)) d_Wo_copyFrom_115 H1.1 rfl (by decide) f_Wo_55 rfl ?_
  obtain ⟨I11, w1, h⟩ := fbd_e h
  refine go_callV (y := yRo_copyFrom) (asr := [.inr (some (h1 + 26))]) (v := none) (I' := I11) (st1 := []) d_Wo_copyFrom_118 s_yRo_copyFrom m_Wo_74 H0.2.2.2.2.2.2.2.2.2.2.2.1.1 rfl rfl rfl (Nat.le_of_ble_eq_true rfl) rfl rfl (c_Ro_copyFrom l (d0 + 0) (h0 + 26) 64 (h1 + 26) 64 H0.2.2.2.2.2.2.2.2.2.2.2.1 H1.2.2.2.2.2.2.2.2.2.2.2.1 I10 w1) ?_
  refine go_aload_n (k := 0) d_Wo_copyFrom_121 rfl rfl ?_
  refine go_getr (ci := 1) (k := 11) (r := (h0 + 28)) d_Wo_copyFrom_122 H0.1 rfl (by decide) f_Wo_58 rfl ?_
  refine go_aload_n (k := 1) d_Wo_copyFrom_125 rfl rfl ?_
  refine go_getr (ci := 1) (k := 11) (r := (h1 + 28)) d_Wo_copyFrom_126 H1.1 rfl (by decide) f_Wo_58 rfl ?_
  obtain ⟨I12, w1, h⟩ := fbd_e h
  refine go_callV (y := yRo_copyFrom) (asr := [.inr (some (h1 + 28))]) (v := none) (I' := I12) (st1 := []) d_Wo_copyFrom_129 s_yRo_copyFrom m_Wo_74 H0.2.2.2.2.2.2.2.2.2.2.2.2.1.1 rfl rfl rfl (Nat.le_of_ble_eq_true rfl) rfl rfl (c_Ro_copyFrom l (d0 + 0) (h0 + 28) 36 (h1 + 28) 36 H0.2.2.2.2.2.2.2.2.2.2.2.2.1 H1.2.2.2.2.2.2.2.2.2.2.2.2.1 I11 w1) ?_
  refine go_aload_n (k := 0) d_Wo_copyFrom_132 rfl rfl ?_
  refine go_getr (ci := 1) (k := 12) (r := (h0 + 30)) d_Wo_copyFrom_133 H0.1 rfl (by decide) f_Wo_61 rfl ?_
  refine go_aload_n (k := 1) d_Wo_copyFrom_136 rfl rfl ?_
  refine go_getr (ci := 1) (k := 12) (r := (h1 + 30)) d_Wo_copyFrom_137 H1.1 rfl (by decide) f_Wo_61 rfl ?_
  obtain ⟨I13, w1, h⟩ := fbd_e h
  refine go_callV (y := yRo_copyFrom) (asr := [.inr (some (h1 + 30))]) (v := none) (I' := I13) (st1 := []) d_Wo_copyFrom_140 s_yRo_copyFrom m_Wo_74 H0.2.2.2.2.2.2.2.2.2.2.2.2.2.1.1 rfl rfl rfl (Nat.le_of_ble_eq_true rfl) rfl rfl (c_Ro_copyFrom l (d0 + 0) (h0 + 30) 32 (h1 + 30) 32 H0.2.2.2.2.2.2.2.2.2.2.2.2.2.1 H1.2.2.2.2.2.2.2.2.2.2.2.2.2.1 I12 w1) ?_
  refine go_aload_n (k := 0) d_Wo_copyFrom_143 rfl rfl ?_
  refine go_getr (ci := 1) (k := 13) (r := (h0 + 32)) d_Wo_copyFrom_144 H0.1 rfl (by decide) f_Wo_64 rfl ?_
  refine go_aload_n (k := 1) d_Wo_copyFrom_147 rfl rfl ?_
  refine go_getr (ci := 1) (k := 13) (r := (h1 + 32)) d_Wo_copyFrom_148 H1.1 rfl (by decide) f_Wo_64 rfl ?_
  obtain ⟨I14, w1, h⟩ := fbd_e h
  refine go_callV (y := yRo_copyFrom) (asr := [.inr (some (h1 + 32))]) (v := none) (I' := I14) (st1 := []) d_Wo_copyFrom_151 s_yRo_copyFrom m_Wo_74 H0.2.2.2.2.2.2.2.2.2.2.2.2.2.2.1 rfl rfl rfl (Nat.le_of_ble_eq_true rfl) rfl rfl (c_Ro_copyFrom l (d0 + 0) (h0 + 32) 36 (h1 + 32) 36 H0.2.2.2.2.2.2.2.2.2.2.2.2.2.2 H1.2.2.2.2.2.2.2.2.2.2.2.2.2.2 I13 w1) ?_
  cases h
  exact go_return d_Wo_copyFrom_154 rfl gb_po_i
theorem d_Co_listen_0 : decode yCo_listen.2.1 0 = .ok (.aload_n 0, 1) := by decide +kernel
theorem d_Co_listen_1 : decode yCo_listen.2.1 1 = .ok (.getfield 19, 3) := by decide +kernel
theorem d_Co_listen_4 : decode yCo_listen.2.1 4 = .ok (.dup, 1) := by decide +kernel
theorem d_Co_listen_5 : decode yCo_listen.2.1 5 = .ok (.getfield 34, 3) := by decide +kernel
theorem d_Co_listen_8 : decode yCo_listen.2.1 8 = .ok (.iconst 1, 1) := by decide +kernel
theorem d_Co_listen_9 : decode yCo_listen.2.1 9 = .ok (.isub, 1) := by decide +kernel
theorem d_Co_listen_10 : decode yCo_listen.2.1 10 = .ok (.putfield 34, 3) := by decide +kernel
theorem d_Co_listen_13 : decode yCo_listen.2.1 13 = .ok (.iconst 0, 1) := by decide +kernel
theorem d_Co_listen_14 : decode yCo_listen.2.1 14 = .ok (.istore_n 1, 1) := by decide +kernel
theorem d_Co_listen_15 : decode yCo_listen.2.1 15 = .ok (.iload_n 1, 1) := by decide +kernel
theorem d_Co_listen_16 : decode yCo_listen.2.1 16 = .ok (.aload_n 0, 1) := by decide +kernel
theorem d_Co_listen_17 : decode yCo_listen.2.1 17 = .ok (.getfield 19, 3) := by decide +kernel
theorem d_Co_listen_20 : decode yCo_listen.2.1 20 = .ok (.getfield 43, 3) := by decide +kernel
theorem d_Co_listen_23 : decode yCo_listen.2.1 23 = .ok (.if_icmp .ge 17, 3) := by decide +kernel
theorem d_Co_listen_26 : decode yCo_listen.2.1 26 = .ok (.aload_n 0, 1) := by decide +kernel
theorem d_Co_listen_27 : decode yCo_listen.2.1 27 = .ok (.getfield 19, 3) := by decide +kernel
theorem d_Co_listen_30 : decode yCo_listen.2.1 30 = .ok (.iload_n 1, 1) := by decide +kernel
theorem d_Co_listen_31 : decode yCo_listen.2.1 31 = .ok (.invokevirtual 107, 3) := by decide +kernel
theorem d_Co_listen_34 : decode yCo_listen.2.1 34 = .ok (.iinc 1 1, 3) := by decide +kernel
theorem d_Co_listen_37 : decode yCo_listen.2.1 37 = .ok (.goto (-22), 3) := by decide +kernel
theorem d_Co_listen_40 : decode yCo_listen.2.1 40 = .ok (.return_, 1) := by decide +kernel
def L_Co_listen_15 (h0 t0 : Nat) : Nat → Int32 → gb_Mem → Option (gb_Mem)
  | 0, _, _ => none
  | n + 1, x1, I =>
    if (I t0 5) ≤ x1 then
      some I
    else
      fbd (F_Ta_thickenSkin t0 x1 I) fun I2 =>
      L_Co_listen_15 h0 t0 n (x1 + 1) I2
set_option maxRecDepth 4000 in
theorem l_Co_listen_15 (l : Launch) (d0 : Nat) (h0 t0 : Nat) (H0 : isCo h0 t0) {post : Option gb_AV → List gb_Ce → gb_Mem → Prop} : ∀ (n : Nat) (x1 : Int32) (I : gb_Mem) {ρ : gb_Mem} (h : L_Co_listen_15 h0 t0 n x1 I = some ρ) (hX : ∀ (I2 : gb_Mem), ρ = I2 → gb_Go l yCo_listen (d0 + 3) 0 0 40 [] [] shX I2 post) , gb_Go l yCo_listen (d0 + 3) 0 0 15 [(0, .inr (some h0)), (1, .inl x1)] [] shX I post := by
  intro n
  induction n with
  | zero => intro x1 I ρ h hX; cases h
  | succ n ih =>
    intro x1 I ρ h hX
    rw [L_Co_listen_15] at h
    refine go_iload_n (k := 1) d_Co_listen_15 rfl rfl ?_
    refine go_aload_n (k := 0) d_Co_listen_16 rfl rfl ?_
    refine go_getr (ci := 6) (k := 1) (r := t0) d_Co_listen_17 H0.1 rfl (by decide) f_Co_19 rfl ?_
    refine go_getiN (ci := 2) (k := 5) d_Co_listen_20 H0.2.2.1 rfl (by decide) f_Co_43 rfl ?_
    refine go_cmp_ge (tgt := 40) d_Co_listen_23 (by decide) (fun hc => ?_) (fun hc => ?_)
    · rw [if_pos hc] at h
      exact go_lv [] rfl (hX _ (Option.some.inj h).symm)
    · rw [if_neg hc] at h
      refine go_aload_n (k := 0) d_Co_listen_26 rfl rfl ?_
      refine go_getr (ci := 6) (k := 1) (r := t0) d_Co_listen_27 H0.1 rfl (by decide) f_Co_19 rfl ?_
      refine go_iload_n (k := 1) d_Co_listen_30 rfl rfl ?_
      obtain ⟨I2, w1, h⟩ := fbd_e h
      refine go_callV (y := yTa_thickenSkin) (asr := [.inl x1]) (v := none) (I' := I2) (st1 := []) d_Co_listen_31 s_yTa_thickenSkin m_Co_107 H0.2.2.1 rfl rfl rfl (Nat.le_of_ble_eq_true rfl) rfl rfl (c_Ta_thickenSkin l (d0 + 0) t0 H0.2.2 x1 I w1) ?_
      refine go_iinc (k := 1) (v := x1 + 1) (lv' := [(1, .inl (x1 + 1)), (0, .inr (some h0))]) d_Co_listen_34 rfl rfl (by decide) rfl ?_
      refine go_goto (tgt := 15) d_Co_listen_37 (by decide) ?_
      exact go_lv [1, 0] rfl (ih (x1 + 1) I2 h hX)
def F_Co_listen (h0 t0 : Nat) (I : gb_Mem) : Option (gb_Mem) :=
  fstf I t0 2 ((I t0 2) - 1) fun I1 =>
  fbd (L_Co_listen_15 h0 t0 5000 0 I1) fun I3 =>
  some I3
set_option maxRecDepth 4000 in
theorem c_Co_listen (l : Launch) (d0 : Nat) (h0 t0 : Nat) (H0 : isCo h0 t0) (I : gb_Mem) {Iz : gb_Mem} (h : F_Co_listen h0 t0 I = some Iz) : gb_Cs l yCo_listen (d0 + 3) [.inr (some h0)] shX I none Iz := by
  refine gb_Ct.of (lv := [(0, .inr (some h0))]) rfl (Nat.le_of_ble_eq_true rfl) rfl ?_
  unfold F_Co_listen at h
  show gb_Go l yCo_listen (d0 + 3) 0 0 0 [(0, .inr (some h0))] [] shX I (gb_po shX none Iz)
  refine go_aload_n (k := 0) d_Co_listen_0 rfl rfl ?_
  refine go_getr (ci := 6) (k := 1) (r := t0) d_Co_listen_1 H0.1 rfl (by decide) f_Co_19 rfl ?_
  refine go_dup d_Co_listen_4 ?_
  refine go_getiN (ci := 2) (k := 2) d_Co_listen_5 H0.2.2.1 rfl (by decide) f_Co_34 rfl ?_
  refine go_iconst (v := 1) d_Co_listen_8 (by decide) ?_
  refine go_isub d_Co_listen_9 ?_
  obtain ⟨I1, eI1, h⟩ := fstf_e h
  refine go_putTN (ci := 2) (k := 2) (I' := I1) d_Co_listen_10 H0.2.2.1 rfl (by decide) f_Co_34 rfl rfl rfl rfl rfl eI1 ?_
  refine go_iconst (v := 0) d_Co_listen_13 (by decide) ?_
  refine go_istore_n (lv' := [(1, .inl 0), (0, .inr (some h0))]) d_Co_listen_14 rfl (by decide) rfl ?_
  refine go_lv [1, 0] (lv' := [(0, .inr (some h0)), (1, .inl 0)]) rfl ?_
  obtain ⟨I3, w1, h⟩ := fbd_e h
  refine l_Co_listen_15 l d0 h0 t0 H0 5000 0 I1 w1 (fun I3_ e => ?_)
  cases e
  cases h
  exact go_return d_Co_listen_40 rfl gb_po_i
theorem d_Co_serveLine_0 : decode yCo_serveLine.2.1 0 = .ok (.iload_n 1, 1) := by decide +kernel
theorem d_Co_serveLine_1 : decode yCo_serveLine.2.1 1 = .ok (.sipush 212, 3) := by decide +kernel
theorem d_Co_serveLine_4 : decode yCo_serveLine.2.1 4 = .ok (.if_icmp .ne 14, 3) := by decide +kernel
theorem d_Co_serveLine_7 : decode yCo_serveLine.2.1 7 = .ok (.aload_n 0, 1) := by decide +kernel
theorem d_Co_serveLine_8 : decode yCo_serveLine.2.1 8 = .ok (.getfield 19, 3) := by decide +kernel
theorem d_Co_serveLine_11 : decode yCo_serveLine.2.1 11 = .ok (.iload_n 2, 1) := by decide +kernel
theorem d_Co_serveLine_12 : decode yCo_serveLine.2.1 12 = .ok (.putfield 98, 3) := by decide +kernel
theorem d_Co_serveLine_15 : decode yCo_serveLine.2.1 15 = .ok (.goto 74, 3) := by decide +kernel
theorem d_Co_serveLine_18 : decode yCo_serveLine.2.1 18 = .ok (.iload_n 1, 1) := by decide +kernel
theorem d_Co_serveLine_19 : decode yCo_serveLine.2.1 19 = .ok (.sipush 222, 3) := by decide +kernel
theorem d_Co_serveLine_22 : decode yCo_serveLine.2.1 22 = .ok (.if_icmp .ne 14, 3) := by decide +kernel
theorem d_Co_serveLine_25 : decode yCo_serveLine.2.1 25 = .ok (.aload_n 0, 1) := by decide +kernel
theorem d_Co_serveLine_26 : decode yCo_serveLine.2.1 26 = .ok (.getfield 19, 3) := by decide +kernel
theorem d_Co_serveLine_29 : decode yCo_serveLine.2.1 29 = .ok (.iload_n 2, 1) := by decide +kernel
theorem d_Co_serveLine_30 : decode yCo_serveLine.2.1 30 = .ok (.putfield 34, 3) := by decide +kernel
theorem d_Co_serveLine_33 : decode yCo_serveLine.2.1 33 = .ok (.goto 56, 3) := by decide +kernel
theorem d_Co_serveLine_36 : decode yCo_serveLine.2.1 36 = .ok (.iload_n 1, 1) := by decide +kernel
theorem d_Co_serveLine_37 : decode yCo_serveLine.2.1 37 = .ok (.sipush 223, 3) := by decide +kernel
theorem d_Co_serveLine_40 : decode yCo_serveLine.2.1 40 = .ok (.if_icmp .ne 11, 3) := by decide +kernel
theorem d_Co_serveLine_43 : decode yCo_serveLine.2.1 43 = .ok (.aload_n 0, 1) := by decide +kernel
theorem d_Co_serveLine_44 : decode yCo_serveLine.2.1 44 = .ok (.iload_n 2, 1) := by decide +kernel
theorem d_Co_serveLine_45 : decode yCo_serveLine.2.1 45 = .ok (.invokevirtual 101, 3) := by decide +kernel
theorem d_Co_serveLine_48 : decode yCo_serveLine.2.1 48 = .ok (.goto 41, 3) := by decide +kernel
theorem d_Co_serveLine_51 : decode yCo_serveLine.2.1 51 = .ok (.iload_n 1, 1) := by decide +kernel
theorem d_Co_serveLine_52 : decode yCo_serveLine.2.1 52 = .ok (.sipush 224, 3) := by decide +kernel
theorem d_Co_serveLine_55 : decode yCo_serveLine.2.1 55 = .ok (.if_icmp .ne 26, 3) := by decide +kernel
theorem d_Co_serveLine_58 : decode yCo_serveLine.2.1 58 = .ok (.aload_n 0, 1) := by decide +kernel
theorem d_Co_serveLine_59 : decode yCo_serveLine.2.1 59 = .ok (.getfield 19, 3) := by decide +kernel
theorem d_Co_serveLine_62 : decode yCo_serveLine.2.1 62 = .ok (.iconst 1, 1) := by decide +kernel
theorem d_Co_serveLine_63 : decode yCo_serveLine.2.1 63 = .ok (.iload_n 2, 1) := by decide +kernel
theorem d_Co_serveLine_64 : decode yCo_serveLine.2.1 64 = .ok (.iload_n 3, 1) := by decide +kernel
theorem d_Co_serveLine_65 : decode yCo_serveLine.2.1 65 = .ok (.invokevirtual 57, 3) := by decide +kernel
theorem d_Co_serveLine_68 : decode yCo_serveLine.2.1 68 = .ok (.aload_n 0, 1) := by decide +kernel
theorem d_Co_serveLine_69 : decode yCo_serveLine.2.1 69 = .ok (.getfield 19, 3) := by decide +kernel
theorem d_Co_serveLine_72 : decode yCo_serveLine.2.1 72 = .ok (.iconst 4, 1) := by decide +kernel
theorem d_Co_serveLine_73 : decode yCo_serveLine.2.1 73 = .ok (.iload_n 2, 1) := by decide +kernel
theorem d_Co_serveLine_74 : decode yCo_serveLine.2.1 74 = .ok (.iconst 0, 1) := by decide +kernel
theorem d_Co_serveLine_75 : decode yCo_serveLine.2.1 75 = .ok (.invokevirtual 57, 3) := by decide +kernel
theorem d_Co_serveLine_78 : decode yCo_serveLine.2.1 78 = .ok (.goto 11, 3) := by decide +kernel
theorem d_Co_serveLine_81 : decode yCo_serveLine.2.1 81 = .ok (.aload_n 0, 1) := by decide +kernel
theorem d_Co_serveLine_82 : decode yCo_serveLine.2.1 82 = .ok (.getfield 19, 3) := by decide +kernel
theorem d_Co_serveLine_85 : decode yCo_serveLine.2.1 85 = .ok (.iload_n 2, 1) := by decide +kernel
theorem d_Co_serveLine_86 : decode yCo_serveLine.2.1 86 = .ok (.invokevirtual 104, 3) := by decide +kernel
theorem d_Co_serveLine_89 : decode yCo_serveLine.2.1 89 = .ok (.return_, 1) := by decide +kernel
def F_Co_serveLine (h0 t0 : Nat) (x1 x2 x3 : Int32) (I : gb_Mem) : Option (gb_Mem) :=
  if x1 = 212 then
    fstf I t0 3 x2 fun I6 =>
    some I6
  else
    if x1 = 222 then
      fstf I t0 2 x2 fun I5 =>
      some I5
    else
      if x1 = 223 then
        fbd (F_Co_salt h0 t0 x2 I) fun I4 =>
        some I4
      else
        if x1 = 224 then
          fbd (F_Ta_putBoat t0 1 x2 x3 I) fun I2 =>
          fbd (F_Ta_putBoat t0 4 x2 0 I2) fun I3 =>
          some I3
        else
          fbd (F_Ta_turn t0 x2 I) fun I1 =>
          some I1
set_option maxRecDepth 4000 in
theorem c_Co_serveLine (l : Launch) (d0 : Nat) (h0 t0 : Nat) (H0 : isCo h0 t0) (x1 x2 x3 : Int32) (I : gb_Mem) {Iz : gb_Mem} (h : F_Co_serveLine h0 t0 x1 x2 x3 I = some Iz) : gb_Cs l yCo_serveLine (d0 + 3) [.inr (some h0), .inl x1, .inl x2, .inl x3] shX I none Iz := by
  refine gb_Ct.of (lv := [(0, .inr (some h0)), (1, .inl x1), (2, .inl x2), (3, .inl x3)]) rfl (Nat.le_of_ble_eq_true rfl) rfl ?_
  unfold F_Co_serveLine at h
  show gb_Go l yCo_serveLine (d0 + 3) 0 0 0 [(0, .inr (some h0)), (1, .inl x1), (2, .inl x2), (3, .inl x3)] [] shX I (gb_po shX none Iz)
  refine go_iload_n (k := 1) d_Co_serveLine_0 rfl rfl ?_
  refine go_sipush (v := 212) d_Co_serveLine_1 (by decide) ?_
  refine go_cmp_ne (tgt := 18) d_Co_serveLine_4 (by decide) (fun hc => ?_) (fun hc => ?_)
  · rw [if_neg hc] at h
    refine go_iload_n (k := 1) d_Co_serveLine_18 rfl rfl ?_
    refine go_sipush (v := 222) d_Co_serveLine_19 (by decide) ?_
    refine go_cmp_ne (tgt := 36) d_Co_serveLine_22 (by decide) (fun hc => ?_) (fun hc => ?_)
    · rw [if_neg hc] at h
      refine go_iload_n (k := 1) d_Co_serveLine_36 rfl rfl ?_
      refine go_sipush (v := 223) d_Co_serveLine_37 (by decide) ?_
      refine go_cmp_ne (tgt := 51) d_Co_serveLine_40 (by decide) (fun hc => ?_) (fun hc => ?_)
      · rw [if_neg hc] at h
        refine go_iload_n (k := 1) d_Co_serveLine_51 rfl rfl ?_
        refine go_sipush (v := 224) d_Co_serveLine_52 (by decide) ?_
        refine go_cmp_ne (tgt := 81) d_Co_serveLine_55 (by decide) (fun hc => ?_) (fun hc => ?_)
        · rw [if_neg hc] at h
          refine go_aload_n (k := 0) d_Co_serveLine_81 rfl rfl ?_
          refine go_getr (ci := 6) (k := 1) (r := t0) d_Co_serveLine_82 H0.1 rfl (by decide) f_Co_19 rfl ?_
          refine go_iload_n (k := 2) d_Co_serveLine_85 rfl rfl ?_
          obtain ⟨I1, w1, h⟩ := fbd_e h
          refine go_callV (y := yTa_turn) (asr := [.inl x2]) (v := none) (I' := I1) (st1 := []) d_Co_serveLine_86 s_yTa_turn m_Co_104 H0.2.2.1 rfl rfl rfl (Nat.le_of_ble_eq_true rfl) rfl rfl (c_Ta_turn l (d0 + 0) t0 H0.2.2 x2 I w1) ?_
          cases h
          exact go_return d_Co_serveLine_89 rfl gb_po_i
        · rw [if_pos hc] at h
          refine go_aload_n (k := 0) d_Co_serveLine_58 rfl rfl ?_
          refine go_getr (ci := 6) (k := 1) (r := t0) d_Co_serveLine_59 H0.1 rfl (by decide) f_Co_19 rfl ?_
          refine go_iconst (v := 1) d_Co_serveLine_62 (by decide) ?_
          refine go_iload_n (k := 2) d_Co_serveLine_63 rfl rfl ?_
          refine go_iload_n (k := 3) d_Co_serveLine_64 rfl rfl ?_
          obtain ⟨I2, w1, h⟩ := fbd_e h
          refine go_callV (y := yTa_putBoat) (asr := [.inl 1, .inl x2, .inl x3]) (v := none) (I' := I2) (st1 := []) d_Co_serveLine_65 s_yTa_putBoat m_Co_57 H0.2.2.1 rfl rfl rfl (Nat.le_of_ble_eq_true rfl) rfl rfl (c_Ta_putBoat l (d0 + 1) t0 H0.2.2 1 x2 x3 I w1) ?_
          refine go_aload_n (k := 0) d_Co_serveLine_68 rfl rfl ?_
          refine go_getr (ci := 6) (k := 1) (r := t0) d_Co_serveLine_69 H0.1 rfl (by decide) f_Co_19 rfl ?_
          refine go_iconst (v := 4) d_Co_serveLine_72 (by decide) ?_
          refine go_iload_n (k := 2) d_Co_serveLine_73 rfl rfl ?_
          refine go_iconst (v := 0) d_Co_serveLine_74 (by decide) ?_
          obtain ⟨I3, w1, h⟩ := fbd_e h
          refine go_callV (y := yTa_putBoat) (asr := [.inl 4, .inl x2, .inl 0]) (v := none) (I' := I3) (st1 := []) d_Co_serveLine_75 s_yTa_putBoat m_Co_57 H0.2.2.1 rfl rfl rfl (Nat.le_of_ble_eq_true rfl) rfl rfl (c_Ta_putBoat l (d0 + 1) t0 H0.2.2 4 x2 0 I2 w1) ?_
          refine go_goto (tgt := 89) d_Co_serveLine_78 (by decide) ?_
          cases h
          exact go_return d_Co_serveLine_89 rfl gb_po_i
      · rw [if_pos hc] at h
        refine go_aload_n (k := 0) d_Co_serveLine_43 rfl rfl ?_
        refine go_iload_n (k := 2) d_Co_serveLine_44 rfl rfl ?_
        obtain ⟨I4, w1, h⟩ := fbd_e h
        refine go_callV (y := yCo_salt) (asr := [.inl x2]) (v := none) (I' := I4) (st1 := []) d_Co_serveLine_45 s_yCo_salt m_Co_101 H0.1 rfl rfl rfl (Nat.le_of_ble_eq_true rfl) rfl rfl (c_Co_salt l (d0 + 0) h0 t0 H0 x2 I w1) ?_
        refine go_goto (tgt := 89) d_Co_serveLine_48 (by decide) ?_
        cases h
        exact go_return d_Co_serveLine_89 rfl gb_po_i
    · rw [if_pos hc] at h
      refine go_aload_n (k := 0) d_Co_serveLine_25 rfl rfl ?_
      refine go_getr (ci := 6) (k := 1) (r := t0) d_Co_serveLine_26 H0.1 rfl (by decide) f_Co_19 rfl ?_
      refine go_iload_n (k := 2) d_Co_serveLine_29 rfl rfl ?_
      obtain ⟨I5, eI5, h⟩ := fstf_e h
      refine go_putTN (ci := 2) (k := 2) (I' := I5) d_Co_serveLine_30 H0.2.2.1 rfl (by decide) f_Co_34 rfl rfl rfl rfl rfl eI5 ?_
      refine go_goto (tgt := 89) d_Co_serveLine_33 (by decide) ?_
      cases h
      exact go_return d_Co_serveLine_89 rfl gb_po_i
  · rw [if_pos hc] at h
    refine go_aload_n (k := 0) d_Co_serveLine_7 rfl rfl ?_
    refine go_getr (ci := 6) (k := 1) (r := t0) d_Co_serveLine_8 H0.1 rfl (by decide) f_Co_19 rfl ?_
    refine go_iload_n (k := 2) d_Co_serveLine_11 rfl rfl ?_
    obtain ⟨I6, eI6, h⟩ := fstf_e h
    refine go_putTN (ci := 2) (k := 3) (I' := I6) d_Co_serveLine_12 H0.2.2.1 rfl (by decide) f_Co_98 rfl rfl rfl rfl rfl eI6 ?_
    refine go_goto (tgt := 89) d_Co_serveLine_15 (by decide) ?_
    cases h
    exact go_return d_Co_serveLine_89 rfl gb_po_i
theorem d_Co_setOutAgain_0 : decode yCo_setOutAgain.2.1 0 = .ok (.aload_n 0, 1) := by decide +kernel
theorem d_Co_setOutAgain_1 : decode yCo_setOutAgain.2.1 1 = .ok (.getfield 15, 3) := by decide +kernel
theorem d_Co_setOutAgain_4 : decode yCo_setOutAgain.2.1 4 = .ok (.getfield 150, 3) := by decide +kernel
theorem d_Co_setOutAgain_7 : decode yCo_setOutAgain.2.1 7 = .ok (.astore_n 2, 1) := by decide +kernel
theorem d_Co_setOutAgain_8 : decode yCo_setOutAgain.2.1 8 = .ok (.aload_n 2, 1) := by decide +kernel
theorem d_Co_setOutAgain_9 : decode yCo_setOutAgain.2.1 9 = .ok (.getfield 87, 3) := by decide +kernel
theorem d_Co_setOutAgain_12 : decode yCo_setOutAgain.2.1 12 = .ok (.iconst 1, 1) := by decide +kernel
theorem d_Co_setOutAgain_13 : decode yCo_setOutAgain.2.1 13 = .ok (.isub, 1) := by decide +kernel
theorem d_Co_setOutAgain_14 : decode yCo_setOutAgain.2.1 14 = .ok (.istore_n 3, 1) := by decide +kernel
theorem d_Co_setOutAgain_15 : decode yCo_setOutAgain.2.1 15 = .ok (.iload_n 3, 1) := by decide +kernel
theorem d_Co_setOutAgain_16 : decode yCo_setOutAgain.2.1 16 = .ok (.ifCond .lt 43, 3) := by decide +kernel
theorem d_Co_setOutAgain_19 : decode yCo_setOutAgain.2.1 19 = .ok (.aload_n 2, 1) := by decide +kernel
theorem d_Co_setOutAgain_20 : decode yCo_setOutAgain.2.1 20 = .ok (.iload_n 3, 1) := by decide +kernel
theorem d_Co_setOutAgain_21 : decode yCo_setOutAgain.2.1 21 = .ok (.iconst 0, 1) := by decide +kernel
theorem d_Co_setOutAgain_22 : decode yCo_setOutAgain.2.1 22 = .ok (.invokevirtual 92, 3) := by decide +kernel
theorem d_Co_setOutAgain_25 : decode yCo_setOutAgain.2.1 25 = .ok (.iload_n 1, 1) := by decide +kernel
theorem d_Co_setOutAgain_26 : decode yCo_setOutAgain.2.1 26 = .ok (.if_icmp .ne 27, 3) := by decide +kernel
theorem d_Co_setOutAgain_29 : decode yCo_setOutAgain.2.1 29 = .ok (.aload_n 0, 1) := by decide +kernel
theorem d_Co_setOutAgain_30 : decode yCo_setOutAgain.2.1 30 = .ok (.getfield 19, 3) := by decide +kernel
theorem d_Co_setOutAgain_33 : decode yCo_setOutAgain.2.1 33 = .ok (.iconst 1, 1) := by decide +kernel
theorem d_Co_setOutAgain_34 : decode yCo_setOutAgain.2.1 34 = .ok (.iload_n 1, 1) := by decide +kernel
theorem d_Co_setOutAgain_35 : decode yCo_setOutAgain.2.1 35 = .ok (.aload_n 2, 1) := by decide +kernel
theorem d_Co_setOutAgain_36 : decode yCo_setOutAgain.2.1 36 = .ok (.iload_n 3, 1) := by decide +kernel
theorem d_Co_setOutAgain_37 : decode yCo_setOutAgain.2.1 37 = .ok (.iconst 1, 1) := by decide +kernel
theorem d_Co_setOutAgain_38 : decode yCo_setOutAgain.2.1 38 = .ok (.invokevirtual 92, 3) := by decide +kernel
theorem d_Co_setOutAgain_41 : decode yCo_setOutAgain.2.1 41 = .ok (.invokevirtual 57, 3) := by decide +kernel
theorem d_Co_setOutAgain_44 : decode yCo_setOutAgain.2.1 44 = .ok (.aload_n 0, 1) := by decide +kernel
theorem d_Co_setOutAgain_45 : decode yCo_setOutAgain.2.1 45 = .ok (.getfield 19, 3) := by decide +kernel
theorem d_Co_setOutAgain_48 : decode yCo_setOutAgain.2.1 48 = .ok (.iload_n 1, 1) := by decide +kernel
theorem d_Co_setOutAgain_49 : decode yCo_setOutAgain.2.1 49 = .ok (.invokevirtual 104, 3) := by decide +kernel
theorem d_Co_setOutAgain_52 : decode yCo_setOutAgain.2.1 52 = .ok (.return_, 1) := by decide +kernel
theorem d_Co_setOutAgain_53 : decode yCo_setOutAgain.2.1 53 = .ok (.iinc 3 (-1), 3) := by decide +kernel
theorem d_Co_setOutAgain_56 : decode yCo_setOutAgain.2.1 56 = .ok (.goto (-41), 3) := by decide +kernel
theorem d_Co_setOutAgain_59 : decode yCo_setOutAgain.2.1 59 = .ok (.return_, 1) := by decide +kernel
def L_Co_setOutAgain_15 (h0 t0 : Nat) (x1 : Int32) : Nat → Int32 → gb_Mem → Option ((gb_Mem) ⊕ (gb_Mem))
  | 0, _, _ => none
  | n + 1, x3, I =>
    if x3 < 0 then
      some (.inl I)
    else
      fbd (F_Ro_cell 11 64 x3 0 I) fun r1 =>
      if r1 = x1 then
        fbd (F_Ro_cell 11 64 x3 1 I) fun r2 =>
        fbd (F_Ta_putBoat t0 1 x1 r2 I) fun I3 =>
        fbd (F_Ta_turn t0 x1 I3) fun I4 =>
        some (.inr I4)
      else
        L_Co_setOutAgain_15 h0 t0 x1 n (x3 + (-1)) I
set_option maxRecDepth 4000 in
theorem l_Co_setOutAgain_15 (l : Launch) (d0 : Nat) (h0 t0 : Nat) (H0 : isCo h0 t0) (x1 : Int32) {post : Option gb_AV → List gb_Ce → gb_Mem → Prop} : ∀ (n : Nat) (x3 : Int32) (I : gb_Mem) {ρ : (gb_Mem) ⊕ (gb_Mem)} (h : L_Co_setOutAgain_15 h0 t0 x1 n x3 I = some ρ) (hX : ∀ (I2 : gb_Mem), ρ = .inl I2 → gb_Go l yCo_setOutAgain (d0 + 3) 0 0 59 [] [] shX I2 post) (hR : ∀ (I3 : gb_Mem), ρ = .inr I3 → post none shX I3) , gb_Go l yCo_setOutAgain (d0 + 3) 0 0 15 [(0, .inr (some h0)), (1, .inl x1), (2, .inr (some 11)), (3, .inl x3)] [] shX I post := by
  intro n
  induction n with
  | zero => intro x3 I ρ h hX hR; cases h
  | succ n ih =>
    intro x3 I ρ h hX hR
    rw [L_Co_setOutAgain_15] at h
    refine go_iload_n (k := 3) d_Co_setOutAgain_15 rfl rfl ?_
    refine go_if_lt (tgt := 59) d_Co_setOutAgain_16 (by decide) (fun hc => ?_) (fun hc => ?_)
    · rw [if_pos hc] at h
      exact go_lv [] rfl (hX _ (Option.some.inj h).symm)
    · rw [if_neg hc] at h
      refine go_aload_n (k := 2) d_Co_setOutAgain_19 rfl rfl ?_
      refine go_iload_n (k := 3) d_Co_setOutAgain_20 rfl rfl ?_
      refine go_iconst (v := 0) d_Co_setOutAgain_21 (by decide) ?_
      obtain ⟨r1, w1, h⟩ := fbd_e h
      refine go_callV (y := yRo_cell) (asr := [.inl x3, .inl 0]) (v := some (.inl r1)) (I' := I) (st1 := [.inl r1]) d_Co_setOutAgain_22 s_yRo_cell m_Co_92 a_X_11 rfl rfl rfl (Nat.le_of_ble_eq_true rfl) rfl rfl (c_Ro_cell l (d0 + 1) 11 64 isRo_11 x3 0 I w1) ?_
      refine go_iload_n (k := 1) d_Co_setOutAgain_25 rfl rfl ?_
      refine go_cmp_ne (tgt := 53) d_Co_setOutAgain_26 (by decide) (fun hc => ?_) (fun hc => ?_)
      · rw [if_neg hc] at h
        refine go_iinc (k := 3) (v := x3 + (-1)) (lv' := [(3, .inl (x3 + (-1))), (0, .inr (some h0)), (1, .inl x1), (2, .inr (some 11))]) d_Co_setOutAgain_53 rfl rfl (by decide) rfl ?_
        refine go_goto (tgt := 15) d_Co_setOutAgain_56 (by decide) ?_
        exact go_lv [1, 2, 3, 0] rfl (ih (x3 + (-1)) I h hX hR)
      · rw [if_pos hc] at h
        refine go_aload_n (k := 0) d_Co_setOutAgain_29 rfl rfl ?_
        refine go_getr (ci := 6) (k := 1) (r := t0) d_Co_setOutAgain_30 H0.1 rfl (by decide) f_Co_19 rfl ?_
        refine go_iconst (v := 1) d_Co_setOutAgain_33 (by decide) ?_
        refine go_iload_n (k := 1) d_Co_setOutAgain_34 rfl rfl ?_
        refine go_aload_n (k := 2) d_Co_setOutAgain_35 rfl rfl ?_
        refine go_iload_n (k := 3) d_Co_setOutAgain_36 rfl rfl ?_
        refine go_iconst (v := 1) d_Co_setOutAgain_37 (by decide) ?_
        obtain ⟨r2, w1, h⟩ := fbd_e h
        refine go_callV (y := yRo_cell) (asr := [.inl x3, .inl 1]) (v := some (.inl r2)) (I' := I) (st1 := [.inl r2, .inl x1, .inl 1, .inr (some t0)]) d_Co_setOutAgain_38 s_yRo_cell m_Co_92 a_X_11 rfl rfl rfl (Nat.le_of_ble_eq_true rfl) rfl rfl (c_Ro_cell l (d0 + 1) 11 64 isRo_11 x3 1 I w1) ?_
        obtain ⟨I3, w1, h⟩ := fbd_e h
        refine go_callV (y := yTa_putBoat) (asr := [.inl 1, .inl x1, .inl r2]) (v := none) (I' := I3) (st1 := []) d_Co_setOutAgain_41 s_yTa_putBoat m_Co_57 H0.2.2.1 rfl rfl rfl (Nat.le_of_ble_eq_true rfl) rfl rfl (c_Ta_putBoat l (d0 + 1) t0 H0.2.2 1 x1 r2 I w1) ?_
        refine go_aload_n (k := 0) d_Co_setOutAgain_44 rfl rfl ?_
        refine go_getr (ci := 6) (k := 1) (r := t0) d_Co_setOutAgain_45 H0.1 rfl (by decide) f_Co_19 rfl ?_
        refine go_iload_n (k := 1) d_Co_setOutAgain_48 rfl rfl ?_
        obtain ⟨I4, w1, h⟩ := fbd_e h
        refine go_callV (y := yTa_turn) (asr := [.inl x1]) (v := none) (I' := I4) (st1 := []) d_Co_setOutAgain_49 s_yTa_turn m_Co_104 H0.2.2.1 rfl rfl rfl (Nat.le_of_ble_eq_true rfl) rfl rfl (c_Ta_turn l (d0 + 0) t0 H0.2.2 x1 I3 w1) ?_
        exact go_return d_Co_setOutAgain_52 rfl (hR _ (Option.some.inj h).symm)
def F_Co_setOutAgain (h0 t0 : Nat) (x1 : Int32) (I : gb_Mem) : Option (gb_Mem) :=
  fbr (L_Co_setOutAgain_15 h0 t0 x1 5000 ((I 11 2) - 1) I) (fun I5 =>
    some I5)
    (fun I7 => some I7)
set_option maxRecDepth 4000 in
theorem c_Co_setOutAgain (l : Launch) (d0 : Nat) (h0 t0 : Nat) (H0 : isCo h0 t0) (x1 : Int32) (I : gb_Mem) {Iz : gb_Mem} (h : F_Co_setOutAgain h0 t0 x1 I = some Iz) : gb_Cs l yCo_setOutAgain (d0 + 3) [.inr (some h0), .inl x1] shX I none Iz := by
  refine gb_Ct.of (lv := [(0, .inr (some h0)), (1, .inl x1)]) rfl (Nat.le_of_ble_eq_true rfl) rfl ?_
  unfold F_Co_setOutAgain at h
  show gb_Go l yCo_setOutAgain (d0 + 3) 0 0 0 [(0, .inr (some h0)), (1, .inl x1)] [] shX I (gb_po shX none Iz)
  refine go_aload_n (k := 0) d_Co_setOutAgain_0 rfl rfl ?_
  refine go_getr (ci := 6) (k := 0) (r := 1) d_Co_setOutAgain_1 H0.1 rfl (by decide) f_Co_15 rfl ?_
  refine go_getrN (ci := 1) (k := 2) (r := 11) d_Co_setOutAgain_4 a_X_1 rfl (by decide) f_Co_150 rfl ?_
  refine go_astore_n (lv' := [(2, .inr (some 11)), (0, .inr (some h0)), (1, .inl x1)]) d_Co_setOutAgain_7 rfl (by decide) rfl ?_
  refine go_aload_n (k := 0) d_Co_setOutAgain_8 rfl rfl ?_
  refine go_getiN (ci := 4) (k := 2) d_Co_setOutAgain_9 a_X_11 rfl (by decide) f_Co_87 rfl ?_
  refine go_iconst (v := 1) d_Co_setOutAgain_12 (by decide) ?_
  refine go_isub d_Co_setOutAgain_13 ?_
  refine go_istore_n (lv' := [(3, .inl ((I 11 2) - 1)), (2, .inr (some 11)), (0, .inr (some h0)), (1, .inl x1)]) d_Co_setOutAgain_14 rfl (by decide) rfl ?_
  refine go_lv [2, 3, 1, 0] (lv' := [(0, .inr (some h0)), (1, .inl x1), (2, .inr (some 11)), (3, .inl ((I 11 2) - 1))]) rfl ?_
  obtain ⟨ρ, w1, w2, w3⟩ := fbr_e2 h
  refine l_Co_setOutAgain_15 l d0 h0 t0 H0 x1 5000 ((I 11 2) - 1) I w1 (fun I5 e => ?_) (fun I7 e => ?_)
  · have h := w2 _ e
    try dsimp only at h
    cases h
    exact go_return d_Co_setOutAgain_59 rfl gb_po_i
  · have h := w3 _ e
    try dsimp only at h
    cases h
    exact gb_po_i
theorem d_Gb_both_0 : decode yGb_both.2.1 0 = .ok (.aload_n 0, 1) := by decide +kernel
theorem d_Gb_both_1 : decode yGb_both.2.1 1 = .ok (.getfield 12, 3) := by decide +kernel
theorem d_Gb_both_4 : decode yGb_both.2.1 4 = .ok (.getfield 211, 3) := by decide +kernel
theorem d_Gb_both_7 : decode yGb_both.2.1 7 = .ok (.astore_n 2, 1) := by decide +kernel
theorem d_Gb_both_8 : decode yGb_both.2.1 8 = .ok (.aload_n 0, 1) := by decide +kernel
theorem d_Gb_both_9 : decode yGb_both.2.1 9 = .ok (.getfield 12, 3) := by decide +kernel
theorem d_Gb_both_12 : decode yGb_both.2.1 12 = .ok (.getfield 214, 3) := by decide +kernel
theorem d_Gb_both_15 : decode yGb_both.2.1 15 = .ok (.astore_n 3, 1) := by decide +kernel
theorem d_Gb_both_16 : decode yGb_both.2.1 16 = .ok (.iload_n 1, 1) := by decide +kernel
theorem d_Gb_both_17 : decode yGb_both.2.1 17 = .ok (.ifCond .ne 13, 3) := by decide +kernel
theorem d_Gb_both_20 : decode yGb_both.2.1 20 = .ok (.aload_n 0, 1) := by decide +kernel
theorem d_Gb_both_21 : decode yGb_both.2.1 21 = .ok (.getfield 60, 3) := by decide +kernel
theorem d_Gb_both_24 : decode yGb_both.2.1 24 = .ok (.aload_n 2, 1) := by decide +kernel
theorem d_Gb_both_25 : decode yGb_both.2.1 25 = .ok (.aload_n 3, 1) := by decide +kernel
theorem d_Gb_both_26 : decode yGb_both.2.1 26 = .ok (.invokevirtual 221, 3) := by decide +kernel
theorem d_Gb_both_29 : decode yGb_both.2.1 29 = .ok (.ireturn, 1) := by decide +kernel
theorem d_Gb_both_30 : decode yGb_both.2.1 30 = .ok (.iload_n 1, 1) := by decide +kernel
theorem d_Gb_both_31 : decode yGb_both.2.1 31 = .ok (.iconst 1, 1) := by decide +kernel
theorem d_Gb_both_32 : decode yGb_both.2.1 32 = .ok (.if_icmp .ne 13, 3) := by decide +kernel
theorem d_Gb_both_35 : decode yGb_both.2.1 35 = .ok (.aload_n 0, 1) := by decide +kernel
theorem d_Gb_both_36 : decode yGb_both.2.1 36 = .ok (.getfield 60, 3) := by decide +kernel
theorem d_Gb_both_39 : decode yGb_both.2.1 39 = .ok (.aload_n 2, 1) := by decide +kernel
theorem d_Gb_both_40 : decode yGb_both.2.1 40 = .ok (.aload_n 3, 1) := by decide +kernel
theorem d_Gb_both_41 : decode yGb_both.2.1 41 = .ok (.invokevirtual 225, 3) := by decide +kernel
theorem d_Gb_both_44 : decode yGb_both.2.1 44 = .ok (.ireturn, 1) := by decide +kernel
theorem d_Gb_both_45 : decode yGb_both.2.1 45 = .ok (.iload_n 1, 1) := by decide +kernel
theorem d_Gb_both_46 : decode yGb_both.2.1 46 = .ok (.iconst 2, 1) := by decide +kernel
theorem d_Gb_both_47 : decode yGb_both.2.1 47 = .ok (.if_icmp .ne 25, 3) := by decide +kernel
theorem d_Gb_both_50 : decode yGb_both.2.1 50 = .ok (.aload_n 2, 1) := by decide +kernel
theorem d_Gb_both_51 : decode yGb_both.2.1 51 = .ok (.getfield 189, 3) := by decide +kernel
theorem d_Gb_both_54 : decode yGb_both.2.1 54 = .ok (.aload_n 3, 1) := by decide +kernel
theorem d_Gb_both_55 : decode yGb_both.2.1 55 = .ok (.getfield 189, 3) := by decide +kernel
theorem d_Gb_both_58 : decode yGb_both.2.1 58 = .ok (.iadd, 1) := by decide +kernel
theorem d_Gb_both_59 : decode yGb_both.2.1 59 = .ok (.aload_n 0, 1) := by decide +kernel
theorem d_Gb_both_60 : decode yGb_both.2.1 60 = .ok (.getfield 60, 3) := by decide +kernel
theorem d_Gb_both_63 : decode yGb_both.2.1 63 = .ok (.aload_n 2, 1) := by decide +kernel
theorem d_Gb_both_64 : decode yGb_both.2.1 64 = .ok (.aload_n 3, 1) := by decide +kernel
theorem d_Gb_both_65 : decode yGb_both.2.1 65 = .ok (.invokevirtual 221, 3) := by decide +kernel
theorem d_Gb_both_68 : decode yGb_both.2.1 68 = .ok (.isub, 1) := by decide +kernel
theorem d_Gb_both_69 : decode yGb_both.2.1 69 = .ok (.goto 4, 3) := by decide +kernel
theorem d_Gb_both_72 : decode yGb_both.2.1 72 = .ok (.iconst (-1), 1) := by decide +kernel
theorem d_Gb_both_73 : decode yGb_both.2.1 73 = .ok (.ireturn, 1) := by decide +kernel
def F_Gb_both (x1 : Int32) (I : gb_Mem) : Option (Int32 × gb_Mem) :=
  if x1 = 0 then
    fbd (F_Re_inBoth 19 48 21 48 I) fun (r6, I5) =>
    some (r6, I5)
  else
    if x1 = 1 then
      fbd (F_Re_changesBetween 19 48 21 48 I) fun (r4, I3) =>
      some (r4, I3)
    else
      if x1 = 2 then
        fbd (F_Re_inBoth 19 48 21 48 I) fun (r2, I1) =>
        some (((I 19 2) + (I 21 2)) - r2, I1)
      else
        some ((-1), I)
set_option maxRecDepth 4000 in
theorem c_Gb_both (l : Launch) (d0 : Nat) (x1 : Int32) (I : gb_Mem) {rz : Int32} {Iz : gb_Mem} (h : F_Gb_both x1 I = some (rz, Iz)) : gb_Cs l yGb_both (d0 + 3) [.inr (some 0), .inl x1] shX I (some (.inl rz)) Iz := by
  refine gb_Ct.of (lv := [(0, .inr (some 0)), (1, .inl x1)]) rfl (Nat.le_of_ble_eq_true rfl) rfl ?_
  unfold F_Gb_both at h
  show gb_Go l yGb_both (d0 + 3) 0 0 0 [(0, .inr (some 0)), (1, .inl x1)] [] shX I (gb_po shX (some (.inl rz)) Iz)
  refine go_aload_n (k := 0) d_Gb_both_0 rfl rfl ?_
  refine go_getr (ci := 0) (k := 0) (r := 1) d_Gb_both_1 a_X_0 rfl (by decide) f_Gb_12 rfl ?_
  refine go_getrN (ci := 1) (k := 6) (r := 19) d_Gb_both_4 a_X_1 rfl (by decide) f_Gb_211 rfl ?_
  refine go_astore_n (lv' := [(2, .inr (some 19)), (0, .inr (some 0)), (1, .inl x1)]) d_Gb_both_7 rfl (by decide) rfl ?_
  refine go_aload_n (k := 1) d_Gb_both_8 rfl rfl ?_
  refine go_getr (ci := 0) (k := 0) (r := 1) d_Gb_both_9 a_X_0 rfl (by decide) f_Gb_12 rfl ?_
  refine go_getrN (ci := 1) (k := 7) (r := 21) d_Gb_both_12 a_X_1 rfl (by decide) f_Gb_214 rfl ?_
  refine go_astore_n (lv' := [(3, .inr (some 21)), (2, .inr (some 19)), (0, .inr (some 0)), (1, .inl x1)]) d_Gb_both_15 rfl (by decide) rfl ?_
  refine go_iload_n (k := 3) d_Gb_both_16 rfl rfl ?_
  refine go_if_ne (tgt := 30) d_Gb_both_17 (by decide) (fun hc => ?_) (fun hc => ?_)
  · rw [if_neg hc] at h
    refine go_iload_n (k := 3) d_Gb_both_30 rfl rfl ?_
    refine go_iconst (v := 1) d_Gb_both_31 (by decide) ?_
    refine go_cmp_ne (tgt := 45) d_Gb_both_32 (by decide) (fun hc => ?_) (fun hc => ?_)
    · rw [if_neg hc] at h
      refine go_iload_n (k := 3) d_Gb_both_45 rfl rfl ?_
      refine go_iconst (v := 2) d_Gb_both_46 (by decide) ?_
      refine go_cmp_ne (tgt := 72) d_Gb_both_47 (by decide) (fun hc => ?_) (fun hc => ?_)
      · rw [if_neg hc] at h
        refine go_iconst (v := (-1)) d_Gb_both_72 (by decide) ?_
        cases h
        exact go_ireturn d_Gb_both_73 rfl gb_po_i
      · rw [if_pos hc] at h
        refine go_aload_n (k := 1) d_Gb_both_50 rfl rfl ?_
        refine go_getiN (ci := 4) (k := 2) d_Gb_both_51 a_X_19 rfl (by decide) f_Gb_189 rfl ?_
        refine go_aload_n (k := 0) d_Gb_both_54 rfl rfl ?_
        refine go_getiN (ci := 4) (k := 2) d_Gb_both_55 a_X_21 rfl (by decide) f_Gb_189 rfl ?_
        refine go_iadd d_Gb_both_58 ?_
        refine go_aload_n (k := 2) d_Gb_both_59 rfl rfl ?_
        refine go_getr (ci := 0) (k := 8) (r := 106) d_Gb_both_60 a_X_0 rfl (by decide) f_Gb_60 rfl ?_
        refine go_aload_n (k := 1) d_Gb_both_63 rfl rfl ?_
        refine go_aload_n (k := 0) d_Gb_both_64 rfl rfl ?_
        obtain ⟨⟨r2, I1⟩, w1, h⟩ := fbd_e h
        try dsimp only at h
        refine go_callV (y := yRe_inBoth) (asr := [.inr (some 19), .inr (some 21)]) (v := some (.inl r2)) (I' := I1) (st1 := [.inl r2, .inl ((I 19 2) + (I 21 2))]) d_Gb_both_65 s_yRe_inBoth m_Gb_221 a_X_106 rfl rfl rfl (Nat.le_of_ble_eq_true rfl) rfl rfl (c_Re_inBoth l (d0 + 0) 19 48 21 48 isRo_19 isRo_21 I w1) ?_
        refine go_isub d_Gb_both_68 ?_
        refine go_goto (tgt := 73) d_Gb_both_69 (by decide) ?_
        cases h
        exact go_ireturn d_Gb_both_73 rfl gb_po_i
    · rw [if_pos hc] at h
      refine go_aload_n (k := 2) d_Gb_both_35 rfl rfl ?_
      refine go_getr (ci := 0) (k := 8) (r := 106) d_Gb_both_36 a_X_0 rfl (by decide) f_Gb_60 rfl ?_
      refine go_aload_n (k := 1) d_Gb_both_39 rfl rfl ?_
      refine go_aload_n (k := 0) d_Gb_both_40 rfl rfl ?_
      obtain ⟨⟨r4, I3⟩, w1, h⟩ := fbd_e h
      try dsimp only at h
      refine go_callV (y := yRe_changesBetween) (asr := [.inr (some 19), .inr (some 21)]) (v := some (.inl r4)) (I' := I3) (st1 := [.inl r4]) d_Gb_both_41 s_yRe_changesBetween m_Gb_225 a_X_106 rfl rfl rfl (Nat.le_of_ble_eq_true rfl) rfl rfl (c_Re_changesBetween l (d0 + 0) 19 48 21 48 isRo_19 isRo_21 I w1) ?_
      cases h
      exact go_ireturn d_Gb_both_44 rfl gb_po_i
  · rw [if_pos hc] at h
    refine go_aload_n (k := 2) d_Gb_both_20 rfl rfl ?_
    refine go_getr (ci := 0) (k := 8) (r := 106) d_Gb_both_21 a_X_0 rfl (by decide) f_Gb_60 rfl ?_
    refine go_aload_n (k := 1) d_Gb_both_24 rfl rfl ?_
    refine go_aload_n (k := 0) d_Gb_both_25 rfl rfl ?_
    obtain ⟨⟨r6, I5⟩, w1, h⟩ := fbd_e h
    try dsimp only at h
    refine go_callV (y := yRe_inBoth) (asr := [.inr (some 19), .inr (some 21)]) (v := some (.inl r6)) (I' := I5) (st1 := [.inl r6]) d_Gb_both_26 s_yRe_inBoth m_Gb_221 a_X_106 rfl rfl rfl (Nat.le_of_ble_eq_true rfl) rfl rfl (c_Re_inBoth l (d0 + 0) 19 48 21 48 isRo_19 isRo_21 I w1) ?_
    cases h
    exact go_ireturn d_Gb_both_29 rfl gb_po_i
theorem d_Gb_canAct_0 : decode yGb_canAct.2.1 0 = .ok (.iload_n 1, 1) := by decide +kernel
theorem d_Gb_canAct_1 : decode yGb_canAct.2.1 1 = .ok (.iconst 3, 1) := by decide +kernel
theorem d_Gb_canAct_2 : decode yGb_canAct.2.1 2 = .ok (.if_icmp .ne 11, 3) := by decide +kernel
theorem d_Gb_canAct_5 : decode yGb_canAct.2.1 5 = .ok (.iload_n 3, 1) := by decide +kernel
theorem d_Gb_canAct_6 : decode yGb_canAct.2.1 6 = .ok (.iconst 1, 1) := by decide +kernel
theorem d_Gb_canAct_7 : decode yGb_canAct.2.1 7 = .ok (.bipush 9, 2) := by decide +kernel
theorem d_Gb_canAct_9 : decode yGb_canAct.2.1 9 = .ok (.invokestatic 84, 3) := by decide +kernel
theorem d_Gb_canAct_12 : decode yGb_canAct.2.1 12 = .ok (.ireturn, 1) := by decide +kernel
theorem d_Gb_canAct_13 : decode yGb_canAct.2.1 13 = .ok (.iload_n 1, 1) := by decide +kernel
theorem d_Gb_canAct_14 : decode yGb_canAct.2.1 14 = .ok (.iconst 2, 1) := by decide +kernel
theorem d_Gb_canAct_15 : decode yGb_canAct.2.1 15 = .ok (.if_icmp .ne 34, 3) := by decide +kernel
theorem d_Gb_canAct_18 : decode yGb_canAct.2.1 18 = .ok (.iload_n 2, 1) := by decide +kernel
theorem d_Gb_canAct_19 : decode yGb_canAct.2.1 19 = .ok (.iconst 0, 1) := by decide +kernel
theorem d_Gb_canAct_20 : decode yGb_canAct.2.1 20 = .ok (.bipush 11, 2) := by decide +kernel
theorem d_Gb_canAct_22 : decode yGb_canAct.2.1 22 = .ok (.invokestatic 84, 3) := by decide +kernel
theorem d_Gb_canAct_25 : decode yGb_canAct.2.1 25 = .ok (.ifCond .eq 22, 3) := by decide +kernel
theorem d_Gb_canAct_28 : decode yGb_canAct.2.1 28 = .ok (.aload_n 0, 1) := by decide +kernel
theorem d_Gb_canAct_29 : decode yGb_canAct.2.1 29 = .ok (.getfield 12, 3) := by decide +kernel
theorem d_Gb_canAct_32 : decode yGb_canAct.2.1 32 = .ok (.getfield 35, 3) := by decide +kernel
theorem d_Gb_canAct_35 : decode yGb_canAct.2.1 35 = .ok (.iconst 4, 1) := by decide +kernel
theorem d_Gb_canAct_36 : decode yGb_canAct.2.1 36 = .ok (.iload_n 2, 1) := by decide +kernel
theorem d_Gb_canAct_37 : decode yGb_canAct.2.1 37 = .ok (.invokevirtual 179, 3) := by decide +kernel
theorem d_Gb_canAct_40 : decode yGb_canAct.2.1 40 = .ok (.ifCond .le 7, 3) := by decide +kernel
theorem d_Gb_canAct_43 : decode yGb_canAct.2.1 43 = .ok (.iconst 1, 1) := by decide +kernel
theorem d_Gb_canAct_44 : decode yGb_canAct.2.1 44 = .ok (.goto 4, 3) := by decide +kernel
theorem d_Gb_canAct_47 : decode yGb_canAct.2.1 47 = .ok (.iconst 0, 1) := by decide +kernel
theorem d_Gb_canAct_48 : decode yGb_canAct.2.1 48 = .ok (.ireturn, 1) := by decide +kernel
theorem d_Gb_canAct_49 : decode yGb_canAct.2.1 49 = .ok (.iload_n 2, 1) := by decide +kernel
theorem d_Gb_canAct_50 : decode yGb_canAct.2.1 50 = .ok (.iconst 0, 1) := by decide +kernel
theorem d_Gb_canAct_51 : decode yGb_canAct.2.1 51 = .ok (.aload_n 0, 1) := by decide +kernel
theorem d_Gb_canAct_52 : decode yGb_canAct.2.1 52 = .ok (.getfield 12, 3) := by decide +kernel
theorem d_Gb_canAct_55 : decode yGb_canAct.2.1 55 = .ok (.getfield 35, 3) := by decide +kernel
theorem d_Gb_canAct_58 : decode yGb_canAct.2.1 58 = .ok (.getfield 95, 3) := by decide +kernel
theorem d_Gb_canAct_61 : decode yGb_canAct.2.1 61 = .ok (.iconst 1, 1) := by decide +kernel
theorem d_Gb_canAct_62 : decode yGb_canAct.2.1 62 = .ok (.isub, 1) := by decide +kernel
theorem d_Gb_canAct_63 : decode yGb_canAct.2.1 63 = .ok (.invokestatic 84, 3) := by decide +kernel
theorem d_Gb_canAct_66 : decode yGb_canAct.2.1 66 = .ok (.ifCond .ne 5, 3) := by decide +kernel
theorem d_Gb_canAct_69 : decode yGb_canAct.2.1 69 = .ok (.iconst 0, 1) := by decide +kernel
theorem d_Gb_canAct_70 : decode yGb_canAct.2.1 70 = .ok (.ireturn, 1) := by decide +kernel
theorem d_Gb_canAct_71 : decode yGb_canAct.2.1 71 = .ok (.iload_n 1, 1) := by decide +kernel
theorem d_Gb_canAct_72 : decode yGb_canAct.2.1 72 = .ok (.iconst 1, 1) := by decide +kernel
theorem d_Gb_canAct_73 : decode yGb_canAct.2.1 73 = .ok (.if_icmp .ne 21, 3) := by decide +kernel
theorem d_Gb_canAct_76 : decode yGb_canAct.2.1 76 = .ok (.iload_n 3, 1) := by decide +kernel
theorem d_Gb_canAct_77 : decode yGb_canAct.2.1 77 = .ok (.iconst 1, 1) := by decide +kernel
theorem d_Gb_canAct_78 : decode yGb_canAct.2.1 78 = .ok (.aload_n 0, 1) := by decide +kernel
theorem d_Gb_canAct_79 : decode yGb_canAct.2.1 79 = .ok (.getfield 12, 3) := by decide +kernel
theorem d_Gb_canAct_82 : decode yGb_canAct.2.1 82 = .ok (.getfield 35, 3) := by decide +kernel
theorem d_Gb_canAct_85 : decode yGb_canAct.2.1 85 = .ok (.iconst 1, 1) := by decide +kernel
theorem d_Gb_canAct_86 : decode yGb_canAct.2.1 86 = .ok (.iload_n 2, 1) := by decide +kernel
theorem d_Gb_canAct_87 : decode yGb_canAct.2.1 87 = .ok (.invokevirtual 162, 3) := by decide +kernel
theorem d_Gb_canAct_90 : decode yGb_canAct.2.1 90 = .ok (.invokestatic 84, 3) := by decide +kernel
theorem d_Gb_canAct_93 : decode yGb_canAct.2.1 93 = .ok (.ireturn, 1) := by decide +kernel
theorem d_Gb_canAct_94 : decode yGb_canAct.2.1 94 = .ok (.iload_n 1, 1) := by decide +kernel
theorem d_Gb_canAct_95 : decode yGb_canAct.2.1 95 = .ok (.ifCond .ne 44, 3) := by decide +kernel
theorem d_Gb_canAct_98 : decode yGb_canAct.2.1 98 = .ok (.iload_n 3, 1) := by decide +kernel
theorem d_Gb_canAct_99 : decode yGb_canAct.2.1 99 = .ok (.iconst 0, 1) := by decide +kernel
theorem d_Gb_canAct_100 : decode yGb_canAct.2.1 100 = .ok (.bipush 11, 2) := by decide +kernel
theorem d_Gb_canAct_102 : decode yGb_canAct.2.1 102 = .ok (.invokestatic 84, 3) := by decide +kernel
theorem d_Gb_canAct_105 : decode yGb_canAct.2.1 105 = .ok (.ifCond .eq 34, 3) := by decide +kernel
theorem d_Gb_canAct_108 : decode yGb_canAct.2.1 108 = .ok (.aload_n 0, 1) := by decide +kernel
theorem d_Gb_canAct_109 : decode yGb_canAct.2.1 109 = .ok (.getfield 53, 3) := by decide +kernel
theorem d_Gb_canAct_112 : decode yGb_canAct.2.1 112 = .ok (.aload_n 0, 1) := by decide +kernel
theorem d_Gb_canAct_113 : decode yGb_canAct.2.1 113 = .ok (.getfield 12, 3) := by decide +kernel
theorem d_Gb_canAct_116 : decode yGb_canAct.2.1 116 = .ok (.getfield 35, 3) := by decide +kernel
theorem d_Gb_canAct_119 : decode yGb_canAct.2.1 119 = .ok (.iconst 2, 1) := by decide +kernel
theorem d_Gb_canAct_120 : decode yGb_canAct.2.1 120 = .ok (.iload_n 2, 1) := by decide +kernel
theorem d_Gb_canAct_121 : decode yGb_canAct.2.1 121 = .ok (.invokevirtual 162, 3) := by decide +kernel
theorem d_Gb_canAct_124 : decode yGb_canAct.2.1 124 = .ok (.invokevirtual 176, 3) := by decide +kernel
theorem d_Gb_canAct_127 : decode yGb_canAct.2.1 127 = .ok (.iload_n 3, 1) := by decide +kernel
theorem d_Gb_canAct_128 : decode yGb_canAct.2.1 128 = .ok (.ishr, 1) := by decide +kernel
theorem d_Gb_canAct_129 : decode yGb_canAct.2.1 129 = .ok (.iconst 1, 1) := by decide +kernel
theorem d_Gb_canAct_130 : decode yGb_canAct.2.1 130 = .ok (.iand, 1) := by decide +kernel
theorem d_Gb_canAct_131 : decode yGb_canAct.2.1 131 = .ok (.iconst 1, 1) := by decide +kernel
theorem d_Gb_canAct_132 : decode yGb_canAct.2.1 132 = .ok (.if_icmp .ne 7, 3) := by decide +kernel
theorem d_Gb_canAct_135 : decode yGb_canAct.2.1 135 = .ok (.iconst 1, 1) := by decide +kernel
theorem d_Gb_canAct_136 : decode yGb_canAct.2.1 136 = .ok (.goto 4, 3) := by decide +kernel
theorem d_Gb_canAct_139 : decode yGb_canAct.2.1 139 = .ok (.iconst 0, 1) := by decide +kernel
theorem d_Gb_canAct_140 : decode yGb_canAct.2.1 140 = .ok (.ireturn, 1) := by decide +kernel
def F_Gb_canAct (x1 x2 x3 : Int32) (I : gb_Mem) : Option (Int32) :=
  if x1 = 3 then
    some (F_Gb_within x3 1 9 I)
  else
    if x1 = 2 then
      if (F_Gb_within x2 0 11 I) = 0 then
        some 0
      else
        fbd (F_Ta_ofSeat 2 4 x2 I) fun r4 =>
        if r4 ≤ 0 then
          some 0
        else
          some 1
    else
      if (F_Gb_within x2 0 ((I 2 5) - 1) I) = 0 then
        some 0
      else
        if x1 = 1 then
          fbd (F_Ta_ofBoat 2 1 x2 I) fun r3 =>
          some (F_Gb_within x3 1 r3 I)
        else
          if x1 = 0 then
            if (F_Gb_within x3 0 11 I) = 0 then
              some 0
            else
              fbd (F_Ta_ofBoat 2 2 x2 I) fun r1 =>
              fbd (F_Se_reachedFrom r1 I) fun r2 =>
              if ((r2 >>> (x3 &&& 31)) &&& 1) = 1 then
                some 1
              else
                some 0
          else
            some 0
set_option maxRecDepth 4000 in
theorem c_Gb_canAct (l : Launch) (d0 : Nat) (x1 x2 x3 : Int32) (I : gb_Mem) {rz : Int32} (h : F_Gb_canAct x1 x2 x3 I = some rz) : gb_Cs l yGb_canAct (d0 + 3) [.inr (some 0), .inl x1, .inl x2, .inl x3] shX I (some (.inl rz)) I := by
  refine gb_Ct.of (lv := [(0, .inr (some 0)), (1, .inl x1), (2, .inl x2), (3, .inl x3)]) rfl (Nat.le_of_ble_eq_true rfl) rfl ?_
  unfold F_Gb_canAct at h
  show gb_Go l yGb_canAct (d0 + 3) 0 0 0 [(0, .inr (some 0)), (1, .inl x1), (2, .inl x2), (3, .inl x3)] [] shX I (gb_po shX (some (.inl rz)) I)
  refine go_iload_n (k := 1) d_Gb_canAct_0 rfl rfl ?_
  refine go_iconst (v := 3) d_Gb_canAct_1 (by decide) ?_
  refine go_cmp_ne (tgt := 13) d_Gb_canAct_2 (by decide) (fun hc => ?_) (fun hc => ?_)
  · rw [if_neg hc] at h
    refine go_iload_n (k := 1) d_Gb_canAct_13 rfl rfl ?_
    refine go_iconst (v := 2) d_Gb_canAct_14 (by decide) ?_
    refine go_cmp_ne (tgt := 49) d_Gb_canAct_15 (by decide) (fun hc => ?_) (fun hc => ?_)
    · rw [if_neg hc] at h
      refine go_iload_n (k := 2) d_Gb_canAct_49 rfl rfl ?_
      refine go_iconst (v := 0) d_Gb_canAct_50 (by decide) ?_
      refine go_aload_n (k := 0) d_Gb_canAct_51 rfl rfl ?_
      refine go_getr (ci := 0) (k := 0) (r := 1) d_Gb_canAct_52 a_X_0 rfl (by decide) f_Gb_12 rfl ?_
      refine go_getrN (ci := 1) (k := 0) (r := 2) d_Gb_canAct_55 a_X_1 rfl (by decide) f_Gb_35 rfl ?_
      refine go_getiN (ci := 2) (k := 5) d_Gb_canAct_58 a_X_2 rfl (by decide) f_Gb_95 rfl ?_
      refine go_iconst (v := 1) d_Gb_canAct_61 (by decide) ?_
      refine go_isub d_Gb_canAct_62 ?_
      refine go_callS (y := yGb_within) (asr := [.inl x2, .inl 0, .inl ((I 2 5) - 1)]) (v := some (.inl (F_Gb_within x2 0 ((I 2 5) - 1) I))) (I' := I) (st1 := [.inl (F_Gb_within x2 0 ((I 2 5) - 1) I)]) d_Gb_canAct_63 s_yGb_within m_Gb_84 rfl (Nat.le_of_ble_eq_true rfl) rfl rfl (c_Gb_within l (d0 + 2) x2 0 ((I 2 5) - 1) I) ?_
      refine go_if_ne (tgt := 71) d_Gb_canAct_66 (by decide) (fun hc => ?_) (fun hc => ?_)
      · rw [if_neg hc] at h
        refine go_iload_n (k := 1) d_Gb_canAct_71 rfl rfl ?_
        refine go_iconst (v := 1) d_Gb_canAct_72 (by decide) ?_
        refine go_cmp_ne (tgt := 94) d_Gb_canAct_73 (by decide) (fun hc => ?_) (fun hc => ?_)
        · rw [if_neg hc] at h
          refine go_iload_n (k := 1) d_Gb_canAct_94 rfl rfl ?_
          refine go_if_ne (tgt := 139) d_Gb_canAct_95 (by decide) (fun hc => ?_) (fun hc => ?_)
          · rw [if_neg hc] at h
            refine go_iconst (v := 0) d_Gb_canAct_139 (by decide) ?_
            cases h
            exact go_zreturn d_Gb_canAct_140 rfl (Or.inl rfl) gb_po_i
          · rw [if_pos hc] at h
            refine go_iload_n (k := 3) d_Gb_canAct_98 rfl rfl ?_
            refine go_iconst (v := 0) d_Gb_canAct_99 (by decide) ?_
            refine go_bipush (v := 11) d_Gb_canAct_100 (by decide) ?_
            refine go_callS (y := yGb_within) (asr := [.inl x3, .inl 0, .inl 11]) (v := some (.inl (F_Gb_within x3 0 11 I))) (I' := I) (st1 := [.inl (F_Gb_within x3 0 11 I)]) d_Gb_canAct_102 s_yGb_within m_Gb_84 rfl (Nat.le_of_ble_eq_true rfl) rfl rfl (c_Gb_within l (d0 + 2) x3 0 11 I) ?_
            refine go_if_eq (tgt := 139) d_Gb_canAct_105 (by decide) (fun hc => ?_) (fun hc => ?_)
            · rw [if_pos hc] at h
              refine go_iconst (v := 0) d_Gb_canAct_139 (by decide) ?_
              cases h
              exact go_zreturn d_Gb_canAct_140 rfl (Or.inl rfl) gb_po_i
            · rw [if_neg hc] at h
              refine go_aload_n (k := 0) d_Gb_canAct_108 rfl rfl ?_
              refine go_getr (ci := 0) (k := 7) (r := 104) d_Gb_canAct_109 a_X_0 rfl (by decide) f_Gb_53 rfl ?_
              refine go_aload_n (k := 0) d_Gb_canAct_112 rfl rfl ?_
              refine go_getr (ci := 0) (k := 0) (r := 1) d_Gb_canAct_113 a_X_0 rfl (by decide) f_Gb_12 rfl ?_
              refine go_getrN (ci := 1) (k := 0) (r := 2) d_Gb_canAct_116 a_X_1 rfl (by decide) f_Gb_35 rfl ?_
              refine go_iconst (v := 2) d_Gb_canAct_119 (by decide) ?_
              refine go_iload_n (k := 2) d_Gb_canAct_120 rfl rfl ?_
              obtain ⟨r1, w1, h⟩ := fbd_e h
              refine go_callV (y := yTa_ofBoat) (asr := [.inl 2, .inl x2]) (v := some (.inl r1)) (I' := I) (st1 := [.inl r1, .inr (some 104)]) d_Gb_canAct_121 s_yTa_ofBoat m_Gb_162 a_X_2 rfl rfl rfl (Nat.le_of_ble_eq_true rfl) rfl rfl (c_Ta_ofBoat l (d0 + 1) 2 isTa_2 2 x2 I w1) ?_
              obtain ⟨r2, w1, h⟩ := fbd_e h
              refine go_callV (y := ySe_reachedFrom) (asr := [.inl r1]) (v := some (.inl r2)) (I' := I) (st1 := [.inl r2]) d_Gb_canAct_124 s_ySe_reachedFrom m_Gb_176 a_X_104 rfl rfl rfl (Nat.le_of_ble_eq_true rfl) rfl rfl (c_Se_reachedFrom l (d0 + 0) r1 I w1) ?_
              refine go_iload_n (k := 3) d_Gb_canAct_127 rfl rfl ?_
              refine go_ishr d_Gb_canAct_128 ?_
              refine go_iconst (v := 1) d_Gb_canAct_129 (by decide) ?_
              refine go_iand d_Gb_canAct_130 ?_
              refine go_iconst (v := 1) d_Gb_canAct_131 (by decide) ?_
              refine go_cmp_ne (tgt := 139) d_Gb_canAct_132 (by decide) (fun hc => ?_) (fun hc => ?_)
              · rw [if_neg hc] at h
                refine go_iconst (v := 0) d_Gb_canAct_139 (by decide) ?_
                cases h
                exact go_zreturn d_Gb_canAct_140 rfl (Or.inl rfl) gb_po_i
              · rw [if_pos hc] at h
                refine go_iconst (v := 1) d_Gb_canAct_135 (by decide) ?_
                refine go_goto (tgt := 140) d_Gb_canAct_136 (by decide) ?_
                cases h
                exact go_zreturn d_Gb_canAct_140 rfl (Or.inr rfl) gb_po_i
        · rw [if_pos hc] at h
          refine go_iload_n (k := 3) d_Gb_canAct_76 rfl rfl ?_
          refine go_iconst (v := 1) d_Gb_canAct_77 (by decide) ?_
          refine go_aload_n (k := 0) d_Gb_canAct_78 rfl rfl ?_
          refine go_getr (ci := 0) (k := 0) (r := 1) d_Gb_canAct_79 a_X_0 rfl (by decide) f_Gb_12 rfl ?_
          refine go_getrN (ci := 1) (k := 0) (r := 2) d_Gb_canAct_82 a_X_1 rfl (by decide) f_Gb_35 rfl ?_
          refine go_iconst (v := 1) d_Gb_canAct_85 (by decide) ?_
          refine go_iload_n (k := 2) d_Gb_canAct_86 rfl rfl ?_
          obtain ⟨r3, w1, h⟩ := fbd_e h
          refine go_callV (y := yTa_ofBoat) (asr := [.inl 1, .inl x2]) (v := some (.inl r3)) (I' := I) (st1 := [.inl r3, .inl 1, .inl x3]) d_Gb_canAct_87 s_yTa_ofBoat m_Gb_162 a_X_2 rfl rfl rfl (Nat.le_of_ble_eq_true rfl) rfl rfl (c_Ta_ofBoat l (d0 + 1) 2 isTa_2 1 x2 I w1) ?_
          refine go_callS (y := yGb_within) (asr := [.inl x3, .inl 1, .inl r3]) (v := some (.inl (F_Gb_within x3 1 r3 I))) (I' := I) (st1 := [.inl (F_Gb_within x3 1 r3 I)]) d_Gb_canAct_90 s_yGb_within m_Gb_84 rfl (Nat.le_of_ble_eq_true rfl) rfl rfl (c_Gb_within l (d0 + 2) x3 1 r3 I) ?_
          cases h
          exact go_zreturn d_Gb_canAct_93 rfl (zb_Gb_within x3 1 r3 I) gb_po_i
      · rw [if_pos hc] at h
        refine go_iconst (v := 0) d_Gb_canAct_69 (by decide) ?_
        cases h
        exact go_zreturn d_Gb_canAct_70 rfl (Or.inl rfl) gb_po_i
    · rw [if_pos hc] at h
      refine go_iload_n (k := 2) d_Gb_canAct_18 rfl rfl ?_
      refine go_iconst (v := 0) d_Gb_canAct_19 (by decide) ?_
      refine go_bipush (v := 11) d_Gb_canAct_20 (by decide) ?_
      refine go_callS (y := yGb_within) (asr := [.inl x2, .inl 0, .inl 11]) (v := some (.inl (F_Gb_within x2 0 11 I))) (I' := I) (st1 := [.inl (F_Gb_within x2 0 11 I)]) d_Gb_canAct_22 s_yGb_within m_Gb_84 rfl (Nat.le_of_ble_eq_true rfl) rfl rfl (c_Gb_within l (d0 + 2) x2 0 11 I) ?_
      refine go_if_eq (tgt := 47) d_Gb_canAct_25 (by decide) (fun hc => ?_) (fun hc => ?_)
      · rw [if_pos hc] at h
        refine go_iconst (v := 0) d_Gb_canAct_47 (by decide) ?_
        cases h
        exact go_zreturn d_Gb_canAct_48 rfl (Or.inl rfl) gb_po_i
      · rw [if_neg hc] at h
        refine go_aload_n (k := 0) d_Gb_canAct_28 rfl rfl ?_
        refine go_getr (ci := 0) (k := 0) (r := 1) d_Gb_canAct_29 a_X_0 rfl (by decide) f_Gb_12 rfl ?_
        refine go_getrN (ci := 1) (k := 0) (r := 2) d_Gb_canAct_32 a_X_1 rfl (by decide) f_Gb_35 rfl ?_
        refine go_iconst (v := 4) d_Gb_canAct_35 (by decide) ?_
        refine go_iload_n (k := 2) d_Gb_canAct_36 rfl rfl ?_
        obtain ⟨r4, w1, h⟩ := fbd_e h
        refine go_callV (y := yTa_ofSeat) (asr := [.inl 4, .inl x2]) (v := some (.inl r4)) (I' := I) (st1 := [.inl r4]) d_Gb_canAct_37 s_yTa_ofSeat m_Gb_179 a_X_2 rfl rfl rfl (Nat.le_of_ble_eq_true rfl) rfl rfl (c_Ta_ofSeat l (d0 + 1) 2 isTa_2 4 x2 I w1) ?_
        refine go_if_le (tgt := 47) d_Gb_canAct_40 (by decide) (fun hc => ?_) (fun hc => ?_)
        · rw [if_pos hc] at h
          refine go_iconst (v := 0) d_Gb_canAct_47 (by decide) ?_
          cases h
          exact go_zreturn d_Gb_canAct_48 rfl (Or.inl rfl) gb_po_i
        · rw [if_neg hc] at h
          refine go_iconst (v := 1) d_Gb_canAct_43 (by decide) ?_
          refine go_goto (tgt := 48) d_Gb_canAct_44 (by decide) ?_
          cases h
          exact go_zreturn d_Gb_canAct_48 rfl (Or.inr rfl) gb_po_i
  · rw [if_pos hc] at h
    refine go_iload_n (k := 3) d_Gb_canAct_5 rfl rfl ?_
    refine go_iconst (v := 1) d_Gb_canAct_6 (by decide) ?_
    refine go_bipush (v := 9) d_Gb_canAct_7 (by decide) ?_
    refine go_callS (y := yGb_within) (asr := [.inl x3, .inl 1, .inl 9]) (v := some (.inl (F_Gb_within x3 1 9 I))) (I' := I) (st1 := [.inl (F_Gb_within x3 1 9 I)]) d_Gb_canAct_9 s_yGb_within m_Gb_84 rfl (Nat.le_of_ble_eq_true rfl) rfl rfl (c_Gb_within l (d0 + 2) x3 1 9 I) ?_
    cases h
    exact go_zreturn d_Gb_canAct_12 rfl (zb_Gb_within x3 1 9 I) gb_po_i
