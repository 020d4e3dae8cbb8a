/-! Reading: what both sides have in hand, step by step. -/
def cdA (L : List (Nat × Nat)) (i : Nat) : Nat := match L[i]? with
  | some q => q.2
  | none => 0
def plA (L : List (Nat × Nat)) (len i : Nat) : Nat := match L[i]? with
  | some q => q.1
  | none => len
def XF (X Y : gb_Mem) : Prop := (∀ c, c < 111 ∨ 120 < c → Y c = X c) ∧ Y 112 = X 112 ∧ Y 113 = X 113 ∧ (∀ j, j ≠ 6 → j ≠ 7 → j ≠ 8 → Y 111 j = X 111 j) ∧ Y 117 0 = X 117 0 ∧ Y 119 0 = X 119 0
def MF (M N : gb_Mem) : Prop := (∀ c, c ≠ 0 → (c < 12 ∨ 21 < c) → N c = M c) ∧ (∀ j, ¬ (14 ≤ j ∧ j ≤ 17) → j ≠ 27 → j ≠ 28 → j ≠ 30 → j ≠ 31 → j ≠ 32 → N 0 j = M 0 j) ∧ (∀ c j, 12 ≤ c → c ≤ 15 → j < 32 → N c j = M c j) ∧ (∀ c j, 16 ≤ c → c ≤ 17 → j < 800 → N c j = M c j) ∧ (∀ j, j < 8 → N 19 j = M 19 j) ∧ (∀ j, j < 64 → N 20 j = M 20 j) ∧ (∀ j, j < 12 → N 21 j = M 21 j)
theorem XF.same {X : gb_Mem} : XF X X := ⟨fun _ _ => rfl, rfl, rfl, fun _ _ _ _ => rfl, rfl, rfl⟩
theorem MF.same {M : gb_Mem} : MF M M := ⟨fun _ _ _ => rfl, fun _ _ _ _ _ _ _ => rfl, fun _ _ _ _ _ => rfl, fun _ _ _ _ _ => rfl, fun _ _ => rfl, fun _ _ => rfl, fun _ _ => rfl⟩
theorem XF.r {X Y : gb_Mem} {j : Nat} {v : Int32} (h : XF X Y) (hj : j = 6 ∨ j = 7 ∨ j = 8) : XF X (mw Y 111 j v) := by
  obtain ⟨h1, h2, h3, h4, h5, h6⟩ := h
  refine ⟨fun c hc => by rw [mw_ne (by omega)]; exact h1 c hc, by rw [mw_ne (by decide)]; exact h2, by rw [mw_ne (by decide)]; exact h3, fun k k1 k2 k3 => by rw [mw_eq, pk_un (by omega)]; exact h4 k k1 k2 k3, by rw [mw_ne (by decide)]; exact h5, by rw [mw_ne (by decide)]; exact h6⟩
/-- a writing into what is drafted -/
theorem XF.d {X Y Z : gb_Mem} (h : XF X Y) (hc : ∀ c, c < 114 ∨ 120 < c → Z c = Y c) (h1 : Z 117 0 = Y 117 0) (h2 : Z 119 0 = Y 119 0) : XF X Z := by
  obtain ⟨g1, g2, g3, g4, g5, g6⟩ := h
  exact ⟨fun c q => (hc c (by omega)).trans (g1 c q), (hc 112 (by omega)).trans g2, (hc 113 (by omega)).trans g3, fun j a b c => by rw [hc 111 (by omega)]; exact g4 j a b c, h1.trans g5, h2.trans g6⟩
theorem MF.z {M N : gb_Mem} {j : Nat} {v : Int32} (h : MF M N) (hj : (14 ≤ j ∧ j ≤ 17) ∨ j = 27 ∨ j = 28 ∨ j = 30 ∨ j = 31 ∨ j = 32) : MF M (mw N 0 j v) := by
  obtain ⟨h1, h2, h3, h4, h5, h6, h7⟩ := h
  exact ⟨fun c c0 c1 => by rw [mw_ne c0]; exact h1 c c0 c1, fun k k1 k2 k3 k4 k5 k6 => by rw [mw_eq, pk_un (by omega)]; exact h2 k k1 k2 k3 k4 k5 k6, fun c k a b d => by rw [mw_ne (by omega)]; exact h3 c k a b d, fun c k a b d => by rw [mw_ne (by omega)]; exact h4 c k a b d, fun k a => by rw [mw_ne (by decide)]; exact h5 k a, fun k a => by rw [mw_ne (by decide)]; exact h6 k a, fun k a => by rw [mw_ne (by decide)]; exact h7 k a⟩
theorem MF.t {M N O : gb_Mem} (h : MF M N) (g : ∀ c, c ≠ 0 → O c = N c) (g0 : ∀ j, j ≠ 14 → j ≠ 15 → j ≠ 16 → j ≠ 17 → O 0 j = N 0 j) : MF M O := by
  obtain ⟨h1, h2, h3, h4, h5, h6, h7⟩ := h
  exact ⟨fun c c0 c1 => (g c c0).trans (h1 c c0 c1), fun k k1 k2 k3 k4 k5 k6 => (g0 k (by omega) (by omega) (by omega) (by omega)).trans (h2 k k1 k2 k3 k4 k5 k6), fun c k a b d => by rw [g c (by omega)]; exact h3 c k a b d, fun c k a b d => by rw [g c (by omega)]; exact h4 c k a b d, fun k a => by rw [g 19 (by decide)]; exact h5 k a, fun k a => by rw [g 20 (by decide)]; exact h6 k a, fun k a => by rw [g 21 (by decide)]; exact h7 k a⟩
theorem TR.b {c : Nat} {t v : Int32} (h : TR c t v) : c < 20000 := by
  rcases h with ⟨h, -⟩ | ⟨h, -⟩ | ⟨w, w1, h, -⟩ | ⟨n, n1, h, -⟩ | ⟨h, -⟩
  · omega
  · omega
  · have := (r_tab w w1).1; omega
  · omega
  · unfold isSg at h
    rw [decide_eq_true_eq] at h
    omega
theorem sg_lt {c : Nat} (h : isSg c = true) : 40 ≤ c ∧ c ≤ 62 := by
  unfold isSg at h
  rw [decide_eq_true_eq] at h
  omega
section TESTS
variable {c : Nat} {M : gb_Mem}
theorem sign_n (h : TR c (M 0 16) (M 0 17)) {s : Nat} (hs : isSg s = true) : F_Mo_isSign (nI s) M = if c = s then 1 else 0 := by
  have hs2 := sg_lt hs
  unfold F_Mo_isSign
  rcases h with ⟨rfl, t⟩ | ⟨rfl, t⟩ | ⟨w, w1, rfl, t, v⟩ | ⟨n, n1, rfl, t, v⟩ | ⟨g, t, v⟩
  · rw [t, if_neg (by decide), if_neg (by omega)]
  · rw [t, if_neg (by decide), if_neg (by omega)]
  · rw [t, if_neg (by decide), if_neg (by omega)]
  · rw [t, if_neg (by decide), if_neg (by omega)]
  · have := sg_lt g
    rw [t, if_pos rfl, v]
    by_cases e : c = s
    · rw [if_pos (by rw [e]), if_pos e]
    · rw [if_neg (fun z => e ((nI_eq (by omega) (by omega)).mp z)), if_neg e]
theorem word_n (h : TR c (M 0 16) (M 0 17)) {w : Nat} (hw : w < 27) : F_Mo_isWord (nI w) M = if c = 200 + cw w then 1 else 0 := by
  have hb := (r_tab w hw).1
  unfold F_Mo_isWord
  rcases h with ⟨rfl, t⟩ | ⟨rfl, t⟩ | ⟨w2, w1, rfl, t, v⟩ | ⟨n, n1, rfl, t, v⟩ | ⟨g, t, v⟩
  · rw [t, if_neg (by decide), if_neg (by omega)]
  · rw [t, if_neg (by decide), if_neg (by omega)]
  · rw [t, if_pos rfl, v]
    by_cases e : w2 = w
    · rw [if_pos (by rw [e]), if_pos (by rw [e])]
    · rw [if_neg (fun z => e ((nI_eq (by omega) (by omega)).mp z)), if_neg (fun z => e (cw_in w2 w1 w hw (by omega)))]
  · rw [t, if_neg (by decide), if_neg (by omega)]
  · have := sg_lt g
    rw [t, if_neg (by decide), if_neg (by omega)]
theorem num_y (h : TR c (M 0 16) (M 0 17)) (hc : 1000 ≤ c) : M 0 16 = 3 ∧ ∃ n, n < 10000 ∧ c = 1000 + n ∧ M 0 17 = nI n := by
  rcases h with ⟨rfl, t⟩ | ⟨rfl, t⟩ | ⟨w2, w1, rfl, t, v⟩ | ⟨n, n1, rfl, t, v⟩ | ⟨g, t, v⟩
  · omega
  · omega
  · have := (r_tab w2 w1).1; omega
  · exact ⟨t, n, n1, rfl, v⟩
  · have := sg_lt g; omega
theorem num_no (h : TR c (M 0 16) (M 0 17)) (hc : ¬ 1000 ≤ c) : ¬ M 0 16 = 3 := by
  rcases h with ⟨rfl, t⟩ | ⟨rfl, t⟩ | ⟨w2, w1, rfl, t, v⟩ | ⟨n, n1, rfl, t, v⟩ | ⟨g, t, v⟩
  · rw [t]; decide
  · rw [t]; decide
  · rw [t]; decide
  · omega
  · rw [t]; decide
theorem end_y (h : TR c (M 0 16) (M 0 17)) : M 0 16 = 0 ↔ c = 0 := by
  rcases h with ⟨rfl, t⟩ | ⟨rfl, t⟩ | ⟨w2, w1, rfl, t, v⟩ | ⟨n, n1, rfl, t, v⟩ | ⟨g, t, v⟩
  · exact ⟨fun _ => rfl, fun _ => t⟩
  · rw [t]; exact ⟨fun z => absurd z (by decide), fun z => by omega⟩
  · rw [t]; exact ⟨fun z => absurd z (by decide), fun z => by omega⟩
  · rw [t]; exact ⟨fun z => absurd z (by decide), fun z => by omega⟩
  · have := sg_lt g
    rw [t]; exact ⟨fun z => absurd z (by decide), fun z => by omega⟩
/-- words a .. b of the reference that are words a - d .. b - d of the class -/
theorem word_r (h : TR c (M 0 16) (M 0 17)) : (M 0 16 = 2 ∧ ∃ w, w < 27 ∧ c = 200 + cw w ∧ M 0 17 = nI w) ∨ (¬ M 0 16 = 2 ∧ (c < 63 ∨ 1000 ≤ c)) := by
  rcases h with ⟨rfl, t⟩ | ⟨rfl, t⟩ | ⟨w2, w1, rfl, t, v⟩ | ⟨n, n1, rfl, t, v⟩ | ⟨g, t, v⟩
  · exact Or.inr ⟨by rw [t]; decide, by omega⟩
  · exact Or.inr ⟨by rw [t]; decide, by omega⟩
  · exact Or.inl ⟨t, w2, w1, rfl, v⟩
  · exact Or.inr ⟨by rw [t]; decide, by omega⟩
  · have := sg_lt g
    exact Or.inr ⟨by rw [t]; decide, by omega⟩
end TESTS
/-- what stands still while one reads -/
def PC (T : Nat → Nat) (len : Nat) (L : List (Nat × Nat)) (X0 M0 : gb_Mem) : Prop :=
  L.length ≤ 400 ∧ X0 111 5 = nI L.length ∧ X0 111 1 = nI len ∧ (∀ i, i < L.length → X0 112 i = nI (cdA L i) ∧ X0 113 i = nI (plA L len i)) ∧ X0 119 0 = 16 ∧ MT M0 T len ∧ X0 111 2 = M0 0 6 ∧ gIn (M0 0 6) 0 8
def PM (T : Nat → Nat) (len : Nat) (L : List (Nat × Nat)) (M0 : gb_Mem) (i : Nat) (M : gb_Mem) : Prop := MF M0 M ∧ (∃ q, q ≤ len ∧ M 0 14 = nI q ∧ lxs T len q = L.drop (i + 1)) ∧ M 0 15 = nI (plA L len i) ∧ TR (cdA L i) (M 0 16) (M 0 17)
def PS (T : Nat → Nat) (len : Nat) (L : List (Nat × Nat)) (X0 M0 : gb_Mem) (i : Nat) (X M : gb_Mem) : Prop := XF X0 X ∧ i ≤ L.length ∧ X 111 6 = nI i ∧ (X 111 7 = 0 ∧ X 111 8 = -1) ∧ PM T len L M0 i M
def XE (X0 : gb_Mem) (k p : Nat) (X : gb_Mem) : Prop := XF X0 X ∧ 0 < k ∧ k < 4 ∧ X 111 7 = nI k ∧ X 111 8 = nI p
def ME (M0 : gb_Mem) (k p : Nat) (M : gb_Mem) : Prop := MF M0 M ∧ M 0 31 = nI k ∧ M 0 32 = nI p
section PRIM
variable {T : Nat → Nat} {len : Nat} {L : List (Nat × Nat)} {X0 M0 X M Y N : gb_Mem} {i k p : Nat}
theorem cd_some {q : Nat × Nat} (h : L[i]? = some q) : cdA L i = q.2 ∧ plA L len i = q.1 := by unfold cdA plA; rw [h]; exact ⟨rfl, rfl⟩
theorem cd_none (h : L.length ≤ i) : cdA L i = 0 ∧ plA L len i = len := by
  unfold cdA plA
  rw [List.getElem?_eq_none h]; exact ⟨rfl, rfl⟩
theorem cd_pos (h : ¬ cdA L i = 0) : i < L.length := Classical.byContradiction fun q => h (cd_none (len := 0) (by omega)).1
theorem now_n (hP : PC T len L X0 M0) (h : PS T len L X0 M0 i X M) : F_Rd_now X = some (nI (cdA L i)) := by
  obtain ⟨p1, p2, p3, p4, -⟩ := hP
  obtain ⟨⟨f1, f2, f3, f4, -⟩, hi, h6, h7, -⟩ := h
  unfold F_Rd_now
  rw [h6, if_neg (nI_pos (by omega)), f4 5 (by decide) (by decide) (by decide), p2]
  by_cases c : L.length ≤ i
  · rw [if_pos (nI_le c (by omega)), (cd_none (len := len) c).1]; rfl
  · rw [if_neg (nI_ge (by omega) (by omega)), flod_n (by omega) (by decide), f2, (p4 i (by omega)).1]
theorem PM.mt (hP : PC T len L X0 M0) (h : MF M0 M) : MT M T len := by
  obtain ⟨-, -, -, -, -, ⟨m1, m2, m3, m4⟩, -⟩ := hP
  obtain ⟨g1, g2, -⟩ := h
  refine ⟨m1, ?_, fun j hj => ?_, fun j hj => ?_⟩
  · rw [g2 13 (by decide) (by decide) (by decide) (by decide) (by decide) (by decide)]; exact m2
  · rw [g1 9 (by decide) (by decide)]; exact m3 j hj
  · rw [g1 10 (by decide) (by decide)]; exact m4 j hj
/-- the next token comes -/
theorem rd_n (hP : PC T len L X0 M0) (hF : MF M0 M) {q : Nat} (hq : q ≤ len) (h14 : M 0 14 = nI q) (hl : lxs T len q = L.drop i) (hi : i ≤ L.length) : ∃ N, F_Mo_reads M = some N ∧ PM T len L M0 i N ∧ (∀ c, c ≠ 0 → N c = M c) ∧ (∀ j, j ≠ 14 → j ≠ 15 → j ≠ 16 → j ≠ 17 → N 0 j = M 0 j) := by
  obtain ⟨N, n1, n2, n3, n4⟩ := reads_n (PM.mt hP hF) hq h14
  refine ⟨N, n1, ⟨hF.t n2 n3, ?_⟩, n2, n3⟩
  rcases n4 with ⟨e1, e2, e3, e4⟩ | ⟨s, c, l, e, e1, e2, e3, e4, e5, e6⟩
  · have hn : L.length ≤ i := List.drop_eq_nil_iff.mp (hl.symm.trans e1)
    obtain ⟨z1, z2⟩ := cd_none (len := len) hn
    refine ⟨⟨len, Nat.le_refl _, e2, ?_⟩, by rw [z2]; exact e3, ?_⟩
    · rw [lxs_end (Nat.le_refl _)]
      exact (List.drop_eq_nil_iff.mpr (by omega)).symm
    · rw [z1]; exact Or.inl ⟨rfl, e4⟩
  · have hd : L.drop i = (s, c) :: l := hl.symm.trans e1
    have hx : L[i]? = some (s, c) := by
      have := List.getElem?_drop (xs := L) (i := i) (j := 0)
      rw [hd, List.getElem?_cons_zero, Nat.add_zero] at this
      exact this.symm
    obtain ⟨z1, z2⟩ := cd_some (len := len) hx
    refine ⟨⟨e, e2, e3, ?_⟩, by rw [z2]; exact e4, by rw [z1]; exact e5⟩
    have : (L.drop i).drop 1 = L.drop (i + 1) := List.drop_drop
    rw [hd, List.drop_succ_cons, List.drop_zero] at this
    rw [e6]; exact this
theorem adv_n (hP : PC T len L X0 M0) (h : PS T len L X0 M0 i X M) (hi : i < L.length) : ∃ N, F_Mo_reads M = some N ∧ PS T len L X0 M0 (i + 1) (mw X 111 6 (nI (i + 1))) N ∧ (∀ c, c ≠ 0 → N c = M c) ∧ (∀ j, j ≠ 14 → j ≠ 15 → j ≠ 16 → j ≠ 17 → N 0 j = M 0 j) := by
  obtain ⟨hX, -, h6, h7, hF, ⟨q, q1, q2, q3⟩, -⟩ := h
  obtain ⟨N, n1, n2, n3, n4⟩ := rd_n (i := i + 1) hP hF q1 q2 q3 (by omega)
  exact ⟨N, n1, ⟨hX.r (Or.inl rfl), by omega, by rw [mw_eq, pk_us], ⟨by rw [mw_eq, pk_un (by decide)]; exact h7.1, by rw [mw_eq, pk_un (by decide)]; exact h7.2⟩, n2⟩, n3, n4⟩
/-- a FAULT -/
theorem ref_n (hP : PC T len L X0 M0) (h : PS T len L X0 M0 i X M) (hk : 0 < k) (hk4 : k < 4) : ∃ Y, F_Rd_refuse (nI k) X = some Y ∧ XE X0 k (plA L len i) Y ∧ ∀ c, c ≠ 111 → Y c = X c := by
  obtain ⟨p1, p2, p3, p4, -⟩ := hP
  obtain ⟨hX, hi, h6, h7, -⟩ := h
  have hX0 := hX
  obtain ⟨f1, f2, f3, f4, -⟩ := hX
  refine ⟨mw (mw X 111 7 (nI k)) 111 8 (nI (plA L len i)), ?_, ⟨(hX0.r (Or.inr (Or.inl rfl))).r (Or.inr (Or.inr rfl)), hk, hk4, by rw [mw_eq, pk_un (by decide), mw_eq, pk_us], by rw [mw_eq, pk_us]⟩, fun c hc => by rw [mw_ne hc, mw_ne hc]⟩
  unfold F_Rd_refuse
  have e6 : mw X 111 7 (nI k) 111 6 = nI i := by rw [mw_eq, pk_un (by decide)]; exact h6
  have e5 : mw X 111 7 (nI k) 111 5 = nI L.length := by rw [mw_eq, pk_un (by decide), f4 5 (by decide) (by decide) (by decide)]; exact p2
  rw [if_pos h7.1, fstf_d, e6, if_neg (nI_pos (by omega)), e5]
  by_cases c : L.length ≤ i
  · rw [if_pos (nI_le c (by omega)), (cd_none (len := len) c).2]
    unfold J_Rd_refuse_43 J_Rd_refuse_47
    rw [fstf_d, show mw X 111 7 (nI k) 111 1 = nI len by rw [mw_eq, pk_un (by decide), f4 1 (by decide) (by decide) (by decide)]; exact p3]
  · rw [if_neg (nI_ge (by omega) (by omega)), flod_n (by omega) (by decide), mw_ne (by decide), f3, (p4 i (by omega)).2]
    unfold J_Rd_refuse_47
    rw [fstf_d]
theorem err_n (h : PM T len L M0 i M) : ∃ N, F_Mo_errs (nI k) M = some (-1, N) ∧ ME M0 k (plA L len i) N := by
  obtain ⟨hF, -, h15, -⟩ := h
  refine ⟨mw (mw M 0 31 (nI k)) 0 32 (nI (plA L len i)), ?_, (hF.z (by omega)).z (by omega), by rw [mw_eq, pk_un (by decide), mw_eq, pk_us], by rw [mw_eq, pk_us]⟩
  unfold F_Mo_errs
  rw [fstf_d, fstf_d, show mw M 0 31 (nI k) 0 15 = nI (plA L len i) by rw [mw_eq, pk_un (by decide)]; exact h15]
/-! After a FAULT nothing more counts on the class's side. -/
theorem now_e (hP : PC T len L X0 M0) (h : XE X0 k p X) : ∃ r, F_Rd_now X = some r := by
  obtain ⟨p1, p2, p3, p4, -⟩ := hP
  obtain ⟨⟨f1, f2, f3, f4, -⟩, -⟩ := h
  unfold F_Rd_now
  rw [f4 5 (by decide) (by decide) (by decide), p2]
  by_cases c : X 111 6 < 0
  · rw [if_pos c]; exact ⟨0, rfl⟩
  · rw [if_neg c]
    obtain ⟨j, hj, e⟩ := nI_of c
    rw [e]
    by_cases d : L.length ≤ j
    · rw [if_pos (nI_le d hj)]; exact ⟨0, rfl⟩
    · rw [if_neg (nI_ge (by omega) (by omega)), flod_n (by omega) (by decide)]; exact ⟨_, rfl⟩
theorem XE.f (h : XE X0 k p X) : ¬ X 111 7 = 0 := by
  rw [h.2.2.2.1]; exact nI_ne0 h.2.1 (by have := h.2.2.1; omega)
theorem ref_e (h : XE X0 k p X) (x : Int32) : F_Rd_refuse x X = some X := by
  unfold F_Rd_refuse
  rw [if_neg h.f]
theorem take_e (hP : PC T len L X0 M0) (h : XE X0 k p X) (x : Int32) : F_Rd_take x X = some X := by
  obtain ⟨r, hr⟩ := now_e hP h
  unfold F_Rd_take J_Rd_take_28
  rw [hr, fbd_s, if_neg h.f, ref_e h, fbd_s]
  simp only [ite_self]
theorem tnum_e (hP : PC T len L X0 M0) (h : XE X0 k p X) (x y : Int32) : ∃ r, F_Rd_takeNumber x y X = some (r, X) := by
  obtain ⟨r, hr⟩ := now_e hP h
  unfold F_Rd_takeNumber J_Rd_takeNumber_34
  rw [hr, fbd_s, ref_e h, fbd_s, if_neg h.f, ref_e h, fbd_s]
  by_cases c : 0 ≤ r - 1000
  · rw [if_pos c, ite_self]; exact ⟨_, rfl⟩
  · rw [if_neg c]; exact ⟨_, rfl⟩
theorem unit_e (hP : PC T len L X0 M0) (h : XE X0 k p X) : F_Rd_readUnit X = some X := by
  obtain ⟨r, hr⟩ := now_e hP h
  unfold F_Rd_readUnit
  rw [hr, fbd_s, if_neg h.f]
/-! Take one token, a number. -/
theorem take_t (hP : PC T len L X0 M0) (h : PS T len L X0 M0 i X M) (hc : cdA L i = k) : F_Rd_take (nI k) X = some (mw X 111 6 (nI (i + 1))) := by
  unfold F_Rd_take
  rw [now_n hP h, fbd_s, hc, if_pos rfl, if_pos h.2.2.2.1.1, fstf_d, h.2.2.1, nI_1]
theorem take_f (hP : PC T len L X0 M0) (h : PS T len L X0 M0 i X M) (hc : ¬ cdA L i = k) (hk : k < 2 ^ 31) : ∃ Y, F_Rd_take (nI k) X = some Y ∧ XE X0 1 (plA L len i) Y ∧ ∀ c, c ≠ 111 → Y c = X c := by
  obtain ⟨Y, y1, y2, y3⟩ := ref_n (k := 1) hP h (by decide) (by decide)
  have hb := h.2.2.2.2.2.2.2.b
  refine ⟨Y, ?_, y2, y3⟩
  unfold F_Rd_take J_Rd_take_28
  rw [now_n hP h, fbd_s, if_neg (fun z => hc ((nI_eq (by omega) hk).mp z)), show F_Rd_refuse 1 X = some Y from y1, fbd_s]
theorem mark_n (hP : PC T len L X0 M0) (h : PS T len L X0 M0 i X M) : (∃ N, F_Rd_take 59 X = some (mw X 111 6 (nI (i + 1))) ∧ F_Mo_readMark 59 M = some (0, N) ∧ PS T len L X0 M0 (i + 1) (mw X 111 6 (nI (i + 1))) N ∧ i < L.length ∧ (∀ c, c ≠ 0 → N c = M c) ∧ (∀ j, j ≠ 14 → j ≠ 15 → j ≠ 16 → j ≠ 17 → N 0 j = M 0 j)) ∨ (∃ Y N, F_Rd_take 59 X = some Y ∧ F_Mo_readMark 59 M = some (-1, N) ∧ XE X0 1 (plA L len i) Y ∧ ME M0 1 (plA L len i) N ∧ ∀ c, c ≠ 111 → Y c = X c) := by
  have es := sign_n (s := 59) h.2.2.2.2.2.2.2 (by decide)
  unfold F_Mo_readMark
  rw [show F_Mo_isSign 59 M = if cdA L i = 59 then 1 else 0 from es]
  by_cases c : cdA L i = 59
  · left
    obtain ⟨N, n1, n2, n3, n4⟩ := adv_n hP h (cd_pos (by omega))
    refine ⟨N, take_t (k := 59) hP h c, ?_, n2, cd_pos (by omega), n3, n4⟩
    rw [if_pos c, if_neg (by decide), n1, fbd_s]
  · right
    obtain ⟨Y, y1, y2, y3⟩ := take_f (k := 59) hP h c (by decide)
    obtain ⟨N, n1, n2⟩ := err_n (k := 1) h.2.2.2.2
    refine ⟨Y, N, y1, ?_, y2, n2, y3⟩
    rw [if_neg c, if_pos rfl, show F_Mo_errs 1 M = some (-1, N) from n1]; rfl
/-- a number between bounds, which both sides have alike -/
theorem numb_n (hP : PC T len L X0 M0) (h : PS T len L X0 M0 i X M) (lo hi : Int32) : (∃ v N, v < 10000 ∧ F_Rd_takeNumber lo hi X = some (nI v, mw X 111 6 (nI (i + 1))) ∧ F_Mo_readNumber lo hi M = some (nI v, N) ∧ gIn (nI v) lo.toInt hi.toInt ∧ cdA L i = 1000 + v ∧ PS T len L X0 M0 (i + 1) (mw X 111 6 (nI (i + 1))) N ∧ i < L.length ∧ (∀ c, c ≠ 0 → N c = M c) ∧ (∀ j, j ≠ 14 → j ≠ 15 → j ≠ 16 → j ≠ 17 → N 0 j = M 0 j)) ∨ (∃ r Y N k, F_Rd_takeNumber lo hi X = some (r, Y) ∧ F_Mo_readNumber lo hi M = some (-1, N) ∧ XE X0 k (plA L len i) Y ∧ ME M0 k (plA L len i) N ∧ ∀ c, c ≠ 111 → Y c = X c) := by
  have hT := h.2.2.2.2.2.2.2
  have hb := hT.b
  unfold F_Rd_takeNumber J_Rd_takeNumber_34 F_Mo_readNumber
  rw [now_n hP h, fbd_s]
  by_cases c : 1000 ≤ cdA L i
  · obtain ⟨t, n, n1, n2, n3⟩ := num_y hT c
    rw [show nI (cdA L i) - 1000 = nI n by rw [show (1000 : Int32) = nI 1000 from rfl, pk_sub c]; exact congrArg nI (by omega), if_pos (nI_pos' (by omega)), if_pos t, n3, isIn_within _ _ _ M X]
    by_cases d : F_Gb_within (nI n) lo hi X = 0
    · right
      obtain ⟨Y, y1, y2, y3⟩ := ref_n (k := 2) hP h (by decide) (by decide)
      obtain ⟨N, e1, e2⟩ := err_n (k := 2) h.2.2.2.2
      refine ⟨nI n, Y, N, 2, ?_, ?_, y2, e2, y3⟩
      · rw [if_pos d, show F_Rd_refuse 2 X = some Y from y1, fbd_s, if_neg y2.f]
      · rw [if_pos d, show F_Mo_errs 2 M = some (-1, N) from e1]; rfl
    · left
      obtain ⟨N, e1, e2, e3, e4⟩ := adv_n hP h (cd_pos (by omega))
      refine ⟨n, N, n1, ?_, ?_, within_in d, n2, e2, cd_pos (by omega), e3, e4⟩
      · rw [if_neg d, if_pos h.2.2.2.1.1, fstf_d, h.2.2.1, nI_1]
      · rw [if_neg d, e1, fbd_s]
  · right
    obtain ⟨Y, y1, y2, y3⟩ := ref_n (k := 1) hP h (by decide) (by decide)
    obtain ⟨N, e1, e2⟩ := err_n (k := 1) h.2.2.2.2
    refine ⟨0, Y, N, 1, ?_, ?_, y2, e2, y3⟩
    · rw [if_neg (fun z => by
        have z2 := pk_sneg (a := cdA L i) (b := 1000) (by decide) (by omega)
        exact Int32.lt_irrefl (Int32.lt_of_lt_of_le z2 z)), show F_Rd_refuse 1 X = some Y from y1, fbd_s]
    · rw [if_neg (num_no hT c), show F_Mo_errs 1 M = some (-1, N) from e1]; rfl
end PRIM
