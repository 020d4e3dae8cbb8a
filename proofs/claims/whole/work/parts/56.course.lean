/-! Minutes: the class's course against the reference's, at the table (t = 2, h = 100) or in thought (t = 96, h = 102). -/
theorem mn_lesser (a b : Int32) (I : gb_Mem) : F_Mo_lesser a b I = mn a b := by
  unfold F_Mo_lesser mn
  by_cases c : b < a
  · rw [if_pos c, if_pos (Int32.le_of_lt c)]
  · rw [if_neg c]
    by_cases d : b ≤ a
    · rw [if_pos d]
      exact Int32.le_antisymm d (Int32.not_lt.mp c)
    · rw [if_neg d]
theorem mx_greater (a b : Int32) (I : gb_Mem) : F_Mo_greater a b I = mx a b := by
  unfold F_Mo_greater mx
  by_cases c : a < b
  · rw [if_pos c, if_pos (Int32.le_of_lt c)]
  · rw [if_neg c]
    by_cases d : a ≤ b
    · rw [if_pos d]
      exact Int32.le_antisymm (Int32.not_lt.mp c) d
    · rw [if_neg d]
def GCo (t h : Nat) (X M : gb_Mem) : Prop :=
  GTab (X t) (X (t + 1)) (X (t + 2)) (X (t + 3)) (M 1) (M 4) (M 5) (M 6) (M 7) (M 0 6) ∧
  GRng (M 1) (M 4) (M 5) (M 6) (M 7) (M 0 6) ∧
  GLaw (X 6 4) (X 7) (X 8) (X 9) (M 11 0) (M 12) (M 13) (M 14) (M 15) (M 16) (M 17) ∧
  GVoy (X 11 2) (X 12) (M 0 35) (M 19) ∧
  GDin (X 13 2) (X 14) (M 0 37) (M 20) ∧
  X h 2 = M 0 5 ∧ (M 0 5 = 0 → X 17 0 = 150 ∧ GBook (X 17 2) (X 18) (M 1 2) (M 8))
def GFr (t h : Nat) (X M Y N : gb_Mem) : Prop :=
  (∀ c, (c < t ∨ t + 3 < c) → c ≠ 6 → c ≠ 10 → c ≠ 17 → c ≠ 18 → c ≠ h + 1 → Y c = X c) ∧
  (∀ j, j ≠ 6 → Y 6 j = X 6 j) ∧ (∀ j, j ≠ 2 → Y 17 j = X 17 j) ∧
  (∀ c, c ≠ 0 → c ≠ 1 → c ≠ 8 → c ≠ 22 → c ≠ 23 → N c = M c) ∧ (∀ j, j ≠ 43 → N 0 j = M 0 j) ∧
  (¬ M 0 5 = 0 → Y 17 = X 17 ∧ Y 18 = X 18 ∧ N 8 = M 8 ∧ N 1 2 = M 1 2) ∧ (M 1 2).toInt ≤ (N 1 2).toInt ∧ (∀ j, 80 ≤ j → N 1 j = M 1 j)
def gTH (t h : Nat) : Prop := (t = 2 ∧ h = 100) ∨ (t = 96 ∧ h = 102)
def GSt (t h : Nat) (X M Y N : gb_Mem) : Prop := GCo t h Y N ∧ GFr t h X M Y N
section COURSE
variable {t h b s k w : Nat} {X M Y N Z O : gb_Mem} {v x1 x2 x3 : Int32}
theorem GFr.same : GFr t h X M X M := ⟨fun _ _ _ _ _ _ _ => rfl, fun _ _ => rfl, fun _ _ => rfl, fun _ _ _ _ _ _ => rfl, fun _ _ => rfl, fun _ => ⟨rfl, rfl, rfl, rfl⟩, Int.le_refl _, fun _ _ => rfl⟩
theorem GFr.trans (a : GFr t h X M Y N) (b : GFr t h Y N Z O) : GFr t h X M Z O := by
  obtain ⟨a1, a2, a3, a4, a5, a6, a7, a8⟩ := a
  obtain ⟨b1, b2, b3, b4, b5, b6, b7, b8⟩ := b
  refine ⟨fun c h1 h2 h3 h4 h5 h6 => (b1 c h1 h2 h3 h4 h5 h6).trans (a1 c h1 h2 h3 h4 h5 h6), fun j hj => (b2 j hj).trans (a2 j hj), fun j hj => (b3 j hj).trans (a3 j hj), fun c h1 h2 h3 h4 h5 => (b4 c h1 h2 h3 h4 h5).trans (a4 c h1 h2 h3 h4 h5), fun j hj => (b5 j hj).trans (a5 j hj), fun hn => ?_, Int.le_trans a7 b7, fun j hj => (b8 j hj).trans (a8 j hj)⟩
  obtain ⟨c1, c2, c3, c4⟩ := a6 hn
  obtain ⟨d1, d2, d3, d4⟩ := b6 (by rw [a5 5 (by decide)]; exact hn)
  exact ⟨d1.trans c1, d2.trans c2, d3.trans c3, d4.trans c4⟩
theorem gco_mk (ht : gTH t h) (hC : GCo t h X M) (hF : GFr t h X M Y N) (hT : GTab (Y t) (Y (t + 1)) (Y (t + 2)) (Y (t + 3)) (N 1) (M 4) (M 5) (M 6) (M 7) (M 0 6)) (hR : GRng (N 1) (M 4) (M 5) (M 6) (M 7) (M 0 6)) (hB : M 0 5 = 0 → GBook (Y 17 2) (Y 18) (N 1 2) (N 8)) : GCo t h Y N := by
  obtain ⟨f1, f2, f3, f4, f5, f6, f7, f8⟩ := hF
  obtain ⟨cT, cR, cL, cV, cD, cH, cB⟩ := hC
  unfold gTH at ht
  have q : ∀ c, (c < t ∨ t + 3 < c) ∧ c ≠ 6 ∧ c ≠ 10 ∧ c ≠ 17 ∧ c ≠ 18 ∧ c ≠ h + 1 → Y c = X c := fun c ⟨z1, z2, z3, z4, z5, z6⟩ => f1 c z1 z2 z3 z4 z5 z6
  have m : ∀ c, c ≠ 0 ∧ c ≠ 1 ∧ c ≠ 8 ∧ c ≠ 22 ∧ c ≠ 23 → N c = M c := fun c ⟨z1, z2, z3, z4, z5⟩ => f4 c z1 z2 z3 z4 z5
  unfold GCo
  rw [m 4 (by decide), m 5 (by decide), m 6 (by decide), m 7 (by decide), m 11 (by decide), m 12 (by decide), m 13 (by decide), m 14 (by decide), m 15 (by decide), m 16 (by decide), m 17 (by decide), m 19 (by decide), m 20 (by decide), f5 6 (by decide), f5 35 (by decide), f5 37 (by decide), f5 5 (by decide), f2 4 (by decide), q 7 (by omega), q 8 (by omega), q 9 (by omega), q 11 (by omega), q 12 (by omega), q 13 (by omega), q 14 (by omega), q h (by omega), f3 0 (by decide)]
  exact ⟨hT, hR, cL, cV, cD, cH, fun z => ⟨(cB z).1, hB z⟩⟩
theorem gfr_tab (ht : gTH t h) {c a : Nat} {v w : Int32} (h1 : t ≤ c) (h2 : c ≤ t + 3) (hk : k ≠ 2) (hk8 : k < 80) : GFr t h Y N (mw Y c a v) (mw N 1 k w) := by
  unfold gTH at ht
  refine ⟨fun c2 z _ _ _ _ _ => mw_ne (by omega), fun j _ => by rw [mw_ne (by omega)], fun j _ => by rw [mw_ne (by omega)], fun c2 _ z _ _ _ => mw_ne z, fun j _ => by rw [mw_ne (by decide)], fun _ => ⟨mw_ne (by omega), mw_ne (by omega), mw_ne (by decide), by rw [mw_eq, pk_un (Ne.symm hk)]⟩, ?_, fun j hj => by rw [mw_eq, pk_un (by omega)]⟩
  rw [mw_eq, pk_un (Ne.symm hk)]; exact Int.le_refl _
theorem gst_tab (ht : gTH t h) (hS : GSt t h X M Y N) {c a : Nat} {v2 : Int32} (h1 : t ≤ c) (h2 : c ≤ t + 3) (hk : k ≠ 2) (hk8 : k < 80) (hT : GTab (mw Y c a v t) (mw Y c a v (t + 1)) (mw Y c a v (t + 2)) (mw Y c a v (t + 3)) (upd (N 1) k v2) (N 4) (N 5) (N 6) (N 7) (N 0 6)) (hR : GRng (upd (N 1) k v2) (N 4) (N 5) (N 6) (N 7) (N 0 6)) : GSt t h X M (mw Y c a v) (mw N 1 k v2) := by
  have fr : GFr t h Y N (mw Y c a v) (mw N 1 k v2) := gfr_tab ht h1 h2 hk hk8
  have e1 : mw N 1 k v2 1 = upd (N 1) k v2 := mw_eq
  unfold gTH at ht
  refine ⟨gco_mk ht hS.1 fr ?_ ?_ ?_, hS.2.trans fr⟩
  · rw [e1]; exact hT
  · rw [e1]; exact hR
  · intro z
    rw [e1, mw_ne (show 17 ≠ c by omega), mw_ne (show 18 ≠ c by omega), mw_ne (show 8 ≠ 1 by decide), pk_un (Ne.symm hk)]
    exact (hS.1.2.2.2.2.2.2 z).2
theorem gst_pb (ht : gTH t h) (hS : GSt t h X M Y N) (hw1 : 1 ≤ w) (hw : w < 6) (hb : b < 8) (r1 : w = 1 → gIn v 0 99) (r2 : w = 2 → gIn v 0 11) (r3 : w = 3 → gIn v 0 1) : GSt t h X M (mw Y (t + 2) (8 * w + b) v) (mw N 1 (32 + 8 * w + b) v) := by
  obtain ⟨cT, cR, -⟩ := hS.1
  refine gst_tab ht hS (by omega) (by omega) (by omega) (by omega) ?_ ?_
  · rw [mw_ne (show t ≠ t + 2 by omega), mw_ne (show t + 1 ≠ t + 2 by omega), mw_eq, mw_ne (show t + 3 ≠ t + 2 by omega)]
    exact cT.pb hw1 hw hb
  · exact cR.put (fun s hs q => by omega) (fun b2 hb2 q => r2 (by omega)) (fun b2 hb2 q => r3 (by omega)) (fun b2 hb2 q => r1 (by omega))
theorem gst_full (ht : gTH t h) (hS : GSt t h X M Y N) (hb : b < 8) (r : gIn v 0 99) : GSt t h X M (mw Y (t + 2) (8 + b) v) (mw N 1 (40 + b) v) := gst_pb (w := 1) ht hS (by decide) (by decide) hb (fun _ => r) (fun q => absurd q (by decide)) (fun q => absurd q (by decide))
theorem gst_at (ht : gTH t h) (hS : GSt t h X M Y N) (hb : b < 8) (r : gIn v 0 11) : GSt t h X M (mw Y (t + 2) (16 + b) v) (mw N 1 (48 + b) v) := gst_pb (w := 2) ht hS (by decide) (by decide) hb (fun q => absurd q (by decide)) (fun _ => r) (fun q => absurd q (by decide))
theorem gst_head (ht : gTH t h) (hS : GSt t h X M Y N) (hb : b < 8) (r : gIn v 0 1) : GSt t h X M (mw Y (t + 2) (24 + b) v) (mw N 1 (56 + b) v) := gst_pb (w := 3) ht hS (by decide) (by decide) hb (fun q => absurd q (by decide)) (fun q => absurd q (by decide)) (fun _ => r)
theorem gst_skin0 (ht : gTH t h) (hS : GSt t h X M Y N) (hb : b < 8) : GSt t h X M (mw Y (t + 2) (32 + b) v) (mw N 1 (64 + b) v) := gst_pb (w := 4) ht hS (by decide) (by decide) hb (fun q => absurd q (by decide)) (fun q => absurd q (by decide)) (fun q => absurd q (by decide))
theorem gst_landed (ht : gTH t h) (hS : GSt t h X M Y N) (hb : b < 8) : GSt t h X M (mw Y (t + 2) (40 + b) v) (mw N 1 (72 + b) v) := gst_pb (w := 5) ht hS (by decide) (by decide) hb (fun q => absurd q (by decide)) (fun q => absurd q (by decide)) (fun q => absurd q (by decide))
theorem gst_love (ht : gTH t h) (hS : GSt t h X M Y N) (hs : s < 12) : GSt t h X M (mw Y (t + 1) (24 + s) v) (mw N 1 (6 + s) v) := by
  obtain ⟨cT, cR, -⟩ := hS.1
  refine gst_tab ht hS (by omega) (by omega) (by omega) (by omega) ?_ (cR.put0 (by omega))
  rw [mw_ne (show t ≠ t + 1 by omega), mw_eq, mw_ne (show t + 2 ≠ t + 1 by omega), mw_ne (show t + 3 ≠ t + 1 by omega)]
  exact cT.love hs
theorem gst_stain (ht : gTH t h) (hS : GSt t h X M Y N) (hs : s < 12) (r : gIn v 0 999) : GSt t h X M (mw Y (t + 1) (48 + s) v) (mw N 1 (18 + s) v) := by
  obtain ⟨cT, cR, -⟩ := hS.1
  refine gst_tab ht hS (by omega) (by omega) (by omega) (by omega) ?_ (cR.put (fun _ _ _ => r) (fun b2 hb2 q => by omega) (fun b2 hb2 q => by omega) (fun b2 hb2 q => by omega))
  rw [mw_ne (show t ≠ t + 1 by omega), mw_eq, mw_ne (show t + 2 ≠ t + 1 by omega), mw_ne (show t + 3 ≠ t + 1 by omega)]
  exact cT.stain hs
theorem gst_got (ht : gTH t h) (hS : GSt t h X M Y N) (hk : k < 10) : GSt t h X M (mw Y (t + 3) k v) (mw N 1 (30 + k) v) := by
  obtain ⟨cT, cR, -⟩ := hS.1
  refine gst_tab ht hS (by omega) (by omega) (by omega) (by omega) ?_ (cR.put0 (by omega))
  rw [mw_ne (show t ≠ t + 3 by omega), mw_ne (show t + 1 ≠ t + 3 by omega), mw_ne (show t + 2 ≠ t + 3 by omega), mw_eq]
  exact cT.got hk
theorem gst_num (ht : gTH t h) (hS : GSt t h X M Y N) (hij : (k = 0 ∧ w = 1) ∨ (k = 1 ∧ w = 3) ∨ (k = 2 ∧ w = 4) ∨ (k = 3 ∧ w = 5) ∨ (k = 4 ∧ w = 0)) : GSt t h X M (mw Y t k v) (mw N 1 w v) := by
  obtain ⟨cT, cR, -⟩ := hS.1
  refine gst_tab ht hS (by omega) (by omega) (by omega) (by omega) ?_ (cR.put0 (by omega))
  rw [mw_eq, mw_ne (show t + 1 ≠ t by omega), mw_ne (show t + 2 ≠ t by omega), mw_ne (show t + 3 ≠ t by omega)]
  exact cT.num hij
/-- what is brought: kept aside -/
theorem gst_br (ht : gTH t h) (hS : GSt t h X M Y N) {a : Nat} : GSt t h X M (mw Y (h + 1) a v) N := by
  have fr : GFr t h Y N (mw Y (h + 1) a v) N := by
    unfold gTH at ht
    exact ⟨fun c2 _ _ _ _ _ z => mw_ne z, fun j _ => by rw [mw_ne (by omega)], fun j _ => by rw [mw_ne (by omega)], fun _ _ _ _ _ _ => rfl, fun _ _ => rfl, fun _ => ⟨mw_ne (by omega), mw_ne (by omega), rfl, rfl⟩, Int.le_refl _, fun _ _ => rfl⟩
  have ht2 := ht
  unfold gTH at ht2
  refine ⟨gco_mk ht hS.1 fr ?_ hS.1.2.1 ?_, hS.2.trans fr⟩
  · rw [mw_ne (by omega), mw_ne (by omega), mw_ne (by omega), mw_ne (by omega)]
    exact hS.1.1
  · intro z
    rw [mw_ne (show 17 ≠ h + 1 by omega), mw_ne (show 18 ≠ h + 1 by omega)]
    exact (hS.1.2.2.2.2.2.2 z).2
theorem gst_lw (ht : gTH t h) (hS : GSt t h X M Y N) : GSt t h X M Y (mw N 0 43 v) := by
  have fr : GFr t h Y N Y (mw N 0 43 v) := ⟨fun _ _ _ _ _ _ _ => rfl, fun _ _ => rfl, fun _ _ => rfl, fun c z _ _ _ _ => mw_ne z, fun j hj => by rw [mw_eq, pk_un hj], fun _ => ⟨rfl, rfl, mw_ne (by decide), by rw [mw_ne (by decide)]⟩, by rw [mw_ne (by decide)]; exact Int.le_refl _, fun j _ => by rw [mw_ne (by decide)]⟩
  refine ⟨gco_mk ht hS.1 fr ?_ ?_ ?_, hS.2.trans fr⟩
  · rw [mw_ne (by decide)]; exact hS.1.1
  · rw [mw_ne (by decide)]; exact hS.1.2.1
  · intro z
    rw [mw_ne (show 1 ≠ 0 by decide), mw_ne (show 8 ≠ 0 by decide)]
    exact (hS.1.2.2.2.2.2.2 z).2
/-- a line of THE BOOK -/
def NFr (Y N Z O : gb_Mem) : Prop := (∀ c, c ≠ 17 → c ≠ 18 → Z c = Y c) ∧ (∀ c, c ≠ 1 → c ≠ 8 → O c = N c) ∧ (∀ j, j ≠ 2 → O 1 j = N 1 j) ∧ (N 0 5 = 0 → GBook (Z 17 2) (Z 18) (O 1 2) (O 8) ∧ (∀ j, j ≠ 2 → Z 17 j = Y 17 j) ∧ (N 1 2).toInt ≤ (O 1 2).toInt) ∧ (¬ N 0 5 = 0 → Z 17 = Y 17 ∧ Z 18 = Y 18 ∧ O 8 = N 8 ∧ O 1 2 = N 1 2)
theorem NFr.wr (hN : NFr Y N Z O) (hk : k ≠ 2) : NFr Y (mw N 1 k v) Z (mw O 1 k v) := by
  obtain ⟨n1, n2, n3, n4, n5⟩ := hN
  have e1 : mw N 1 k v 1 2 = N 1 2 := by rw [mw_eq, pk_un (Ne.symm hk)]
  have e2 : mw O 1 k v 1 2 = O 1 2 := by rw [mw_eq, pk_un (Ne.symm hk)]
  refine ⟨n1, fun c h1 h2 => ?_, fun j hj => ?_, ?_, ?_⟩
  · rw [mw_ne h1, mw_ne h1]; exact n2 c h1 h2
  · rw [mw_eq, mw_eq, upd_ap, upd_ap, n3 j hj]
  · rw [mw_ne (show 0 ≠ 1 by decide), e1, e2, mw_ne (show 8 ≠ 1 by decide)]; exact n4
  · rw [mw_ne (show 0 ≠ 1 by decide), e1, e2, mw_ne (show 8 ≠ 1 by decide), mw_ne (show 8 ≠ 1 by decide)]; exact n5
theorem NFr.same (hB : N 0 5 = 0 → GBook (Y 17 2) (Y 18) (N 1 2) (N 8)) : NFr Y N Y N := ⟨fun _ _ _ => rfl, fun _ _ _ => rfl, fun _ _ => rfl, fun z => ⟨hB z, fun _ _ => rfl, Int.le_refl _⟩, fun _ => ⟨rfl, rfl, rfl, rfl⟩⟩
theorem up4_congr {c d : Nat → Int32} {k : Nat} {y1 y2 y3 y4 : Int32} (h : ∀ i, i < 4 * k → c i = d i) : ∀ i, i < 4 * (k + 1) → up4 c k y1 y2 y3 y4 i = up4 d k y1 y2 y3 y4 i := by
  intro i hi
  by_cases q : i < 4 * k
  · rw [up4_lt q, up4_lt q]; exact h i q
  · have : i = 4 * k ∨ i = 4 * k + 1 ∨ i = 4 * k + 2 ∨ i = 4 * k + 3 := by omega
    rcases this with rfl | rfl | rfl | rfl
    · rw [up4_0, up4_0]
    · rw [up4_1, up4_1]
    · rw [up4_2, up4_2]
    · rw [up4_3, up4_3]
theorem notes_n (h5 : N 0 5 = 0) (e : N 1 2 = nI k) (hk : k < 150) : F_Mo_notes x1 x2 x3 N = some (mw (mset N 8 (up4 (N 8) k (N 1 0) x1 x2 x3)) 1 2 (nI (k + 1))) := by
  unfold F_Mo_notes
  have e4 : (4 : Int32) * nI k = nI (4 * k) := pk_mul 4 k
  have a1 : nI (4 * k) + 1 = nI (4 * k + 1) := nI_add (4 * k) 1
  have a2 : nI (4 * k) + 2 = nI (4 * k + 2) := nI_add (4 * k) 2
  have a3 : nI (4 * k) + 3 = nI (4 * k + 3) := nI_add (4 * k) 3
  rw [if_pos h5, e, if_neg (show ¬ nI k = 150 from fun q => by have := (nI_eq (b := 150) (by omega) (by decide)).mp q; omega), e4, fsto_n (by omega) (by decide), a1, fsto_n (by omega) (by decide), a2, fsto_n (by omega) (by decide), a3, fsto_n (by omega) (by decide), fstf_d]
  have e0 : mw (mw (mw (mw N 8 (4 * k) (N 1 0)) 8 (4 * k + 1) x1) 8 (4 * k + 2) x2) 8 (4 * k + 3) x3 = mset N 8 (up4 (N 8) k (N 1 0) x1 x2 x3) := by
    funext c
    by_cases hc2 : c = 8
    · subst hc2
      rw [mw_eq, mw_eq, mw_eq, mw_eq, mset_eq]; rfl
    · rw [mw_ne hc2, mw_ne hc2, mw_ne hc2, mw_ne hc2, mset_ne hc2]
  rw [e0, mset_ne (by decide), e, nI_1]
theorem note_n (hH : Y h 2 = N 0 5) (h4 : Y t 4 = N 1 0) (hB : N 0 5 = 0 → Y 17 0 = 150 ∧ GBook (Y 17 2) (Y 18) (N 1 2) (N 8)) (x1 x2 x3 : Int32) : ∃ Z O, F_Co_write h t x1 x2 x3 Y = some Z ∧ F_Mo_notes x1 x2 x3 N = some O ∧ NFr Y N Z O := by
  by_cases h5 : N 0 5 = 0
  · obtain ⟨b0, be, k, hk, e2, hb⟩ := hB h5
    have hw : F_Co_write h t x1 x2 x3 Y = fbd (F_Ro_add 17 600 (Y t 4) x1 x2 x3 Y) (fun (r2, I1) => some I1) := by
      unfold F_Co_write
      rw [if_pos (hH.trans h5)]
    rw [hw, ro_add (lim := 150) (k := k) (Y t 4) x1 x2 x3 b0 (be.trans e2) hk rfl (by decide)]
    by_cases c : k = 150
    · refine ⟨Y, N, by rw [if_pos c]; rfl, ?_, NFr.same (fun z => (hB z).2)⟩
      unfold F_Mo_notes
      rw [if_pos h5, if_pos (by rw [e2, c]; rfl)]
    · have hk2 : k < 150 := by omega
      refine ⟨mw (mset Y (17 + 1) (up4 (Y (17 + 1)) k (Y t 4) x1 x2 x3)) 17 2 (nI (k + 1)), _, by rw [if_neg c]; rfl, notes_n h5 e2 hk2, fun c z1 z2 => ?_, fun c z1 z2 => ?_, fun j hj => ?_, fun _ => ⟨?_, fun j hj => ?_, ?_⟩, fun q => absurd h5 q⟩
      · rw [mw_ne z1, mset_ne z2]
      · rw [mw_ne z1, mset_ne z2]
      · rw [mw_eq, pk_un hj, mset_ne (by decide)]
      · rw [mw_eq, pk_us, mw_ne (show 18 ≠ 17 by decide), show (18 : Nat) = 17 + 1 from rfl, mset_eq, mw_eq, pk_us, mw_ne (show 8 ≠ 1 by decide), mset_eq, h4]
        exact ⟨rfl, k + 1, by omega, rfl, up4_congr hb⟩
      · rw [mw_eq, pk_un hj, mset_ne (by decide)]
      · rw [mw_eq, pk_us, e2, nI_toInt (by omega), nI_toInt (by omega)]; omega
  · refine ⟨Y, N, ?_, ?_, NFr.same (fun z => absurd z h5)⟩
    · unfold F_Co_write
      rw [if_neg (fun q => h5 (hH.symm.trans q))]
    · unfold F_Mo_notes
      rw [if_neg h5]
theorem gst_nf (ht : gTH t h) (hS : GSt t h X M Y N) (hN : NFr Y N Z O) : GSt t h X M Z O := by
  obtain ⟨n1, n2, n3, n4, n5⟩ := hN
  have eO : O 1 = upd (N 1) 2 (O 1 2) := by
    funext j
    rw [upd_ap]
    by_cases q : j = 2
    · rw [if_pos q, q]
    · rw [if_neg q]; exact n3 j q
  have ht2 := ht
  unfold gTH at ht2
  have fr : GFr t h Y N Z O := by
    refine ⟨fun c _ _ _ z1 z2 _ => n1 c z1 z2, fun j _ => by rw [n1 6 (by decide) (by decide)], fun j hj => ?_, fun c _ z1 z2 _ _ => n2 c z1 z2, fun j _ => by rw [n2 0 (by decide) (by decide)], n5, ?_, fun j hj => n3 j (by omega)⟩
    · by_cases q : N 0 5 = 0
      · exact (n4 q).2.1 j hj
      · rw [(n5 q).1]
    · by_cases q : N 0 5 = 0
      · exact (n4 q).2.2
      · rw [(n5 q).2.2.2]; exact Int.le_refl _
  refine ⟨gco_mk ht hS.1 fr ?_ ?_ (fun q => (n4 q).1), hS.2.trans fr⟩
  · rw [n1 t (by omega) (by omega), n1 (t + 1) (by omega) (by omega), n1 (t + 2) (by omega) (by omega), n1 (t + 3) (by omega) (by omega), eO]
    exact hS.1.1.lines
  · rw [eO]
    exact hS.1.2.1.put0 (by omega)
theorem gst_note (ht : gTH t h) (hS : GSt t h X M Y N) (x1 x2 x3 : Int32) : ∃ Z O, F_Co_write h t x1 x2 x3 Y = some Z ∧ F_Mo_notes x1 x2 x3 N = some O ∧ GSt t h X M Z O ∧ (∀ c, c ≠ 17 → c ≠ 18 → Z c = Y c) ∧ (∀ c, c ≠ 1 → c ≠ 8 → O c = N c) ∧ (∀ j, j ≠ 2 → O 1 j = N 1 j) := by
  obtain ⟨Z, O, z1, z2, z3⟩ := note_n (t := t) (h := h) hS.1.2.2.2.2.2.1 hS.1.1.1.2.2.2.2.1 hS.1.2.2.2.2.2.2 x1 x2 x3
  exact ⟨Z, O, z1, z2, gst_nf ht hS z3, z3.1, z3.2.1, z3.2.2.1⟩
/-- THE LAW is asked -/
theorem gst_law (ht : gTH t h) (hS : GSt t h X M Y N) (hw : w < 3) (hb : b < 8) : ∃ r Z O, F_La_tells 6 t (nI w) (nI b) Y = some (r, Z) ∧ F_Mo_ofLaw w (nI b) N = some (r, O) ∧ GSt t h X M Z O ∧ (∀ c, c ≠ 6 → c ≠ 10 → Z c = Y c) ∧ (∀ c, c ≠ 22 → c ≠ 23 → O c = N c) ∧ gIn r 0 1000 := by
  obtain ⟨cT, cR, cL, -⟩ := hS.1
  have ht2 := ht
  unfold gTH at ht2
  obtain ⟨r, Z, O, q1, q2, q3, q4, q5, q6⟩ := tells_n hw (show t < 3 ∨ 10 < t by omega) cT cR cL hb
  have fr : GFr t h Y N Z O := ⟨fun c _ z1 z2 _ _ _ => q3 c z1 z2, q4, fun j _ => by rw [q3 17 (by decide) (by decide)], fun c _ _ _ z1 z2 => q5 c z1 z2, fun j _ => by rw [q5 0 (by decide) (by decide)], fun _ => ⟨q3 17 (by decide) (by decide), q3 18 (by decide) (by decide), q5 8 (by decide) (by decide), by rw [q5 1 (by decide) (by decide)]⟩, by rw [q5 1 (by decide) (by decide)]; exact Int.le_refl _, fun j _ => by rw [q5 1 (by decide) (by decide)]⟩
  refine ⟨r, Z, O, q1, q2, ⟨gco_mk ht hS.1 fr ?_ ?_ ?_, hS.2.trans fr⟩, q3, q5, q6⟩
  · rw [q3 t (by omega) (by omega), q3 (t + 1) (by omega) (by omega), q3 (t + 2) (by omega) (by omega), q3 (t + 3) (by omega) (by omega), q5 1 (by decide) (by decide)]; exact cT
  · rw [q5 1 (by decide) (by decide)]; exact cR
  · intro z
    rw [q3 17 (by decide) (by decide), q3 18 (by decide) (by decide), q5 1 (by decide) (by decide), q5 8 (by decide) (by decide)]
    exact (hS.1.2.2.2.2.2.2 z).2
theorem fgd_1000 {α : Type} (k : Option α) : fgd (decide (¬ (1000 : Int32) = 0)) k = k := by
  rw [decide_eq_true (by decide)]; rfl
/-- a draw, or none in thought -/
theorem gst_hap (ht : gTH t h) (hS : GSt t h X M Y N) {r : Int32} (hr : gIn r 0 1000) : ∃ z Z O, F_Co_happens h t r Y = some (z, Z) ∧ F_Mo_comes r N = some (z, O) ∧ GSt t h X M Z O ∧ (z = 0 ∨ z = 1) ∧ (∀ c, c ≠ t → Z c = Y c) ∧ (∀ c, c ≠ 1 → O c = N c) ∧ (∀ j, j ≠ 1 → O 1 j = N 1 j) := by
  obtain ⟨cT, cR, cL, cV, cD, cH, cB⟩ := hS.1
  have e0 : Y t 0 = N 1 1 := cT.1.1
  by_cases h5 : N 0 5 = 0
  · obtain ⟨d, hd⟩ : ∃ d, d = 1664525 * N 1 1 + 1013904223 := ⟨_, rfl⟩
    obtain ⟨q, hq⟩ : ∃ q, q = (d.toUInt32 >>> (Int32.toUInt32 8 &&& Int32.toUInt32 31)).toInt32 - (d.toUInt32 >>> (Int32.toUInt32 8 &&& Int32.toUInt32 31)).toInt32 / 1000 * 1000 := ⟨_, rfl⟩
    have dX : F_Ta_draw t 1000 Y = some (q, mw Y t 0 d) := by
      unfold F_Ta_draw
      rw [fstf_d, e0, ← hd, if_neg (show ¬ (1000 : Int32) ≤ 0 by decide), fgd_1000, mw_eq, pk_us, ← hq]
    have dM : F_Mo_draw 1000 N = some (q, mw N 1 1 d) := by
      unfold F_Mo_draw
      rw [fstf_d, ← hd, fgd_1000, mw_eq, pk_us, ← hq]
    have g := gst_num ht hS (k := 0) (w := 1) (v := d) (by omega)
    refine ⟨if r ≤ q then 0 else 1, mw Y t 0 d, mw N 1 1 d, ?_, ?_, g, ?_, fun c hc => mw_ne hc, fun c hc => mw_ne hc, fun j hj => by rw [mw_eq, pk_un hj]⟩
    · unfold F_Co_happens
      rw [if_pos (cH.trans h5), dX, fbd_s]
      by_cases c : r ≤ q
      · rw [if_pos c]; exact if_pos c
      · rw [if_neg c]; exact if_neg c
    · unfold F_Mo_comes
      rw [if_pos h5, dM, fbd_s]
      by_cases c : r ≤ q
      · rw [if_pos c]; exact if_pos c
      · rw [if_neg c]; exact if_neg c
    · by_cases c : r ≤ q
      · rw [if_pos c]; exact Or.inl rfl
      · rw [if_neg c]; exact Or.inr rfl
  · obtain ⟨n, rfl, hn, hn2⟩ := gIn_n hr
    refine ⟨if n < 500 then 0 else 1, Y, N, ?_, ?_, hS, ?_, fun _ _ => rfl, fun _ _ => rfl, fun _ _ => rfl⟩
    · unfold F_Co_happens
      rw [if_neg (fun q => h5 (cH.symm.trans q))]
      by_cases c : n < 500
      · rw [if_pos c, if_pos (show nI n < 500 from nI_lt (b := 500) c (by decide))]
      · rw [if_neg c, if_neg (show ¬ nI n < 500 from nI_nlt (b := 500) (by omega) (by omega))]
    · unfold F_Mo_comes
      rw [if_neg h5, show (2 : Int32) * nI n = nI (2 * n) from pk_mul 2 n]
      by_cases c : n < 500
      · rw [if_pos c, if_pos (show nI (2 * n) < 1000 from nI_lt (b := 1000) (by omega) (by decide))]
      · rw [if_neg c, if_neg (show ¬ nI (2 * n) < 1000 from nI_nlt (b := 1000) (by omega) (by omega))]
    · by_cases c : n < 500
      · rw [if_pos c]; exact Or.inl rfl
      · rw [if_neg c]; exact Or.inr rfl
end COURSE
