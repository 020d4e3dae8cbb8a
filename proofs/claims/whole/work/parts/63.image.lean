/-! THE IMAGE: the reference's rows kept, or taken back. -/
theorem mw_self {K : gb_Mem} {a k : Nat} : mw K a k (K a k) = K := by
  funext c
  by_cases h : c = a
  · subst h
    rw [mw_eq]
    funext j
    rw [upd_ap]
    by_cases q : j = k
    · rw [if_pos q, q]
    · rw [if_neg q]
  · rw [mw_ne h]
def KRn (S : Nat → Nat → Prop) (p0 p1 : Nat) (I J : gb_Mem) : Prop :=
  J 0 69 = nI p1 ∧ J 0 67 = I 0 67 ∧ (∀ c j, ¬ S c j → c ≠ 41 → ¬ (c = 0 ∧ j = 69) → J c j = I c j) ∧ (∀ q, q < p0 → J 41 q = I 41 q) ∧ (I 0 67 = 0 → J 41 = I 41) ∧ (¬ I 0 67 = 0 → ∀ c j, c ≠ 41 → ¬ (c = 0 ∧ j = 69) → J c j = I c j)
theorem KRn.trans {S S2 S3 : Nat → Nat → Prop} {p0 p1 p2 : Nat} {I J K : gb_Mem} (a : KRn S p0 p1 I J) (b : KRn S2 p1 p2 J K) (hp : p0 ≤ p1) (h1 : ∀ c j, S c j → S3 c j) (h2 : ∀ c j, S2 c j → S3 c j) : KRn S3 p0 p2 I K := by
  obtain ⟨a1, a2, a3, a4, a5, a6⟩ := a
  obtain ⟨b1, b2, b3, b4, b5, b6⟩ := b
  refine ⟨b1, b2.trans a2, fun c j q z1 z2 => (b3 c j (fun y => q (h2 c j y)) z1 z2).trans (a3 c j (fun y => q (h1 c j y)) z1 z2), fun q hq => (b4 q (by omega)).trans (a4 q hq), fun q => (b5 (a2.trans q)).trans (a5 q), fun q c j z1 z2 => (b6 (fun y => q (a2.symm.trans y)) c j z1 z2).trans (a6 q c j z1 z2)⟩
theorem KRn.same {S : Nat → Nat → Prop} {p : Nat} {I : gb_Mem} (h : I 0 69 = nI p) : KRn S p p I I := ⟨h, rfl, fun _ _ _ _ _ => rfl, fun _ _ => rfl, fun _ => rfl, fun _ _ _ _ _ => rfl⟩
theorem link_tr {S : Nat → Nat → Prop} {a k p p1 p2 : Nat} {J K : gb_Mem} (h : J a k = J 41 p) (hK : KRn S p1 p2 J K) (h1 : ¬ S a k) (h2 : a ≠ 41) (h3 : ¬ (a = 0 ∧ k = 69)) (hp : p < p1) : K a k = K 41 p := by
  rw [hK.2.2.1 a k h1 h2 h3, hK.2.2.2.1 p hp]; exact h
theorem keeps_n {I : gb_Mem} {p : Nat} {x : Int32} (hp : I 0 69 = nI p) (h : p < 2300) : F_Mo_keeps x I = if I 0 67 = 0 then some (I 41 p, mw I 0 69 (nI (p + 1))) else some (x, mw (mw I 0 69 (nI (p + 1))) 41 p x) := by
  unfold F_Mo_keeps
  rw [fstf_d, hp, nI_1]
  have e1 : mw I 0 69 (nI (p + 1)) 0 67 = I 0 67 := by rw [mw_eq, pk_un (by decide)]
  have e2 : mw I 0 69 (nI (p + 1)) 0 69 = nI (p + 1) := by rw [mw_eq, pk_us]
  rw [e1, e2, nI_pred]
  by_cases c : I 0 67 = 0
  · rw [if_pos c, if_pos c, flod_n h (by decide), mw_ne (by decide)]
  · rw [if_neg c, if_neg c, fsto_n h (by decide)]
/-- one number kept, or taken back -/
theorem item_n {I : gb_Mem} {a k p : Nat} (hp : I 0 69 = nI p) (h : p < 2300) (ha : a ≠ 41) (h0 : a = 0 → k ≠ 69 ∧ k ≠ 67) : ∃ r I2, F_Mo_keeps (I a k) I = some (r, I2) ∧ KRn (fun c j => c = a ∧ j = k) p (p + 1) I (mw I2 a k r) ∧ mw I2 a k r a k = mw I2 a k r 41 p := by
  rw [keeps_n hp h]
  have b0 : ∀ K : gb_Mem, ∀ v, mw K a k v 0 69 = K 0 69 := by
    intro K v
    rw [mw_ap]
    by_cases q : 0 = a
    · rw [if_pos q, if_neg (fun z => (h0 q.symm).1 z.symm)]
    · rw [if_neg q]
  have b1 : ∀ K : gb_Mem, ∀ v, mw K a k v 0 67 = K 0 67 := by
    intro K v
    rw [mw_ap]
    by_cases q : 0 = a
    · rw [if_pos q, if_neg (fun z => (h0 q.symm).2 z.symm)]
    · rw [if_neg q]
  have b2 : ∀ K : gb_Mem, ∀ v c j, ¬ (c = a ∧ j = k) → mw K a k v c j = K c j := by
    intro K v c j z
    rw [mw_ap]
    by_cases q : c = a
    · rw [if_pos q, if_neg (fun y => z ⟨q, y⟩)]
    · rw [if_neg q]
  have d2 : ∀ c j, ¬ (c = 0 ∧ j = 69) → mw I 0 69 (nI (p + 1)) c j = I c j := by
    intro c j z
    rw [mw_ap]
    by_cases q : c = 0
    · rw [if_pos q, if_neg (fun y => z ⟨q, y⟩)]
    · rw [if_neg q]
  by_cases c : I 0 67 = 0
  · rw [if_pos c]
    refine ⟨_, _, rfl, ⟨?_, ?_, fun c2 j z1 z2 z3 => ?_, fun q hq => ?_, fun _ => ?_, fun q => absurd c q⟩, ?_⟩
    · rw [b0, mw_eq, pk_us]
    · rw [b1, mw_eq, pk_un (by decide)]
    · rw [b2 _ _ _ _ z1, d2 _ _ z3]
    · rw [mw_ne (Ne.symm ha), mw_ne (by decide)]
    · rw [mw_ne (Ne.symm ha), mw_ne (by decide)]
    · rw [mw_eq, pk_us, mw_ne (Ne.symm ha), mw_ne (by decide)]
  · rw [if_neg c]
    have e : mw (mw I 0 69 (nI (p + 1))) 41 p (I a k) a k = I a k := by
      rw [mw_ne ha, d2 _ _ (fun z => (h0 z.1).1 z.2)]
    refine ⟨_, _, rfl, ?_, ?_⟩
    · have e9 : mw (mw (mw I 0 69 (nI (p + 1))) 41 p (I a k)) a k (I a k) = mw (mw I 0 69 (nI (p + 1))) 41 p (I a k) := by
        have := mw_self (K := mw (mw I 0 69 (nI (p + 1))) 41 p (I a k)) (a := a) (k := k)
        rw [e] at this; exact this
      rw [e9]
      refine ⟨?_, ?_, fun c2 j z1 z2 z3 => ?_, fun q hq => ?_, fun q => absurd q c, fun _ c2 j z2 z3 => ?_⟩
      · rw [mw_ne (by decide), mw_eq, pk_us]
      · rw [mw_ne (by decide), mw_eq, pk_un (by decide)]
      · rw [mw_ne z2, d2 _ _ z3]
      · rw [mw_eq, pk_un (by omega), mw_ne (by decide)]
      · rw [mw_ne z2, d2 _ _ z3]
    · rw [mw_eq, pk_us, mw_ne (Ne.symm ha), mw_eq, pk_us]
def fit : List (Nat × Nat) → Int32 → gb_Mem → (gb_Mem → Option gb_Mem) → Option gb_Mem
  | [], _, I, k => k I
  | q :: l, x, I, k => flod I q.1 q.2 x fun v => fbd (F_Mo_keeps v I) fun (r, I2) => fsto I2 q.1 q.2 x r fun I3 => fit l x I3 k
def fif : List (Nat × Nat) → gb_Mem → (gb_Mem → Option gb_Mem) → Option gb_Mem
  | [], I, k => k I
  | q :: l, I, k => fbd (F_Mo_keeps (I q.1 q.2) I) fun (r, I2) => fstf I2 q.1 q.2 r fun I3 => fif l I3 k
def lit (l : List (Nat × Nat)) (n : Nat) : Nat → Int32 → gb_Mem → Option gb_Mem
  | 0, _, _ => none
  | f + 1, x, I => if nI n ≤ x then some I else fit l x I (fun J => lit l n f (x + 1) J)
theorem fit_n {i : Nat} : ∀ (l : List (Nat × Nat)) (p : Nat) (I : gb_Mem), (∀ q ∈ l, q.1 ≠ 41 ∧ q.1 ≠ 0 ∧ i < q.2 ∧ q.2 < 2 ^ 31) → (l.map Prod.fst).Nodup → I 0 69 = nI p → p + l.length ≤ 2300 → ∃ J, (∀ k, fit l (nI i) I k = k J) ∧ KRn (fun c j => c ∈ l.map Prod.fst ∧ j = i) p (p + l.length) I J ∧ ∀ o q, l[o]? = some q → J q.1 i = J 41 (p + o) := by
  intro l
  induction l with
  | nil =>
    intro p I _ _ hp _
    exact ⟨I, fun _ => rfl, KRn.same hp, fun o q h => by simp at h⟩
  | cons q l ih =>
    intro p I hl hn hp hb
    have hlen : (q :: l).length = l.length + 1 := List.length_cons
    obtain ⟨q1, q2, q3, q4⟩ := hl q List.mem_cons_self
    obtain ⟨r, I2, k1, k2, k3⟩ := item_n (I := I) (a := q.1) (k := i) hp (by omega) q1 (fun z => absurd z q2)
    have hn2 : q.1 ∉ l.map Prod.fst ∧ (l.map Prod.fst).Nodup := by
      rw [List.map_cons] at hn
      exact List.nodup_cons.mp hn
    obtain ⟨J, j1, j2, j3⟩ := ih (p + 1) (mw I2 q.1 i r) (fun y hy => hl y (List.mem_cons_of_mem _ hy)) hn2.2 k2.1 (by omega)
    refine ⟨J, fun k => ?_, ?_, fun o y hy => ?_⟩
    · show (flod I q.1 q.2 (nI i) fun v => fbd (F_Mo_keeps v I) fun (r, I2) => fsto I2 q.1 q.2 (nI i) r fun I3 => fit l (nI i) I3 k) = _
      rw [flod_n q3 q4, k1]
      simp only [fbd_s]
      rw [fsto_n q3 q4]; exact j1 k
    · rw [hlen, show p + (l.length + 1) = p + 1 + l.length by omega]
      refine k2.trans j2 (by omega) (fun c j z => ⟨?_, z.2⟩) (fun c j z => ⟨?_, z.2⟩)
      · rw [z.1, List.map_cons]; exact List.mem_cons_self
      · rw [List.map_cons]; exact List.mem_cons_of_mem _ z.1
    · cases o with
      | zero =>
        rw [List.getElem?_cons_zero] at hy
        cases hy
        exact link_tr k3 j2 (fun z => hn2.1 z.1) q1 (fun z => q2 z.1) (by omega)
      | succ o =>
        rw [List.getElem?_cons_succ] at hy
        rw [j3 o y hy, show p + 1 + o = p + (o + 1) by omega]
theorem fif_n : ∀ (l : List (Nat × Nat)) (p : Nat) (I : gb_Mem), (∀ q ∈ l, q.1 ≠ 41 ∧ (q.1 = 0 → q.2 ≠ 69 ∧ q.2 ≠ 67)) → l.Nodup → I 0 69 = nI p → p + l.length ≤ 2300 → ∃ J, (∀ k, fif l I k = k J) ∧ KRn (fun c j => (c, j) ∈ l) p (p + l.length) I J ∧ ∀ o q, l[o]? = some q → J q.1 q.2 = J 41 (p + o) := by
  intro l
  induction l with
  | nil =>
    intro p I _ _ hp _
    exact ⟨I, fun _ => rfl, KRn.same hp, fun o q h => by simp at h⟩
  | cons q l ih =>
    intro p I hl hn hp hb
    have hlen : (q :: l).length = l.length + 1 := List.length_cons
    obtain ⟨q1, q2⟩ := hl q List.mem_cons_self
    obtain ⟨r, I2, k1, k2, k3⟩ := item_n (I := I) (a := q.1) (k := q.2) hp (by omega) q1 q2
    have hn2 := List.nodup_cons.mp hn
    obtain ⟨J, j1, j2, j3⟩ := ih (p + 1) (mw I2 q.1 q.2 r) (fun y hy => hl y (List.mem_cons_of_mem _ hy)) hn2.2 k2.1 (by omega)
    refine ⟨J, fun k => ?_, ?_, fun o y hy => ?_⟩
    · show (fbd (F_Mo_keeps (I q.1 q.2) I) fun (r, I2) => fstf I2 q.1 q.2 r fun I3 => fif l I3 k) = _
      rw [k1]
      simp only [fbd_s, fstf_d]; exact j1 k
    · rw [hlen, show p + (l.length + 1) = p + 1 + l.length by omega]
      refine k2.trans j2 (by omega) (fun c j z => ?_) (fun c j z => List.mem_cons_of_mem _ z)
      rw [z.1, z.2]; exact List.mem_cons_self
    · cases o with
      | zero =>
        rw [List.getElem?_cons_zero] at hy
        cases hy
        exact link_tr k3 j2 hn2.1 q1 (fun z => (q2 z.1).1 z.2) (by omega)
      | succ o =>
        rw [List.getElem?_cons_succ] at hy
        rw [j3 o y hy, show p + 1 + o = p + (o + 1) by omega]
theorem lit_n {l : List (Nat × Nat)} {n b : Nat} (hl : ∀ q ∈ l, q.1 ≠ 41 ∧ q.1 ≠ 0 ∧ n ≤ q.2 ∧ q.2 < 2 ^ 31) (hn : (l.map Prod.fst).Nodup) (hb : b + l.length * n ≤ 2300) (hn31 : n < 2 ^ 31) : ∀ m i f I, i + m = n → m < f → I 0 69 = nI (b + l.length * i) → ∃ J, lit l n f (nI i) I = some J ∧ KRn (fun c j => c ∈ l.map Prod.fst ∧ i ≤ j) (b + l.length * i) (b + l.length * n) I J ∧ ∀ o q j, l[o]? = some q → i ≤ j → j < n → J q.1 j = J 41 (b + l.length * j + o) := by
  intro m
  induction m with
  | zero =>
    intro i f I hi hf hp
    obtain ⟨f, rfl⟩ : ∃ g, f = g + 1 := ⟨f - 1, by omega⟩
    have : i = n := by omega
    subst this
    refine ⟨I, ?_, KRn.same hp, fun o q j _ h1 h2 => absurd h2 (by omega)⟩
    simp only [lit]
    rw [if_pos (nI_le (by omega) (by omega))]
  | succ m ih =>
    intro i f I hi hf hp
    obtain ⟨f, rfl⟩ : ∃ g, f = g + 1 := ⟨f - 1, by omega⟩
    have e1 : l.length * (i + 1) = l.length * i + l.length := Nat.mul_succ _ _
    have e2 : l.length * (i + 1) ≤ l.length * n := Nat.mul_le_mul_left _ (by omega)
    obtain ⟨J1, a1, a2, a3⟩ := fit_n (i := i) l (b + l.length * i) I (fun q hq => ⟨(hl q hq).1, (hl q hq).2.1, by have := (hl q hq).2.2.1; omega, (hl q hq).2.2.2⟩) hn hp (by omega)
    obtain ⟨J, c1, c2, c3⟩ := ih (i + 1) f J1 (by omega) (by omega) (by rw [e1, ← Nat.add_assoc]; exact a2.1)
    refine ⟨J, ?_, ?_, fun o q j ho h1 h2 => ?_⟩
    · simp only [lit]
      rw [if_neg (nI_ge (by omega) (by omega)), a1, nI_1]; exact c1
    · rw [e1, ← Nat.add_assoc] at c2
      exact a2.trans c2 (by omega) (fun c j z => ⟨z.1, by omega⟩) (fun c j z => ⟨z.1, by omega⟩)
    · by_cases hj : j = i
      · subst hj
        have ho2 : o < l.length := (List.getElem?_eq_some_iff.mp ho).1
        have hq := hl q (List.mem_of_getElem? ho)
        exact link_tr (a3 o q ho) c2 (fun z => by omega) hq.1 (fun z => hq.2.1 z.1) (by omega)
      · exact c3 o q j ho (by omega) h2
theorem L_Mo_image_35_e (x9 : Int32) : ∀ f x I, L_Mo_image_35 x9 f x I = lit [(1, 80)] 80 f x I := by
  intro f
  induction f with
  | zero => intro x I; rfl
  | succ f ih =>
    intro x I
    simp only [L_Mo_image_35, lit, fit, ih]
    rfl
theorem L_Mo_keepsTold_2_e : ∀ f x I, L_Mo_keepsTold_2 f x I = lit [(4, 12), (5, 12), (6, 12), (21, 24)] 12 f x I := by
  intro f
  induction f with
  | zero => intro x I; rfl
  | succ f ih =>
    intro x I
    simp only [L_Mo_keepsTold_2, lit, fit, ih]
    rfl
theorem L_Mo_keepsTold_80_e : ∀ f x I, L_Mo_keepsTold_80 f x I = lit [(7, 8), (19, 16), (30, 8), (31, 8), (34, 8), (37, 8), (38, 8)] 8 f x I := by
  intro f
  induction f with
  | zero => intro x I; rfl
  | succ f ih =>
    intro x I
    simp only [L_Mo_keepsTold_80, lit, fit, ih]
    rfl
theorem L_Mo_keepsTold_206_e : ∀ f x I, L_Mo_keepsTold_206 f x I = lit [(27, 24)] 24 f x I := by
  intro f
  induction f with
  | zero => intro x I; rfl
  | succ f ih =>
    intro x I
    simp only [L_Mo_keepsTold_206, lit, fit, ih]
    rfl
theorem L_Mo_keepsTold_236_e : ∀ f x I, L_Mo_keepsTold_236 f x I = lit [(32, 10)] 10 f x I := by
  intro f
  induction f with
  | zero => intro x I; rfl
  | succ f ih =>
    intro x I
    simp only [L_Mo_keepsTold_236, lit, fit, ih]
    rfl
theorem L_Mo_keepsTold_266_e : ∀ f x I, L_Mo_keepsTold_266 f x I = lit [(35, 9), (36, 9), (39, 9), (40, 9)] 9 f x I := by
  intro f
  induction f with
  | zero => intro x I; rfl
  | succ f ih =>
    intro x I
    simp only [L_Mo_keepsTold_266, lit, fit, ih]
    rfl
theorem L_Mo_keepsTold_344_e : ∀ f x I, L_Mo_keepsTold_344 f x I = lit [(20, 128)] 64 f x I := by
  intro f
  induction f with
  | zero => intro x I; rfl
  | succ f ih =>
    intro x I
    simp only [L_Mo_keepsTold_344, lit, fit, ih]
    rfl
theorem L_Mo_image_73_e (x9 : Int32) : ∀ f x I, L_Mo_image_73 x9 f x I = lit [(8, 600)] 600 f x I := by
  intro f
  induction f with
  | zero => intro x I; rfl
  | succ f ih =>
    intro x I
    simp only [L_Mo_image_73, lit, fit, ih]
    rfl
theorem L_Mo_keepsLaw_18_e : ∀ f x I, L_Mo_keepsLaw_18 f x I = lit [(12, 48), (13, 48), (14, 48), (15, 48)] 16 f x I := by
  intro f
  induction f with
  | zero => intro x I; rfl
  | succ f ih =>
    intro x I
    simp only [L_Mo_keepsLaw_18, lit, fit, ih]
    rfl
theorem L_Mo_keepsLaw_96_e : ∀ f x I, L_Mo_keepsLaw_96 f x I = lit [(16, 1200), (17, 1200)] 400 f x I := by
  intro f
  induction f with
  | zero => intro x I; rfl
  | succ f ih =>
    intro x I
    simp only [L_Mo_keepsLaw_96, lit, fit, ih]
    rfl
theorem img_ref {I : gb_Mem} (x9 : Int32) (hp : I 0 69 = nI 0) : ∃ J, (fbd (L_Mo_image_35 x9 5000 0 I) fun I9 => fbd (F_Mo_keepsMany I9) fun I10 => fbd (F_Mo_keepsTold I10) fun I11 => fbd (L_Mo_image_73 x9 5000 0 I11) fun I16 => fbd (F_Mo_keepsLaw I16) fun I17 => some I17) = some J ∧ MEq (vM (J 41)) J ∧ (I 0 67 = 0 → J 41 = I 41) ∧ (¬ I 0 67 = 0 → ∀ c j, c ≠ 41 → ¬ (c = 0 ∧ j = 69) → J c j = I c j) ∧ (∀ j, j ≠ 69 → j ≠ 6 → j ≠ 35 → j ≠ 37 → j ≠ 39 → j ≠ 50 → j ≠ 53 → j ≠ 56 → j ≠ 58 → j ≠ 61 → j ≠ 64 → J 0 j = I 0 j) ∧ (J 2 = I 2 ∧ J 9 = I 9 ∧ J 10 = I 10) := by
  obtain ⟨J1, a1, b1, c1⟩ := lit_n (l := [(1, 80)]) (n := 80) (b := 0) (by decide) (by decide) (by decide) (by decide) 80 0 5000 I (by omega) (by omega) hp
  have b1 : KRn (fun c j => c ∈ [1] ∧ 0 ≤ j) 0 80 I J1 := b1
  obtain ⟨J2, a2, b2, c2⟩ := fif_n [(0, 6), (0, 35), (0, 37), (0, 39), (26, 0), (26, 1), (0, 50), (0, 53), (0, 56), (0, 58), (0, 61), (0, 64)] 80 J1 (by decide) (by decide) b1.1 (by decide)
  have b2 : KRn (fun c j => (c, j) ∈ [(0, 6), (0, 35), (0, 37), (0, 39), (26, 0), (26, 1), (0, 50), (0, 53), (0, 56), (0, 58), (0, 61), (0, 64)]) 80 92 J1 J2 := b2
  obtain ⟨J3, a3, b3, c3⟩ := lit_n (l := [(4, 12), (5, 12), (6, 12), (21, 24)]) (n := 12) (b := 92) (by decide) (by decide) (by decide) (by decide) 12 0 5000 J2 (by omega) (by omega) b2.1
  have b3 : KRn (fun c j => c ∈ [4, 5, 6, 21] ∧ 0 ≤ j) 92 140 J2 J3 := b3
  obtain ⟨J4, a4, b4, c4⟩ := lit_n (l := [(7, 8), (19, 16), (30, 8), (31, 8), (34, 8), (37, 8), (38, 8)]) (n := 8) (b := 140) (by decide) (by decide) (by decide) (by decide) 8 0 5000 J3 (by omega) (by omega) b3.1
  have b4 : KRn (fun c j => c ∈ [7, 19, 30, 31, 34, 37, 38] ∧ 0 ≤ j) 140 196 J3 J4 := b4
  obtain ⟨J5, a5, b5, c5⟩ := lit_n (l := [(27, 24)]) (n := 24) (b := 196) (by decide) (by decide) (by decide) (by decide) 24 0 5000 J4 (by omega) (by omega) b4.1
  have b5 : KRn (fun c j => c ∈ [27] ∧ 0 ≤ j) 196 220 J4 J5 := b5
  obtain ⟨J6, a6, b6, c6⟩ := lit_n (l := [(32, 10)]) (n := 10) (b := 220) (by decide) (by decide) (by decide) (by decide) 10 0 5000 J5 (by omega) (by omega) b5.1
  have b6 : KRn (fun c j => c ∈ [32] ∧ 0 ≤ j) 220 230 J5 J6 := b6
  obtain ⟨J7, a7, b7, c7⟩ := lit_n (l := [(35, 9), (36, 9), (39, 9), (40, 9)]) (n := 9) (b := 230) (by decide) (by decide) (by decide) (by decide) 9 0 5000 J6 (by omega) (by omega) b6.1
  have b7 : KRn (fun c j => c ∈ [35, 36, 39, 40] ∧ 0 ≤ j) 230 266 J6 J7 := b7
  obtain ⟨J8, a8, b8, c8⟩ := lit_n (l := [(20, 128)]) (n := 64) (b := 266) (by decide) (by decide) (by decide) (by decide) 64 0 5000 J7 (by omega) (by omega) b7.1
  have b8 : KRn (fun c j => c ∈ [20] ∧ 0 ≤ j) 266 330 J7 J8 := b8
  obtain ⟨J9, a9, b9, c9⟩ := lit_n (l := [(8, 600)]) (n := 600) (b := 330) (by decide) (by decide) (by decide) (by decide) 600 0 5000 J8 (by omega) (by omega) b8.1
  have b9 : KRn (fun c j => c ∈ [8] ∧ 0 ≤ j) 330 930 J8 J9 := b9
  obtain ⟨J10, a10, b10, c10⟩ := fif_n [(11, 0)] 930 J9 (by decide) (by decide) b9.1 (by decide)
  have b10 : KRn (fun c j => (c, j) ∈ [(11, 0)]) 930 931 J9 J10 := b10
  obtain ⟨J11, a11, b11, c11⟩ := lit_n (l := [(12, 48), (13, 48), (14, 48), (15, 48)]) (n := 16) (b := 931) (by decide) (by decide) (by decide) (by decide) 16 0 5000 J10 (by omega) (by omega) b10.1
  have b11 : KRn (fun c j => c ∈ [12, 13, 14, 15] ∧ 0 ≤ j) 931 995 J10 J11 := b11
  obtain ⟨J12, a12, b12, c12⟩ := lit_n (l := [(16, 1200), (17, 1200)]) (n := 400) (b := 995) (by decide) (by decide) (by decide) (by decide) 400 0 5000 J11 (by omega) (by omega) b11.1
  have b12 : KRn (fun c j => c ∈ [16, 17] ∧ 0 ≤ j) 995 1795 J11 J12 := b12
  have d11 : KRn (fun c _ => c ∈ [16, 17]) 995 1795 J11 J12 := KRn.trans (KRn.same b11.1) b12 (by omega) (fun c j (z : False) => z.elim) (fun c j z => by have := z.1; revert this; simp <;> omega)
  have d10 : KRn (fun c _ => c ∈ [12, 13, 14, 15, 16, 17]) 931 1795 J10 J12 := KRn.trans b11 d11 (by omega) (fun c j z => by have := z.1; revert this; simp <;> omega) (fun c j z => by revert z; simp <;> omega)
  have d9 : KRn (fun c _ => c ∈ [11, 12, 13, 14, 15, 16, 17]) 930 1795 J9 J12 := KRn.trans b10 d10 (by omega) (fun c j z => by revert z; simp <;> omega) (fun c j z => by revert z; simp <;> omega)
  have d8 : KRn (fun c _ => c ∈ [8, 11, 12, 13, 14, 15, 16, 17]) 330 1795 J8 J12 := KRn.trans b9 d9 (by omega) (fun c j z => by have := z.1; revert this; simp <;> omega) (fun c j z => by revert z; simp <;> omega)
  have d7 : KRn (fun c _ => c ∈ [8, 11, 12, 13, 14, 15, 16, 17, 20]) 266 1795 J7 J12 := KRn.trans b8 d8 (by omega) (fun c j z => by have := z.1; revert this; simp <;> omega) (fun c j z => by revert z; simp <;> omega)
  have d6 : KRn (fun c _ => c ∈ [8, 11, 12, 13, 14, 15, 16, 17, 20, 35, 36, 39, 40]) 230 1795 J6 J12 := KRn.trans b7 d7 (by omega) (fun c j z => by have := z.1; revert this; simp <;> omega) (fun c j z => by revert z; simp <;> omega)
  have d5 : KRn (fun c _ => c ∈ [8, 11, 12, 13, 14, 15, 16, 17, 20, 32, 35, 36, 39, 40]) 220 1795 J5 J12 := KRn.trans b6 d6 (by omega) (fun c j z => by have := z.1; revert this; simp <;> omega) (fun c j z => by revert z; simp <;> omega)
  have d4 : KRn (fun c _ => c ∈ [8, 11, 12, 13, 14, 15, 16, 17, 20, 27, 32, 35, 36, 39, 40]) 196 1795 J4 J12 := KRn.trans b5 d5 (by omega) (fun c j z => by have := z.1; revert this; simp <;> omega) (fun c j z => by revert z; simp <;> omega)
  have d3 : KRn (fun c _ => c ∈ [7, 8, 11, 12, 13, 14, 15, 16, 17, 19, 20, 27, 30, 31, 32, 34, 35, 36, 37, 38, 39, 40]) 140 1795 J3 J12 := KRn.trans b4 d4 (by omega) (fun c j z => by have := z.1; revert this; simp <;> omega) (fun c j z => by revert z; simp <;> omega)
  have d2 : KRn (fun c _ => c ∈ [4, 5, 6, 7, 8, 11, 12, 13, 14, 15, 16, 17, 19, 20, 21, 27, 30, 31, 32, 34, 35, 36, 37, 38, 39, 40]) 92 1795 J2 J12 := KRn.trans b3 d3 (by omega) (fun c j z => by have := z.1; revert this; simp <;> omega) (fun c j z => by revert z; simp <;> omega)
  have d1 : KRn (fun c _ => c ∈ [0, 4, 5, 6, 7, 8, 11, 12, 13, 14, 15, 16, 17, 19, 20, 21, 26, 27, 30, 31, 32, 34, 35, 36, 37, 38, 39, 40]) 80 1795 J1 J12 := KRn.trans b2 d2 (by omega) (fun c j z => by revert z; simp <;> omega) (fun c j z => by revert z; simp <;> omega)
  have d0 : KRn (fun c _ => c ∈ [0, 1, 4, 5, 6, 7, 8, 11, 12, 13, 14, 15, 16, 17, 19, 20, 21, 26, 27, 30, 31, 32, 34, 35, 36, 37, 38, 39, 40]) 0 1795 I J12 := KRn.trans b1 d1 (by omega) (fun c j z => by have := z.1; revert this; simp <;> omega) (fun c j z => by revert z; simp <;> omega)
  have l1 : ∀ j, j < 80 → J12 1 j = J12 41 (0 + 1 * j + 0) := fun j hj => link_tr (c1 0 (1, 80) j rfl (Nat.zero_le j) hj) d1 (by decide) (by decide) (fun z => absurd z.1 (by decide)) (by show 0 + 1 * j + 0 < 80; omega)
  have l0_6 : J12 0 6 = J12 41 (80 + 0) := link_tr (c2 0 (0, 6) rfl) d2 (by decide) (by decide) (fun z => absurd z (by decide)) (by decide)
  have l0_35 : J12 0 35 = J12 41 (80 + 1) := link_tr (c2 1 (0, 35) rfl) d2 (by decide) (by decide) (fun z => absurd z (by decide)) (by decide)
  have l0_37 : J12 0 37 = J12 41 (80 + 2) := link_tr (c2 2 (0, 37) rfl) d2 (by decide) (by decide) (fun z => absurd z (by decide)) (by decide)
  have l0_39 : J12 0 39 = J12 41 (80 + 3) := link_tr (c2 3 (0, 39) rfl) d2 (by decide) (by decide) (fun z => absurd z (by decide)) (by decide)
  have l26_0 : J12 26 0 = J12 41 (80 + 4) := link_tr (c2 4 (26, 0) rfl) d2 (by decide) (by decide) (fun z => absurd z (by decide)) (by decide)
  have l26_1 : J12 26 1 = J12 41 (80 + 5) := link_tr (c2 5 (26, 1) rfl) d2 (by decide) (by decide) (fun z => absurd z (by decide)) (by decide)
  have l0_50 : J12 0 50 = J12 41 (80 + 6) := link_tr (c2 6 (0, 50) rfl) d2 (by decide) (by decide) (fun z => absurd z (by decide)) (by decide)
  have l0_53 : J12 0 53 = J12 41 (80 + 7) := link_tr (c2 7 (0, 53) rfl) d2 (by decide) (by decide) (fun z => absurd z (by decide)) (by decide)
  have l0_56 : J12 0 56 = J12 41 (80 + 8) := link_tr (c2 8 (0, 56) rfl) d2 (by decide) (by decide) (fun z => absurd z (by decide)) (by decide)
  have l0_58 : J12 0 58 = J12 41 (80 + 9) := link_tr (c2 9 (0, 58) rfl) d2 (by decide) (by decide) (fun z => absurd z (by decide)) (by decide)
  have l0_61 : J12 0 61 = J12 41 (80 + 10) := link_tr (c2 10 (0, 61) rfl) d2 (by decide) (by decide) (fun z => absurd z (by decide)) (by decide)
  have l0_64 : J12 0 64 = J12 41 (80 + 11) := link_tr (c2 11 (0, 64) rfl) d2 (by decide) (by decide) (fun z => absurd z (by decide)) (by decide)
  have l4 : ∀ j, j < 12 → J12 4 j = J12 41 (92 + 4 * j + 0) := fun j hj => link_tr (c3 0 (4, 12) j rfl (Nat.zero_le j) hj) d3 (by decide) (by decide) (fun z => absurd z.1 (by decide)) (by show 92 + 4 * j + 0 < 140; omega)
  have l5 : ∀ j, j < 12 → J12 5 j = J12 41 (92 + 4 * j + 1) := fun j hj => link_tr (c3 1 (5, 12) j rfl (Nat.zero_le j) hj) d3 (by decide) (by decide) (fun z => absurd z.1 (by decide)) (by show 92 + 4 * j + 1 < 140; omega)
  have l6 : ∀ j, j < 12 → J12 6 j = J12 41 (92 + 4 * j + 2) := fun j hj => link_tr (c3 2 (6, 12) j rfl (Nat.zero_le j) hj) d3 (by decide) (by decide) (fun z => absurd z.1 (by decide)) (by show 92 + 4 * j + 2 < 140; omega)
  have l21 : ∀ j, j < 12 → J12 21 j = J12 41 (92 + 4 * j + 3) := fun j hj => link_tr (c3 3 (21, 24) j rfl (Nat.zero_le j) hj) d3 (by decide) (by decide) (fun z => absurd z.1 (by decide)) (by show 92 + 4 * j + 3 < 140; omega)
  have l7 : ∀ j, j < 8 → J12 7 j = J12 41 (140 + 7 * j + 0) := fun j hj => link_tr (c4 0 (7, 8) j rfl (Nat.zero_le j) hj) d4 (by decide) (by decide) (fun z => absurd z.1 (by decide)) (by show 140 + 7 * j + 0 < 196; omega)
  have l19 : ∀ j, j < 8 → J12 19 j = J12 41 (140 + 7 * j + 1) := fun j hj => link_tr (c4 1 (19, 16) j rfl (Nat.zero_le j) hj) d4 (by decide) (by decide) (fun z => absurd z.1 (by decide)) (by show 140 + 7 * j + 1 < 196; omega)
  have l30 : ∀ j, j < 8 → J12 30 j = J12 41 (140 + 7 * j + 2) := fun j hj => link_tr (c4 2 (30, 8) j rfl (Nat.zero_le j) hj) d4 (by decide) (by decide) (fun z => absurd z.1 (by decide)) (by show 140 + 7 * j + 2 < 196; omega)
  have l31 : ∀ j, j < 8 → J12 31 j = J12 41 (140 + 7 * j + 3) := fun j hj => link_tr (c4 3 (31, 8) j rfl (Nat.zero_le j) hj) d4 (by decide) (by decide) (fun z => absurd z.1 (by decide)) (by show 140 + 7 * j + 3 < 196; omega)
  have l34 : ∀ j, j < 8 → J12 34 j = J12 41 (140 + 7 * j + 4) := fun j hj => link_tr (c4 4 (34, 8) j rfl (Nat.zero_le j) hj) d4 (by decide) (by decide) (fun z => absurd z.1 (by decide)) (by show 140 + 7 * j + 4 < 196; omega)
  have l37 : ∀ j, j < 8 → J12 37 j = J12 41 (140 + 7 * j + 5) := fun j hj => link_tr (c4 5 (37, 8) j rfl (Nat.zero_le j) hj) d4 (by decide) (by decide) (fun z => absurd z.1 (by decide)) (by show 140 + 7 * j + 5 < 196; omega)
  have l38 : ∀ j, j < 8 → J12 38 j = J12 41 (140 + 7 * j + 6) := fun j hj => link_tr (c4 6 (38, 8) j rfl (Nat.zero_le j) hj) d4 (by decide) (by decide) (fun z => absurd z.1 (by decide)) (by show 140 + 7 * j + 6 < 196; omega)
  have l27 : ∀ j, j < 24 → J12 27 j = J12 41 (196 + 1 * j + 0) := fun j hj => link_tr (c5 0 (27, 24) j rfl (Nat.zero_le j) hj) d5 (by decide) (by decide) (fun z => absurd z.1 (by decide)) (by show 196 + 1 * j + 0 < 220; omega)
  have l32 : ∀ j, j < 10 → J12 32 j = J12 41 (220 + 1 * j + 0) := fun j hj => link_tr (c6 0 (32, 10) j rfl (Nat.zero_le j) hj) d6 (by decide) (by decide) (fun z => absurd z.1 (by decide)) (by show 220 + 1 * j + 0 < 230; omega)
  have l35 : ∀ j, j < 9 → J12 35 j = J12 41 (230 + 4 * j + 0) := fun j hj => link_tr (c7 0 (35, 9) j rfl (Nat.zero_le j) hj) d7 (by decide) (by decide) (fun z => absurd z.1 (by decide)) (by show 230 + 4 * j + 0 < 266; omega)
  have l36 : ∀ j, j < 9 → J12 36 j = J12 41 (230 + 4 * j + 1) := fun j hj => link_tr (c7 1 (36, 9) j rfl (Nat.zero_le j) hj) d7 (by decide) (by decide) (fun z => absurd z.1 (by decide)) (by show 230 + 4 * j + 1 < 266; omega)
  have l39 : ∀ j, j < 9 → J12 39 j = J12 41 (230 + 4 * j + 2) := fun j hj => link_tr (c7 2 (39, 9) j rfl (Nat.zero_le j) hj) d7 (by decide) (by decide) (fun z => absurd z.1 (by decide)) (by show 230 + 4 * j + 2 < 266; omega)
  have l40 : ∀ j, j < 9 → J12 40 j = J12 41 (230 + 4 * j + 3) := fun j hj => link_tr (c7 3 (40, 9) j rfl (Nat.zero_le j) hj) d7 (by decide) (by decide) (fun z => absurd z.1 (by decide)) (by show 230 + 4 * j + 3 < 266; omega)
  have l20 : ∀ j, j < 64 → J12 20 j = J12 41 (266 + 1 * j + 0) := fun j hj => link_tr (c8 0 (20, 128) j rfl (Nat.zero_le j) hj) d8 (by decide) (by decide) (fun z => absurd z.1 (by decide)) (by show 266 + 1 * j + 0 < 330; omega)
  have l8 : ∀ j, j < 600 → J12 8 j = J12 41 (330 + 1 * j + 0) := fun j hj => link_tr (c9 0 (8, 600) j rfl (Nat.zero_le j) hj) d9 (by decide) (by decide) (fun z => absurd z.1 (by decide)) (by show 330 + 1 * j + 0 < 930; omega)
  have l11_0 : J12 11 0 = J12 41 (930 + 0) := link_tr (c10 0 (11, 0) rfl) d10 (by decide) (by decide) (fun z => absurd z (by decide)) (by decide)
  have l12 : ∀ j, j < 16 → J12 12 j = J12 41 (931 + 4 * j + 0) := fun j hj => link_tr (c11 0 (12, 48) j rfl (Nat.zero_le j) hj) d11 (by decide) (by decide) (fun z => absurd z.1 (by decide)) (by show 931 + 4 * j + 0 < 995; omega)
  have l13 : ∀ j, j < 16 → J12 13 j = J12 41 (931 + 4 * j + 1) := fun j hj => link_tr (c11 1 (13, 48) j rfl (Nat.zero_le j) hj) d11 (by decide) (by decide) (fun z => absurd z.1 (by decide)) (by show 931 + 4 * j + 1 < 995; omega)
  have l14 : ∀ j, j < 16 → J12 14 j = J12 41 (931 + 4 * j + 2) := fun j hj => link_tr (c11 2 (14, 48) j rfl (Nat.zero_le j) hj) d11 (by decide) (by decide) (fun z => absurd z.1 (by decide)) (by show 931 + 4 * j + 2 < 995; omega)
  have l15 : ∀ j, j < 16 → J12 15 j = J12 41 (931 + 4 * j + 3) := fun j hj => link_tr (c11 3 (15, 48) j rfl (Nat.zero_le j) hj) d11 (by decide) (by decide) (fun z => absurd z.1 (by decide)) (by show 931 + 4 * j + 3 < 995; omega)
  have l16 : ∀ j, j < 400 → J12 16 j = J12 41 (995 + 2 * j + 0) := fun j hj => c12 0 (16, 1200) j rfl (Nat.zero_le j) hj
  have l17 : ∀ j, j < 400 → J12 17 j = J12 41 (995 + 2 * j + 1) := fun j hj => c12 1 (17, 1200) j rfl (Nat.zero_le j) hj
  refine ⟨J12, ?_, ?_, d0.2.2.2.2.1, d0.2.2.2.2.2, ?_, ?_⟩
  · unfold F_Mo_keepsTold
    rw [show L_Mo_image_35 x9 5000 0 I = some J1 from (L_Mo_image_35_e x9 5000 _ I).trans a1, fbd_s, show F_Mo_keepsMany J1 = some J2 from a2 some, fbd_s, show L_Mo_keepsTold_2 5000 0 J2 = some J3 from (L_Mo_keepsTold_2_e 5000 _ J2).trans a3, fbd_s, show L_Mo_keepsTold_80 5000 0 J3 = some J4 from (L_Mo_keepsTold_80_e 5000 _ J3).trans a4, fbd_s, show L_Mo_keepsTold_206 5000 0 J4 = some J5 from (L_Mo_keepsTold_206_e 5000 _ J4).trans a5, fbd_s, show L_Mo_keepsTold_236 5000 0 J5 = some J6 from (L_Mo_keepsTold_236_e 5000 _ J5).trans a6, fbd_s, show L_Mo_keepsTold_266 5000 0 J6 = some J7 from (L_Mo_keepsTold_266_e 5000 _ J6).trans a7, fbd_s, show L_Mo_keepsTold_344 5000 0 J7 = some J8 from (L_Mo_keepsTold_344_e 5000 _ J7).trans a8, fbd_s, fbd_s, show L_Mo_image_73 x9 5000 0 J8 = some J9 from (L_Mo_image_73_e x9 5000 _ J8).trans a9, fbd_s, show F_Mo_keepsLaw J9 = fbd (L_Mo_keepsLaw_18 5000 0 J10) (fun I20 => fbd (L_Mo_keepsLaw_96 5000 0 I20) fun I29 => some I29) from a10 _, show L_Mo_keepsLaw_18 5000 0 J10 = some J11 from (L_Mo_keepsLaw_18_e 5000 _ J10).trans a11, fbd_s, show L_Mo_keepsLaw_96 5000 0 J11 = some J12 from (L_Mo_keepsLaw_96_e 5000 _ J11).trans a12, fbd_s, fbd_s]
  · refine ⟨fun j hj => ?_, fun j hj => ⟨?_, ?_, ?_, ?_⟩, fun j hj => ⟨?_, ?_, ?_, ?_, ?_, ?_, ?_⟩, fun j hj => ?_, fun j hj => ?_, fun j hj => ⟨?_, ?_, ?_, ?_⟩, fun j hj => ?_, fun j hj => ?_, ?_, fun j hj => ⟨?_, ?_, ?_, ?_⟩, fun j hj => ⟨?_, ?_⟩, ⟨?_, ?_, ?_, ?_, ?_, ?_, ?_, ?_, ?_, ?_, ?_, ?_⟩⟩
    · show J12 1 j = J12 41 (j)
      rw [l1 j hj]; exact congrArg (J12 41) (by omega)
    · show J12 4 j = J12 41 (92 + 4 * j)
      rw [l4 j hj]; exact congrArg (J12 41) (by omega)
    · show J12 5 j = J12 41 (93 + 4 * j)
      rw [l5 j hj]; exact congrArg (J12 41) (by omega)
    · show J12 6 j = J12 41 (94 + 4 * j)
      rw [l6 j hj]; exact congrArg (J12 41) (by omega)
    · show J12 21 j = J12 41 (95 + 4 * j)
      rw [l21 j hj]; exact congrArg (J12 41) (by omega)
    · show J12 7 j = J12 41 (140 + 7 * j)
      rw [l7 j hj]; exact congrArg (J12 41) (by omega)
    · show J12 19 j = J12 41 (141 + 7 * j)
      rw [l19 j hj]; exact congrArg (J12 41) (by omega)
    · show J12 30 j = J12 41 (142 + 7 * j)
      rw [l30 j hj]; exact congrArg (J12 41) (by omega)
    · show J12 31 j = J12 41 (143 + 7 * j)
      rw [l31 j hj]; exact congrArg (J12 41) (by omega)
    · show J12 34 j = J12 41 (144 + 7 * j)
      rw [l34 j hj]; exact congrArg (J12 41) (by omega)
    · show J12 37 j = J12 41 (145 + 7 * j)
      rw [l37 j hj]; exact congrArg (J12 41) (by omega)
    · show J12 38 j = J12 41 (146 + 7 * j)
      rw [l38 j hj]; exact congrArg (J12 41) (by omega)
    · show J12 27 j = J12 41 (196 + j)
      rw [l27 j hj]; exact congrArg (J12 41) (by omega)
    · show J12 32 j = J12 41 (220 + j)
      rw [l32 j hj]; exact congrArg (J12 41) (by omega)
    · show J12 35 j = J12 41 (230 + 4 * j)
      rw [l35 j hj]; exact congrArg (J12 41) (by omega)
    · show J12 36 j = J12 41 (231 + 4 * j)
      rw [l36 j hj]; exact congrArg (J12 41) (by omega)
    · show J12 39 j = J12 41 (232 + 4 * j)
      rw [l39 j hj]; exact congrArg (J12 41) (by omega)
    · show J12 40 j = J12 41 (233 + 4 * j)
      rw [l40 j hj]; exact congrArg (J12 41) (by omega)
    · show J12 20 j = J12 41 (266 + j)
      rw [l20 j hj]; exact congrArg (J12 41) (by omega)
    · show J12 8 j = J12 41 (330 + j)
      rw [l8 j hj]; exact congrArg (J12 41) (by omega)
    · exact l11_0
    · show J12 12 j = J12 41 (931 + 4 * j)
      rw [l12 j hj]; exact congrArg (J12 41) (by omega)
    · show J12 13 j = J12 41 (932 + 4 * j)
      rw [l13 j hj]; exact congrArg (J12 41) (by omega)
    · show J12 14 j = J12 41 (933 + 4 * j)
      rw [l14 j hj]; exact congrArg (J12 41) (by omega)
    · show J12 15 j = J12 41 (934 + 4 * j)
      rw [l15 j hj]; exact congrArg (J12 41) (by omega)
    · show J12 16 j = J12 41 (995 + 2 * j)
      rw [l16 j hj]; exact congrArg (J12 41) (by omega)
    · show J12 17 j = J12 41 (996 + 2 * j)
      rw [l17 j hj]; exact congrArg (J12 41) (by omega)
    · exact l0_6
    · exact l0_35
    · exact l0_37
    · exact l0_39
    · exact l26_0
    · exact l26_1
    · exact l0_50
    · exact l0_53
    · exact l0_56
    · exact l0_58
    · exact l0_61
    · exact l0_64
  · intro j z0 z6 z35 z37 z39 z50 z53 z56 z58 z61 z64
    rw [d2.2.2.1 0 j (by dsimp only; decide) (by decide) (fun z => z0 z.2), b2.2.2.1 0 j (by simp <;> omega) (by decide) (fun z => z0 z.2), b1.2.2.1 0 j (fun z => absurd z.1 (by decide)) (by decide) (fun z => z0 z.2)]
  · refine ⟨?_, ?_, ?_⟩
    · funext j
      exact d0.2.2.1 2 j (by dsimp only; decide) (by decide) (fun z => absurd z.1 (by decide))
    · funext j
      exact d0.2.2.1 9 j (by dsimp only; decide) (by decide) (fun z => absurd z.1 (by decide))
    · funext j
      exact d0.2.2.1 10 j (by dsimp only; decide) (by decide) (fun z => absurd z.1 (by decide))
theorem MEq.symm {A B : gb_Mem} (h : MEq A B) : MEq B A := by
  obtain ⟨m1, m2, m3, m4, m5, m6, m7, m8, m9, m10, m11, z6, z35, z37, z39, z26, z27, z50, z53, z56, z58, z61, z64⟩ := h
  exact ⟨fun j hj => (m1 j hj).symm, fun j hj => ⟨(m2 j hj).1.symm, (m2 j hj).2.1.symm, (m2 j hj).2.2.1.symm, (m2 j hj).2.2.2.symm⟩, fun j hj => ⟨(m3 j hj).1.symm, (m3 j hj).2.1.symm, (m3 j hj).2.2.1.symm, (m3 j hj).2.2.2.1.symm, (m3 j hj).2.2.2.2.1.symm, (m3 j hj).2.2.2.2.2.1.symm, (m3 j hj).2.2.2.2.2.2.symm⟩, fun j hj => (m4 j hj).symm, fun j hj => (m5 j hj).symm, fun j hj => ⟨(m6 j hj).1.symm, (m6 j hj).2.1.symm, (m6 j hj).2.2.1.symm, (m6 j hj).2.2.2.symm⟩, fun j hj => (m7 j hj).symm, fun j hj => (m8 j hj).symm, m9.symm, fun j hj => ⟨(m10 j hj).1.symm, (m10 j hj).2.1.symm, (m10 j hj).2.2.1.symm, (m10 j hj).2.2.2.symm⟩, fun j hj => ⟨(m11 j hj).1.symm, (m11 j hj).2.symm⟩, z6.symm, z35.symm, z37.symm, z39.symm, z26.symm, z27.symm, z50.symm, z53.symm, z56.symm, z58.symm, z61.symm, z64.symm⟩
theorem MEq.of {A B : gb_Mem} (h : ∀ c j, c ≠ 41 → ¬ (c = 0 ∧ j = 69) → B c j = A c j) : MEq A B := by
  have g : ∀ c j, c ≠ 41 → c ≠ 0 → B c j = A c j := fun c j h1 h2 => h c j h1 (fun z => h2 z.1)
  have g0 : ∀ j, j ≠ 69 → B 0 j = A 0 j := fun j hj => h 0 j (by decide) (fun z => hj z.2)
  refine ⟨fun j _ => ?_, fun j _ => ⟨?_, ?_, ?_, ?_⟩, fun j _ => ⟨?_, ?_, ?_, ?_, ?_, ?_, ?_⟩, fun j _ => ?_, fun j _ => ?_, fun j _ => ⟨?_, ?_, ?_, ?_⟩, fun j _ => ?_, fun j _ => ?_, ?_, fun j _ => ⟨?_, ?_, ?_, ?_⟩, fun j _ => ⟨?_, ?_⟩, ⟨?_, ?_, ?_, ?_, ?_, ?_, ?_, ?_, ?_, ?_, ?_, ?_⟩⟩ <;> first | exact g _ _ (by decide) (by decide) | exact g0 _ (by decide)
