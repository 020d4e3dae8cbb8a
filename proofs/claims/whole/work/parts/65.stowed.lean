/-! stowed. -/
def ck (s : Nat) : Nat → Nat → Bool
  | 0, _ => true
  | p + 1, nx => if p &&& s = p then ((((4294967296 - (s - p)) &&& s) == nx) && ck s p p) else ck s p nx
theorem ck_all : ∀ s, s < 512 → ck s s s = true := by decide +kernel
theorem ck_s {s : Nat} : ∀ n nx, ck s n nx = true → nx &&& s = nx → n ≤ nx → nx ≤ s → (∀ q, n ≤ q → q < nx → ¬ q &&& s = q) → ∀ p, p < n → p &&& s = p → p < ((4294967296 - (s - p)) &&& s) ∧ ((4294967296 - (s - p)) &&& s) ≤ s ∧ ((4294967296 - (s - p)) &&& s) &&& s = ((4294967296 - (s - p)) &&& s) ∧ ∀ q, p < q → q < ((4294967296 - (s - p)) &&& s) → ¬ q &&& s = q := by
  intro n
  induction n with
  | zero => intro nx _ _ _ _ _ p hp; exact absurd hp (Nat.not_lt_zero p)
  | succ n ih =>
    intro nx hc h1 h2 h3 h4 p hp hps
    simp only [ck] at hc
    by_cases c : n &&& s = n
    · rw [if_pos c, Bool.and_eq_true, beq_iff_eq] at hc
      by_cases e : p = n
      · subst e
        rw [hc.1]
        exact ⟨by omega, h3, h1, fun q q1 q2 => h4 q (by omega) q2⟩
      · exact ih n hc.2 c (Nat.le_refl _) (by omega) (fun q q1 q2 => by omega) p (by omega) hps
    · rw [if_neg c] at hc
      have e : p ≠ n := fun q => c (q ▸ hps)
      refine ih nx hc h1 (by omega) h3 (fun q q1 q2 => ?_) p (by omega) hps
      by_cases e2 : q = n
      · rw [e2]; exact c
      · exact h4 q (by omega) q2
theorem nI_and {a b : Nat} (ha : a < 2 ^ 32) (hb : b < 2 ^ 32) : nI a &&& nI b = nI (a &&& b) := by
  refine tb_ext (fun j hj => ?_)
  rw [tb_and, tb_nI j ha, tb_nI j hb, tb_nI j (Nat.lt_of_le_of_lt Nat.and_le_left ha), Nat.testBit_and]
theorem nxt_n {s p : Nat} (hp : p < s) (hs : s < 512) : (nI p - nI s) &&& nI s = nI ((4294967296 - (s - p)) &&& s) := by
  have e : nI p - nI s = nI (4294967296 - (s - p)) := by
    have h1 : nI (4294967296 - (s - p)) + nI s = nI p := by
      rw [nI_add, show 4294967296 - (s - p) + s = 4294967296 + p by omega, ← nI_add, show nI 4294967296 = 0 from rfl, Int32.zero_add]
    rw [← h1, Int32.add_sub_cancel]
  rw [e, nI_and (by omega) (by omega)]
/-- the sum over a set -/
def jS (f : Nat → Nat) (x : Nat → Bool) : Nat → Nat
  | 0 => 0
  | k + 1 => jS f x k + (if x k = true then f k else 0)
theorem jS_le {f : Nat → Nat} {x : Nat → Bool} {B : Nat} : ∀ k, (∀ i, i < k → f i ≤ B) → jS f x k ≤ B * k := by
  intro k
  induction k with
  | zero => intro _; exact Nat.zero_le _
  | succ k ih =>
    intro h
    have h1 := ih (fun i hi => h i (by omega))
    have h2 := h k (by omega)
    have e : B * (k + 1) = B * k + B := Nat.mul_succ _ _
    show jS f x k + (if x k = true then f k else 0) ≤ _
    split <;> omega
theorem jS_eqs {f : Nat → Nat} {x y : Nat → Bool} : ∀ k, (∀ i, i < k → x i = y i) → jS f x k = jS f y k := by
  intro k
  induction k with
  | zero => intro _; rfl
  | succ k ih =>
    intro h
    simp only [jS]
    rw [ih (fun i hi => h i (by omega)), h k (by omega)]
theorem jS_diff {f : Nat → Nat} {x y : Nat → Bool} : ∀ k, (∀ i, i < k → y i = true → x i = true) → jS f (fun i => x i && !y i) k + jS f y k = jS f x k := by
  intro k
  induction k with
  | zero => intro _; rfl
  | succ k ih =>
    intro h
    have h1 := ih (fun i hi => h i (by omega))
    have h2 := h k (by omega)
    simp only [jS]
    by_cases hx : x k = true
    · by_cases hy : y k = true
      · simp only [hx, hy, Bool.not_true, Bool.and_false, Bool.false_eq_true, ↓reduceIte]; omega
      · have hy2 : y k = false := Bool.eq_false_iff.mpr hy
        simp only [hx, hy2, Bool.not_false, Bool.and_true, Bool.false_eq_true, ↓reduceIte]; omega
    · have hy2 : y k = false := Bool.eq_false_iff.mpr (fun q => hx (h2 q))
      have hx2 : x k = false := Bool.eq_false_iff.mpr hx
      simp only [hx2, hy2, Bool.false_and, Bool.false_eq_true, ↓reduceIte]; omega
/-- one more in the set -/
theorem jS_add {f : Nat → Nat} {j t : Nat} (ht : t < 2 ^ j) : ∀ k, j < k → jS f (2 ^ j + t).testBit k = jS f t.testBit k + f j := by
  intro k
  induction k with
  | zero => intro h; omega
  | succ k ih =>
    intro hj
    simp only [jS]
    by_cases c : j = k
    · subst c
      have e1 : jS f (2 ^ j + t).testBit j = jS f t.testBit j := jS_eqs j (fun i hi => by
        apply Bool.eq_iff_iff.mpr
        rw [tb_2p ht]
        exact ⟨fun q => q.elim (fun z => by omega) id, Or.inr⟩)
      rw [e1, if_pos ((tb_2p ht).mpr (Or.inl rfl)), if_neg (by rw [Nat.testBit_lt_two_pow ht]; decide)]; omega
    · rw [ih (by omega)]
      have e2 : (2 ^ j + t).testBit k = t.testBit k := by
        apply Bool.eq_iff_iff.mpr
        rw [tb_2p ht]
        exact ⟨fun q => q.elim (fun z => absurd z.symm c) id, Or.inr⟩
      rw [e2]; omega
section JARS
variable {IX I1 : gb_Mem} {K : Nat} {w v : Nat → Nat}
theorem jo_1 (hK : K ≤ 9) (eM : I1 0 64 = nI K) (hw : ∀ i, i < K → I1 39 i = nI (w i)) {x : Int32} : ∀ m i f, i + m = K → m < f → L_Mo_jarsOf_5 x 1 I1 f (nI (jS w (tb x) i)) (nI i) = some (nI (jS w (tb x) K)) := by
  intro m
  induction m with
  | zero =>
    intro i f hi hf
    obtain ⟨f, rfl⟩ : ∃ g, f = g + 1 := ⟨f - 1, by omega⟩
    have : i = K := by omega
    subst this
    simp only [L_Mo_jarsOf_5, eM]
    rw [if_pos (nI_le (by omega) (by omega))]
  | succ m ih =>
    intro i f hi hf
    obtain ⟨f, rfl⟩ : ∃ g, f = g + 1 := ⟨f - 1, by omega⟩
    have h2 := ih (i + 1) f (by omega) (by omega)
    simp only [L_Mo_jarsOf_5, J_Mo_jarsOf_48, J_Mo_jarsOf_46, eM]
    rw [if_neg (nI_ge (by omega) (by omega)), has_n (by omega), nI_1]
    simp only [jS] at h2
    by_cases c : tb x i = true
    · rw [if_pos c, if_neg (by decide), if_neg (by decide), flod_n (by omega) (by decide), hw i (by omega), nI_add]
      rw [if_pos c] at h2; exact h2
    · rw [if_neg c, if_pos rfl]
      rw [if_neg c] at h2; exact h2
theorem jo_0 (hK : K ≤ 9) (eM : I1 0 64 = nI K) (hv : ∀ i, i < K → I1 40 i = nI (v i)) {x : Int32} : ∀ m i f, i + m = K → m < f → L_Mo_jarsOf_5 x 0 I1 f (nI (jS v (tb x) i)) (nI i) = some (nI (jS v (tb x) K)) := by
  intro m
  induction m with
  | zero =>
    intro i f hi hf
    obtain ⟨f, rfl⟩ : ∃ g, f = g + 1 := ⟨f - 1, by omega⟩
    have : i = K := by omega
    subst this
    simp only [L_Mo_jarsOf_5, eM]
    rw [if_pos (nI_le (by omega) (by omega))]
  | succ m ih =>
    intro i f hi hf
    obtain ⟨f, rfl⟩ : ∃ g, f = g + 1 := ⟨f - 1, by omega⟩
    have h2 := ih (i + 1) f (by omega) (by omega)
    simp only [L_Mo_jarsOf_5, J_Mo_jarsOf_48, J_Mo_jarsOf_46, eM, ↓reduceIte]
    rw [if_neg (nI_ge (by omega) (by omega)), has_n (by omega), nI_1]
    simp only [jS] at h2
    by_cases c : tb x i = true
    · rw [if_pos c, if_neg (by decide), flod_n (by omega) (by decide), hv i (by omega), nI_add]
      rw [if_pos c] at h2; exact h2
    · rw [if_neg c, if_pos rfl]
      rw [if_neg c] at h2; exact h2
/-- what goes into the first hold -/
def okP (w : Nat → Nat) (K c d s p : Nat) : Prop := p &&& s = p ∧ jS w p.testBit K ≤ c ∧ jS w s.testBit K ≤ d + jS w p.testBit K
def FHr (w : Nat → Nat) (K c d s : Nat) (r : Int32) : Prop := (∃ p, p ≤ s ∧ r = nI p ∧ okP w K c d s p ∧ ∀ q, q < p → ¬ okP w K c d s q) ∨ (r = -1 ∧ ∀ q, q ≤ s → ¬ okP w K c d s q)
theorem FHr.uniq {c d s : Nat} {r r2 : Int32} (h : FHr w K c d s r) (h2 : FHr w K c d s r2) : r = r2 := by
  rcases h with ⟨p, hp, rfl, o, m⟩ | ⟨rfl, m⟩
  · rcases h2 with ⟨p2, hp2, rfl, o2, m2⟩ | ⟨rfl, m2⟩
    · have : p = p2 := by
        refine Classical.byContradiction fun q => ?_
        by_cases z : p < p2
        · exact m2 p z o
        · exact m p2 (by omega) o2
      rw [this]
    · exact absurd o (m2 p hp)
  · rcases h2 with ⟨p2, hp2, rfl, o2, m2⟩ | ⟨rfl, m2⟩
    · exact absurd o2 (m p2 hp2)
    · rfl
theorem sub_z {p s : Nat} (hp : p < 512) (hs : s < 512) : (nI p &&& (nI s ^^^ (-1))) = 0 ↔ p &&& s = p := by
  constructor
  · intro h
    apply Nat.eq_of_testBit_eq
    intro i
    rw [Nat.testBit_and]
    by_cases hi : i < 32
    · have h2 : tb (nI p &&& (nI s ^^^ (-1))) i = false := by rw [h, tb_0]
      rw [tb_and, tb_not _ i hi, tb_nI i (by omega), tb_nI i (by omega)] at h2
      cases a : p.testBit i <;> cases b : s.testBit i <;> simp [a, b] at h2 ⊢
    · rw [Nat.testBit_lt_two_pow (show p < 2 ^ i from Nat.lt_of_lt_of_le (show p < 2 ^ 9 by omega) (Nat.pow_le_pow_right (by decide) (by omega))), Bool.false_and]
  · intro h
    refine tb_ext (fun i hi => ?_)
    rw [tb_0, tb_and, tb_not _ i hi, tb_nI i (by omega), tb_nI i (by omega)]
    have h2 : (p &&& s).testBit i = p.testBit i := by rw [h]
    rw [Nat.testBit_and] at h2
    cases a : p.testBit i <;> cases b : s.testBit i <;> simp [a, b] at h2 ⊢
theorem sub_bits {p s : Nat} (h : p &&& s = p) (i : Nat) (hi : p.testBit i = true) : s.testBit i = true := by
  have h2 : (p &&& s).testBit i = p.testBit i := by rw [h]
  rw [Nat.testBit_and, hi, Bool.true_and] at h2; exact h2
theorem fh_l (hK : K ≤ 9) (eM : I1 0 64 = nI K) (hw : ∀ i, i < K → I1 39 i = nI (w i)) (hwb : ∀ i, i < K → w i ≤ 99) {c d s : Nat} (hc : c ≤ 99) (hd : d ≤ 99) (hs : s < 512) : ∀ m p f, p + m = s + 1 → m < f → (∀ q, q < p → ¬ okP w K c d s q) → ∃ r, fbr (L_Mo_firstHold_3 (nI s) (nI c) (nI d) I1 f (nI p)) (fun _ => some (-1)) (fun q3 => some q3) = some r ∧ FHr w K c d s r := by
  intro m
  induction m with
  | zero =>
    intro p f hp hf hq
    obtain ⟨f, rfl⟩ : ∃ g, f = g + 1 := ⟨f - 1, by omega⟩
    refine ⟨-1, ?_, Or.inr ⟨rfl, fun q hq2 => hq q (by omega)⟩⟩
    simp only [L_Mo_firstHold_3]
    rw [if_pos (nI_lt (by omega) (by omega))]; rfl
  | succ m ih =>
    intro p f hp hf hq
    obtain ⟨f, rfl⟩ : ∃ g, f = g + 1 := ⟨f - 1, by omega⟩
    have wb : ∀ x : Nat → Bool, jS w x K ≤ 99 * K := fun x => jS_le K hwb
    have goOn : ¬ okP w K c d s p → ∃ r, fbr (L_Mo_firstHold_3 (nI s) (nI c) (nI d) I1 f (nI p + 1)) (fun _ => some (-1)) (fun q3 => some q3) = some r ∧ FHr w K c d s r := by
      intro hn
      rw [nI_1]
      refine ih (p + 1) f (by omega) (by omega) (fun q hq2 => ?_)
      by_cases e : q = p
      · rw [e]; exact hn
      · exact hq q (by omega)
    simp only [L_Mo_firstHold_3, J_Mo_firstHold_47]
    rw [if_neg (nI_nlt (by omega) (by omega))]
    by_cases c1 : p &&& s = p
    · have eb : ∀ i, i < K → tb (nI s &&& (nI p ^^^ (-1))) i = (fun i => s.testBit i && !p.testBit i) i := by
        intro i hi
        rw [tb_and, tb_not _ i (by omega), tb_nI i (by omega), tb_nI i (by omega)]
      have e1 : F_Mo_jarsOf (nI p) 1 I1 = some (nI (jS w p.testBit K)) := by
        unfold F_Mo_jarsOf
        rw [fbd_i]
        have := jo_1 (w := w) hK eM hw (x := nI p) K 0 5000 (by omega) (by omega)
        rw [jS_eqs K (y := p.testBit) (fun i hi => tb_nI i (by omega))] at this
        exact this
      have e2 : F_Mo_jarsOf (nI s &&& (nI p ^^^ (-1))) 1 I1 = some (nI (jS w (fun i => s.testBit i && !p.testBit i) K)) := by
        unfold F_Mo_jarsOf
        rw [fbd_i]
        have := jo_1 (w := w) hK eM hw (x := nI s &&& (nI p ^^^ (-1))) K 0 5000 (by omega) (by omega)
        rw [jS_eqs K eb] at this
        exact this
      have e3 : jS w (fun i => s.testBit i && !p.testBit i) K + jS w p.testBit K = jS w s.testBit K := jS_diff K (fun i _ hi => sub_bits c1 i hi)
      have b1 := wb p.testBit
      have b2 := wb (fun i => s.testBit i && !p.testBit i)
      rw [if_pos ((sub_z (by omega) hs).mpr c1), e1, fbd_s, e2, fbd_s]
      by_cases c2 : c < jS w p.testBit K
      · rw [if_pos (nI_lt c2 (by omega))]
        exact goOn (fun o => by have := o.2.1; omega)
      · rw [if_neg (nI_nlt (by omega) (by omega))]
        by_cases c3 : d < jS w (fun i => s.testBit i && !p.testBit i) K
        · rw [if_pos (nI_lt c3 (by omega))]
          exact goOn (fun o => by have := o.2.2; omega)
        · rw [if_neg (nI_nlt (by omega) (by omega))]
          exact ⟨nI p, rfl, Or.inl ⟨p, by omega, rfl, ⟨c1, by omega, by omega⟩, hq⟩⟩
    · rw [if_neg (fun q => c1 ((sub_z (by omega) hs).mp q))]
      exact goOn (fun o => c1 o.1)
theorem wi_sub {a b x y : Nat} {I : gb_Mem} (ha : a < 2 ^ 30) (hb : b < 2 ^ 30) (hx : x < 2 ^ 30) (hy : y < 2 ^ 30) : F_Gb_within (nI x) (nI a - nI b) (nI y) I = 0 ↔ ¬ (a ≤ x + b ∧ x ≤ y) := by
  rw [within_0]
  have h1 : nI a - nI b ≤ nI x ↔ a ≤ x + b := by
    rw [Int32.le_iff_toInt_le, pk_sub_toInt ha hb, nI_toInt (by omega)]
    omega
  have h2 : nI x ≤ nI y ↔ x ≤ y := nI_leI (by omega) (by omega)
  rw [h1, h2]
theorem pf_l (hK : K ≤ 9) (hwb : ∀ i, i < K → w i ≤ 99) {J : gb_Mem} {c d s : Nat} (hc : c ≤ 99) (hd : d ≤ 99) (hs : s < 512) (hJ : ∀ q, q ≤ s → J 108 q = nI (jS w q.testBit K)) : ∀ m p f i, s - p < m → m ≤ f → i ≤ p → p ≤ s → p &&& s = p → (∀ q, q < p → ¬ okP w K c d s q) → ∃ r, fbr (L_Re_partFor_35 (nI s) (nI c) (nI d) J f (nI p) (nI i)) (fun _ => some (-1)) (fun q5 => some q5) = some r ∧ FHr w K c d s r := by
  intro m
  induction m with
  | zero => intro p f i h; omega
  | succ m ih =>
    intro p f i hm hf hi hps hsub hq
    obtain ⟨f, rfl⟩ : ∃ g, f = g + 1 := ⟨f - 1, by omega⟩
    have b1 : jS w p.testBit K ≤ 99 * K := jS_le K hwb
    have b2 : jS w s.testBit K ≤ 99 * K := jS_le K hwb
    simp only [L_Re_partFor_35, flt_d]
    rw [if_neg (show ¬ 512 ≤ nI i from nI_ge (b := 512) (by omega) (by decide)), show F_Gb_within (nI p) 0 (512 - 1) J = 1 from within_n (lo := 0) (hi := 511) (by omega) (by omega) (by decide), if_neg (by decide), flod_n (by omega) (by decide), hJ p hps, flod_n hs (by decide), hJ s (Nat.le_refl _)]
    by_cases c1 : jS w s.testBit K ≤ jS w p.testBit K + d ∧ jS w p.testBit K ≤ c
    · rw [if_neg (fun z => (wi_sub (by omega) (by omega) (by omega) (by omega)).mp z c1)]
      exact ⟨nI p, rfl, Or.inl ⟨p, hps, rfl, ⟨hsub, c1.2, by omega⟩, hq⟩⟩
    · rw [if_pos ((wi_sub (by omega) (by omega) (by omega) (by omega)).mpr c1)]
      have hn : ¬ okP w K c d s p := fun o => c1 ⟨by have := o.2.2; omega, o.2.1⟩
      by_cases c2 : p = s
      · rw [if_pos (by rw [c2])]
        refine ⟨-1, rfl, Or.inr ⟨rfl, fun q hq2 => ?_⟩⟩
        by_cases e : q = p
        · rw [e]; exact hn
        · exact hq q (by omega)
      · rw [if_neg (fun z => c2 ((nI_eq (by omega) (by omega)).mp z)), nxt_n (by omega) hs, nI_1]
        obtain ⟨n1, n2, n3, n4⟩ := ck_s s s (ck_all s hs) (Nat.and_self s) (Nat.le_refl _) (Nat.le_refl _) (fun q q1 q2 => by omega) p (by omega) hsub
        refine ih _ f (i + 1) (by omega) (by omega) (by omega) n2 n3 (fun q hq2 o => ?_)
        by_cases e : q < p
        · exact hq q e o
        · by_cases e2 : q = p
          · rw [e2] at o; exact hn o
          · exact n4 q (by omega) hq2 o.1
theorem pf_n (hK : K ≤ 9) (hwb : ∀ i, i < K → w i ≤ 99) {J : gb_Mem} {c d s : Nat} (hc : c ≤ 99) (hd : d ≤ 99) (hs : s < 512) (hJ : ∀ q, q ≤ s → J 108 q = nI (jS w q.testBit K)) : ∃ r, F_Re_partFor (nI s) (nI c) (nI d) J = some r ∧ FHr w K c d s r := by
  have b2 : jS w s.testBit K ≤ 99 * K := jS_le K hwb
  unfold F_Re_partFor
  rw [show F_Gb_within (nI s) 0 (512 - 1) J = 1 from within_n (lo := 0) (hi := 511) (by omega) (by omega) (by decide), if_neg (by decide), flod_n hs (by decide), hJ s (Nat.le_refl _), nI_add]
  by_cases c1 : jS w s.testBit K ≤ c + d
  · rw [if_pos (nI_le c1 (by omega))]
    exact pf_l hK hwb hc hd hs hJ 512 0 5000 0 (by omega) (by omega) (by omega) (by omega) (Nat.zero_and s) (fun q hq => absurd hq (Nat.not_lt_zero q))
  · rw [if_neg (nI_ge (by omega) (by omega))]
    exact ⟨-1, rfl, Or.inr ⟨rfl, fun q _ o => by have h1 := o.2.1; have h2 := o.2.2; omega⟩⟩
theorem fh_n (hK : K ≤ 9) (eM : I1 0 64 = nI K) (hw : ∀ i, i < K → I1 39 i = nI (w i)) (hwb : ∀ i, i < K → w i ≤ 99) {c d s : Nat} (hc : c ≤ 99) (hd : d ≤ 99) (hs : s < 512) : ∃ r, F_Mo_firstHold (nI s) (nI c) (nI d) I1 = some r ∧ FHr w K c d s r := fh_l hK eM hw hwb hc hd hs (s + 1) 0 5000 (by omega) (by omega) (fun q hq => absurd hq (Nat.not_lt_zero q))
theorem jv_n (hK : K ≤ 9) (eM : I1 0 64 = nI K) (hv : ∀ i, i < K → I1 40 i = nI (v i)) {s : Nat} (hs : s < 512) : F_Mo_jarsOf (nI s) 0 I1 = some (nI (jS v s.testBit K)) := by
  unfold F_Mo_jarsOf
  rw [fbd_i]
  have := jo_0 (v := v) hK eM hv (x := nI s) K 0 5000 (by omega) (by omega)
  rw [jS_eqs K (y := s.testBit) (fun i hi => tb_nI i (by omega))] at this
  exact this
/-- what is known while sets come one by one: tables below s, all else as it was -/
def StR (w v : Nat → Nat) (K : Nat) (IX J : gb_Mem) (s : Nat) : Prop := (∀ c, c ≠ 108 → c ≠ 109 → J c = IX c) ∧ (∀ q, q < s → J 108 q = nI (jS w q.testBit K)) ∧ (∀ q, q < s → J 109 q = nI (jS v q.testBit K)) ∧ J 108 0 = 0 ∧ J 109 0 = 0
theorem st_in (hK : K ≤ 9) (eX : IX 33 2 = nI K) (eM : I1 0 64 = nI K) (hw : ∀ i, i < K → I1 39 i = nI (w i)) (hv : ∀ i, i < K → I1 40 i = nI (v i)) (hwX : ∀ i, i < K → IX 34 (4 * i) = nI (w i)) (hvX : ∀ i, i < K → IX 34 (4 * i + 1) = nI (v i)) (hwb : ∀ i, i < K → w i ≤ 99) (hvb : ∀ i, i < K → v i ≤ 99) {c d j : Nat} (x3 x4 : Int32) (hc : c ≤ 99) (hd : d ≤ 99) (hj : j < K) :
    ∀ m s f fM best (r : Int32) J, s + m = 2 * 2 ^ j → 2 ^ j ≤ s → m < f → StR w v K IX J s → best < s → FHr w K c d best r → ∃ best2 r2 J2, L_Re_stowing_37 33 36 (nI c) (nI d) x4 (nI (2 ^ j)) (nI j) f (nI (jS v best.testBit K)) r (nI s) J = some (nI (jS v best2.testBit K), r2, J2) ∧ L_Mo_stowed_45 (nI c) (nI d) x3 I1 (fM + m) (nI best) (nI s) = L_Mo_stowed_45 (nI c) (nI d) x3 I1 fM (nI best2) (nI (2 * 2 ^ j)) ∧ StR w v K IX J2 (2 * 2 ^ j) ∧ best2 < 2 * 2 ^ j ∧ FHr w K c d best2 r2 := by
  have hp9 : 2 * 2 ^ j ≤ 512 := by
    have h1 : 2 ^ (j + 1) ≤ 2 ^ 9 := Nat.pow_le_pow_right (by decide) (by omega)
    have h2 : 2 ^ (j + 1) = 2 ^ j * 2 := Nat.pow_succ ..
    omega
  have hpK : 2 * 2 ^ j ≤ 2 ^ K := by
    have h1 : 2 ^ (j + 1) ≤ 2 ^ K := Nat.pow_le_pow_right (by decide) (by omega)
    have h2 : 2 ^ (j + 1) = 2 ^ j * 2 := Nat.pow_succ ..
    omega
  have hKb : 2 ^ K ≤ 512 := show 2 ^ K ≤ 2 ^ 9 from Nat.pow_le_pow_right (by decide) hK
  have e1K : (1 : Int32) <<< (I1 0 64 &&& 31) = nI (2 ^ K) := by
    rw [eM]
    refine tb_extT (fun i _ => ?_)
    rw [tb_oneT (by omega), tb_nI i (by omega), Nat.testBit_two_pow]
    simp only [decide_eq_true_eq]
    exact eq_comm
  intro m
  induction m with
  | zero =>
    intro s f fM best r J hs hs1 hf hS hb hr
    obtain ⟨f, rfl⟩ : ∃ g, f = g + 1 := ⟨f - 1, by omega⟩
    have : s = 2 * 2 ^ j := by omega
    subst this
    refine ⟨best, r, J, ?_, rfl, hS, hb, hr⟩
    simp only [L_Re_stowing_37]
    rw [show (2 : Int32) * nI (2 ^ j) = nI (2 * 2 ^ j) from pk_mul 2 _, if_pos (nI_le (Nat.le_refl _) (by omega))]
  | succ m ih =>
    intro s f fM best r J hs hs1 hf hS hb hr
    obtain ⟨f, rfl⟩ : ∃ g, f = g + 1 := ⟨f - 1, by omega⟩
    obtain ⟨s1, s2, s3, s4, s5⟩ := hS
    obtain ⟨t, rfl⟩ : ∃ t, s = 2 ^ j + t := ⟨s - 2 ^ j, by omega⟩
    have ht : t < 2 ^ j := by omega
    have eW : jS w (2 ^ j + t).testBit K = jS w t.testBit K + w j := jS_add ht K hj
    have eV : jS v (2 ^ j + t).testBit K = jS v t.testBit K + v j := jS_add ht K hj
    have ex : nI (2 ^ j + t) - nI (2 ^ j) = nI t := by rw [pk_sub (by omega)]; congr 1; omega
    have hpos : 0 < 2 ^ j := Nat.two_pow_pos j
    -- the two tables anew
    obtain ⟨J1, hJ1⟩ : ∃ Z, Z = mw J 108 (2 ^ j + t) (nI (jS w (2 ^ j + t).testBit K)) := ⟨_, rfl⟩
    obtain ⟨J2, hJ2⟩ : ∃ Z, Z = mw J1 109 (2 ^ j + t) (nI (jS v (2 ^ j + t).testBit K)) := ⟨_, rfl⟩
    have a33 : J 33 2 = nI K := by rw [s1 33 (by decide) (by decide)]; exact eX
    have b33 : J1 33 2 = nI K := by rw [hJ1, mw_ne (by decide)]; exact a33
    have a34 : F_Ro_cell 33 36 (nI j) 0 J = some (nI (w j)) := by
      rw [cell_n0 a33 hj (by omega) (by decide), s1 34 (by decide) (by decide), hwX j hj]
    have b34 : F_Ro_cell 33 36 (nI j) 1 J1 = some (nI (v j)) := by
      rw [cell_n1 b33 hj (by omega) (by decide), hJ1, mw_ne (by decide), s1 34 (by decide) (by decide), hvX j hj]
    have hS2 : StR w v K IX J2 (2 ^ j + t + 1) := by
      refine ⟨fun c c1 c2 => ?_, fun q hq => ?_, fun q hq => ?_, ?_, ?_⟩
      · rw [hJ2, mw_ne c2, hJ1, mw_ne c1]; exact s1 c c1 c2
      · rw [hJ2, mw_ne (by decide), hJ1, mw_eq, upd_ap]
        by_cases e : q = 2 ^ j + t
        · rw [if_pos e, e]
        · rw [if_neg e]; exact s2 q (by omega)
      · rw [hJ2, mw_eq, upd_ap]
        by_cases e : q = 2 ^ j + t
        · rw [if_pos e, e]
        · rw [if_neg e, hJ1, mw_ne (by decide)]; exact s3 q (by omega)
      · rw [hJ2, mw_ne (by decide), hJ1, mw_eq, pk_un (by omega)]; exact s4
      · rw [hJ2, mw_eq, pk_un (by omega), hJ1, mw_ne (by decide)]; exact s5
    have e9 : J2 109 (2 ^ j + t) = nI (jS v (2 ^ j + t).testBit K) := by rw [hJ2, mw_eq, pk_us]
    have bV : ∀ x : Nat → Bool, jS v x K ≤ 99 * K := fun x => jS_le K hvb
    have hX : ∀ k : Int32 × Int32 × gb_Mem → Prop, True := fun _ => True.intro
    simp only [L_Re_stowing_37, J_Re_stowing_120, J_Re_stowing_141]
    rw [show (2 : Int32) * nI (2 ^ j) = nI (2 * 2 ^ j) from pk_mul 2 _, if_neg (nI_ge (by omega) (by omega)), ex, flod_n (by omega) (by decide), s2 t (by omega), a34, fbd_s, nI_add, ← eW, fsto_n (by omega) (by decide), ← hJ1, flod_n (by omega) (by decide), show J1 109 t = nI (jS v t.testBit K) by rw [hJ1, mw_ne (by decide)]; exact s3 t (by omega), b34, fbd_s, nI_add, ← eV, fsto_n (by omega) (by decide), ← hJ2, flod_n (by omega) (by decide), e9]
    rw [show fM + (m + 1) = fM + m + 1 from rfl]
    simp only [L_Mo_stowed_45, J_Mo_stowed_89]
    rw [e1K, if_neg (show ¬ nI (2 ^ K) ≤ nI (2 ^ j + t) from nI_ge (by omega) (by omega)), jv_n hK eM hv (by omega), fbd_s, jv_n hK eM hv (by omega), fbd_s, nI_1]
    have b1 := bV best.testBit
    have b2 := bV (2 ^ j + t).testBit
    by_cases c1 : jS v (2 ^ j + t).testBit K ≤ jS v best.testBit K
    · rw [if_pos (nI_le c1 (by omega)), if_pos (nI_le c1 (by omega)), if_pos True.intro]
      exact ih (2 ^ j + t + 1) f fM best r J2 (by omega) (by omega) (by omega) hS2 (by omega) hr
    · rw [if_neg (nI_ge (by omega) (by omega)), if_neg (nI_ge (by omega) (by omega))]
      obtain ⟨r1, p1, p2⟩ := pf_n (J := J2) (c := c) (d := d) (s := 2 ^ j + t) hK hwb hc hd (by omega) (fun q hq => hS2.2.1 q (by omega))
      obtain ⟨r3, q1, q2⟩ := fh_n (I1 := I1) (w := w) (c := c) (d := d) (s := 2 ^ j + t) hK eM hw hwb hc hd (by omega)
      have er : r1 = r3 := p2.uniq q2
      subst er
      rw [p1, q1, fbd_s, fbd_s]
      by_cases c2 : r1 = -1
      · rw [if_pos c2, if_pos c2]
        exact ih (2 ^ j + t + 1) f fM best r J2 (by omega) (by omega) (by omega) hS2 (by omega) hr
      · rw [if_neg c2, if_neg c2, flod_n (by omega) (by decide), e9]
        exact ih (2 ^ j + t + 1) f fM (2 ^ j + t) r1 J2 (by omega) (by omega) (by omega) hS2 (by omega) p2
theorem st_out (hK : K ≤ 9) (eX : IX 33 2 = nI K) (eM : I1 0 64 = nI K) (hw : ∀ i, i < K → I1 39 i = nI (w i)) (hv : ∀ i, i < K → I1 40 i = nI (v i)) (hwX : ∀ i, i < K → IX 34 (4 * i) = nI (w i)) (hvX : ∀ i, i < K → IX 34 (4 * i + 1) = nI (v i)) (hwb : ∀ i, i < K → w i ≤ 99) (hvb : ∀ i, i < K → v i ≤ 99) {c d : Nat} (x3 x4 : Int32) (hc : c ≤ 99) (hd : d ≤ 99) :
    ∀ m j f fM best (r : Int32) J, j + m = K → m < f → StR w v K IX J (2 ^ j) → best < 2 ^ j → FHr w K c d best r → ∃ best2 r2 J2, L_Re_stowing_12 33 36 (nI c) (nI d) x4 f (nI (jS v best.testBit K)) r (nI (2 ^ j)) (nI j) J = some (nI (jS v best2.testBit K), r2, J2) ∧ L_Mo_stowed_45 (nI c) (nI d) x3 I1 (fM + (2 ^ K - 2 ^ j)) (nI best) (nI (2 ^ j)) = L_Mo_stowed_45 (nI c) (nI d) x3 I1 fM (nI best2) (nI (2 ^ K)) ∧ StR w v K IX J2 (2 ^ K) ∧ best2 < 2 ^ K ∧ FHr w K c d best2 r2 := by
  intro m
  induction m with
  | zero =>
    intro j f fM best r J hj hf hS hb hr
    obtain ⟨f, rfl⟩ : ∃ g, f = g + 1 := ⟨f - 1, by omega⟩
    have : j = K := by omega
    subst this
    have a33 : J 33 2 = nI j := by rw [hS.1 33 (by decide) (by decide)]; exact eX
    refine ⟨best, r, J, ?_, by rw [Nat.sub_self]; rfl, hS, hb, hr⟩
    simp only [L_Re_stowing_12]
    rw [a33, if_pos (nI_le (Nat.le_refl _) (by omega))]
  | succ m ih =>
    intro j f fM best r J hj hf hS hb hr
    obtain ⟨f, rfl⟩ : ∃ g, f = g + 1 := ⟨f - 1, by omega⟩
    have a33 : J 33 2 = nI K := by rw [hS.1 33 (by decide) (by decide)]; exact eX
    have hp9 : 2 * 2 ^ j ≤ 512 := by
      have h1 : 2 ^ (j + 1) ≤ 2 ^ 9 := Nat.pow_le_pow_right (by decide) (by omega)
      have h2 : 2 ^ (j + 1) = 2 ^ j * 2 := Nat.pow_succ ..
      omega
    have hpK : 2 * 2 ^ j ≤ 2 ^ K := by
      have h1 : 2 ^ (j + 1) ≤ 2 ^ K := Nat.pow_le_pow_right (by decide) (by omega)
      have h2 : 2 ^ (j + 1) = 2 ^ j * 2 := Nat.pow_succ ..
      omega
    have e2 : 2 ^ (j + 1) = 2 * 2 ^ j := by rw [Nat.pow_succ]; omega
    have hpos : 0 < 2 ^ j := Nat.two_pow_pos j
    obtain ⟨b1, r1, J1, u1, u2, u3, u4, u5⟩ := st_in hK eX eM hw hv hwX hvX hwb hvb x3 x4 hc hd (show j < K by omega) (2 ^ j) (2 ^ j) 5000 (fM + (2 ^ K - 2 * 2 ^ j)) best r J (by omega) (Nat.le_refl _) (by omega) hS hb hr
    rw [← e2] at u3 u4
    obtain ⟨b2, r2, J2, v1, v2, v3, v4, v5⟩ := ih (j + 1) f fM b1 r1 J1 (by omega) (by omega) u3 u4 u5
    refine ⟨b2, r2, J2, ?_, ?_, v3, v4, v5⟩
    · simp only [L_Re_stowing_12]
      rw [a33, if_neg (nI_ge (by omega) (by omega)), show (2 : Int32) * nI (2 ^ j) = nI (2 * 2 ^ j) from pk_mul 2 _, if_neg (show ¬ 512 < nI (2 * 2 ^ j) from nI_nlt (a := 512) (by omega) (by decide)), u1]
      simp only [fbd_s]
      rw [nI_1, show nI (2 ^ j) * 2 = nI (2 ^ (j + 1)) by rw [e2, Nat.mul_comm]; exact pk_mul _ 2]
      exact v1
    · rw [show fM + (2 ^ K - 2 ^ j) = fM + (2 ^ K - 2 * 2 ^ j) + 2 ^ j by omega, u2, ← e2]
      exact v2
end JARS
theorem ginv_re {IX IM JX : gb_Mem} (h : GInv IX IM) (hX : ∀ c, c ≠ 108 → c ≠ 109 → JX c = IX c) (h1 : JX 108 0 = 0) (h2 : JX 109 0 = 0) : GInv JX IM := by
  have e1 : xP JX 72 24 = xP IX 72 24 := xP_congr (fun c h1 h2 => hX c (by omega) (by omega))
  have e2 : xP JX 35 34 = xP IX 35 34 := xP_congr (fun c h1 h2 => hX c (by omega) (by omega))
  unfold GInv GWorld GFix at *
  simp (disch := decide) only [hX, e1, e2, h1, h2]
  obtain ⟨⟨f1, f2, f3, f4, f5⟩, hO⟩ := h
  exact ⟨⟨f1, f2, f3, f4, ⟨True.intro, True.intro, f5.2.2⟩⟩, hO⟩
theorem sim_stowed : S_stowed GInv := by
  intro x1 x2 x3 IX IM h
  have h9 := ginv_told (v := 0) h
  generalize hI : mw IM 0 0 0 = I1 at h9
  simp only [F_Mo_stowed, fstf_d, hI, isIn_within _ _ _ I1 IX, F_Gb_stowed, J_Gb_stowed_54, fbd_p]
  by_cases c1 : F_Gb_within x1 0 99 IX = 0
  · exact ⟨-1, IX, I1, by rw [if_pos c1], by rw [if_pos c1], h9⟩
  rw [if_neg c1, if_neg c1]
  by_cases c2 : F_Gb_within x2 0 99 IX = 0
  · exact ⟨-1, IX, I1, by rw [if_pos c2], by rw [if_pos c2], h9⟩
  rw [if_neg c2, if_neg c2]
  by_cases c3 : F_Gb_within x3 0 1 IX = 0
  · exact ⟨-1, IX, I1, by rw [if_pos c3], by rw [if_pos c3], h9⟩
  rw [if_neg c3, if_neg c3]
  obtain ⟨c, rfl, hc⟩ := wi_num (m := 99) c1 (by decide)
  obtain ⟨d, rfl, hd⟩ := wi_num (m := 99) c2 (by decide)
  obtain ⟨y, rfl, hy⟩ := wi_num (m := 1) c3 (by decide)
  obtain ⟨e1, K, hK, e2, hr⟩ := h9.2.2.1.2.2.2.2.2.2.2.2.2.2.2.2.2.2
  obtain ⟨w, hw⟩ : ∃ w : Nat → Nat, w = fun i => (I1 39 i).toNatClampNeg := ⟨_, rfl⟩
  obtain ⟨v, hv⟩ : ∃ v : Nat → Nat, v = fun i => (I1 40 i).toNatClampNeg := ⟨_, rfl⟩
  have hw2 : ∀ i, i < K → I1 39 i = nI (w i) ∧ w i ≤ 99 := by
    intro i hi
    obtain ⟨n, en, hn, hn2⟩ := gIn_n (x := I1 39 i) (hi := 30) ⟨Int.le_trans (by decide) (hr i hi).2.2.1.1, (hr i hi).2.2.1.2⟩
    rw [hw]
    dsimp only
    rw [en, nI_clamp hn2]
    exact ⟨rfl, by omega⟩
  have hv2 : ∀ i, i < K → I1 40 i = nI (v i) ∧ v i ≤ 99 := by
    intro i hi
    obtain ⟨n, en, hn, hn2⟩ := gIn_n (hr i hi).2.2.2
    rw [hv]
    dsimp only
    rw [en, nI_clamp hn2]
    exact ⟨rfl, by omega⟩
  have hS0 : StR w v K IX IX (2 ^ 0) := by
    have z : ∀ f : Nat → Nat, ∀ k, jS f (0 : Nat).testBit k = 0 := by
      intro f k
      induction k with
      | zero => rfl
      | succ k ih =>
        simp only [jS, Nat.zero_testBit, ih]
        rfl
    refine ⟨fun _ _ _ => rfl, fun q hq => ?_, fun q hq => ?_, h9.1.2.2.2.2.1, h9.1.2.2.2.2.2.1⟩
    · have : q = 0 := by omega
      rw [this, z]; exact h9.1.2.2.2.2.1
    · have : q = 0 := by omega
      rw [this, z]; exact h9.1.2.2.2.2.2.1
  have hv0 : jS v (0 : Nat).testBit K = 0 := by
    have : ∀ k, jS v (0 : Nat).testBit k = 0 := by
      intro k
      induction k with
      | zero => rfl
      | succ k ih =>
        simp only [jS, Nat.zero_testBit, ih]
        rfl
    exact this K
  have hw0 : jS w (0 : Nat).testBit K = 0 := by
    have : ∀ k, jS w (0 : Nat).testBit k = 0 := by
      intro k
      induction k with
      | zero => rfl
      | succ k ih =>
        simp only [jS, Nat.zero_testBit, ih]
        rfl
    exact this K
  have hF0 : FHr w K c d 0 0 := Or.inl ⟨0, Nat.le_refl _, rfl, ⟨rfl, by omega, by omega⟩, fun q hq => absurd hq (Nat.not_lt_zero q)⟩
  have hKb : 2 ^ K ≤ 512 := show 2 ^ K ≤ 2 ^ 9 from Nat.pow_le_pow_right (by decide) hK
  have hpos : 0 < 2 ^ K := Nat.two_pow_pos K
  obtain ⟨b, r, J, u1, u2, u3, u4, u5⟩ := st_out (IX := IX) (I1 := I1) (w := w) (v := v) hK (e1.trans e2) e2 (fun i hi => (hw2 i hi).1) (fun i hi => (hv2 i hi).1) (fun i hi => by rw [(hr i hi).1]; exact (hw2 i hi).1) (fun i hi => by rw [(hr i hi).2.1]; exact (hv2 i hi).1) (fun i hi => (hw2 i hi).2) (fun i hi => (hv2 i hi).2) (nI y) (if y = 1 then 1 else 0) hc hd K 0 5000 (5000 - (2 ^ K - 2 ^ 0)) 0 0 IX (by omega) (by omega) hS0 (by decide) hF0
  rw [hv0] at u1
  have hG : GInv J I1 := ginv_re h9 u3.1 u3.2.2.2.1 u3.2.2.2.2
  have e1K : (1 : Int32) <<< (I1 0 64 &&& 31) = nI (2 ^ K) := by
    rw [e2]
    refine tb_extT (fun i _ => ?_)
    rw [tb_oneT (by omega), tb_nI i (by omega), Nat.testBit_two_pow]
    simp only [decide_eq_true_eq]
    exact eq_comm
  have hR : L_Mo_stowed_45 (nI c) (nI d) (nI y) I1 5000 0 1 = some (nI b) := by
    have z : L_Mo_stowed_45 (nI c) (nI d) (nI y) I1 5000 0 1 = L_Mo_stowed_45 (nI c) (nI d) (nI y) I1 (5000 - (2 ^ K - 2 ^ 0) + (2 ^ K - 2 ^ 0)) (nI 0) (nI (2 ^ 0)) := by
      rw [show 5000 - (2 ^ K - 2 ^ 0) + (2 ^ K - 2 ^ 0) = 5000 by omega]; rfl
    rw [z, u2]
    obtain ⟨f, hf⟩ : ∃ f, 5000 - (2 ^ K - 2 ^ 0) = f + 1 := ⟨5000 - (2 ^ K - 2 ^ 0) - 1, by omega⟩
    rw [hf]
    simp only [L_Mo_stowed_45]
    rw [e1K, if_pos (nI_le (Nat.le_refl _) (by omega))]
  have hX : ∀ x : Int32, x = (if y = 1 then 1 else 0) → F_Re_stowing 33 36 (nI c) (nI d) x IX = if x = 0 then some (nI (jS v b.testBit K), J) else some (r, J) := by
    intro x hx
    unfold F_Re_stowing J_Re_stowing_159
    rw [hx, show L_Re_stowing_12 33 36 (nI c) (nI d) (if y = 1 then 1 else 0) 5000 0 0 1 0 IX = some (nI (jS v b.testBit K), r, J) from u1]
    rfl
  rw [hR, fbd_s]
  have hc2 : y = 0 ∨ y = 1 := by omega
  rcases hc2 with rfl | rfl
  · refine ⟨nI (jS v b.testBit K), J, I1, ?_, ?_, hG⟩
    · rw [if_neg (by decide), hX 0 rfl, if_pos rfl]
    · rw [if_pos (show nI 0 = 0 from rfl), jv_n (v := v) hK e2 (fun i hi => (hv2 i hi).1) (by omega), fbd_s]
  · obtain ⟨r2, q1, q2⟩ := fh_n (I1 := I1) (w := w) (c := c) (d := d) (s := b) hK e2 (fun i hi => (hw2 i hi).1) (fun i hi => (hw2 i hi).2) hc hd (by omega)
    have : r = r2 := u5.uniq q2
    subst this
    refine ⟨r, J, I1, ?_, ?_, hG⟩
    · rw [if_pos (show nI 1 = 1 from rfl), hX 1 rfl, if_neg (by decide)]
    · rw [if_neg (by decide), q1, fbd_s]
