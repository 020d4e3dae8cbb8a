/-! hands. -/
def haR (n : Nat) (E S N : Int32) (g p t : Nat → Int32) (j : Nat) : Prop :=
  (tb S j = true ∧ ¬ tb N j = true ∧ ∃ d : Nat, d ≤ n ∧ p j = nI d ∧ (d = n ↔ tb E j = true) ∧ (tb E j = true → ∃ v : Nat, v ≤ 9 * n ∧ g j = nI v ∧ t j = nI v)) ∨
  (¬ tb S j = true ∧ ¬ tb E j = true ∧ ((tb N j = true ∧ p j = nI (n + 1) ∧ ∃ v : Nat, v ≤ 9 * (n + 1) ∧ g j = nI v ∧ t j = nI v) ∨ (¬ tb N j = true ∧ p j = 100000000 ∧ t j = 0)))
theorem shr0 {x : Int32} {k : Nat} (hk : k < 32) (h : ¬ tb x k = true) : ¬ ((x >>> (nI k &&& 31)) &&& 1) = 1 := fun q => h ((tb_shr hk).mp q)
theorem ne_zero {x1 x2 x4 : Int32} : ∀ m j f N (J : gb_Mem), j + m = 12 → m < f → L_Se_nextEdge_41 x1 x2 x4 0 f N (nI j) J = some (N, J) := by
  intro m
  induction m with
  | zero =>
    intro j f N J hj hf
    obtain ⟨f, rfl⟩ : ∃ g, f = g + 1 := ⟨f - 1, by omega⟩
    simp only [L_Se_nextEdge_41]
    rw [show (12 : Int32) = nI 12 from rfl, if_pos (nI_le (by omega) (by omega))]
  | succ m ih =>
    intro j f N J hj hf
    obtain ⟨f, rfl⟩ : ∃ g, f = g + 1 := ⟨f - 1, by omega⟩
    simp only [L_Se_nextEdge_41, J_Se_nextEdge_123]
    rw [if_neg (show ¬ 12 ≤ nI j from nI_ge (b := 12) (by omega) (by omega)), if_neg (shr0 (by omega) (by rw [tb_0]; decide)), nI_1]
    exact ih (j + 1) f N J (by omega) (by omega)
section HA
variable {IX I1 : gb_Mem} {rv : Nat → Int32} {sd : Nat → Nat}
theorem ha_1 (hMr : ∀ K : gb_Mem, K 0 = I1 0 → K 21 = I1 21 → ∀ s, s < 12 → F_Mo_reachOf (nI s) K = some (rv s)) (hsX : ∀ j, j < 12 → IX 3 j = nI (sd j)) (hsM : ∀ j, j < 12 → I1 4 j + 5 = nI (sd j)) (hsd : ∀ j, j < 12 → sd j ≤ 9)
    {n s : Nat} {E S x1 x2 : Int32} (hn : n < 12) (hs : s < 12) (hE : tb E s = true) : ∀ m j fX fM N (J K : gb_Mem), j + m = 12 → m < fX → m < fM → (∀ i, i < 12 → haR n E S N (J 105) (K 24) (K 25) i) → (∀ c, c ≠ 105 → J c = IX c) → (∀ c, c ≠ 24 → c ≠ 25 → K c = I1 c) →
    ∃ N2 J2 K2, L_Se_nextEdge_41 x1 x2 (nI s) (rv s &&& (S ^^^ (-1))) fX N (nI j) J = some (N2, J2) ∧ L_Mo_findsHands_71 (nI n) (nI s) fM (nI j) K = some K2 ∧ (∀ i, i < 12 → haR n E S N2 (J2 105) (K2 24) (K2 25) i) ∧ (∀ c, c ≠ 105 → J2 c = IX c) ∧ (∀ c, c ≠ 24 → c ≠ 25 → K2 c = I1 c) ∧
      (∀ i, tb N i = true → tb N2 i = true) ∧ (∀ i, j ≤ i → i < 12 → tb (rv s) i = true → tb S i = true ∨ tb N2 i = true) ∧ (∀ i, i < 12 → tb S i = true → K2 24 i = K 24 i ∧ K2 25 i = K 25 i) := by
  intro m
  induction m with
  | zero =>
    intro j fX fM N J K hj h1 h2 hr hJ hK
    obtain ⟨fX, rfl⟩ : ∃ g, fX = g + 1 := ⟨fX - 1, by omega⟩
    obtain ⟨fM, rfl⟩ : ∃ g, fM = g + 1 := ⟨fM - 1, by omega⟩
    refine ⟨N, J, K, ?_, ?_, hr, hJ, hK, fun _ q => q, fun i q1 q2 _ => by omega, fun _ _ _ => ⟨rfl, rfl⟩⟩
    · simp only [L_Se_nextEdge_41]
      rw [show (12 : Int32) = nI 12 from rfl, if_pos (nI_le (by omega) (by omega))]
    · simp only [L_Mo_findsHands_71]
      rw [show (12 : Int32) = nI 12 from rfl, if_pos (nI_le (by omega) (by omega))]
  | succ m ih =>
    intro j fX fM N J K hj h1 h2 hr hJ hK
    obtain ⟨fX, rfl⟩ : ∃ g, fX = g + 1 := ⟨fX - 1, by omega⟩
    obtain ⟨fM, rfl⟩ : ∃ g, fM = g + 1 := ⟨fM - 1, by omega⟩
    have g12 : ¬ 12 ≤ nI j := nI_ge (b := 12) (by omega) (by omega)
    have rM := hMr K (hK 0 (by decide) (by decide)) (hK 21 (by decide) (by decide)) s hs
    simp only [L_Se_nextEdge_41, L_Mo_findsHands_71, J_Se_nextEdge_115, J_Se_nextEdge_123, J_Mo_findsHands_147, flt_d]
    rw [if_neg g12, if_neg g12, rM, fbd_s, nI_1]
    have hF : tb (rv s &&& (S ^^^ (-1))) j = true ↔ (tb (rv s) j = true ∧ ¬ tb S j = true) := by
      rw [tb_andT, tb_not S j (by omega)]
      cases tb S j <;> simp
    by_cases cS : tb S j = true
    · -- seen already
      rw [if_neg (shr0 (by omega) (fun q => (hF.mp q).2 cS))]
      have skip : (if F_Mo_has (rv s) (nI j) K = 0 then L_Mo_findsHands_71 (nI n) (nI s) fM (nI (j + 1)) K else flod K 24 12 (nI j) fun v6 => if nI n < v6 then fsto K 24 12 (nI j) (nI n + 1) fun I7 => flod I7 25 12 (nI j) fun v8 => flod I7 25 12 (nI s) fun v9 => fbd (F_Mo_steady (nI j) I7) fun r10 => fsto I7 25 12 (nI j) (F_Mo_greater v8 (v9 + r10) I7) fun I11 => L_Mo_findsHands_71 (nI n) (nI s) fM (nI (j + 1)) I11 else L_Mo_findsHands_71 (nI n) (nI s) fM (nI (j + 1)) K) = L_Mo_findsHands_71 (nI n) (nI s) fM (nI (j + 1)) K := by
        by_cases ch : F_Mo_has (rv s) (nI j) K = 0
        · rw [if_pos ch]
        · rw [if_neg ch, flod_n (by omega) (by decide)]
          rcases hr j (by omega) with ⟨_, _, d, hd, ed, _⟩ | ⟨q, _⟩
          · rw [ed, if_neg (nI_nlt hd (by omega))]
          · exact absurd cS q
      rw [skip]
      obtain ⟨N2, J2, K2, f1, f2, f3, f4, f5, f6, f7, f8⟩ := ih (j + 1) fX fM N J K (by omega) (by omega) (by omega) hr hJ hK
      refine ⟨N2, J2, K2, f1, f2, f3, f4, f5, f6, fun i q1 q2 q3 => ?_, f8⟩
      by_cases q : i = j
      · subst q; exact Or.inl cS
      · exact f7 i (by omega) q2 q3
    · by_cases cR : tb (rv s) j = true
      · -- fresh
        obtain ⟨d, vs, hvs, gs, ts⟩ : ∃ d vs : Nat, vs ≤ 9 * n ∧ J 105 s = nI vs ∧ K 25 s = nI vs := by
          rcases hr s hs with ⟨_, _, d, _, _, _, q⟩ | ⟨_, q, _⟩
          · obtain ⟨v, q1, q2, q3⟩ := q hE
            exact ⟨d, v, q1, q2, q3⟩
          · exact absurd hE q
        have hq := hsd j (by omega)
        have hsj : s ≠ j := by
          rintro rfl
          rcases hr s hs with ⟨q, _⟩ | ⟨_, q, _⟩
          · exact cS q
          · exact q hE
        have eX : F_Ta_ofSeat 2 0 (nI j) J = some (nI (sd j)) := by
          rw [show F_Ta_ofSeat 2 0 (nI j) J = some (J (2 + 1) (12 * 0 + j)) from ofSeat_n (w := 0) (by decide) (by omega), hJ 3 (by decide), show 12 * 0 + j = j by omega, hsX j (by omega)]
        have eM : ∀ v, F_Mo_steady (nI j) (mw K 24 j v) = some (nI (sd j)) := by
          intro v
          unfold F_Mo_steady
          rw [flod_n (by omega) (by decide), mw_ne (by decide), hK 4 (by decide) (by decide), hsM j (by omega)]
        rw [if_pos ((tb_shr (by omega)).mpr (hF.mpr ⟨cR, cS⟩)), flod_n (by omega) (by decide), gs, eX, fbd_s, if_neg (fun q => (has_0 (by omega)).mp q cR), flod_n (by omega) (by decide)]
        have go : ∀ (w : Nat) (p25 : Int32), w ≤ 9 * (n + 1) → ∃ N2 J2 K2, L_Se_nextEdge_41 x1 x2 (nI s) (rv s &&& (S ^^^ (-1))) fX (N ||| (1 <<< (nI j &&& 31))) (nI (j + 1)) (mw J 105 j (nI w)) = some (N2, J2) ∧ L_Mo_findsHands_71 (nI n) (nI s) fM (nI (j + 1)) (mw (mw K 24 j (nI (n + 1))) 25 j (nI w)) = some K2 ∧ (∀ i, i < 12 → haR n E S N2 (J2 105) (K2 24) (K2 25) i) ∧ (∀ c, c ≠ 105 → J2 c = IX c) ∧ (∀ c, c ≠ 24 → c ≠ 25 → K2 c = I1 c) ∧
            (∀ i, tb N i = true → tb N2 i = true) ∧ (∀ i, j ≤ i → i < 12 → tb (rv s) i = true → tb S i = true ∨ tb N2 i = true) ∧ (∀ i, i < 12 → tb S i = true → K2 24 i = K 24 i ∧ K2 25 i = K 25 i) := by
          intro w _ hw
          have hN : ∀ i, tb (N ||| (1 <<< (nI j &&& 31))) i = true ↔ tb N i = true ∨ i = j := fun i => by rw [tb_orT, tb_oneT (by omega)]
          obtain ⟨N2, J2, K2, f1, f2, f3, f4, f5, f6, f7, f8⟩ := ih (j + 1) fX fM (N ||| (1 <<< (nI j &&& 31))) (mw J 105 j (nI w)) (mw (mw K 24 j (nI (n + 1))) 25 j (nI w)) (by omega) (by omega) (by omega) (by
            intro i hi
            rw [mw_eq, mw_eq, mw_ne (show 25 ≠ 24 by decide), mw_ne (show 24 ≠ 25 by decide), mw_eq]
            by_cases q : i = j
            · subst q
              refine Or.inr ⟨cS, ?_, Or.inl ⟨(hN i).mpr (Or.inr rfl), pk_us, w, hw, pk_us, pk_us⟩⟩
              rcases hr i hi with ⟨z, _⟩ | ⟨_, z, _⟩
              · exact absurd z cS
              · exact z
            · have hN2 : tb (N ||| (1 <<< (nI j &&& 31))) i = true ↔ tb N i = true := by rw [hN i]; exact ⟨fun z => z.elim id (fun z => absurd z q), Or.inl⟩
              unfold haR
              rw [pk_un q, pk_un q, pk_un q, hN2]
              exact hr i hi) (fun c hc => by rw [mw_ne hc, hJ c hc]) (fun c hc hd => by rw [mw_ne hd, mw_ne hc, hK c hc hd])
          refine ⟨N2, J2, K2, f1, f2, f3, f4, f5, fun i q => f6 i ((hN i).mpr (Or.inl q)), fun i q1 q2 q3 => ?_, fun i hi q => ?_⟩
          · by_cases q : i = j
            · exact Or.inr (f6 i ((hN i).mpr (Or.inr q)))
            · exact f7 i (by omega) q2 q3
          · have hij : i ≠ j := fun z => cS (z ▸ q)
            obtain ⟨z1, z2⟩ := f8 i hi q
            rw [z1, z2, mw_eq, mw_ne (show 25 ≠ 24 by decide), mw_ne (show 24 ≠ 25 by decide), mw_eq, pk_un hij, pk_un hij]
            exact ⟨rfl, rfl⟩
        have eN : nI n + 1 = nI (n + 1) := nI_1 n
        rw [eN]
        rcases hr j (by omega) with ⟨z, _⟩ | ⟨_, _, ⟨cN, ep, vj, hvj, ej, tj⟩ | ⟨cN, ep, tj⟩⟩
        · exact absurd z cS
        · rw [if_pos ((tb_shr (by omega)).mpr cN), flod_n (by omega) (by decide), ej, nI_add, mx_n (by omega) (by omega), fsto_n (by omega) (by decide), ep, if_pos (nI_lt (by omega) (by omega)), fsto_n (by omega) (by decide), flod_n (by omega) (by decide), flod_n (by omega) (by decide), eM, fbd_s, mw_ne (show 25 ≠ 24 by decide), tj, ts, nI_add, greater_n (by omega) (by omega), fsto_n (by omega) (by decide)]
          exact go (max vj (vs + sd j)) 0 (by omega)
        · rw [if_neg (shr0 (by omega) cN), nI_add, fsto_n (by omega) (by decide), flod_n (by omega) (by decide), ep, if_pos (show nI n < 100000000 from nI_lt (b := 100000000) (by omega) (by decide)), fsto_n (by omega) (by decide), flod_n (by omega) (by decide), flod_n (by omega) (by decide), eM, fbd_s, mw_ne (show 25 ≠ 24 by decide), tj, ts, nI_add, show F_Mo_greater 0 (nI (vs + sd j)) (mw K 24 j (nI (n + 1))) = nI (vs + sd j) from (greater_n (a := 0) (by omega) (by omega)).trans (congrArg nI (by omega)), fsto_n (by omega) (by decide)]
          exact go (vs + sd j) 0 (by omega)
      · -- not reached
        rw [if_neg (shr0 (by omega) (fun q => cR (hF.mp q).1)), if_pos ((has_0 (by omega)).mpr cR)]
        obtain ⟨N2, J2, K2, f1, f2, f3, f4, f5, f6, f7, f8⟩ := ih (j + 1) fX fM N J K (by omega) (by omega) (by omega) hr hJ hK
        refine ⟨N2, J2, K2, f1, f2, f3, f4, f5, f6, fun i q1 q2 q3 => ?_, f8⟩
        by_cases q : i = j
        · subst q; exact absurd q3 cR
        · exact f7 i (by omega) q2 q3
theorem ha_2 (hXr : ∀ J : gb_Mem, J 15 = IX 15 → J 16 = IX 16 → ∀ s, s < 12 → F_Se_reachedFrom (nI s) J = some (rv s)) (hMr : ∀ K : gb_Mem, K 0 = I1 0 → K 21 = I1 21 → ∀ s, s < 12 → F_Mo_reachOf (nI s) K = some (rv s)) (hsX : ∀ j, j < 12 → IX 3 j = nI (sd j)) (hsM : ∀ j, j < 12 → I1 4 j + 5 = nI (sd j)) (hsd : ∀ j, j < 12 → sd j ≤ 9)
    {n : Nat} {E S : Int32} (hn : n < 12) : ∀ m s fX fM N (J K : gb_Mem), s + m = 12 → m < fX → m < fM → (∀ i, i < 12 → haR n E S N (J 105) (K 24) (K 25) i) → (∀ c, c ≠ 105 → J c = IX c) → (∀ c, c ≠ 24 → c ≠ 25 → K c = I1 c) →
    ∃ N2 J2 K2, L_Se_nextEdge_5 E S fX N (nI s) J = some (N2, J2) ∧ L_Mo_findsHands_49 (nI n) fM (nI s) K = some K2 ∧ (∀ i, i < 12 → haR n E S N2 (J2 105) (K2 24) (K2 25) i) ∧ (∀ c, c ≠ 105 → J2 c = IX c) ∧ (∀ c, c ≠ 24 → c ≠ 25 → K2 c = I1 c) ∧
      (∀ i, tb N i = true → tb N2 i = true) ∧ (∀ z, s ≤ z → z < 12 → tb E z = true → ∀ i, i < 12 → tb (rv z) i = true → tb S i = true ∨ tb N2 i = true) ∧ (∀ i, i < 12 → tb S i = true → K2 24 i = K 24 i ∧ K2 25 i = K 25 i) := by
  intro m
  induction m with
  | zero =>
    intro s fX fM N J K hj h1 h2 hr hJ hK
    obtain ⟨fX, rfl⟩ : ∃ g, fX = g + 1 := ⟨fX - 1, by omega⟩
    obtain ⟨fM, rfl⟩ : ∃ g, fM = g + 1 := ⟨fM - 1, by omega⟩
    refine ⟨N, J, K, ?_, ?_, hr, hJ, hK, fun _ q => q, fun i q1 q2 => by omega, fun _ _ _ => ⟨rfl, rfl⟩⟩
    · simp only [L_Se_nextEdge_5]
      rw [show (12 : Int32) = nI 12 from rfl, if_pos (nI_le (by omega) (by omega))]
    · simp only [L_Mo_findsHands_49]
      rw [show (12 : Int32) = nI 12 from rfl, if_pos (nI_le (by omega) (by omega))]
  | succ m ih =>
    intro s fX fM N J K hj h1 h2 hr hJ hK
    obtain ⟨fX, rfl⟩ : ∃ g, fX = g + 1 := ⟨fX - 1, by omega⟩
    obtain ⟨fM, rfl⟩ : ∃ g, fM = g + 1 := ⟨fM - 1, by omega⟩
    have g12 : ¬ 12 ≤ nI s := nI_ge (b := 12) (by omega) (by omega)
    simp only [L_Se_nextEdge_5, L_Mo_findsHands_49, J_Se_nextEdge_36, J_Mo_findsHands_153]
    rw [if_neg g12, if_neg g12, nI_1, flod_n (by omega) (by decide)]
    by_cases cE : tb E s = true
    · have ep : K 24 s = nI n := by
        rcases hr s (by omega) with ⟨_, _, d, _, e, q, _⟩ | ⟨_, q, _⟩
        · rw [e, q.mpr cE]
        · exact absurd cE q
      rw [if_pos ((tb_shr (by omega)).mpr cE), hXr J (hJ 15 (by decide)) (hJ 16 (by decide)) s (by omega), fbd_s, ep, if_pos rfl]
      obtain ⟨N2, J2, K2, f1, f2, f3, f4, f5, f6, f7, f8⟩ := ha_1 hMr hsX hsM hsd (x1 := E) (x2 := S) hn (show s < 12 by omega) cE 12 0 5000 5000 N J K (by omega) (by omega) (by omega) hr hJ hK
      rw [show L_Se_nextEdge_41 E S (nI s) (rv s &&& (S ^^^ (-1))) 5000 N 0 J = _ from f1, show L_Mo_findsHands_71 (nI n) (nI s) 5000 0 K = _ from f2, fbd_s, fbd_s]
      obtain ⟨N3, J3, K3, e1, e2, e3, e4, e5, e6, e7, e8⟩ := ih (s + 1) fX fM N2 J2 K2 (by omega) (by omega) (by omega) f3 f4 f5
      refine ⟨N3, J3, K3, e1, e2, e3, e4, e5, fun i q => e6 i (f6 i q), fun z q1 q2 q3 i hi q4 => ?_, fun i hi q => ?_⟩
      · by_cases q : z = s
        · subst q
          exact (f7 i (Nat.zero_le _) hi q4).elim Or.inl (fun q => Or.inr (e6 i q))
        · exact e7 z (by omega) q2 q3 i hi q4
      · obtain ⟨z1, z2⟩ := e8 i hi q
        obtain ⟨z3, z4⟩ := f8 i hi q
        exact ⟨z1.trans z3, z2.trans z4⟩
    · have ep : ¬ K 24 s = nI n := by
        intro q9
        rcases hr s (by omega) with ⟨_, _, d, hd, e, q, _⟩ | ⟨_, _, ⟨_, e, _⟩ | ⟨_, e, _⟩⟩
        · rw [e] at q9
          exact cE (q.mp ((nI_eq (by omega) (by omega)).mp q9))
        · rw [e] at q9
          have := (nI_eq (by omega) (by omega)).mp q9
          omega
        · rw [e] at q9
          have := (nI_eq (a := 100000000) (by decide) (by omega)).mp q9
          omega
      rw [if_neg (shr0 (by omega) cE), show L_Se_nextEdge_41 E S (nI s) 0 5000 N 0 J = some (N, J) from ne_zero 12 0 5000 N J (by omega) (by omega), fbd_s, if_neg ep]
      obtain ⟨N3, J3, K3, e1, e2, e3, e4, e5, e6, e7, e8⟩ := ih (s + 1) fX fM N J K (by omega) (by omega) (by omega) hr hJ hK
      refine ⟨N3, J3, K3, e1, e2, e3, e4, e5, e6, fun z q1 q2 q3 i hi q4 => ?_, e8⟩
      by_cases q : z = s
      · subst q; exact absurd q3 cE
      · exact e7 z (by omega) q2 q3 i hi q4
/-- one more level -/
theorem ha_3 (hXr : ∀ J : gb_Mem, J 15 = IX 15 → J 16 = IX 16 → ∀ s, s < 12 → F_Se_reachedFrom (nI s) J = some (rv s)) (hMr : ∀ K : gb_Mem, K 0 = I1 0 → K 21 = I1 21 → ∀ s, s < 12 → F_Mo_reachOf (nI s) K = some (rv s)) (hsX : ∀ j, j < 12 → IX 3 j = nI (sd j)) (hsM : ∀ j, j < 12 → I1 4 j + 5 = nI (sd j)) (hsd : ∀ j, j < 12 → sd j ≤ 9)
    {n : Nat} {E S : Int32} (hn : n < 12) (J K : gb_Mem) (hr : ∀ i, i < 12 → haR n E S 0 (J 105) (K 24) (K 25) i) (hJ : ∀ c, c ≠ 105 → J c = IX c) (hK : ∀ c, c ≠ 24 → c ≠ 25 → K c = I1 c) :
    ∃ N J2 K2, F_Se_nextEdge E S J = some (N, J2) ∧ L_Mo_findsHands_49 (nI n) 5000 0 K = some K2 ∧ (∀ i, i < 12 → haR (n + 1) N (S ||| N) 0 (J2 105) (K2 24) (K2 25) i) ∧ (∀ c, c ≠ 105 → J2 c = IX c) ∧ (∀ c, c ≠ 24 → c ≠ 25 → K2 c = I1 c) ∧
      (∀ z, z < 12 → tb E z = true → ∀ i, i < 12 → tb (rv z) i = true → tb S i = true ∨ tb N i = true) ∧ (∀ i, i < 12 → tb S i = true → K2 24 i = K 24 i ∧ K2 25 i = K 25 i) := by
  obtain ⟨N, J2, K2, f1, f2, f3, f4, f5, f6, f7, f8⟩ := ha_2 hXr hMr hsX hsM hsd (E := E) (S := S) hn 12 0 5000 5000 0 J K (by omega) (by omega) (by omega) hr hJ hK
  refine ⟨N, J2, K2, ?_, f2, fun i hi => ?_, f4, f5, fun z => f7 z (Nat.zero_le _), f8⟩
  · unfold F_Se_nextEdge
    rw [show L_Se_nextEdge_5 E S 5000 0 0 J = _ from f1]; rfl
  · have z0 : ¬ tb 0 i = true := by rw [tb_0]; decide
    rcases f3 i hi with ⟨q1, q2, d, q3, q4, q5, q6⟩ | ⟨q1, q2, ⟨q3, q4, v, q5, q6, q7⟩ | ⟨q3, q4, q5⟩⟩
    · exact Or.inl ⟨tb_orT.mpr (Or.inl q1), z0, d, by omega, q4, ⟨fun z => by omega, fun z => absurd z q2⟩, fun z => absurd z q2⟩
    · exact Or.inl ⟨tb_orT.mpr (Or.inr q3), z0, n + 1, by omega, q4, ⟨fun _ => q3, fun _ => rfl⟩, fun _ => ⟨v, q5, q6, q7⟩⟩
    · exact Or.inr ⟨fun z => (tb_orT.mp z).elim q1 q3, q3, Or.inr ⟨z0, q4, q5⟩⟩
theorem ha_4 (hXr : ∀ J : gb_Mem, J 15 = IX 15 → J 16 = IX 16 → ∀ s, s < 12 → F_Se_reachedFrom (nI s) J = some (rv s)) (hMr : ∀ K : gb_Mem, K 0 = I1 0 → K 21 = I1 21 → ∀ s, s < 12 → F_Mo_reachOf (nI s) K = some (rv s)) (hsX : ∀ j, j < 12 → IX 3 j = nI (sd j)) (hsM : ∀ j, j < 12 → I1 4 j + 5 = nI (sd j)) (hsd : ∀ j, j < 12 → sd j ≤ 9) :
    ∀ m n fM (E S : Int32) (J K : gb_Mem), n + m = 12 → m < fM → (∀ i, i < 12 → haR n E S 0 (J 105) (K 24) (K 25) i) → (∀ c, c ≠ 105 → J c = IX c) → (∀ c, c ≠ 24 → c ≠ 25 → K c = I1 c) →
    ∃ K2, L_Mo_findsHands_41 fM (nI n) K = some K2 ∧ (∀ c, c ≠ 24 → c ≠ 25 → K2 c = I1 c) ∧ (∀ i, i < 12 → tb S i = true → K2 24 i = K 24 i ∧ K2 25 i = K 25 i) := by
  intro m
  induction m with
  | zero =>
    intro n fM E S J K hn hf hr hJ hK
    obtain ⟨fM, rfl⟩ : ∃ g, fM = g + 1 := ⟨fM - 1, by omega⟩
    refine ⟨K, ?_, hK, fun _ _ _ => ⟨rfl, rfl⟩⟩
    simp only [L_Mo_findsHands_41]
    rw [show (12 : Int32) = nI 12 from rfl, if_pos (nI_le (by omega) (by omega))]
  | succ m ih =>
    intro n fM E S J K hn hf hr hJ hK
    obtain ⟨fM, rfl⟩ : ∃ g, fM = g + 1 := ⟨fM - 1, by omega⟩
    obtain ⟨N, J2, K2, f1, f2, f3, f4, f5, f6, f7⟩ := ha_3 hXr hMr hsX hsM hsd (show n < 12 by omega) J K hr hJ hK
    obtain ⟨K3, e1, e2, e3⟩ := ih (n + 1) fM N (S ||| N) J2 K2 (by omega) (by omega) f3 f4 f5
    refine ⟨K3, ?_, e2, fun i hi q => ?_⟩
    · simp only [L_Mo_findsHands_41]
      rw [if_neg (show ¬ 12 ≤ nI n from nI_ge (b := 12) (by omega) (by omega)), f2, fbd_s, nI_1]; exact e1
    · obtain ⟨z1, z2⟩ := e3 i hi (tb_orT.mpr (Or.inl q))
      obtain ⟨z3, z4⟩ := f7 i hi q
      exact ⟨z1.trans z3, z2.trans z4⟩
theorem ha_5 (hXr : ∀ J : gb_Mem, J 15 = IX 15 → J 16 = IX 16 → ∀ s, s < 12 → F_Se_reachedFrom (nI s) J = some (rv s)) (hMr : ∀ K : gb_Mem, K 0 = I1 0 → K 21 = I1 21 → ∀ s, s < 12 → F_Mo_reachOf (nI s) K = some (rv s)) (hsX : ∀ j, j < 12 → IX 3 j = nI (sd j)) (hsM : ∀ j, j < 12 → I1 4 j + 5 = nI (sd j)) (hsd : ∀ j, j < 12 → sd j ≤ 9)
    (hside : ∀ s, s < 11 → tb (rv s) (s + 1) = true ∧ tb (rv (s + 1)) s = true) {a b : Nat} (ha : a < 12) (hb : b < 12) (x3 : Int32) :
    ∀ m n fX fM (E S : Int32) (J K : gb_Mem), n + m = 12 → m < fX → m < fM → (n ≤ a - b + (b - a)) → (∀ i, i < 12 → haR n E S 0 (J 105) (K 24) (K 25) i) → (∀ c, c ≠ 105 → J c = IX c) → (∀ c, c ≠ 24 → c ≠ 25 → K c = I1 c) →
    (∀ i, i < 12 → tb S i = true → ¬ tb E i = true → ∀ j, j < 12 → tb (rv i) j = true → tb S j = true) → (∀ j, j < 12 → j ≤ a + n → a ≤ j + n → tb S j = true) → (tb S b = true → tb E b = true) →
    ∃ r J2 K2, L_Se_shortest_41 (nI b) x3 fX E S (nI n) J = some (.inr (r, J2)) ∧ L_Mo_findsHands_41 fM (nI n) K = some K2 ∧ (∀ c, c ≠ 105 → J2 c = IX c) ∧ (∀ c, c ≠ 24 → c ≠ 25 → K2 c = I1 c) ∧ (r = if x3 = 0 then K2 24 b else K2 25 b) := by
  intro m
  induction m with
  | zero => intro n fX fM E S J K hn h1 h2 hd; omega
  | succ m ih =>
    intro n fX fM E S J K hn h1 h2 hd hr hJ hK hcl hco hnf
    by_cases cE : tb E b = true
    · obtain ⟨K2, e1, e2, e3⟩ := ha_4 hXr hMr hsX hsM hsd (m + 1) n fM E S J K hn h2 hr hJ hK
      rcases hr b hb with ⟨q1, _, d, hd9, q3, q4, q5⟩ | ⟨_, q, _⟩
      · obtain ⟨v, hv, g1, g2⟩ := q5 cE
        obtain ⟨z1, z2⟩ := e3 b hb q1
        obtain ⟨fX, rfl⟩ : ∃ g, fX = g + 1 := ⟨fX - 1, by omega⟩
        refine ⟨if x3 = 0 then nI n else nI v, J, K2, ?_, e1, hJ, e2, ?_⟩
        · simp only [L_Se_shortest_41]
          rw [if_neg (show ¬ 12 ≤ nI n from nI_ge (b := 12) (by omega) (by omega)), if_pos ((tb_shr (by omega)).mpr cE), flod_n hb (by decide), g1]
          by_cases c : x3 = 0
          · rw [if_pos c, if_pos c]
          · rw [if_neg c, if_neg c]
        · rw [z1, z2, q3, g2, q4.mpr cE]
      · exact absurd cE q
    · obtain ⟨fX, rfl⟩ : ∃ g, fX = g + 1 := ⟨fX - 1, by omega⟩
      obtain ⟨fM, rfl⟩ : ∃ g, fM = g + 1 := ⟨fM - 1, by omega⟩
      have nS : ¬ tb S b = true := fun q => cE (hnf q)
      have far : n + 1 ≤ a - b + (b - a) := by
        refine Classical.byContradiction fun q => nS (hco b hb (by omega) (by omega))
      obtain ⟨N, J2, K2, f1, f2, f3, f4, f5, f6, f7⟩ := ha_3 hXr hMr hsX hsM hsd (show n < 12 by omega) J K hr hJ hK
      have hcl2 : ∀ i, i < 12 → tb S i = true → ∀ j, j < 12 → tb (rv i) j = true → tb (S ||| N) j = true := by
        intro i hi q j hj q2
        by_cases c : tb E i = true
        · exact tb_orT.mpr (f6 i hi c j hj q2)
        · exact tb_orT.mpr (Or.inl (hcl i hi q c j hj q2))
      obtain ⟨r, J3, K3, e1, e2, e3, e4, e5⟩ := ih (n + 1) fX fM N (S ||| N) J2 K2 (by omega) (by omega) (by omega) far f3 f4 f5
        (fun i hi q1 q2 => hcl2 i hi ((tb_orT.mp q1).elim id (fun q => absurd q q2)))
        (fun j hj q1 q2 => by
          by_cases c : j ≤ a + n ∧ a ≤ j + n
          · exact tb_orT.mpr (Or.inl (hco j hj c.1 c.2))
          · by_cases c2 : j = a + n + 1
            · have h9 := hside (j - 1) (by omega)
              rw [show j - 1 + 1 = j by omega] at h9
              exact hcl2 (j - 1) (by omega) (hco (j - 1) (by omega) (by omega) (by omega)) j hj h9.1
            · have h9 := hside j (by omega)
              exact hcl2 (j + 1) (by omega) (hco (j + 1) (by omega) (by omega) (by omega)) j hj h9.2)
        (fun q => (tb_orT.mp q).elim (fun q => absurd q nS) id)
      refine ⟨r, J3, K3, ?_, ?_, e3, e4, e5⟩
      · simp only [L_Se_shortest_41]
        rw [if_neg (show ¬ 12 ≤ nI n from nI_ge (b := 12) (by omega) (by omega)), if_neg (shr0 (by omega) cE), f1, fbd_s, nI_1]; exact e1
      · simp only [L_Mo_findsHands_41]
        rw [if_neg (show ¬ 12 ≤ nI n from nI_ge (b := 12) (by omega) (by omega)), f2, fbd_s, nI_1]; exact e2
end HA
theorem ha_init {a : Nat} (ha : a < 12) : ∀ m j f (K : gb_Mem), j + m = 12 → m < f → (∀ i, i < j → K 24 i = (if i = a then 0 else 100000000) ∧ K 25 i = 0) → ∃ K2, L_Mo_findsHands_2 (nI a) f (nI j) K = some K2 ∧ (∀ c, c ≠ 24 → c ≠ 25 → K2 c = K c) ∧ ∀ i, i < 12 → K2 24 i = (if i = a then 0 else 100000000) ∧ K2 25 i = 0 := by
  intro m
  induction m with
  | zero =>
    intro j f K hj hf hK
    obtain ⟨f, rfl⟩ : ∃ g, f = g + 1 := ⟨f - 1, by omega⟩
    refine ⟨K, ?_, fun _ _ _ => rfl, fun i hi => hK i (by omega)⟩
    simp only [L_Mo_findsHands_2]
    rw [show (12 : Int32) = nI 12 from rfl, if_pos (nI_le (by omega) (by omega))]
  | succ m ih =>
    intro j f K hj hf hK
    obtain ⟨f, rfl⟩ : ∃ g, f = g + 1 := ⟨f - 1, by omega⟩
    simp only [L_Mo_findsHands_2, J_Mo_findsHands_25]
    rw [if_neg (show ¬ 12 ≤ nI j from nI_ge (b := 12) (by omega) (by omega)), nI_1]
    have key : ∀ v : Int32, v = (if j = a then 0 else 100000000) → ∃ K2, (fsto K 24 12 (nI j) v fun I1 => fsto I1 25 12 (nI j) 0 fun I2 => L_Mo_findsHands_2 (nI a) f (nI (j + 1)) I2) = some K2 ∧ (∀ c, c ≠ 24 → c ≠ 25 → K2 c = K c) ∧ ∀ i, i < 12 → K2 24 i = (if i = a then 0 else 100000000) ∧ K2 25 i = 0 := by
      intro v hv
      rw [fsto_n (by omega) (by decide), fsto_n (by omega) (by decide)]
      obtain ⟨K2, g1, g2, g3⟩ := ih (j + 1) f (mw (mw K 24 j v) 25 j 0) (by omega) (by omega) (by
        intro i hi
        rw [mw_eq, mw_ne (show 25 ≠ 24 by decide), mw_ne (show 24 ≠ 25 by decide), mw_eq]
        by_cases q : i = j
        · subst q; rw [pk_us, pk_us]; exact ⟨hv, rfl⟩
        · rw [pk_un q, pk_un q]; exact hK i (by omega))
      exact ⟨K2, g1, fun c hc hd => by rw [g2 c hc hd, mw_ne hd, mw_ne hc], g3⟩
    by_cases c : j = a
    · subst c
      rw [if_pos rfl]; exact key 0 (by rw [if_pos rfl])
    · rw [if_neg (fun q => c ((nI_eq (by omega) (by omega)).mp q))]; exact key 100000000 (by rw [if_neg c])
theorem sim_hands : S_hands GInv := by
  intro x1 x2 x3 IX IM h
  have h9 := ginv_told (v := 0) h
  generalize hI : mw IM 0 0 0 = I1 at h9
  obtain ⟨hT, hR, hBk, hLw, hVo, hDi, hRe, hNe, hFa, hCo, hFl, hGi, hSp, hRp, hJa⟩ := h9.2.2.1
  simp only [F_Mo_hands, fstf_d, hI, isIn_within _ _ _ I1 IX, isSeat_w _ I1 IX, F_Gb_hands, J_Gb_hands_47, fbd_p]
  by_cases c1 : F_Gb_within x1 0 11 IX = 0
  · exact ⟨-1, IX, I1, by rw [if_pos c1], by rw [if_pos c1], h9⟩
  rw [if_neg c1, if_neg c1]
  by_cases c2 : F_Gb_within x2 0 11 IX = 0
  · exact ⟨-1, IX, I1, by rw [if_pos c2], by rw [if_pos c2], h9⟩
  rw [if_neg c2, if_neg c2]
  by_cases c3 : F_Gb_within x3 0 1 IX = 0
  · exact ⟨-1, IX, I1, by rw [if_pos c3], by rw [if_pos c3], h9⟩
  rw [if_neg c3, if_neg c3]
  obtain ⟨a, rfl, -, ha⟩ := wi_rng 0 11 c1 rfl rfl (by decide) (by decide)
  obtain ⟨b, rfl, -, hb⟩ := wi_rng 0 11 c2 rfl rfl (by decide) (by decide)
  obtain ⟨w, rfl, -, hw⟩ := wi_rng 0 1 c3 rfl rfl (by decide) (by decide)
  have hw2 : w = 0 ∨ w = 1 := by omega
  have eX : (if nI w = 1 then F_Se_shortest (nI a) (nI b) 1 IX else F_Se_shortest (nI a) (nI b) 0 IX) = F_Se_shortest (nI a) (nI b) (nI w) IX := by
    rcases hw2 with rfl | rfl
    · rw [if_neg (by decide)]; rfl
    · rw [if_pos (by decide)]; rfl
  rw [eX]
  obtain ⟨rv, hrv⟩ : ∃ rv : Nat → Int32, rv = fun s => (F_Mo_reachOf (nI s) I1).getD 0 := ⟨_, rfl⟩
  have hMr0 : ∀ s, s < 12 → F_Mo_reachOf (nI s) I1 = some (rv s) := by
    intro s hs
    obtain ⟨v, _, q2, _⟩ := reach_eq hRe hs
    rw [hrv]
    dsimp only
    rw [q2]; rfl
  have hXr : ∀ J : gb_Mem, J 15 = IX 15 → J 16 = IX 16 → ∀ s, s < 12 → F_Se_reachedFrom (nI s) J = some (rv s) := by
    intro J j1 j2 s hs
    obtain ⟨v, q1, q2, _⟩ := reach_eq (IX := J) (I1 := I1) (by rw [j1, j2]; exact hRe) hs
    rw [hMr0 s hs] at q2
    rw [q1, q2]
  have hMr : ∀ K : gb_Mem, K 0 = I1 0 → K 21 = I1 21 → ∀ s, s < 12 → F_Mo_reachOf (nI s) K = some (rv s) := by
    intro K k1 k2 s hs
    obtain ⟨v, q1, q2, _⟩ := reach_eq (IX := IX) (I1 := K) (by rw [k1, k2]; exact hRe) hs
    rw [hXr IX rfl rfl s hs] at q1
    rw [q2, q1]
  have hside : ∀ s, s < 11 → tb (rv s) (s + 1) = true ∧ tb (rv (s + 1)) s = true := by
    intro s hs
    have q1 := hMr0 s (by omega)
    have q2 := hMr0 (s + 1) (by omega)
    unfold F_Mo_reachOf J_Mo_reachOf_25 at q1 q2
    rw [flod_n (by omega) (by decide), nI_1] at q1 q2
    rw [if_neg (nI_ne0 (by omega) (by omega)), nI_pred] at q2
    constructor
    · by_cases z : nI s = 0
      · rw [if_pos z] at q1
        rw [← Option.some.inj q1, tb_andT, tb_orT, tb_orT, tb_oneT (by omega), tb_4095]
        exact ⟨Or.inl (Or.inr rfl), decide_eq_true (by omega)⟩
      · rw [if_neg z] at q1
        rw [← Option.some.inj q1, tb_andT, tb_orT, tb_orT, tb_oneT (by omega), tb_4095]
        exact ⟨Or.inl (Or.inr rfl), decide_eq_true (by omega)⟩
    · rw [← Option.some.inj q2, tb_andT, tb_orT, tb_oneT (k := s) (by omega), tb_4095]
      exact ⟨Or.inr rfl, decide_eq_true (by omega)⟩
  obtain ⟨sd, hsd⟩ : ∃ sd : Nat → Nat, ∀ j, j < 12 → I1 4 j + 5 = nI (sd j) ∧ sd j ≤ 9 := by
    refine ⟨fun j => (I1 4 j + 5).toNatClampNeg, fun j hj => ?_⟩
    obtain ⟨q1, q2⟩ := (hR.2.1 j hj).1
    have q3 : (I1 4 j + 5).toInt = (I1 4 j).toInt + 5 := by
      rw [Int32.toInt_add, show (5 : Int32).toInt = 5 from rfl]
      exact Int.bmod_eq_of_le (by omega) (by omega)
    obtain ⟨k, ek, hk, hk2⟩ := gIn_n (x := I1 4 j + 5) (hi := 9) ⟨by omega, by omega⟩
    dsimp only
    rw [ek, nI_clamp hk2]
    exact ⟨rfl, by omega⟩
  have hsX : ∀ j, j < 12 → IX 3 j = nI (sd j) := fun j hj => ((hT.2.1 j hj).1).trans (hsd j hj).1
  obtain ⟨K, k1, k2, k3⟩ := ha_init (a := a) (by omega) 12 0 5000 I1 (by omega) (by omega) (fun i hi => absurd hi (Nat.not_lt_zero i))
  have z0 : ∀ i, ¬ tb 0 i = true := fun i => by rw [tb_0]; decide
  obtain ⟨r, J2, K2, f1, f2, f3, f4, f5⟩ := ha_5 hXr hMr hsX (fun j hj => (hsd j hj).1) (fun j hj => (hsd j hj).2) hside (a := a) (b := b) (by omega) (by omega) (nI w) 12 0 5000 5000 (1 <<< (nI a &&& 31)) (1 <<< (nI a &&& 31)) (mw IX 105 a 0) K (by omega) (by omega) (by omega) (by omega)
    (by
      intro i hi
      obtain ⟨p1, p2⟩ := k3 i hi
      unfold haR
      rw [tb_oneT (by omega), mw_eq, p1, p2]
      by_cases c : i = a
      · subst c
        exact Or.inl ⟨rfl, z0 i, 0, by omega, by rw [if_pos rfl]; rfl, ⟨fun _ => rfl, fun _ => rfl⟩, fun _ => ⟨0, by omega, pk_us, rfl⟩⟩
      · exact Or.inr ⟨c, c, Or.inr ⟨z0 i, by rw [if_neg c], rfl⟩⟩)
    (fun c hc => mw_ne hc) k2 (fun i _ q1 q2 => absurd q1 q2) (fun j hj q1 q2 => (tb_oneT (by omega)).mpr (by omega)) id
  refine ⟨r, J2, K2, ?_, ?_, ?_⟩
  · unfold F_Se_shortest
    rw [if_neg c1, if_neg c2, flt_d, fsto_n (by omega) (by decide), show L_Se_shortest_41 (nI b) (nI w) 5000 (1 <<< (nI a &&& 31)) (1 <<< (nI a &&& 31)) 0 (mw IX 105 a 0) = _ from f1]; rfl
  · unfold F_Mo_findsHands
    rw [show L_Mo_findsHands_2 (nI a) 5000 0 I1 = _ from k1, fbd_s, show L_Mo_findsHands_41 5000 0 K = _ from f2, fbd_s, fbd_s, flod_n (by omega) (by decide), flod_n (by omega) (by decide), f5]
    by_cases c : nI w = 0
    · rw [if_pos c, if_pos c]
    · rw [if_neg c, if_neg c]
  · refine ginv_scr h9 (fun c hc => ?_) ?_ (fun c hc => ?_) (fun j hj => ?_)
    · unfold xUse at hc
      exact f3 c (by omega)
    · rw [f3 6 (by decide)]
    · unfold mUse at hc
      exact f4 c (by omega) (by omega)
    · rw [f4 0 (by decide) (by decide)]
