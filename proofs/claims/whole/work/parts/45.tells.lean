/-! What THE LAW is asked, and what it tells. -/
def gEnv (now st th pi kd : Nat → Int32) (b s : Nat) (w : Nat) : Int32 :=
  if w = 0 then kd b else if w = 1 then now (40 + b) else if w = 2 then now (64 + b) else if w = 3 then st s + 5 else if w = 4 then th s else if w = 5 then now (6 + s) else if w = 6 then pi s else if w = 7 then nI s else if w = 8 then now (56 + b) else if w = 9 then now 5 else if w = 10 then now (18 + s) else now 0
theorem worth_n {t b s w : Nat} {I : gb_Mem} {now st th pi kd : Nat → Int32} {bo : Int32} (hT : GTab (I t) (I (t + 1)) (I (t + 2)) (I (t + 3)) now st th pi kd bo) (hb : b < 8) (es : now (48 + b) = nI s) (hs : s < 12) (hw : w < 12) : F_La_worth t (nI b) (nI w) I = some (gEnv now st th pi kd b s w) := by
  obtain ⟨⟨a1, a2, a3, a4, a5, a6⟩, hs9, hb9, -⟩ := hT
  obtain ⟨c1, c2, c3, c4, c5⟩ := hs9 s hs
  obtain ⟨d1, d2, d3, d4, d5, d6⟩ := hb9 b hb
  have B : ∀ k, k < 6 → F_Ta_ofBoat t (nI k) (nI b) I = some (I (t + 2) (8 * k + b)) := fun k hk => ofBoat_n hk hb
  have S : ∀ k, k < 5 → F_Ta_ofSeat t (nI k) (nI s) I = some (I (t + 1) (12 * k + s)) := fun k hk => ofSeat_n hk hs
  have B2 : F_Ta_ofBoat t 2 (nI b) I = some (nI s) := (B 2 (by decide)).trans (congrArg some (d3.trans es))
  unfold F_La_worth
  rw [B2, fbd_s]
  have n : ∀ k : Nat, k < 12 → (nI w = nI k ↔ w = k) := fun k hk => nI_eq (by omega) (by omega)
  have hc : w = 0 ∨ w = 1 ∨ w = 2 ∨ w = 3 ∨ w = 4 ∨ w = 5 ∨ w = 6 ∨ w = 7 ∨ w = 8 ∨ w = 9 ∨ w = 10 ∨ w = 11 := by omega
  rcases hc with rfl | rfl | rfl | rfl | rfl | rfl | rfl | rfl | rfl | rfl | rfl | rfl
  · rw [if_pos (show nI 0 = 0 from rfl), show F_Ta_ofBoat t 0 (nI b) I = some (I (t + 2) (8 * 0 + b)) from B 0 (by decide), fbd_s, show 8 * 0 + b = b by omega, d1]; rfl
  · rw [if_neg (by decide), if_pos (show nI 1 = 1 from rfl), show F_Ta_ofBoat t 1 (nI b) I = some (I (t + 2) (8 + b)) from B 1 (by decide), fbd_s, d2]; rfl
  · rw [if_neg (by decide), if_neg (by decide), if_pos (show nI 2 = 2 from rfl), show F_Ta_ofBoat t 4 (nI b) I = some (I (t + 2) (32 + b)) from B 4 (by decide), fbd_s, d5]; rfl
  · rw [if_neg (by decide), if_neg (by decide), if_neg (by decide), if_pos (show nI 3 = 3 from rfl), show F_Ta_ofSeat t 0 (nI s) I = some (I (t + 1) (12 * 0 + s)) from S 0 (by decide), fbd_s, show 12 * 0 + s = s by omega, c1]; rfl
  · rw [if_neg (by decide), if_neg (by decide), if_neg (by decide), if_neg (by decide), if_pos (show nI 4 = 4 from rfl), show F_Ta_ofSeat t 1 (nI s) I = some (I (t + 1) (12 + s)) from S 1 (by decide), fbd_s, c2]; rfl
  · rw [if_neg (by decide), if_neg (by decide), if_neg (by decide), if_neg (by decide), if_neg (by decide), if_pos (show nI 5 = 5 from rfl), show F_Ta_ofSeat t 2 (nI s) I = some (I (t + 1) (24 + s)) from S 2 (by decide), fbd_s, c3]; rfl
  · rw [if_neg (by decide), if_neg (by decide), if_neg (by decide), if_neg (by decide), if_neg (by decide), if_neg (by decide), if_pos (show nI 6 = 6 from rfl), show F_Ta_ofSeat t 3 (nI s) I = some (I (t + 1) (36 + s)) from S 3 (by decide), fbd_s, c4]; rfl
  · rw [if_neg (by decide), if_neg (by decide), if_neg (by decide), if_neg (by decide), if_neg (by decide), if_neg (by decide), if_neg (by decide), if_pos (show nI 7 = 7 from rfl)]; rfl
  · rw [if_neg (by decide), if_neg (by decide), if_neg (by decide), if_neg (by decide), if_neg (by decide), if_neg (by decide), if_neg (by decide), if_neg (by decide), if_pos (show nI 8 = 8 from rfl), show F_Ta_ofBoat t 3 (nI b) I = some (I (t + 2) (24 + b)) from B 3 (by decide), fbd_s, d4]; rfl
  · rw [if_neg (by decide), if_neg (by decide), if_neg (by decide), if_neg (by decide), if_neg (by decide), if_neg (by decide), if_neg (by decide), if_neg (by decide), if_neg (by decide), if_pos (show nI 9 = 9 from rfl), a4]; rfl
  · rw [if_neg (by decide), if_neg (by decide), if_neg (by decide), if_neg (by decide), if_neg (by decide), if_neg (by decide), if_neg (by decide), if_neg (by decide), if_neg (by decide), if_neg (by decide), if_pos (show nI 10 = 10 from rfl), show F_Ta_ofSeat t 4 (nI s) I = some (I (t + 1) (48 + s)) from S 4 (by decide), fbd_s, c5]; rfl
  · rw [if_neg (by decide), if_neg (by decide), if_neg (by decide), if_neg (by decide), if_neg (by decide), if_neg (by decide), if_neg (by decide), if_neg (by decide), if_neg (by decide), if_neg (by decide), if_neg (by decide), a5]; rfl
theorem asks_n {I : gb_Mem} {b s : Nat} (hb : b < 8) (es : I 1 (48 + b) = nI s) (hs : s < 12) : ∃ J, F_Mo_asks (nI b) I = some J ∧ (∀ c, c ≠ 22 → J c = I c) ∧ ∀ w, w < 12 → J 22 w = gEnv (I 1) (I 4) (I 5) (I 6) (I 7) b s w := by
  unfold F_Mo_asks F_Mo_steady
  have A : ∀ k : Nat, (k < 73) → nI k + nI b = nI (k + b) := fun k _ => nI_add k b
  have A2 : ∀ k : Nat, (k < 73) → nI k + nI s = nI (k + s) := fun k _ => nI_add k s
  have A3 : ∀ k : Nat, nI k + 5 = nI (k + 5) := fun k => nI_add k 5
  rw [show (48 : Int32) + nI b = nI (48 + b) from nI_add 48 b, show (40 : Int32) + nI b = nI (40 + b) from nI_add 40 b, show (64 : Int32) + nI b = nI (64 + b) from nI_add 64 b, show (56 : Int32) + nI b = nI (56 + b) from nI_add 56 b]
  rw [flod_n (by omega) (by decide), es, flod_n hb (by decide)]
  rw [show (6 : Int32) + nI s = nI (6 + s) from nI_add 6 s, show (18 : Int32) + nI s = nI (18 + s) from nI_add 18 s]
  simp only [fstf_d, flod_n (show 40 + b < 80 by omega) (show 80 < 2 ^ 31 by decide), flod_n (show 64 + b < 80 by omega) (show 80 < 2 ^ 31 by decide), flod_n (show 56 + b < 80 by omega) (show 80 < 2 ^ 31 by decide), flod_n (show 6 + s < 80 by omega) (show 80 < 2 ^ 31 by decide), flod_n (show 18 + s < 80 by omega) (show 80 < 2 ^ 31 by decide), flod_n hs (show 12 < 2 ^ 31 by decide), fbd_s]
  refine ⟨_, rfl, fun c hc => ?_, fun w hw => ?_⟩
  · simp only [mw_ne hc]
  · simp +decide (disch := decide) only [mw_ne, mw_eq]
    have hc : w = 0 ∨ w = 1 ∨ w = 2 ∨ w = 3 ∨ w = 4 ∨ w = 5 ∨ w = 6 ∨ w = 7 ∨ w = 8 ∨ w = 9 ∨ w = 10 ∨ w = 11 := by omega
    rcases hc with rfl | rfl | rfl | rfl | rfl | rfl | rfl | rfl | rfl | rfl | rfl | rfl <;> rfl
theorem held_in {y m : Int32} {I : gb_Mem} (hm : m = 99 ∨ m = 1000) : gIn (F_Gb_held y 0 m I) 0 1000 := by
  rw [held_eq (I2 := I) hm]
  unfold F_Mo_held
  by_cases c1 : 0 ≤ y
  · rw [if_pos c1]
    by_cases c2 : y ≤ m
    · rw [if_pos c2]
      refine ⟨Int32.le_iff_toInt_le.mp c1, Int.le_trans (Int32.le_iff_toInt_le.mp c2) ?_⟩
      rcases hm with rfl | rfl <;> decide
    · rw [if_neg c2]
      rcases hm with rfl | rfl <;> exact ⟨by decide, by decide⟩
  · rw [if_neg c1]; exact ⟨by decide, by decide⟩
/-- what one asks THE LAW, with what is told without a line -/
theorem lawT {X M : gb_Mem} {t b s k : Nat} {wd m wo : Int32} (hm : m = 99 ∨ m = 1000) (ht : t < 3 ∨ 10 < t) (hT : GTab (X t) (X (t + 1)) (X (t + 2)) (X (t + 3)) (M 1) (M 4) (M 5) (M 6) (M 7) (M 0 6)) (hL : GLaw (X 6 4) (X 7) (X 8) (X 9) (M 11 0) (M 12) (M 13) (M 14) (M 15) (M 16) (M 17)) (hb : b < 8) (es : M 1 (48 + b) = nI s) (hs : s < 12)
    (hU : ∀ J : gb_Mem, (∀ c, c ≠ 6 → c ≠ 10 → J c = X c) → F_La_unwritten 6 t wd (nI b) J = some wo) {M1 : gb_Mem} (hM1 : ∀ c, c ≠ 22 → M1 c = M c) (hM2 : ∀ w, w < 12 → M1 22 w = gEnv (M 1) (M 4) (M 5) (M 6) (M 7) b s w) :
    ∃ r JX JM, J_La_tells_13 6 t wd (nI b) m X = some (r, JX) ∧ F_Mo_lawTells wd wo m M1 = some (r, JM) ∧ (∀ c, c ≠ 6 → c ≠ 10 → JX c = X c) ∧ (∀ j, j ≠ 6 → JX 6 j = X 6 j) ∧ (∀ c, c ≠ 22 → c ≠ 23 → JM c = M c) ∧ gIn r 0 1000 := by
  obtain ⟨e1, k, hk, e2, hl⟩ := hL
  have hwX : ∀ J : gb_Mem, (∀ c, c ≠ 6 → c ≠ 10 → J c = X c) → ∀ w, w < 12 → F_La_worth t (nI b) (nI w) J = some (gEnv (M 1) (M 4) (M 5) (M 6) (M 7) b s w) := by
    intro J hJ w hw
    refine worth_n (bo := M 0 6) ?_ hb es hs hw
    rw [hJ t (by omega) (by omega), hJ (t + 1) (by omega) (by omega), hJ (t + 2) (by omega) (by omega), hJ (t + 3) (by omega) (by omega)]
    exact hT
  obtain ⟨JX, JM, h1, h2, h3, h4⟩ := tell_l (X0 := X) (M0 := M1) (t := t) (b := b) (wd := wd) (m := m) hk (e1.trans e2) (by rw [hM1 11 (by decide)]; exact e2) (by
    intro l hl9
    rw [hM1 12 (by decide), hM1 13 (by decide), hM1 14 (by decide), hM1 15 (by decide), hM1 16 (by decide), hM1 17 (by decide)]
    exact hl l hl9) hwX hM2 k 0 5000 5000 X M1 (by omega) (by omega) (by omega) (fun _ _ _ => rfl) (fun _ _ => rfl) (fun _ _ => rfl)
  unfold J_La_tells_13 F_Mo_lawTells F_Mo_lineOf
  rcases h4 with ⟨q1, q2⟩ | ⟨x, l, JM2, q0, q1, q2, q3, q4⟩
  · rw [show L_La_tells_18 6 t wd (nI b) m 5000 0 X = some (Sum.inl JX) from q1, show L_Mo_lineOf_2 wd 5000 0 M1 = some (Sum.inl JM) from q2]
    refine ⟨F_Gb_held wo 0 m JX, JX, JM, ?_, ?_, h1, h2, fun c c1 c2 => by rw [h3 c c2, hM1 c c1], held_in hm⟩
    · simp only [fbr, J_La_tells_121]
      rw [hU JX h1]; rfl
    · simp only [fbr, fbd_s, ↓reduceIte, J_Mo_lawTells_37]
      rw [held_eq (I2 := JM) hm]
  · rw [show L_La_tells_18 6 t wd (nI b) m 5000 0 X = some (Sum.inr (F_Gb_held x 0 m JX, JX)) from q1, show L_Mo_lineOf_2 wd 5000 0 M1 = some (Sum.inr (nI l, JM)) from q2]
    refine ⟨F_Gb_held x 0 m JX, JX, JM2, rfl, ?_, h1, h2, fun c c1 c2 => by rw [q0 c c2, hM1 c c1], held_in hm⟩
    have nl : ¬ nI l = -1 := fun q => by
      have := congrArg Int32.toInt q
      rw [nI_toInt (by omega), show (-1 : Int32).toInt = -1 from rfl] at this
      omega
    simp only [fbr, fbd_s, J_Mo_lawTells_37]
    rw [if_neg nl, flod_n (by omega) (by decide), flod_n (by omega) (by decide), q4, fbd_s]
    rw [held_eq (I2 := JM2) hm]
def F_Mo_ofLaw (w : Nat) (x : Int32) (I : gb_Mem) : Option (Int32 × gb_Mem) := if w = 0 then F_Mo_passesOf x I else if w = 1 then F_Mo_poursOf x I else F_Mo_spillsOf x I
theorem tells_n {X M : gb_Mem} {t b w : Nat} (hw : w < 3) (ht : t < 3 ∨ 10 < t) (hT : GTab (X t) (X (t + 1)) (X (t + 2)) (X (t + 3)) (M 1) (M 4) (M 5) (M 6) (M 7) (M 0 6)) (hR : GRng (M 1) (M 4) (M 5) (M 6) (M 7) (M 0 6)) (hL : GLaw (X 6 4) (X 7) (X 8) (X 9) (M 11 0) (M 12) (M 13) (M 14) (M 15) (M 16) (M 17)) (hb : b < 8) :
    ∃ r JX JM, F_La_tells 6 t (nI w) (nI b) X = some (r, JX) ∧ F_Mo_ofLaw w (nI b) M = some (r, JM) ∧ (∀ c, c ≠ 6 → c ≠ 10 → JX c = X c) ∧ (∀ j, j ≠ 6 → JX 6 j = X 6 j) ∧ (∀ c, c ≠ 22 → c ≠ 23 → JM c = M c) ∧ gIn r 0 1000 := by
  obtain ⟨s, es, hs, -⟩ := gIn_n (hR.2.2 b hb).2.1
  have hs2 : s < 12 := by omega
  obtain ⟨M1, hM, hM1, hM2⟩ := asks_n hb es hs2
  have hTJ : ∀ J : gb_Mem, (∀ c, c ≠ 6 → c ≠ 10 → J c = X c) → GTab (J t) (J (t + 1)) (J (t + 2)) (J (t + 3)) (M 1) (M 4) (M 5) (M 6) (M 7) (M 0 6) := by
    intro J hJ
    rw [hJ t (by omega) (by omega), hJ (t + 1) (by omega) (by omega), hJ (t + 2) (by omega) (by omega), hJ (t + 3) (by omega) (by omega)]
    exact hT
  have f40 : M1 1 (40 + b) = M 1 (40 + b) := by rw [hM1 1 (by decide)]
  have f56 : M1 1 (56 + b) = M 1 (56 + b) := by rw [hM1 1 (by decide)]
  have f5 : M1 1 5 = M 1 5 := by rw [hM1 1 (by decide)]
  have facts : ∀ J : gb_Mem, (∀ c, c ≠ 6 → c ≠ 10 → J c = X c) → F_Ta_ofBoat t 2 (nI b) J = some (nI s) ∧ F_Ta_ofSeat t 0 (nI s) J = some (M 4 s + 5) ∧ F_Ta_ofSeat t 1 (nI s) J = some (M 5 s) ∧ F_Ta_ofSeat t 3 (nI s) J = some (M 6 s) ∧ F_Ta_ofSeat t 2 (nI s) J = some (M 1 (6 + s)) ∧ F_Ta_ofBoat t 1 (nI b) J = some (M 1 (40 + b)) ∧ F_Ta_ofBoat t 3 (nI b) J = some (M 1 (56 + b)) ∧ J t 3 = M 1 5 := by
    intro J hJ
    obtain ⟨⟨a1, a2, a3, a4, a5, a6⟩, hs9, hb9, -⟩ := hTJ J hJ
    obtain ⟨c1, c2, c3, c4, c5⟩ := hs9 s hs2
    obtain ⟨d1, d2, d3, d4, d5, d6⟩ := hb9 b hb
    refine ⟨(ofBoat_n (w := 2) (by decide) hb).trans (congrArg some (d3.trans es)), ?_, (ofSeat_n (w := 1) (by decide) hs2).trans (congrArg some c2), (ofSeat_n (w := 3) (by decide) hs2).trans (congrArg some c4), (ofSeat_n (w := 2) (by decide) hs2).trans (congrArg some c3), (ofBoat_n (w := 1) (by decide) hb).trans (congrArg some d2), (ofBoat_n (w := 3) (by decide) hb).trans (congrArg some d4), a4⟩
    refine (ofSeat_n (w := 0) (by decide) hs2).trans (congrArg some ?_)
    rw [show 12 * 0 + s = s by omega]; exact c1
  have e3 : M1 22 3 = M 4 s + 5 := hM2 3 (by decide)
  have e4 : M1 22 4 = M 5 s := hM2 4 (by decide)
  have e5 : M1 22 5 = M 1 (6 + s) := hM2 5 (by decide)
  have e6 : M1 22 6 = M 6 s := hM2 6 (by decide)
  have hc : w = 0 ∨ w = 1 ∨ w = 2 := by omega
  rcases hc with rfl | rfl | rfl
  · have hU : ∀ J : gb_Mem, (∀ c, c ≠ 6 → c ≠ 10 → J c = X c) → F_La_unwritten 6 t (nI 0) (nI b) J = some (500 + 40 * (M 4 s + 5) - 50 * M 1 5 + 20 * (if M 1 (56 + b) = 1 then M 1 (6 + s) else -M 1 (6 + s))) := by
      intro J hJ
      obtain ⟨g1, g2, g3, g4, g5, g6, g7, g8⟩ := facts J hJ
      unfold F_La_unwritten J_La_unwritten_88
      rw [g1, fbd_s, g2, fbd_s, if_neg (by decide), if_neg (by decide), g5, fbd_s, g7, fbd_s, g8]
      by_cases c : M 1 (56 + b) = 1
      · rw [if_pos c, if_pos c]
      · rw [if_neg c, if_neg c]
    obtain ⟨r, JX, JM, q1, q2, q3, q4, q5⟩ := lawT (k := 0) (m := 1000) (Or.inr rfl) ht hT hL hb es hs2 hU hM1 hM2
    refine ⟨r, JX, JM, ?_, ?_, q3, q4, q5⟩
    · unfold F_La_tells
      rw [if_neg (by decide)]; exact q1
    · show F_Mo_passesOf (nI b) M = _
      unfold F_Mo_passesOf J_Mo_passesOf_61
      rw [hM, fbd_s, show (56 : Int32) + nI b = nI (56 + b) from nI_add 56 b, flod_n (by omega) (by decide), f56, e3, e5, f5, fbd_p, fbd_p]
      by_cases c : M 1 (56 + b) = 1
      · rw [if_pos c] at q2 ⊢; exact q2
      · rw [if_neg c] at q2 ⊢; exact q2
  · have hU : ∀ J : gb_Mem, (∀ c, c ≠ 6 → c ≠ 10 → J c = X c) → F_La_unwritten 6 t (nI 1) (nI b) J = some (M 5 s + 5 * M 6 s) := by
      intro J hJ
      obtain ⟨g1, g2, g3, g4, g5, g6, g7, g8⟩ := facts J hJ
      unfold F_La_unwritten
      rw [g1, fbd_s, g2, fbd_s, if_pos (show nI 1 = 1 from rfl), g3, fbd_s, g4, fbd_s]
    obtain ⟨r, JX, JM, q1, q2, q3, q4, q5⟩ := lawT (k := 0) (m := 99) (Or.inl rfl) ht hT hL hb es hs2 hU hM1 hM2
    refine ⟨r, JX, JM, ?_, ?_, q3, q4, q5⟩
    · unfold F_La_tells
      rw [if_pos (show nI 1 = 1 from rfl)]; exact q1
    · show F_Mo_poursOf (nI b) M = _
      unfold F_Mo_poursOf
      rw [hM, fbd_s, e4, e6, fbd_p]
      exact q2
  · have hU : ∀ J : gb_Mem, (∀ c, c ≠ 6 → c ≠ 10 → J c = X c) → F_La_unwritten 6 t (nI 2) (nI b) J = some (100 - 10 * (M 4 s + 5) + M 1 (40 + b)) := by
      intro J hJ
      obtain ⟨g1, g2, g3, g4, g5, g6, g7, g8⟩ := facts J hJ
      unfold F_La_unwritten
      rw [g1, fbd_s, g2, fbd_s, if_neg (by decide), if_pos (show nI 2 = 2 from rfl), g6, fbd_s]
    obtain ⟨r, JX, JM, q1, q2, q3, q4, q5⟩ := lawT (k := 0) (m := 1000) (Or.inr rfl) ht hT hL hb es hs2 hU hM1 hM2
    refine ⟨r, JX, JM, ?_, ?_, q3, q4, q5⟩
    · unfold F_La_tells
      rw [if_neg (by decide)]; exact q1
    · show F_Mo_spillsOf (nI b) M = _
      unfold F_Mo_spillsOf
      rw [hM, fbd_s, show (40 : Int32) + nI b = nI (40 + b) from nI_add 40 b, flod_n (by omega) (by decide), f40, e3, fbd_p]
      exact q2
