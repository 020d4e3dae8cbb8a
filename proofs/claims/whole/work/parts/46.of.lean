/-! What doesn't matter; of. -/
def xUse (c : Nat) : Prop := (c < 6 ∨ (6 < c ∧ c < 10)) ∨ (10 < c ∧ c < 96) ∨ c = 100 ∨ c = 102 ∨ c = 108 ∨ c = 109 ∨ c = 117 ∨ c = 110 ∨ c = 111 ∨ c = 119
def mUse (c : Nat) : Prop := c ≠ 0 ∧ c ≠ 3 ∧ c ≠ 18 ∧ c ≠ 22 ∧ c ≠ 23 ∧ c ≠ 24 ∧ c ≠ 25 ∧ c ≠ 28 ∧ c ≠ 29 ∧ c ≠ 33
def oUse (j : Nat) : Prop := j = 3 ∨ j = 5 ∨ j = 6 ∨ j = 13 ∨ j = 33 ∨ j = 34 ∨ j = 35 ∨ j = 37 ∨ j = 39 ∨ j = 50 ∨ j = 53 ∨ j = 56 ∨ j = 58 ∨ j = 61 ∨ j = 64 ∨ j = 68
theorem ginv_scr {IX IM JX JM : gb_Mem} (h : GInv IX IM) (hX : ∀ c, xUse c → JX c = IX c) (h6 : JX 6 4 = IX 6 4) (hM : ∀ c, mUse c → JM c = IM c) (h0 : ∀ j, oUse j → JM 0 j = IM 0 j) : GInv JX JM := by
  have e1 : xP JX 72 24 = xP IX 72 24 := xP_congr (fun c h1 h2 => hX c (by unfold xUse; omega))
  have e2 : xP JX 35 34 = xP IX 35 34 := xP_congr (fun c h1 h2 => hX c (by unfold xUse; omega))
  unfold xUse at hX
  unfold mUse at hM
  unfold oUse at h0
  unfold GInv GWorld GFix at *
  simp (disch := decide) only [hX, hM, h0, h6, e1, e2]
  exact h
theorem sim_of : S_of GInv := by
  intro x1 x2 IX IM h
  have h9 := ginv_told (v := 0) h
  generalize hI : mw IM 0 0 0 = I1 at h9
  have hT := h9.2.2.1.1
  have hR := h9.2.2.1.2.1
  have hL := h9.2.2.1.2.2.2.1
  obtain ⟨n, en, hn, -⟩ := gIn_n hR.1
  have e5 : IX 2 5 = nI n := hT.1.2.2.2.2.2.trans en
  simp only [F_Mo_of, fstf_d, hI, F_Gb_of, isBoat_w I1 IX en (show n ≤ 8 by omega), e5]
  by_cases c1 : F_Gb_within x1 0 (nI n - 1) IX = 0
  · exact ⟨-1, IX, I1, by rw [if_pos c1], by rw [if_pos c1], h9⟩
  rw [if_neg c1, if_neg c1]
  obtain ⟨b, rfl, hb⟩ : ∃ b, x1 = nI b ∧ b < 8 := by
    cases n with
    | zero =>
      exfalso
      have := within_in c1
      unfold gIn at this
      rw [show (nI 0 - 1 : Int32).toInt = -1 from rfl, show (0 : Int32).toInt = 0 from rfl] at this
      omega
    | succ n =>
      rw [nI_pred] at c1
      obtain ⟨s, e, hs⟩ := wi_num c1 (by omega)
      exact ⟨s, e, by omega⟩
  obtain ⟨d1, d2, d3, d4, d5, d6⟩ := hT.2.2.1 b hb
  by_cases c2 : F_Gb_within x2 0 8 IX = 0
  · refine ⟨-1, IX, I1, by rw [if_pos c2], ?_, h9⟩
    have nn : ∀ k : Nat, k ≤ 8 → ¬ x2 = nI k := by
      intro k hk q
      subst q
      rw [show F_Gb_within (nI k) 0 8 IX = 1 from within_n (lo := 0) (hi := 8) (by omega) hk (by decide)] at c2
      exact absurd c2 (by decide)
    rw [show (0 : Int32) = nI 0 from rfl, show (1 : Int32) = nI 1 from rfl, show (2 : Int32) = nI 2 from rfl, show (3 : Int32) = nI 3 from rfl, show (4 : Int32) = nI 4 from rfl, show (5 : Int32) = nI 5 from rfl, show (6 : Int32) = nI 6 from rfl, show (7 : Int32) = nI 7 from rfl, show (8 : Int32) = nI 8 from rfl]
    rw [if_neg (nn 0 (by decide)), if_neg (nn 1 (by decide)), if_neg (nn 2 (by decide)), if_neg (nn 3 (by decide)), if_neg (nn 4 (by decide)), if_neg (nn 5 (by decide)), if_neg (nn 6 (by decide)), if_neg (nn 7 (by decide)), if_neg (nn 8 (by decide))]
  · rw [if_neg c2]
    obtain ⟨w, rfl, hw⟩ := wi_num (m := 8) c2 (by decide)
    have B : ∀ k, k < 6 → F_Ta_ofBoat 2 (nI k) (nI b) IX = some (IX 4 (8 * k + b)) := fun k hk => ofBoat_n hk hb
    have law : ∀ w, w < 3 → ∃ r JX JM, F_La_tells 6 2 (nI w) (nI b) IX = some (r, JX) ∧ F_Mo_ofLaw w (nI b) I1 = some (r, JM) ∧ GInv JX JM := by
      intro w hw
      obtain ⟨r, JX, JM, q1, q2, q3, q4, q5, -⟩ := tells_n (t := 2) hw (by decide) hT hR hL hb
      refine ⟨r, JX, JM, q1, q2, ginv_scr h9 (fun c hc => q3 c ?_ ?_) (q4 4 (by decide)) (fun c hc => q5 c ?_ ?_) (fun j hj => ?_)⟩
      · unfold xUse at hc; omega
      · unfold xUse at hc; omega
      · unfold mUse at hc; omega
      · unfold mUse at hc; omega
      · rw [q5 0 (by decide) (by decide)]
    have hc : w = 0 ∨ w = 1 ∨ w = 2 ∨ w = 3 ∨ w = 4 ∨ w = 5 ∨ w = 6 ∨ w = 7 ∨ w = 8 := by omega
    rcases hc with rfl | rfl | rfl | rfl | rfl | rfl | rfl | rfl | rfl
    · refine ⟨_, IX, I1, by rw [if_neg (by decide), B 0 (by decide), fbd_s], ?_, h9⟩
      rw [if_pos (show nI 0 = 0 from rfl), flod_n hb (by decide), show 8 * 0 + b = b by omega, d1]
    · refine ⟨_, IX, I1, by rw [if_neg (by decide), B 1 (by decide), fbd_s], ?_, h9⟩
      rw [if_neg (by decide), if_pos (show nI 1 = 1 from rfl), show (40 : Int32) + nI b = nI (40 + b) from nI_add 40 b, flod_n (by omega) (by decide), show 8 * 1 + b = 8 + b from rfl, d2]
    · refine ⟨_, IX, I1, by rw [if_neg (by decide), B 2 (by decide), fbd_s], ?_, h9⟩
      rw [if_neg (by decide), if_neg (by decide), if_pos (show nI 2 = 2 from rfl), show (48 : Int32) + nI b = nI (48 + b) from nI_add 48 b, flod_n (by omega) (by decide), show 8 * 2 + b = 16 + b from rfl, d3]
    · refine ⟨_, IX, I1, by rw [if_neg (by decide), B 3 (by decide), fbd_s], ?_, h9⟩
      rw [if_neg (by decide), if_neg (by decide), if_neg (by decide), if_pos (show nI 3 = 3 from rfl), show (56 : Int32) + nI b = nI (56 + b) from nI_add 56 b, flod_n (by omega) (by decide), show 8 * 3 + b = 24 + b from rfl, d4]
    · refine ⟨_, IX, I1, by rw [if_neg (by decide), B 4 (by decide), fbd_s], ?_, h9⟩
      rw [if_neg (by decide), if_neg (by decide), if_neg (by decide), if_neg (by decide), if_pos (show nI 4 = 4 from rfl), show (64 : Int32) + nI b = nI (64 + b) from nI_add 64 b, flod_n (by omega) (by decide), show 8 * 4 + b = 32 + b from rfl, d5]
    · refine ⟨_, IX, I1, by rw [if_neg (by decide), B 5 (by decide), fbd_s], ?_, h9⟩
      rw [if_neg (by decide), if_neg (by decide), if_neg (by decide), if_neg (by decide), if_neg (by decide), if_pos (show nI 5 = 5 from rfl), show (72 : Int32) + nI b = nI (72 + b) from nI_add 72 b, flod_n (by omega) (by decide), show 8 * 5 + b = 40 + b from rfl, d6]
    · obtain ⟨r, JX, JM, q1, q2, q3⟩ := law 0 (by decide)
      refine ⟨r, JX, JM, ?_, ?_, q3⟩
      · rw [if_pos (by decide), fbd_p]; exact q1
      · rw [if_neg (by decide), if_neg (by decide), if_neg (by decide), if_neg (by decide), if_neg (by decide), if_neg (by decide), if_pos (show nI 6 = 6 from rfl), fbd_p]; exact q2
    · obtain ⟨r, JX, JM, q1, q2, q3⟩ := law 1 (by decide)
      refine ⟨r, JX, JM, ?_, ?_, q3⟩
      · rw [if_pos (by decide), fbd_p]; exact q1
      · rw [if_neg (by decide), if_neg (by decide), if_neg (by decide), if_neg (by decide), if_neg (by decide), if_neg (by decide), if_neg (by decide), if_pos (show nI 7 = 7 from rfl), fbd_p]; exact q2
    · obtain ⟨r, JX, JM, q1, q2, q3⟩ := law 2 (by decide)
      refine ⟨r, JX, JM, ?_, ?_, q3⟩
      · rw [if_pos (by decide), fbd_p]; exact q1
      · rw [if_neg (by decide), if_neg (by decide), if_neg (by decide), if_neg (by decide), if_neg (by decide), if_neg (by decide), if_neg (by decide), if_neg (by decide), if_pos (show nI 8 = 8 from rfl), fbd_p]; exact q2
