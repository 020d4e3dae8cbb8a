/-! The table's relation through each kind of writing. -/
theorem upd_iff {f g : Nat → Int32} {i j k l : Nat} {v : Int32} (h : i = k ↔ j = l) (e : f i = g j) : upd f k v i = upd g l v j := by
  rw [upd_ap, upd_ap]
  by_cases c : i = k
  · rw [if_pos c, if_pos (h.mp c)]
  · rw [if_neg c, if_neg (fun q => c (h.mpr q))]; exact e
theorem upd_o1 {f : Nat → Int32} {i k : Nat} {v y : Int32} (h : i ≠ k) (e : f i = y) : upd f k v i = y := by rw [pk_un h]; exact e
theorem upd_o2 {f : Nat → Int32} {i k : Nat} {v y : Int32} (h : i ≠ k) (e : y = f i) : y = upd f k v i := by rw [pk_un h]; exact e
section TAB
variable {T S B G now st th pi kd : Nat → Int32} {bo v x : Int32} {w b s k : Nat}
theorem GTab.pb (h : GTab T S B G now st th pi kd bo) (hw : 1 ≤ w) (hw2 : w < 6) (hb : b < 8) : GTab T S (upd B (8 * w + b) v) G (upd now (32 + 8 * w + b) v) st th pi kd bo := by
  obtain ⟨⟨a1, a2, a3, a4, a5, a6⟩, hs, hbo, hg⟩ := h
  refine ⟨⟨upd_o2 (by omega) a1, upd_o2 (by omega) a2, upd_o2 (by omega) a3, upd_o2 (by omega) a4, upd_o2 (by omega) a5, a6⟩, fun s hs9 => ?_, fun b9 hb9 => ?_, fun k9 hk9 => ?_⟩
  · obtain ⟨c1, c2, c3, c4, c5⟩ := hs s hs9
    exact ⟨c1, c2, upd_o2 (by omega) c3, c4, upd_o2 (by omega) c5⟩
  · obtain ⟨c1, c2, c3, c4, c5, c6⟩ := hbo b9 hb9
    exact ⟨upd_o1 (by omega) c1, upd_iff (by omega) c2, upd_iff (by omega) c3, upd_iff (by omega) c4, upd_iff (by omega) c5, upd_iff (by omega) c6⟩
  · exact upd_o2 (by omega) (hg k9 hk9)
theorem GTab.love (h : GTab T S B G now st th pi kd bo) (hs : s < 12) : GTab T (upd S (24 + s) v) B G (upd now (6 + s) v) st th pi kd bo := by
  obtain ⟨⟨a1, a2, a3, a4, a5, a6⟩, hs, hbo, hg⟩ := h
  refine ⟨⟨upd_o2 (by omega) a1, upd_o2 (by omega) a2, upd_o2 (by omega) a3, upd_o2 (by omega) a4, upd_o2 (by omega) a5, a6⟩, fun s hs9 => ?_, fun b9 hb9 => ?_, fun k9 hk9 => ?_⟩
  · obtain ⟨c1, c2, c3, c4, c5⟩ := hs s hs9
    exact ⟨upd_o1 (by omega) c1, upd_o1 (by omega) c2, upd_iff (by omega) c3, upd_o1 (by omega) c4, upd_o1 (by omega) (upd_o2 (by omega) c5)⟩
  · obtain ⟨c1, c2, c3, c4, c5, c6⟩ := hbo b9 hb9
    exact ⟨c1, upd_o2 (by omega) c2, upd_o2 (by omega) c3, upd_o2 (by omega) c4, upd_o2 (by omega) c5, upd_o2 (by omega) c6⟩
  · exact upd_o2 (by omega) (hg k9 hk9)
theorem GTab.stain (h : GTab T S B G now st th pi kd bo) (hs : s < 12) : GTab T (upd S (48 + s) v) B G (upd now (18 + s) v) st th pi kd bo := by
  obtain ⟨⟨a1, a2, a3, a4, a5, a6⟩, hs, hbo, hg⟩ := h
  refine ⟨⟨upd_o2 (by omega) a1, upd_o2 (by omega) a2, upd_o2 (by omega) a3, upd_o2 (by omega) a4, upd_o2 (by omega) a5, a6⟩, fun s hs9 => ?_, fun b9 hb9 => ?_, fun k9 hk9 => ?_⟩
  · obtain ⟨c1, c2, c3, c4, c5⟩ := hs s hs9
    exact ⟨upd_o1 (by omega) c1, upd_o1 (by omega) c2, upd_o1 (by omega) (upd_o2 (by omega) c3), upd_o1 (by omega) c4, upd_iff (by omega) c5⟩
  · obtain ⟨c1, c2, c3, c4, c5, c6⟩ := hbo b9 hb9
    exact ⟨c1, upd_o2 (by omega) c2, upd_o2 (by omega) c3, upd_o2 (by omega) c4, upd_o2 (by omega) c5, upd_o2 (by omega) c6⟩
  · exact upd_o2 (by omega) (hg k9 hk9)
theorem GTab.got (h : GTab T S B G now st th pi kd bo) (hk : k < 10) : GTab T S B (upd G k v) (upd now (30 + k) v) st th pi kd bo := by
  obtain ⟨⟨a1, a2, a3, a4, a5, a6⟩, hs, hbo, hg⟩ := h
  refine ⟨⟨upd_o2 (by omega) a1, upd_o2 (by omega) a2, upd_o2 (by omega) a3, upd_o2 (by omega) a4, upd_o2 (by omega) a5, a6⟩, fun s hs9 => ?_, fun b9 hb9 => ?_, fun k9 hk9 => ?_⟩
  · obtain ⟨c1, c2, c3, c4, c5⟩ := hs s hs9
    exact ⟨c1, c2, upd_o2 (by omega) c3, c4, upd_o2 (by omega) c5⟩
  · obtain ⟨c1, c2, c3, c4, c5, c6⟩ := hbo b9 hb9
    exact ⟨c1, upd_o2 (by omega) c2, upd_o2 (by omega) c3, upd_o2 (by omega) c4, upd_o2 (by omega) c5, upd_o2 (by omega) c6⟩
  · exact upd_iff (by omega) (hg k9 hk9)
/-- the numbers of the table itself: i of the class, j of 'now' -/
theorem GTab.num (h : GTab T S B G now st th pi kd bo) (hij : (k = 0 ∧ w = 1) ∨ (k = 1 ∧ w = 3) ∨ (k = 2 ∧ w = 4) ∨ (k = 3 ∧ w = 5) ∨ (k = 4 ∧ w = 0)) : GTab (upd T k v) S B G (upd now w v) st th pi kd bo := by
  obtain ⟨⟨a1, a2, a3, a4, a5, a6⟩, hs, hbo, hg⟩ := h
  refine ⟨⟨upd_iff (by omega) a1, upd_iff (by omega) a2, upd_iff (by omega) a3, upd_iff (by omega) a4, upd_iff (by omega) a5, upd_o1 (by omega) a6⟩, fun s hs9 => ?_, fun b9 hb9 => ?_, fun k9 hk9 => ?_⟩
  · obtain ⟨c1, c2, c3, c4, c5⟩ := hs s hs9
    exact ⟨c1, c2, upd_o2 (by omega) c3, c4, upd_o2 (by omega) c5⟩
  · obtain ⟨c1, c2, c3, c4, c5, c6⟩ := hbo b9 hb9
    exact ⟨c1, upd_o2 (by omega) c2, upd_o2 (by omega) c3, upd_o2 (by omega) c4, upd_o2 (by omega) c5, upd_o2 (by omega) c6⟩
  · exact upd_o2 (by omega) (hg k9 hk9)
theorem GTab.lines (h : GTab T S B G now st th pi kd bo) : GTab T S B G (upd now 2 v) st th pi kd bo := by
  obtain ⟨⟨a1, a2, a3, a4, a5, a6⟩, hs, hbo, hg⟩ := h
  refine ⟨⟨upd_o2 (by omega) a1, upd_o2 (by omega) a2, upd_o2 (by omega) a3, upd_o2 (by omega) a4, upd_o2 (by omega) a5, a6⟩, fun s hs9 => ?_, fun b9 hb9 => ?_, fun k9 hk9 => ?_⟩
  · obtain ⟨c1, c2, c3, c4, c5⟩ := hs s hs9
    exact ⟨c1, c2, upd_o2 (by omega) c3, c4, upd_o2 (by omega) c5⟩
  · obtain ⟨c1, c2, c3, c4, c5, c6⟩ := hbo b9 hb9
    exact ⟨c1, upd_o2 (by omega) c2, upd_o2 (by omega) c3, upd_o2 (by omega) c4, upd_o2 (by omega) c5, upd_o2 (by omega) c6⟩
  · exact upd_o2 (by omega) (hg k9 hk9)
theorem GTab.boats (h : GTab T S B G now st th pi kd bo) : GTab (upd T 5 v) S B G now st th pi kd v := by
  obtain ⟨⟨a1, a2, a3, a4, a5, a6⟩, hO⟩ := h
  exact ⟨⟨upd_o1 (by omega) a1, upd_o1 (by omega) a2, upd_o1 (by omega) a3, upd_o1 (by omega) a4, upd_o1 (by omega) a5, pk_us⟩, hO⟩
theorem GTab.kind (h : GTab T S B G now st th pi kd bo) (hb : b < 8) : GTab T S (upd B b v) G now st th pi (upd kd b v) bo := by
  obtain ⟨ha, hs, hbo, hg⟩ := h
  refine ⟨ha, hs, fun b9 hb9 => ?_, hg⟩
  obtain ⟨c1, c2, c3, c4, c5, c6⟩ := hbo b9 hb9
  exact ⟨upd_iff (by omega) c1, upd_o1 (by omega) c2, upd_o1 (by omega) c3, upd_o1 (by omega) c4, upd_o1 (by omega) c5, upd_o1 (by omega) c6⟩
theorem GTab.steady (h : GTab T S B G now st th pi kd bo) (hs : s < 12) (hv : v = x + 5) : GTab T (upd S s v) B G now (upd st s x) th pi kd bo := by
  obtain ⟨ha, hs, hbo, hg⟩ := h
  refine ⟨ha, fun s9 hs9 => ?_, hbo, hg⟩
  obtain ⟨c1, c2, c3, c4, c5⟩ := hs s9 hs9
  refine ⟨?_, upd_o1 (by omega) c2, upd_o1 (by omega) c3, upd_o1 (by omega) c4, upd_o1 (by omega) c5⟩
  rw [upd_ap, upd_ap]
  by_cases c : s9 = s
  · rw [if_pos c, if_pos c]; exact hv
  · rw [if_neg c, if_neg c]; exact c1
theorem GTab.thirst (h : GTab T S B G now st th pi kd bo) (hs : s < 12) : GTab T (upd S (12 + s) v) B G now st (upd th s v) pi kd bo := by
  obtain ⟨ha, hs, hbo, hg⟩ := h
  refine ⟨ha, fun s9 hs9 => ?_, hbo, hg⟩
  obtain ⟨c1, c2, c3, c4, c5⟩ := hs s9 hs9
  exact ⟨upd_o1 (by omega) c1, upd_iff (by omega) c2, upd_o1 (by omega) c3, upd_o1 (by omega) c4, upd_o1 (by omega) c5⟩
theorem GTab.pirate (h : GTab T S B G now st th pi kd bo) (hs : s < 12) : GTab T (upd S (36 + s) v) B G now st th (upd pi s v) kd bo := by
  obtain ⟨ha, hs, hbo, hg⟩ := h
  refine ⟨ha, fun s9 hs9 => ?_, hbo, hg⟩
  obtain ⟨c1, c2, c3, c4, c5⟩ := hs s9 hs9
  exact ⟨upd_o1 (by omega) c1, upd_o1 (by omega) c2, upd_o1 (by omega) c3, upd_iff (by omega) c4, upd_o1 (by omega) c5⟩
theorem gIn_upd {f : Nat → Int32} {i k : Nat} {v : Int32} {lo hi : Int} (h : i = k → gIn v lo hi) (e : gIn (f i) lo hi) : gIn (upd f k v i) lo hi := by
  rw [upd_ap]
  by_cases c : i = k
  · rw [if_pos c]; exact h c
  · rw [if_neg c]; exact e
/-- any writing into 'now', if what it must keep is kept -/
theorem GRng.put (h : GRng now st th pi kd bo) (h1 : ∀ s, s < 12 → 18 + s = k → gIn v 0 999) (h2 : ∀ b, b < 8 → 48 + b = k → gIn v 0 11) (h3 : ∀ b, b < 8 → 56 + b = k → gIn v 0 1) (h4 : ∀ b, b < 8 → 40 + b = k → gIn v 0 99) : GRng (upd now k v) st th pi kd bo := by
  obtain ⟨a1, hs, hb⟩ := h
  exact ⟨a1, fun s hs9 => ⟨(hs s hs9).1, (hs s hs9).2.1, gIn_upd (h1 s hs9) (hs s hs9).2.2⟩, fun b hb9 => ⟨(hb b hb9).1, gIn_upd (h2 b hb9) (hb b hb9).2.1, gIn_upd (h3 b hb9) (hb b hb9).2.2.1, gIn_upd (h4 b hb9) (hb b hb9).2.2.2⟩⟩
theorem GRng.put0 (h : GRng now st th pi kd bo) (h1 : k < 18 ∨ (30 ≤ k ∧ k < 40) ∨ 64 ≤ k) : GRng (upd now k v) st th pi kd bo :=
  h.put (fun s _ q => by omega) (fun s _ q => by omega) (fun s _ q => by omega) (fun s _ q => by omega)
end TAB
