/-! The relation of the two memories, in blocks; each block is a statement of single cells' functions. -/
theorem mw_ne {I : gb_Mem} {a k b : Nat} {v : Int32} (h : b ≠ a) : mw I a k v b = I b := by unfold mw mset; rw [if_neg h]
theorem mw_eq {I : gb_Mem} {a k : Nat} {v : Int32} : mw I a k v a = upd (I a) k v := by unfold mw mset; rw [if_pos rfl]
theorem mset_ne {I : gb_Mem} {a b : Nat} {f : Nat → Int32} (h : b ≠ a) : mset I a f b = I b := by unfold mset; rw [if_neg h]
theorem mset_eq {I : gb_Mem} {a : Nat} {f : Nat → Int32} : mset I a f a = f := by unfold mset; rw [if_pos rfl]
theorem upd_ap (f : Nat → Int32) (k j : Nat) (v : Int32) : upd f k v j = if j = k then v else f j := rfl
theorem mw_ap (I : gb_Mem) (a k b j : Nat) (v : Int32) : mw I a k v b j = if b = a then (if j = k then v else I b j) else I b j := by
  unfold mw mset
  by_cases h : b = a
  · subst h; simp [upd]
  · simp [h]
/-- a run of cells, by itself -/
def xP (I : gb_Mem) (lo n : Nat) : gb_Mem := fun c => if c < n then I (lo + c) else fun _ => 0
theorem xP_mw {I : gb_Mem} {lo n a k : Nat} {v : Int32} (h : a < lo ∨ lo + n ≤ a) : xP (mw I a k v) lo n = xP I lo n := by
  funext c
  unfold xP
  by_cases hc : c < n
  · rw [if_pos hc, if_pos hc, mw_ne (by omega)]
  · rw [if_neg hc, if_neg hc]
theorem xP_mset {I : gb_Mem} {lo n a : Nat} {f : Nat → Int32} (h : a < lo ∨ lo + n ≤ a) : xP (mset I a f) lo n = xP I lo n := by
  funext c
  unfold xP
  by_cases hc : c < n
  · rw [if_pos hc, if_pos hc, mset_ne (by omega)]
  · rw [if_neg hc, if_neg hc]
/-- the table of the class against 'now' and what is told of the seats and the kinds -/
def GTab (T S B G now st th pi kd : Nat → Int32) (bo : Int32) : Prop :=
  (T 0 = now 1 ∧ T 1 = now 3 ∧ T 2 = now 4 ∧ T 3 = now 5 ∧ T 4 = now 0 ∧ T 5 = bo) ∧
  (∀ s, s < 12 → S s = st s + 5 ∧ S (12 + s) = th s ∧ S (24 + s) = now (6 + s) ∧ S (36 + s) = pi s ∧ S (48 + s) = now (18 + s)) ∧
  (∀ b, b < 8 → B b = kd b ∧ B (8 + b) = now (40 + b) ∧ B (16 + b) = now (48 + b) ∧ B (24 + b) = now (56 + b) ∧ B (32 + b) = now (64 + b) ∧ B (40 + b) = now (72 + b)) ∧
  (∀ k, k < 10 → G k = now (30 + k))
/-- x is one of lo .. hi -/
def gIn (x : Int32) (lo hi : Int) : Prop := lo ≤ x.toInt ∧ x.toInt ≤ hi
def GRng (now st th pi kd : Nat → Int32) (bo : Int32) : Prop :=
  gIn bo 0 8 ∧
  (∀ s, s < 12 → gIn (st s) (-5) 4 ∧ gIn (pi s) 0 1 ∧ gIn (now (18 + s)) 0 999) ∧
  (∀ b, b < 8 → gIn (kd b) 0 4 ∧ gIn (now (48 + b)) 0 11 ∧ gIn (now (56 + b)) 0 1 ∧ gIn (now (40 + b)) 0 99)
/-- THE BOOK -/
def GBook (n : Int32) (c : Nat → Int32) (m : Int32) (d : Nat → Int32) : Prop := n = m ∧ ∃ k : Nat, k ≤ 150 ∧ m = nI k ∧ ∀ i, i < 4 * k → c i = d i
/-- what can be undone: a ring against a row of rows -/
def GPast (nx ct : Int32) (ls : Nat → Int32) (tb : gb_Mem) (rw : Nat → Int32) (un : Int32) (sz : Int32) (st th pi kd : Nat → Int32) (bo : Int32) : Prop :=
  ct = un ∧ ∃ x k : Nat, x < 6 ∧ k ≤ 6 ∧ nx = nI x ∧ un = nI k ∧
  ∀ i, i < k → GTab (tb (4 * ((x + 6 - k + i) % 6))) (tb (4 * ((x + 6 - k + i) % 6) + 1)) (tb (4 * ((x + 6 - k + i) % 6) + 2)) (tb (4 * ((x + 6 - k + i) % 6) + 3)) (fun j => rw (80 * i + j)) st th pi kd bo ∧ GRng (fun j => rw (80 * i + j)) st th pi kd bo ∧ ls ((x + 6 - k + i) % 6) = rw (80 * i + 2) ∧ gIn (rw (80 * i + 2)) 0 (if i + 1 < k then (rw (80 * (i + 1) + 2)).toInt else sz.toInt)
/-- the TAPE -/
def GTape (n : Int32) (c : Nat → Int32) (m : Int32) (d : Nat → Int32) : Prop := n = m ∧ ∃ k : Nat, k ≤ 400 ∧ m = nI k ∧ ∀ i, i < k → c i = d i ∧ gIn (d i) 0 255
/-- lists in rows of four -/
def GRow1 (lim : Nat) (n : Int32) (c : Nat → Int32) (m : Int32) (d : Nat → Int32) (lo hi : Int) : Prop := n = m ∧ ∃ k : Nat, k ≤ lim ∧ m = nI k ∧ ∀ i, i < k → c (4 * i) = d i ∧ gIn (d i) lo hi
def GRow2 (lim : Nat) (n : Int32) (c : Nat → Int32) (m : Int32) (d e : Nat → Int32) (R : Int32 → Int32 → Prop) : Prop := n = m ∧ ∃ k : Nat, k ≤ lim ∧ m = nI k ∧ ∀ i, i < k → c (4 * i) = d i ∧ c (4 * i + 1) = e i ∧ R (d i) (e i)
def gWd (j : Nat) : Int32 := ([32, 112, 97, 115, 115, 101, 115, 32, 112, 111, 117, 114, 115, 32, 115, 112, 105, 108, 108, 115, 32, 119, 104, 101, 110, 32, 111, 114, 32, 97, 110, 100, 32, 110, 111, 116, 32, 107, 105, 110, 100, 32, 102, 117, 108, 108, 32, 115, 107, 105, 110, 32, 115, 116, 101, 97, 100, 121, 32, 116, 104, 105, 114, 115, 116, 32, 108, 111, 118, 101, 32, 112, 105, 114, 97, 116, 101, 32, 115, 101, 97, 116, 32, 104, 101, 97, 100, 32, 102, 111, 103, 32, 115, 116, 97, 105, 110, 32, 109, 105, 110, 117, 116, 101, 32, 98, 111, 97, 116, 32, 97, 103, 97, 105, 110, 32, 97, 116, 32, 116, 97, 108, 107, 32, 115, 97, 108, 116, 32, 102, 105, 108, 108, 32, 116, 117, 114, 110, 32, 116, 111, 32] : List Int32).getD j 0
/-- VOYAGES: who sets out again, and how full -/
def gVoy (c : Nat → Int32) (b : Int32) : Nat → Int32
  | 0 => 0
  | k + 1 => if c (4 * k) = b then c (4 * k + 1) else gVoy c b k
def GVoy (n : Int32) (c : Nat → Int32) (m : Int32) (d : Nat → Int32) : Prop := n = m ∧ ∃ k : Nat, k ≤ 16 ∧ m = nI k ∧ (∀ i, i < k → gIn (c (4 * i)) 0 7 ∧ gIn (c (4 * i + 1)) 1 99) ∧ ∀ b, b < 8 → d b = gVoy c (nI b) k
/-- DINNER -/
def gDeed (w : Int32) : Int32 := if w = 212 then 0 else if w = 222 then 1 else if w = 223 then 2 else if w = 224 then 3 else 4
def GDin (n : Int32) (c : Nat → Int32) (m : Int32) (d : Nat → Int32) : Prop := n = m ∧ ∃ k : Nat, k ≤ 16 ∧ m = nI k ∧ ∀ i, i < k → d (4 * i) = c (4 * i) ∧ d (4 * i + 1) = gDeed (c (4 * i + 1)) ∧ d (4 * i + 2) = c (4 * i + 2) ∧ d (4 * i + 3) = c (4 * i + 3) ∧ (c (4 * i + 1) = 212 ∨ gIn (c (4 * i + 1)) 222 225) ∧ (c (4 * i + 1) = 223 → gIn (c (4 * i + 2)) 0 11) ∧ ((c (4 * i + 1) = 224 ∨ c (4 * i + 1) = 225) → gIn (c (4 * i + 2)) 0 7) ∧ (c (4 * i + 1) = 224 → gIn (c (4 * i + 3)) 0 99)
/-- pairs told one by one against sets of bits: bit j of d a says that (a, j) was told -/
def gPair (c : Nat → Int32) (a j : Int32) : Nat → Bool
  | 0 => false
  | k + 1 => (c (4 * k) == a && c (4 * k + 1) == j) || gPair c a j k
def GRea (n : Int32) (c : Nat → Int32) (m : Int32) (d : Nat → Int32) : Prop := n = m ∧ ∃ k : Nat, k ≤ 16 ∧ m = nI k ∧ (∀ i, i < k → gIn (c (4 * i)) 0 11 ∧ gIn (c (4 * i + 1)) 0 11) ∧ ∀ a, a < 12 → (d a).toBitVec.toNat < 4096 ∧ ∀ j, j < 12 → (d a).toBitVec.toNat.testBit j = (gPair c (nI a) (nI j) k || gPair c (nI j) (nI a) k)
def GGiv (n : Int32) (c : Nat → Int32) (m : Int32) (d : Nat → Int32) : Prop := n = m ∧ ∃ k : Nat, k ≤ 16 ∧ m = nI k ∧ (∀ i, i < k → gIn (c (4 * i)) 0 7 ∧ gIn (c (4 * i + 1)) 0 7 ∧ c (4 * i) ≠ c (4 * i + 1)) ∧ ∀ a, a < 8 → (d a).toBitVec.toNat < 256 ∧ ∀ j, j < 8 → (d a).toBitVec.toNat.testBit j = gPair c (nI a) (nI j) k
/-- THE LAW's steps, counted as the reference counts them, and as the class does -/
def gSt (o : Nat) : Nat := if o = 0 then 0 else if o = 1 then 1 else if o = 5 then 2 else if o = 9 then 3 else if o < 5 then o + 2 else if o < 9 then o + 1 else o
def gMs (s : Nat × Nat) : List (Nat × Nat) := if s.1 = 5 then [(0, s.2), (5, 0)] else [s]
def gMl (p : List (Nat × Nat)) : List (Nat × Nat) := p.flatMap gMs
def cAt (code : Nat → Int32) : Nat → List (Nat × Nat) → Prop
  | _, [] => True
  | a, s :: p => code a = nI (16384 * gSt s.1 + s.2) ∧ cAt code (a + 1) p
def mAt (op arg : Nat → Int32) : Nat → List (Nat × Nat) → Prop
  | _, [] => True
  | a, s :: p => op a = nI s.1 ∧ arg a = nI s.2 ∧ mAt op arg (a + 1) p
/-- what stands on the pile: numbers (false), yes or no (true) -/
def gTy1 (s : Nat × Nat) (t : List Bool) : Option (List Bool) :=
  if s.1 = 0 then (if s.2 < 10000 then some (false :: t) else none)
  else if s.1 = 1 then (if s.2 < 12 then some (false :: t) else none)
  else match t with
    | [] => none
    | x :: t =>
      if s.1 = 5 then (if 0 < s.2 ∧ s.2 < 10000 ∧ x = false then some (false :: t) else none)
      else if s.1 = 9 then (if s.2 = 0 ∧ x = true then some (true :: t) else none)
      else match t with
        | [] => none
        | y :: t =>
          if s.1 ≤ 4 then (if s.2 = 0 ∧ x = false ∧ y = false then some (false :: t) else none)
          else if s.1 ≤ 8 then (if s.2 = 0 ∧ x = false ∧ y = false then some (true :: t) else none)
          else if s.1 ≤ 11 then (if s.2 = 0 ∧ x = true ∧ y = true then some (true :: t) else none)
          else none
def gTy : List (Nat × Nat) → List Bool → Option (List Bool)
  | [], t => some t
  | s :: p, t => match gTy1 s t with
    | some u => if u.length ≤ 60 then gTy p u else none
    | none => none
/-- one line of THE LAW -/
def GLine (l : Nat) (a7 a8 a9 m12 m13 m14 m15 m16 m17 : Nat → Int32) : Prop :=
  ∃ (p q : List (Nat × Nat)) (a c : Nat), a8 l = m12 l ∧
    a9 (2 * l) = nI a ∧ a9 (2 * l + 1) = nI (a + p.length) ∧ a9 (2 * l + 2) = nI (a + p.length + q.length) ∧ a + p.length + q.length ≤ 400 ∧ cAt a7 a p ∧ cAt a7 (a + p.length) q ∧
    m13 l = nI c ∧ m14 l = nI (c + (gMl p).length) ∧ m15 l = nI (c + (gMl p).length + (gMl q).length) ∧ c + (gMl p).length + (gMl q).length ≤ 400 ∧ mAt m16 m17 c (gMl p) ∧ mAt m16 m17 (c + (gMl p).length) (gMl q) ∧
    gTy p [] = some [false] ∧ (q = [] ∨ gTy q [] = some [true])
def GLaw (n : Int32) (a7 a8 a9 : Nat → Int32) (m : Int32) (m12 m13 m14 m15 m16 m17 : Nat → Int32) : Prop := n = m ∧ ∃ k : Nat, k ≤ 16 ∧ m = nI k ∧ ∀ l, l < k → GLine l a7 a8 a9 m12 m13 m14 m15 m16 m17
/-- all that an image keeps -/
def GWorld (IX IM : gb_Mem) : Prop :=
  GTab (IX 2) (IX 3) (IX 4) (IX 5) (IM 1) (IM 4) (IM 5) (IM 6) (IM 7) (IM 0 6) ∧
  GRng (IM 1) (IM 4) (IM 5) (IM 6) (IM 7) (IM 0 6) ∧
  GBook (IX 17 2) (IX 18) (IM 1 2) (IM 8) ∧
  GLaw (IX 6 4) (IX 7) (IX 8) (IX 9) (IM 11 0) (IM 12) (IM 13) (IM 14) (IM 15) (IM 16) (IM 17) ∧
  GVoy (IX 11 2) (IX 12) (IM 0 35) (IM 19) ∧
  GDin (IX 13 2) (IX 14) (IM 0 37) (IM 20) ∧
  GRea (IX 15 2) (IX 16) (IM 0 39) (IM 21) ∧
  GRow1 12 (IX 19 2) (IX 20) (IM 26 0) (IM 27) 0 9 ∧
  GRow1 12 (IX 21 2) (IX 22) (IM 26 1) (fun i => IM 27 (12 + i)) 0 9 ∧
  GRow2 8 (IX 23 2) (IX 24) (IM 0 50) (IM 30) (IM 31) (fun a b => gIn a 0 99 ∧ gIn b 0 1) ∧
  GRow1 10 (IX 25 2) (IX 26) (IM 0 53) (IM 32) 0 4095 ∧
  GGiv (IX 27 2) (IX 28) (IM 0 56) (IM 34) ∧
  GRow2 9 (IX 29 2) (IX 30) (IM 0 58) (IM 35) (IM 36) (fun a b => gIn a 0 99 ∧ gIn b 1 100 ∧ a < b) ∧
  GRow2 8 (IX 31 2) (IX 32) (IM 0 61) (IM 37) (IM 38) (fun a b => gIn a 0 99 ∧ gIn b 0 99 ∧ a ≤ b) ∧
  GRow2 9 (IX 33 2) (IX 34) (IM 0 64) (IM 39) (IM 40) (fun a b => gIn a 1 30 ∧ gIn b 0 99)
/-- the image: the kept world as a memory, the kept row as a memory -/
def vX (K : gb_Mem) : gb_Mem := fun c => K (c - 1)
def vM (g : Nat → Int32) : gb_Mem := fun c j =>
  if c = 0 then (if j = 6 then g 80 else if j = 35 then g 81 else if j = 37 then g 82 else if j = 39 then g 83 else if j = 50 then g 86 else if j = 53 then g 87 else if j = 56 then g 88 else if j = 58 then g 89 else if j = 61 then g 90 else g 91)
  else if c = 1 then g j else if c = 26 then g (84 + j)
  else if c = 4 then g (92 + 4 * j) else if c = 5 then g (93 + 4 * j) else if c = 6 then g (94 + 4 * j) else if c = 21 then g (95 + 4 * j)
  else if c = 7 then g (140 + 7 * j) else if c = 19 then g (141 + 7 * j) else if c = 30 then g (142 + 7 * j) else if c = 31 then g (143 + 7 * j) else if c = 34 then g (144 + 7 * j) else if c = 37 then g (145 + 7 * j) else if c = 38 then g (146 + 7 * j)
  else if c = 27 then g (196 + j) else if c = 32 then g (220 + j)
  else if c = 35 then g (230 + 4 * j) else if c = 36 then g (231 + 4 * j) else if c = 39 then g (232 + 4 * j) else if c = 40 then g (233 + 4 * j)
  else if c = 20 then g (266 + j) else if c = 8 then g (330 + j) else if c = 11 then g (930 + j)
  else if c = 12 then g (931 + 4 * j) else if c = 13 then g (932 + 4 * j) else if c = 14 then g (933 + 4 * j) else if c = 15 then g (934 + 4 * j)
  else if c = 16 then g (995 + 2 * j) else g (996 + 2 * j)
def GImg (h : Int32) (K : gb_Mem) (g : Int32) (im : Nat → Int32) : Prop := h = g ∧ (h = 0 ∨ h = 1 ∧ GWorld (vX K) (vM im))
/-- the limits of the class's rows, the words of the reference: what never changes -/
def GFix (IX : gb_Mem) (wd : Nat → Int32) : Prop :=
  (IX 11 0 = 16 ∧ IX 13 0 = 16 ∧ IX 15 0 = 16 ∧ IX 17 0 = 150 ∧ IX 19 0 = 12 ∧ IX 21 0 = 12 ∧ IX 23 0 = 8 ∧ IX 25 0 = 10 ∧ IX 27 0 = 16 ∧ IX 29 0 = 9 ∧ IX 31 0 = 8 ∧ IX 33 0 = 9 ∧ IX 119 0 = 16) ∧
  (IX 45 0 = 16 ∧ IX 47 0 = 16 ∧ IX 49 0 = 16 ∧ IX 51 0 = 150 ∧ IX 53 0 = 12 ∧ IX 55 0 = 12 ∧ IX 57 0 = 8 ∧ IX 59 0 = 10 ∧ IX 61 0 = 16 ∧ IX 63 0 = 9 ∧ IX 65 0 = 8 ∧ IX 67 0 = 9) ∧
  (IX 100 2 = 0 ∧ IX 102 2 = 1) ∧ (∀ j, j < 142 → wd j = gWd j) ∧ (IX 108 0 = 0 ∧ IX 109 0 = 0 ∧ IX 117 0 = 0)
def GInv (IX IM : gb_Mem) : Prop :=
  GFix IX (IM 10) ∧ IM 0 5 = 0 ∧ GWorld IX IM ∧
  GPast (IX 69 2) (IX 69 3) (IX 71) (xP IX 72 24) (IM 2) (IM 0 3) (IM 1 2) (IM 4) (IM 5) (IM 6) (IM 7) (IM 0 6) ∧
  GTape (IX 0 10) (IX 110) (IM 0 13) (IM 9) ∧ (IX 111 7 = IM 0 33 ∧ IX 111 8 = IM 0 34) ∧
  GImg (IX 0 2) (xP IX 35 34) (IM 0 68) (IM 41)
