/-! The layer: a world of numbered cells over the kit's worlds; 'gb_Go' hides the machine behind pc, locals, stack, shape and ints. -/
def gb_isNest : Cond → Bool
  | .methodLinkNest .. => true
  | .fieldLinkNest .. => true
  | _ => false
def gb_ok (w : Cond) : Bool := goodWord w || gb_isNest w
def gb_all : List Cond := lw_tbl.filter gb_ok
theorem gb_warm {w : Cond} (hw : w ∈ gb_all) {args a' : Array Value} {s U : State} (hW : s.WarmedH U.vm) (h : w.before args s = true) : w.before a' U = true := by
  have h1 : gb_ok w = true := (List.mem_filter.mp hw).2
  by_cases hg : goodWord w = true
  · exact word_at hW (good_of_word hg) h
  · have h2 : gb_isNest w = true := by
      unfold gb_ok at h1
      rcases Bool.or_eq_true_iff.mp h1 with h3 | h3
      · exact absurd h3 hg
      · exact h3
    cases w with
    | methodLinkNest a i x host => exact va_Nw.use rfl (va_Nw.warmM hW (va_Nw.of rfl h))
    | fieldLinkNest a i b n d host => exact va_Nw.use rfl (va_Nw.warmF hW (va_Nw.of rfl h))
    | _ => exact absurd h2 (by simp [gb_isNest])
theorem gb_in {i : Nat} {w : Cond} (h : lw_tbl[i]? = some w) (ho : gb_ok w = true) : w ∈ gb_all := List.mem_filter.mpr ⟨List.mem_of_getElem? h, ho⟩
/-- values: an int, or a reference by its cell's number -/
abbrev gb_AV : Type := Int32 ⊕ Option Nat
abbrev gb_Mem : Type := Nat → Nat → Int32
/-- a cell: an int row of a length, a row of references, an object of a class (a field: none an int, some r a reference) -/
abbrev gb_Ce : Type := (Nat ⊕ List (Option Nat)) ⊕ (Nat × List (Option (Option Nat)))
def gb_v (ad : Nat → Nat) : gb_AV → Value
  | .inl x => .int x
  | .inr none => .null
  | .inr (some a) => .ref (ad a)
def gb_f (ad : Nat → Nat) (f : Nat → Int32) (k : Nat) : Option (Option Nat) → Value
  | none => .int (f k)
  | some none => .null
  | some (some a) => .ref (ad a)
def gb_c (ad : Nat → Nat) (cI cR : ClassId) (f : Nat → Int32) : gb_Ce → va_E
  | .inl (.inl n) => .inl (cI, n, .inl f)
  | .inl (.inr rs) => .inl (cR, rs.length, .inr (.inr (.inr (.inr (fun k => (rs.getD k none).map ad)))))
  | .inr (ci, fs) => .inr (ci, fs.mapIdx (gb_f ad f))
def gb_w (ad : Nat → Nat) (cI cR : ClassId) (Sh : List gb_Ce) (I : gb_Mem) : va_W := Sh.mapIdx (fun i c => (ad i, gb_c ad cI cR (I i) c))
/-- a cell's ints anew -/
def mset (I : gb_Mem) (a : Nat) (f : Nat → Int32) : gb_Mem := fun b => if b = a then f else I b
def mw (I : gb_Mem) (a k : Nat) (v : Int32) : gb_Mem := mset I a (upd (I a) k v)
theorem gb_w_at {ad : Nat → Nat} {cI cR : ClassId} {Sh : List gb_Ce} {I : gb_Mem} {a : Nat} {c : gb_Ce} (h : Sh[a]? = some c) : (gb_w ad cI cR Sh I)[a]? = some (ad a, gb_c ad cI cR (I a) c) := by
  unfold gb_w
  rw [List.getElem?_mapIdx, h]
  rfl
theorem gb_w_len {ad : Nat → Nat} {cI cR : ClassId} {Sh : List gb_Ce} {I : gb_Mem} : (gb_w ad cI cR Sh I).length = Sh.length := by simp [gb_w]
theorem gb_w_set {ad : Nat → Nat} {cI cR : ClassId} {Sh : List gb_Ce} {I : gb_Mem} {a : Nat} {c : gb_Ce} (h : Sh[a]? = some c) (f : Nat → Int32) : (gb_w ad cI cR Sh I).set a (ad a, gb_c ad cI cR f c) = gb_w ad cI cR Sh (mset I a f) := by
  apply List.ext_getElem?
  intro i
  by_cases hi : i = a
  · subst hi
    rw [List.getElem?_set_self (by rw [gb_w_len]; exact (List.getElem?_eq_some_iff.mp h).1), gb_w_at h]
    simp [mset]
  · rw [List.getElem?_set_ne (Ne.symm hi)]
    unfold gb_w
    rw [List.getElem?_mapIdx, List.getElem?_mapIdx]
    simp [mset, hi]
theorem gb_fs_set {ad : Nat → Nat} {f : Nat → Int32} {fs : List (Option (Option Nat))} {k : Nat} (h : fs[k]? = some none) (v : Int32) : (fs.mapIdx (gb_f ad f)).set k (.int v) = fs.mapIdx (gb_f ad (upd f k v)) := by
  apply List.ext_getElem?
  intro i
  by_cases hi : i = k
  · subst hi
    rw [List.getElem?_set_self (by simp; exact (List.getElem?_eq_some_iff.mp h).1), List.getElem?_mapIdx, h]
    simp [gb_f, upd]
  · rw [List.getElem?_set_ne (Ne.symm hi), List.getElem?_mapIdx, List.getElem?_mapIdx]
    cases fs[i]? with
    | none => rfl
    | some x =>
      cases x with
      | none => simp [gb_f, upd, hi]
      | some r => cases r <;> simp [gb_f]
theorem gb_fs_at {ad : Nat → Nat} {f : Nat → Int32} {fs : List (Option (Option Nat))} {k : Nat} {x : Option (Option Nat)} (h : fs[k]? = some x) : (fs.mapIdx (gb_f ad f))[k]? = some (gb_f ad f k x) := by
  rw [List.getElem?_mapIdx, h]; rfl
-- the classes' rows, by program
theorem gb_cl_in : ∀ q ∈ gb_CL, ∀ w ∈ u_ws q.1 q.2.1 q.2.2, w ∈ lw_tbl := by decide +kernel
theorem gb_cl_ok : ∀ q ∈ gb_CL, ∀ w ∈ u_ws q.1 q.2.1 q.2.2, gb_ok w = true := by decide +kernel
theorem gb_cl_all {q : vw_C} (h : q ∈ gb_CL) : ∀ w ∈ u_ws q.1 q.2.1 q.2.2, w ∈ gb_all := fun w hw => List.mem_filter.mpr ⟨gb_cl_in q h w hw, gb_cl_ok q h w hw⟩
theorem gb_cl_nm : ∀ q ∈ gb_CL, ∀ a, a < q.2.2 → ∀ b, b < q.2.2 → a ≠ b → (q.2.1 a).2.1 ≠ (q.2.1 b).2.1 := by decide +kernel
theorem gb_cl_ty : ∀ i, i < 11 → ∀ k, k < (gb_CL.getD i ("", TGb, 0)).2.2 → parseFieldDescriptor ((gb_CL.getD i ("", TGb, 0)).2.1 k).2.2.1 = some ((gb_ET.getD i eGb) k) := by decide +kernel
theorem gb_cl_own : ∀ q ∈ gb_CL, ∀ a, a < q.2.2 → (q.2.1 a).1 = q.1 := by decide +kernel
theorem gb_ty_of {ci : Nat} {q : vw_C} (h : gb_CL[ci]? = some q) : ∀ k, k < q.2.2 → parseFieldDescriptor (q.2.1 k).2.2.1 = some ((gb_ET.getD ci eGb) k) := by
  have hl : ci < 11 := (List.getElem?_eq_some_iff.mp h).1
  have h2 : gb_CL.getD ci ("", TGb, 0) = q := by rw [List.getD_eq_getElem?_getD, h]; rfl
  have h3 := gb_cl_ty ci hl
  rw [h2] at h3
  exact h3
