/-! The words in which the methods' functions are told: loads, stores, guards, calls, loops; 'none' is: left its rows, or out of turns. -/
def inb (i : Int32) (n : Nat) : Bool := decide (¬ (i < 0 ∨ n ≤ i.toNatClampNeg))
theorem inb_iff {i : Int32} {n : Nat} : inb i n = true ↔ vp_in i n := by unfold inb vp_in; exact decide_eq_true_iff
def flod {α : Type} (I : gb_Mem) (a n : Nat) (i : Int32) (k : Int32 → Option α) : Option α := if inb i n = true then k (I a i.toNatClampNeg) else none
def fsto {α : Type} (I : gb_Mem) (a n : Nat) (i v : Int32) (k : gb_Mem → Option α) : Option α := if inb i n = true then k (mw I a i.toNatClampNeg v) else none
def fstf {α : Type} (I : gb_Mem) (a j : Nat) (v : Int32) (k : gb_Mem → Option α) : Option α := k (mw I a j v)
def flt {α : Type} (e : Int32) (k : Int32 → Option α) : Option α := k e
def fgd {α : Type} (b : Bool) (k : Option α) : Option α := if b = true then k else none
def fgr {α : Type} (i : Int32) (k : Int32 → Option α) : Option α := if inb i 8 = true then k (gb_gr i.toNatClampNeg) else none
def fbd {α β : Type} (o : Option α) (k : α → Option β) : Option β := match o with
  | none => none
  | some a => k a
def fbr {α β γ : Type} (o : Option (α ⊕ γ)) (k : α → Option β) (kr : γ → Option β) : Option β := match o with
  | none => none
  | some (.inl a) => k a
  | some (.inr c) => kr c
section FE
variable {α β γ : Type} {I : gb_Mem} {a n j : Nat} {i v e : Int32} {r : α}
theorem flod_e {k : Int32 → Option α} (h : flod I a n i k = some r) : vp_in i n ∧ ∃ x, x = I a i.toNatClampNeg ∧ k x = some r := by
  unfold flod at h
  by_cases hc : inb i n = true
  · rw [if_pos hc] at h; exact ⟨inb_iff.mp hc, _, rfl, h⟩
  · rw [if_neg hc] at h; cases h
theorem fgr_e {k : Int32 → Option α} (h : fgr i k = some r) : vp_in i 8 ∧ ∃ x, x = gb_gr i.toNatClampNeg ∧ k x = some r := by
  unfold fgr at h
  by_cases hc : inb i 8 = true
  · rw [if_pos hc] at h; exact ⟨inb_iff.mp hc, _, rfl, h⟩
  · rw [if_neg hc] at h; cases h
theorem fsto_e {k : gb_Mem → Option α} (h : fsto I a n i v k = some r) : vp_in i n ∧ ∃ I2, I2 = mw I a i.toNatClampNeg v ∧ k I2 = some r := by
  unfold fsto at h
  by_cases hc : inb i n = true
  · rw [if_pos hc] at h; exact ⟨inb_iff.mp hc, _, rfl, h⟩
  · rw [if_neg hc] at h; cases h
theorem fstf_e {k : gb_Mem → Option α} (h : fstf I a j v k = some r) : ∃ I2, I2 = mw I a j v ∧ k I2 = some r := ⟨_, rfl, h⟩
theorem flt_e {k : Int32 → Option α} (h : flt e k = some r) : ∃ x, x = e ∧ k x = some r := ⟨_, rfl, h⟩
theorem fgd_e {b : Bool} {k : Option α} (h : fgd b k = some r) : b = true ∧ k = some r := by
  unfold fgd at h
  by_cases hc : b = true
  · rw [if_pos hc] at h; exact ⟨hc, h⟩
  · rw [if_neg hc] at h; cases h
theorem fbd_e {o : Option β} {k : β → Option α} (h : fbd o k = some r) : ∃ x, o = some x ∧ k x = some r := by
  cases o with
  | none => cases h
  | some x => exact ⟨x, rfl, h⟩
theorem fbr_e {o : Option (β ⊕ γ)} {k : β → Option α} {kr : γ → Option α} (h : fbr o k kr = some r) : (∃ x, o = some (.inl x) ∧ k x = some r) ∨ ∃ c, o = some (.inr c) ∧ kr c = some r := by
  cases o with
  | none => cases h
  | some x =>
    cases x with
    | inl x => exact Or.inl ⟨x, rfl, h⟩
    | inr c => exact Or.inr ⟨c, rfl, h⟩
theorem fbr_e2 {o : Option (β ⊕ γ)} {k : β → Option α} {kr : γ → Option α} (h : fbr o k kr = some r) : ∃ ρ, o = some ρ ∧ (∀ x, ρ = .inl x → k x = some r) ∧ ∀ c, ρ = .inr c → kr c = some r := by
  cases o with
  | none => cases h
  | some x =>
    cases x with
    | inl x => exact ⟨.inl x, rfl, fun y e => (by cases e; exact h), fun c e => (by cases e)⟩
    | inr c => exact ⟨.inr c, rfl, fun y e => (by cases e), fun c e => (by cases e; exact h)⟩
end FE
section Rules2
variable {l : Launch} {M : gb_MI} {d kc ks pc : Nat} {lv : List (Nat × gb_AV)} {st : List gb_AV} {Sh : List gb_Ce} {I : gb_Mem} {post : Option gb_AV → List gb_Ce → gb_Mem → Prop}
def gb_po (Sh : List gb_Ce) (v : Option gb_AV) (I : gb_Mem) : Option gb_AV → List gb_Ce → gb_Mem → Prop := fun v2 Sh2 I2 => v2 = v ∧ Sh2 = Sh ∧ I2 = I
theorem gb_po_i {v : Option gb_AV} : gb_po Sh v I v Sh I := ⟨rfl, rfl, rfl⟩
theorem go_lv {lv' : List (Nat × gb_AV)} (ps : List Nat) (h : ps.filterMap (fun k => lv[k]?) = lv') (K : gb_Go l M d kc ks pc lv' st Sh I post) : gb_Go l M d kc ks pc lv st Sh I post := by
  intro p e R s m args below meth c D cI cR ad ad0 n0 A H locs cells slots mc ms ls hF h1 h2 h3 h4 h5 h6 hW hn hE hl
  refine K p e R s m args below meth c D cI cR ad ad0 n0 A H locs cells slots mc ms ls hF h1 h2 h3 h4 h5 h6 hW hn hE (gb_lv_sub hl ?_)
  intro q hq
  rw [← h] at hq
  obtain ⟨k, -, hk⟩ := List.mem_filterMap.mp hq
  exact List.mem_of_getElem? hk
theorem go_iald2 {a n : Nat} {i v : Int32} (hd : decode M.2.1 pc = .ok (.iaload, 1)) (hs : Sh[a]? = some (.inl (.inl n))) (hin : vp_in i n) (hv : v = I a i.toNatClampNeg)
    (K : gb_Go l M d kc ks (pc + 1) lv (.inl v :: st) Sh I post) : gb_Go l M d kc ks pc lv (.inl i :: .inr (some a) :: st) Sh I post := by
  subst hv; exact go_iald hd hs hin K
theorem go_ialdG2 {i v : Int32} (hd : decode M.2.1 pc = .ok (.iaload, 1)) (hin : vp_in i 8) (hv : v = gb_gr i.toNatClampNeg)
    (K : gb_Go l M d kc ks (pc + 1) lv (.inl v :: st) Sh I post) : gb_Go l M d kc ks pc lv (.inl i :: .inr (some 1000) :: st) Sh I post := by
  subst hv; exact go_ialdG hd hin K
/-- the value on top gets its name -/
theorem go_top {x v : Int32} (hv : v = x) (K : gb_Go l M d kc ks pc lv (.inl v :: st) Sh I post) : gb_Go l M d kc ks pc lv (.inl x :: st) Sh I post := by subst hv; exact K
end Rules2
