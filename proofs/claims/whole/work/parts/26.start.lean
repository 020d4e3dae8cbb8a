set_option maxRecDepth 20000 in
theorem lw_clX : Cond.classLink "GravyBoatsLaw" 7 "GravyBoats" ∈ gb_all := gb_t1 (List.mem_of_getElem? (i := 20) rfl) rfl
set_option maxRecDepth 20000 in
theorem lw_clM : Cond.classLink "GravyBoatsLaw" 10 "GravyBoatsModel" ∈ gb_all := gb_t5 (List.mem_of_getElem? (i := 128) rfl) rfl
set_option maxRecDepth 20000 in
theorem lw_miX : Cond.methodLink "GravyBoatsLaw" 9 yGb_init.1 ∈ gb_all := gb_t1 (List.mem_of_getElem? (i := 22) rfl) rfl
set_option maxRecDepth 20000 in
theorem lw_miM : Cond.methodLink "GravyBoatsLaw" 12 yMo_init.1 ∈ gb_all := gb_t5 (List.mem_of_getElem? (i := 130) rfl) rfl
set_option maxRecDepth 20000 in
theorem lw_aI : Cond.arrayClass .int ∈ lw_tbl := List.mem_append_right _ (lw_t1 (List.mem_of_getElem? (i := 81) rfl))
set_option maxRecDepth 20000 in
theorem lw_aO : Cond.arrayOver (.object "GravyBoats$Table") ∈ lw_tbl := List.mem_append_right _ (lw_t1 (List.mem_of_getElem? (i := 209) rfl))
def lw_ad (q : Nat) (ac : Nat → Nat) : Nat → Nat := fun i => if i = 0 then q else ac i
theorem lw_adC {q : Nat} {ac : Nat → Nat} {A : Nat → Prop} {s : State} {H : Heap} (h : gb_Cn ac A s H) : gb_Cn (lw_ad q ac) A s H := h.ad (fun i hi => by unfold lw_ad; rw [if_neg (by omega)])
/-- a fresh cell as a world of one -/
theorem lw_one {q : Nat} {ac : Nat → Nat} {cI cR : ClassId} {ci : Nat} {fs : List (Option (Option Nat))} (hfs : ∀ x ∈ fs, x = none ∨ x = some none) : gb_w (lw_ad q ac) cI cR [.inr (ci, fs)] (fun _ _ => 0) = [(q, .inr (ci, fs.map gb_df))] := by
  show [(lw_ad q ac 0, gb_c (lw_ad q ac) cI cR (fun _ => 0) (.inr (ci, fs)))] = _
  have e0 : lw_ad q ac 0 = q := rfl
  rw [e0]
  congr 2
  show (Sum.inr (ci, fs.mapIdx (gb_f (lw_ad q ac) (fun _ => 0))) : va_E) = Sum.inr (ci, fs.map gb_df)
  congr 2
  apply List.ext_getElem?
  intro i
  rw [List.getElem?_map, List.getElem?_mapIdx]
  cases hx : fs[i]? with
  | none => rfl
  | some x => rcases hfs x (List.mem_of_getElem? hx) with rfl | rfl <;> rfl
set_option maxHeartbeats 8000000 in
set_option maxRecDepth 20000 in
theorem whole_start0 {Inv : gb_Mem → gb_Mem → Prop} (hSi : lw_Sims Inv) (hI0 : Inv iX_136 iM_143) {p : Program} {e : Env} {s : State} {m : MethodId} {below : List Frame} {meth : Method} {c : Code} (l : Launch) {b L : Nat} {xs : Nat → Int32} (hL : L ≤ 3072) (C0 : lw_At p s m meth c b L xs) : W p l e room_1 s m #[Value.ref b] below meth c s.heap [] 0 0 (lw_Z below #[Value.ref b] s) (entryFrame m ([Value.ref b] : List Value).toArray 4) := by
  obtain ⟨hx, hb, hr, hml, hown, hts, hX, hbl, hlocks, hgv⟩ := id C0
  have hF := lw_all C0
  have hg := hF.2.2.2.2.2.2.2
  obtain ⟨D, hDc⟩ := lw_classes hts
  obtain ⟨ac, hac⟩ := lw_consts C0
  obtain ⟨cI, kI, compI, i1, i2, i3⟩ := Cond.arrayClass_spec (hts _ lw_aI)
  obtain ⟨compR, cR, kR, r1, -, r2, r3, r4⟩ := Cond.arrayOver_spec (hts _ lw_aO)
  have hK : va_K D gb_CL [(cI, .int)] s := ⟨hDc, fun k q hq => by
    have h1 : k < 1 := (List.getElem?_eq_some_iff.mp hq).1
    obtain rfl : k = 0 := (by omega)
    cases hq
    exact ⟨fun n z => ⟨fun k h => (by cases h), kI, i2, compI, i3⟩, i1⟩⟩
  have hR : gb_Rr D cR [] s := fun rs _ => ⟨hDc, fun k q hq => by
    have h1 : k < 1 := (List.getElem?_eq_some_iff.mp hq).1
    obtain rfl : k = 0 := (by omega)
    cases hq
    exact ⟨fun n z => ⟨fun k h => (by cases h), kR, r2, compR, r3⟩, kR, compR, r2, r3, r1, r4⟩⟩
  have hA : ∀ q : Nat, s.heap.size ≤ q → (fun q : Nat => s.heap.size ≤ q) q := fun _ h => h
  have hS : va_S (fun q : Nat => s.heap.size ≤ q) s.heap s.heap [] := va_S.rf
  have hP : va_P D gb_CL [] s.heap := fun k q h => by simp at h
  have hD : va_D (fun q : Nat => s.heap.size ≤ q) [] := ⟨fun i j p q h => by simp at h, fun k q h => by simp at h⟩
  have hl := lv_entry ([.ref b]) (n := 4) (Nat.le_of_ble_eq_true rfl)
  rw [lg_entry_eq]
  generalize (lg_sl ([.ref b]) ++ List.replicate (4 - (lg_sl ([.ref b])).length) Slot.unset).toArray = ls at hl ⊢
  have hl : lv_has ls 4 [(0, .ref b)] := hl
  refine va_new (ci := 0) (fs := ([some none, some none, none, some none, some none, some none, some none, some none, some none, some none, none, some none] : List (Option (Option Nat))).map gb_df) (C := "GravyBoats") (T := TGb) (N := 12) hx hb hg (gb_cl_all (gb_mem_of (ci := 0) rfl)) (gb_ET.getD 0 eGb) (gb_ty_of (ci := 0) (q := ("GravyBoats", TGb, 12)) rfl) hown (hg _ lw_clX) (hg _ in_Gb) (hg _ n_Gb) hK hP hD hS hA rfl df_Gb (by decide) (by decide) d_law_0 (fun q0 H1 hP1 hD1 hS1 => ?_)
  have hW0 : gb_Wd D cI cR (lw_ad q0 ac) (fun q => s.heap.size ≤ q) s H1 [] sX_0 iX_0 := by
    refine ⟨hK, hR, ?_, ?_, hS1, hA, lw_adC hac, by decide⟩
    · show va_P D gb_CL (gb_w (lw_ad q0 ac) cI cR [.inr (0, [some none, some none, none, some none, some none, some none, some none, some none, some none, some none, none, some none])] (fun _ _ => 0)) H1
      rw [lw_one (by decide)]; exact hP1
    · show va_D _ (gb_w (lw_ad q0 ac) cI cR [.inr (0, [some none, some none, none, some none, some none, some none, some none, some none, some none, some none, none, some none])] (fun _ _ => 0))
      rw [lw_one (by decide)]; exact hD1
  refine lv_dup hx hb d_law_3 rfl ?_
  have hcbX : CallB room_1 s #[Value.ref b] "GravyBoatsLaw" 9 yGb_init.1 yGb_init.2.1 yGb_init.2.2.1 none (Cond.code yGb_init.1 yGb_init.2.1 yGb_init.2.2.1 yGb_init.2.2.2 :: gb_all) { frames := 100 + 3, cells := 120, slots := 7589, locals := 40 * (100 + 3) } 120 7589 0 := gb_cb (R := room_1) (M := (⟨"GravyBoatsLaw", meth.name, "([I)Z"⟩, code, 4, ret)) (y := yGb_init) hF s_yGb_init.1 s_yGb_init.2.1 s_yGb_init.2.2.1 lw_miX (by decide) (by decide)
  refine lw_back (mc := 120) (ms := 7589) hW0 (va_runI (As := []) (rest := [.ref q0]) ⟨hx, hb, hml, hown, hg⟩ (kX_46 l 100 D cI cR (lw_ad q0 ac) H1.size) ⟨hcbX, rfl, hg _ s_yGb_init.2.2.2.1⟩ ⟨gb_blind, fun U hU hw => gb_pre hW0 [.inr (some 0)] U hU hw⟩ rfl rfl hl.1 rfl (lv_room (Nat.le_of_ble_eq_true rfl)) d_law_4 ⟨by decide, by decide⟩) ?_
  intro v1 Sh1 I1 adX H2 locs2 hp hn1 hE1 hW1 hk1 hDD1
  obtain ⟨rfl, rfl, rfl⟩ := hp
  rw [shX_eq] at hW1 hE1 hDD1 hn1
  have eX0 : adX 0 = q0 := hE1 0 (Or.inl (by decide))
  refine lv_astore_n (lv' := [(1, .ref (adX 0)), (0, .ref b)]) (x := q0) hx hb d_law_7 rfl hl (by decide) (by rw [eX0]; rfl) (fun ls hl => ?_)
  obtain ⟨w1, w2, w3, w4, w5, w6, w7, w8⟩ := hW1
  refine va_new (ci := 10) (fs := ([none, some none, some none, none, some none, none, none, some none, some none, some none, some none, some none, some none, none, none, none, none, none, some none, some none, some none, some none, some none, some none, some none, some none, none, none, none, some none, none, none, none, none, none, none, some none, none, some none, none, some none, some none, some none, none, some none, some none, some none, some none, some none, some none, none, some none, some none, none, some none, some none, none, some none, none, some none, some none, none, some none, some none, none, some none, some none, none, none, none, some none] : List (Option (Option Nat))).map gb_df) (C := "GravyBoatsModel") (T := TMo) (N := 71) hx hb hg (gb_cl_all (gb_mem_of (ci := 10) rfl)) (gb_ET.getD 10 eGb) (gb_ty_of (ci := 10) (q := ("GravyBoatsModel", TMo, 71)) rfl) hown (hg _ lw_clM) (hg _ in_Mo) (hg _ n_Mo) hK w3 w4 w5 hA rfl df_Mo (by decide) (by decide) d_law_8 (fun q1 H3 hP3 hD3 hS3 => ?_)
  have hlen : (gb_w adX cI cR shX iX_136).length = 121 := by rw [gb_w_len]; rfl
  have hPX : va_P D gb_CL (gb_w adX cI cR shX iX_136) H3 := fun k q hk => hP3 k q (by rw [List.getElem?_append_left (by rw [hlen]; exact (gb_w_fst hk).1)]; exact hk)
  have hM1 : ∀ (k : Nat) (q : Nat × va_E), ([(q1, .inr (10, ([none, some none, some none, none, some none, none, none, some none, some none, some none, some none, some none, some none, none, none, none, none, none, some none, some none, some none, some none, some none, some none, some none, some none, none, none, none, some none, none, none, none, none, none, none, some none, none, some none, none, some none, some none, some none, none, some none, some none, some none, some none, some none, some none, none, some none, some none, none, some none, some none, none, some none, none, some none, some none, none, some none, some none, none, some none, some none, none, none, none, some none] : List (Option (Option Nat))).map gb_df))] : va_W)[k]? = some q → (gb_w adX cI cR shX iX_136 ++ [(q1, .inr (10, ([none, some none, some none, none, some none, none, none, some none, some none, some none, some none, some none, some none, none, none, none, none, none, some none, some none, some none, some none, some none, some none, some none, some none, none, none, none, some none, none, none, none, none, none, none, some none, none, some none, none, some none, some none, some none, none, some none, some none, some none, some none, some none, some none, none, some none, some none, none, some none, some none, none, some none, none, some none, some none, none, some none, some none, none, some none, some none, none, none, none, some none] : List (Option (Option Nat))).map gb_df))])[121 + k]? = some q := fun k q hk => by
    rw [List.getElem?_append_right (by omega), hlen, Nat.add_sub_cancel_left]; exact hk
  have hPM : va_P D gb_CL [(q1, .inr (10, ([none, some none, some none, none, some none, none, none, some none, some none, some none, some none, some none, some none, none, none, none, none, none, some none, some none, some none, some none, some none, some none, some none, some none, none, none, none, some none, none, none, none, none, none, none, some none, none, some none, none, some none, some none, some none, none, some none, some none, some none, some none, some none, some none, none, some none, some none, none, some none, some none, none, some none, none, some none, some none, none, some none, some none, none, some none, some none, none, none, none, some none] : List (Option (Option Nat))).map gb_df))] H3 := fun k q hk => hP3 (121 + k) q (hM1 k q hk)
  have hDM : va_D (fun q => s.heap.size ≤ q) [(q1, .inr (10, ([none, some none, some none, none, some none, none, none, some none, some none, some none, some none, some none, some none, none, none, none, none, none, some none, some none, some none, some none, some none, some none, some none, some none, none, none, none, some none, none, none, none, none, none, none, some none, none, some none, none, some none, some none, some none, none, some none, some none, some none, some none, some none, some none, none, some none, some none, none, some none, some none, none, some none, none, some none, some none, none, some none, some none, none, some none, some none, none, none, none, some none] : List (Option (Option Nat))).map gb_df))] := ⟨fun i j a c hi hj h => by
    have := hD3.1 (121 + i) (121 + j) a c (hM1 i a hi) (hM1 j c hj) h
    omega, fun k q hk => hD3.2 (121 + k) q (hM1 k q hk)⟩
  have hne : ∀ i, i < 121 → adX i ≠ q1 := fun i hi h => by
    obtain ⟨cell, hcell⟩ : ∃ cell, shX[i]? = some cell := ⟨_, List.getElem?_eq_getElem (by exact hi)⟩
    have h1 : (gb_w adX cI cR shX iX_136 ++ [(q1, .inr (10, ([none, some none, some none, none, some none, none, none, some none, some none, some none, some none, some none, some none, none, none, none, none, none, some none, some none, some none, some none, some none, some none, some none, some none, none, none, none, some none, none, none, none, none, none, none, some none, none, some none, none, some none, some none, some none, none, some none, some none, some none, some none, some none, some none, none, some none, some none, none, some none, some none, none, some none, none, some none, some none, none, some none, some none, none, some none, some none, none, none, none, some none] : List (Option (Option Nat))).map gb_df))])[i]? = some (adX i, gb_c adX cI cR (iX_136 i) cell) := by
      rw [List.getElem?_append_left (by rw [hlen]; exact hi)]; exact gb_w_at hcell
    have := hD3.1 i (121 + 0) _ _ h1 (hM1 0 _ rfl) h
    omega
  have hWM0 : gb_Wd D cI cR (lw_ad q1 ac) (fun q => s.heap.size ≤ q) s H3 locs2 sM_0 iM_0 := by
    refine ⟨hK, hR, ?_, ?_, hS3, hA, lw_adC hac, by decide⟩
    · show va_P D gb_CL (gb_w (lw_ad q1 ac) cI cR [.inr (10, [none, some none, some none, none, some none, none, none, some none, some none, some none, some none, some none, some none, none, none, none, none, none, some none, some none, some none, some none, some none, some none, some none, some none, none, none, none, some none, none, none, none, none, none, none, some none, none, some none, none, some none, some none, some none, none, some none, some none, some none, some none, some none, some none, none, some none, some none, none, some none, some none, none, some none, none, some none, some none, none, some none, some none, none, some none, some none, none, none, none, some none])] (fun _ _ => 0)) H3
      rw [lw_one (by decide)]; exact hPM
    · show va_D _ (gb_w (lw_ad q1 ac) cI cR [.inr (10, [none, some none, some none, none, some none, none, none, some none, some none, some none, some none, some none, some none, none, none, none, none, none, some none, some none, some none, some none, some none, some none, some none, some none, none, none, none, some none, none, none, none, none, none, none, some none, none, some none, none, some none, some none, some none, none, some none, some none, some none, some none, some none, some none, none, some none, some none, none, some none, some none, none, some none, none, some none, some none, none, some none, some none, none, some none, some none, none, none, none, some none])] (fun _ _ => 0))
      rw [lw_one (by decide)]; exact hDM
  refine lv_dup hx hb d_law_11 rfl ?_
  have hcbM : CallB room_1 s #[Value.ref b] "GravyBoatsLaw" 12 yMo_init.1 yMo_init.2.1 yMo_init.2.2.1 none (Cond.code yMo_init.1 yMo_init.2.1 yMo_init.2.2.1 yMo_init.2.2.2 :: gb_all) { frames := 100 + 1, cells := 41, slots := 7875, locals := 40 * (100 + 1) } 41 7875 0 := gb_cb (R := room_1) (M := (⟨"GravyBoatsLaw", meth.name, "([I)Z"⟩, code, 4, ret)) (y := yMo_init) hF s_yMo_init.1 s_yMo_init.2.1 s_yMo_init.2.2.1 lw_miM (by decide) (by decide)
  refine lw_back (mc := 41) (ms := 7875) hWM0 (va_runI (As := []) (rest := [.ref q1]) ⟨hx, hb, hml, hown, hg⟩ (kM_1 l 100 D cI cR (lw_ad q1 ac) H3.size) ⟨hcbM, rfl, hg _ s_yMo_init.2.2.2.1⟩ ⟨gb_blind, fun U hU hw => gb_pre hWM0 [.inr (some 0)] U hU hw⟩ rfl rfl hl.1 rfl (lv_room (Nat.le_of_ble_eq_true rfl)) d_law_12 ⟨by decide, by decide⟩) ?_
  intro v2 Sh2 I2 adM H4 locs4 hp2 hn2 hE2 hW2 hk2 hDD2
  obtain ⟨rfl, rfl, rfl⟩ := hp2
  rw [shM_eq] at hW2 hE2 hDD2 hn2
  have eM0 : adM 0 = q1 := hE2 0 (Or.inl (by decide))
  have hdis : ∀ i j, i < 121 → j < 42 → adX i ≠ adM j := by
    intro i j hi hj h
    obtain ⟨cell, hcell⟩ : ∃ cell, shX[i]? = some cell := ⟨_, List.getElem?_eq_getElem (by exact hi)⟩
    obtain ⟨cellM, hcellM⟩ : ∃ cell, shM[j]? = some cell := ⟨_, List.getElem?_eq_getElem (by exact hj)⟩
    have hlt : adX i < H3.size := (hPX i _ (gb_w_at hcell)).lt
    have h2 := hDD2.2 j _ (gb_w_at hcellM)
    rcases h2 with ⟨k, x9, h3⟩ | h3
    · obtain ⟨g1, g2⟩ := gb_w_fst h3
      have hk0 : k = 0 := by
        have : k < 1 := g1
        omega
      subst hk0
      have g3 : adM j = q1 := g2
      exact hne i hi (h.trans g3)
    · have h4 : H3.size ≤ adM j := h3
      omega
  refine lv_astore_n (lv' := [(2, .ref (adM 0)), (1, .ref (adX 0)), (0, .ref b)]) (x := q1) hx hb d_law_15 rfl hl (by decide) (by rw [eM0]; rfl) (fun ls hl => ?_)
  refine lv_iconst (v := 0) hx hb d_law_16 (by decide) ?_
  refine lv_istore_n (lv' := [(3, .int 0), (2, .ref (adM 0)), (1, .ref (adX 0)), (0, .ref b)]) hx hb d_law_17 rfl hl (by decide) rfl (fun ls hl => ?_)
  refine W.widen (k := 200) (n := 20000) (by decide) (by decide) ?_
  refine lw_loop hL C0 (D := D) (cI := cI) (cR := cR) (adX := adX) (adM := adM) hSi 600 0 (by omega) (by omega) H4 locs4 iX_136 iM_143 hI0 ⟨hK, hR, ?_, hW2.2.2.1, w4, hW2.2.2.2.1, hdis, hW2.2.2.2.2.1, w7, hW2.2.2.2.2.2.2.1⟩ ls (lv_sub hl [3, 2, 1, 0] rfl)
  exact lw_keep (Sh := sM_0) (ad := lw_ad q1 ac) hPX (fun i j hi hj h => by
    have hi0 : i = 0 := by
      have : i < 1 := hi
      omega
    subst hi0
    exact hne j hj h.symm) hk2

