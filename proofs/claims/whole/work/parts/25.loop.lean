def lw_Sims (Inv : gb_Mem → gb_Mem → Prop) : Prop := S_state Inv ∧ S_boat Inv ∧ S_set Inv ∧ S_act Inv ∧ S_minutes Inv ∧ S_feed Inv ∧ S_end Inv ∧ S_text Inv ∧ S_fault Inv ∧ S_of Inv ∧ S_seat Inv ∧ S_got Inv ∧ S_book Inv ∧ S_goes Inv ∧ S_brings Inv ∧ S_hands Inv ∧ S_letter Inv ∧ S_both Inv ∧ S_candles Inv ∧ S_stained Inv ∧ S_convoy Inv ∧ S_meets Inv ∧ S_flag Inv ∧ S_spoons Inv ∧ S_treaty Inv ∧ S_gives Inv ∧ S_way Inv ∧ S_cloth Inv ∧ S_free Inv ∧ S_report Inv ∧ S_sprouts Inv ∧ S_jar Inv ∧ S_stowed Inv ∧ S_game Inv ∧ S_undo Inv ∧ S_image Inv ∧ S_look Inv
theorem lw_t1 {w : Cond} (h : w ∈ tables_1_1) : w ∈ tables_1 := by unfold tables_1; simp only [List.mem_append, h, true_or, or_true]
theorem lw_t2 {w : Cond} (h : w ∈ tables_1_2) : w ∈ tables_1 := by unfold tables_1; simp only [List.mem_append, h, true_or, or_true]
theorem lw_t3 {w : Cond} (h : w ∈ tables_1_3) : w ∈ tables_1 := by unfold tables_1; simp only [List.mem_append, h, true_or, or_true]
theorem lw_t4 {w : Cond} (h : w ∈ tables_1_4) : w ∈ tables_1 := by unfold tables_1; simp only [List.mem_append, h, true_or, or_true]
theorem lw_t5 {w : Cond} (h : w ∈ tables_1_5) : w ∈ tables_1 := by unfold tables_1; simp only [List.mem_append, h, true_or, or_true]
theorem lw_t6 {w : Cond} (h : w ∈ tables_1_6) : w ∈ tables_1 := by unfold tables_1; simp only [List.mem_append, h, true_or, or_true]
theorem lw_t7 {w : Cond} (h : w ∈ tables_1_7) : w ∈ tables_1 := by unfold tables_1; simp only [List.mem_append, h, true_or, or_true]
theorem lw_t8 {w : Cond} (h : w ∈ tables_1_8) : w ∈ tables_1 := by unfold tables_1; simp only [List.mem_append, h, true_or, or_true]
/-- the statement's words on what stands at the start, in a row -/
def lw_fl : List Cond := flatC (Jvm.Cond.and given_1 narrow_1)
def lw_g0 (j : Nat) : Cond := .eq (.elem (.static "GravyBoats" "GREATEST" "[I") (.int (Int32.ofNat j))) (.int (gb_gr j))
def lw_s0 (j : Nat) : Cond := .eq (.elem (.field (.string "GravyBoats$Reader" 166) "java/lang/String" "value" "[B") (.int (Int32.ofNat j))) (.int (gb_by0 j))
def lw_s1 (j : Nat) : Cond := .eq (.elem (.field (.string "GravyBoats$Reader" 159) "java/lang/String" "value" "[B") (.int (Int32.ofNat j))) (.int (gb_by1 j))
theorem lw_g0_in : (List.range 8).map lw_g0 = (lw_fl.drop 7).take 8 := by decide +kernel
theorem lw_s0_in : (List.range 141).map lw_s0 = (lw_fl.drop 24).take 141 := by decide +kernel
theorem lw_s1_in : (List.range 10).map lw_s1 = (lw_fl.drop 169).take 10 := by decide +kernel
set_option maxHeartbeats 4000000 in
set_option maxRecDepth 20000 in
theorem lw_consts {p : Program} {s : State} {m : MethodId} {meth : Method} {c : Code} {b L : Nat} {xs : Nat → Int32} (C0 : lw_At p s m meth c b L xs) : ∃ ac : Nat → Nat, gb_Cn ac (fun q => s.heap.size ≤ q) s s.heap := by
  obtain ⟨hx, hb, hr, hml, hown, hts, hX, hbl, hlocks, hgv⟩ := C0
  have hs := flat_of_before _ hgv
  have hA : ∀ a : Nat, a < s.heap.size → ¬ (fun q : Nat => s.heap.size ≤ q) a := fun a h => Nat.not_le.mpr h
  have htb : ∀ w ∈ tables_1, w.before #[Value.ref b] s = true := fun w hw => hts w (List.mem_append_right _ hw)
  obtain ⟨t0, ht0, hT0⟩ := va_Tof (tm := .static "GravyBoats" "GREATEST" "[I") (ty := .int) (N := 8) (f := fun j => .int (gb_gr j)) (A := fun q => s.heap.size ≤ q) (by decide) (hs _ (by decide +kernel)) (va_eqt (hs _ (by decide +kernel))) (fun j hj => va_eqt (hs _ (va_run lw_g0_in j hj))) hA
  have hZ0 := va_Zof (A := fun q => s.heap.size ≤ q) (htb (.laysStatic "GravyBoats" "GREATEST" "[I") (lw_t2 (List.mem_of_getElem? (i := 136) rfl))) (htb (.initialized "GravyBoats") (lw_t1 (List.mem_of_getElem? (i := 1) rfl))) ht0 hA
  have hZc := va_Zof (A := fun q => s.heap.size ≤ q) (htb (.laysStatic "java/lang/String" "COMPACT_STRINGS" "Z") (lw_t3 (List.mem_of_getElem? (i := 158) rfl))) (htb (.initialized "java/lang/String") (lw_t1 (List.mem_of_getElem? (i := 14) rfl))) (va_eqi (z := 1) (hs _ (by decide +kernel))) hA
  have hZf := va_Zqof (A := fun q => s.heap.size ≤ q) (htb (.laysStatic "jdk/internal/util/Preconditions" "SIOOBE_FORMATTER" "Ljava/util/function/BiFunction;") (lw_t3 (List.mem_of_getElem? (i := 174) rfl))) (htb (.initialized "jdk/internal/util/Preconditions") (lw_t1 (List.mem_of_getElem? (i := 16) rfl))) (hs _ (by decide +kernel)) hA
  obtain ⟨k0, v0, hS0, hE0⟩ := vk_Sof (N := 1) (tm := fun _ => .string "GravyBoats$Reader" 166) (len := [141]) (byt := [(List.range 141).map gb_by0]) (A := fun q => s.heap.size ≤ q) (args := #[Value.ref b]) (s := s) (fun i hi => by obtain rfl : i = 0 := (by omega); decide) (fun i _ => hs _ (by decide +kernel)) (fun i _ => hs _ (by decide +kernel)) (fun i _ => hs _ (by decide +kernel)) (fun i hi => by obtain rfl : i = 0 := (by omega); exact hs _ (by decide +kernel)) (fun i hi j hj => by obtain rfl : i = 0 := (by omega); have e : (([(List.range 141).map gb_by0] : List (List Int32)).getD 0 []).getD j 0 = gb_by0 j := (by simp [List.getD_eq_getElem?_getD, show j < 141 from hj]); rw [e]; exact hs _ (va_run lw_s0_in j hj)) (fun i j hi hj h => absurd (by omega) h) hA
  obtain ⟨k1, v1, hS1, hE1⟩ := vk_Sof (N := 1) (tm := fun _ => .string "GravyBoats$Reader" 159) (len := [10]) (byt := [(List.range 10).map gb_by1]) (A := fun q => s.heap.size ≤ q) (args := #[Value.ref b]) (s := s) (fun i hi => by obtain rfl : i = 0 := (by omega); decide) (fun i _ => hs _ (by decide +kernel)) (fun i _ => hs _ (by decide +kernel)) (fun i _ => hs _ (by decide +kernel)) (fun i hi => by obtain rfl : i = 0 := (by omega); exact hs _ (by decide +kernel)) (fun i hi j hj => by obtain rfl : i = 0 := (by omega); have e : (([(List.range 10).map gb_by1] : List (List Int32)).getD 0 []).getD j 0 = gb_by1 j := (by simp [List.getD_eq_getElem?_getD, show j < 10 from hj]); rw [e]; exact hs _ (va_run lw_s1_in j hj)) (fun i j hi hj h => absurd (by omega) h) hA
  have hR0 : vk_R "GravyBoats$Reader" 166 gb_tx0 (k0 0) s := vk_R.of (htb (.stringRef "GravyBoats$Reader" 166 gb_tx0) (lw_t3 (List.mem_of_getElem? (i := 148) rfl))) (hE0 0 (by decide))
  have hR1 : vk_R "GravyBoats$Reader" 159 gb_tx1 (k1 0) s := vk_R.of (htb (.stringRef "GravyBoats$Reader" 159 gb_tx1) (lw_t3 (List.mem_of_getElem? (i := 205) rfl))) (hE1 0 (by decide))
  have hAO : va_AO "GravyBoats$Table" s := va_AO.of (htb (.arrayOver (.object "GravyBoats$Table")) (lw_t1 (List.mem_of_getElem? (i := 209) rfl)))
  obtain ⟨o1, o2, o3, o4⟩ := hS0.1 0 (by decide)
  obtain ⟨p1, p2, p3, p4⟩ := hS1.1 0 (by decide)
  have fin : ∀ f0 : Nat, (va_Z "jdk/internal/util/Preconditions" "SIOOBE_FORMATTER" "Ljava/util/function/BiFunction;" .null (fun q => s.heap.size ≤ q) s s.heap ∨ va_Z "jdk/internal/util/Preconditions" "SIOOBE_FORMATTER" "Ljava/util/function/BiFunction;" (.ref f0) (fun q => s.heap.size ≤ q) s s.heap) → ∃ ac : Nat → Nat, gb_Cn ac (fun q => s.heap.size ≤ q) s s.heap := by
    intro f0 hf
    refine ⟨fun i => if i = 1000 then t0 else if i = 1001 then k0 0 else if i = 1002 then v0 0 else if i = 1003 then k1 0 else if i = 1004 then v1 0 else f0, ⟨hZ0, hT0⟩, ⟨hR0, o1, o2, o3, ?_⟩, ⟨hR1, p1, p2, p3, ?_⟩, hZc, hAO, hf⟩
    · obtain ⟨cell, g1, g2, g3, g4, g5, g6, g7⟩ := o4
      exact ⟨cell, g1, g2, g3, g4, g5, fun j hj => by rw [g6 j hj]; simp [List.getD_eq_getElem?_getD, hj], g7⟩
    · obtain ⟨cell, g1, g2, g3, g4, g5, g6, g7⟩ := p4
      exact ⟨cell, g1, g2, g3, g4, g5, fun j hj => by rw [g6 j hj]; simp [List.getD_eq_getElem?_getD, hj], g7⟩
  rcases hZf with h | ⟨t, h⟩
  · exact fin 0 (Or.inl h)
  · exact fin t (Or.inr h)

theorem lw_ins : ∀ q ∈ gb_CL, Cond.instantiable q.1 q.2.2 ∈ lw_tbl := by
  intro q hq
  simp only [gb_CL, List.mem_cons, List.mem_nil_iff, or_false] at hq
  rcases hq with rfl | rfl | rfl | rfl | rfl | rfl | rfl | rfl | rfl | rfl | rfl
  · exact (List.mem_filter.mp in_Gb).1
  · exact (List.mem_filter.mp in_Wo).1
  · exact (List.mem_filter.mp in_Ta).1
  · exact (List.mem_filter.mp in_La).1
  · exact (List.mem_filter.mp in_Ro).1
  · exact (List.mem_filter.mp in_Pa).1
  · exact (List.mem_filter.mp in_Co).1
  · exact (List.mem_filter.mp in_Se).1
  · exact (List.mem_filter.mp in_Re).1
  · exact (List.mem_filter.mp in_Rd).1
  · exact (List.mem_filter.mp in_Mo).1
theorem lw_classes {s : State} {args : Array Value} (hts : ∀ w ∈ lw_tbl, w.before args s = true) : ∃ D : va_G, ∀ (k : Nat) (q : vw_C), gb_CL[k]? = some q → u_Kn s q.1 q.2.1 q.2.2 (D.1 k) (D.2 k) := by
  have h0 : ∀ k : Nat, ∃ d : ClassId × (Nat → Nat), ∀ q : vw_C, gb_CL[k]? = some q → u_Kn s q.1 q.2.1 q.2.2 d.1 d.2 := by
    intro k
    cases hk : gb_CL[k]? with
    | none => exact ⟨(0, fun _ => 0), fun q h => by cases h⟩
    | some q0 =>
      have hm := List.mem_of_getElem? hk
      obtain ⟨cC, iS, hu⟩ := u_known hts (gb_cl_in q0 hm) (hts _ (lw_ins q0 hm))
      exact ⟨(cC, iS), fun q h => by cases h; exact hu⟩
  obtain ⟨f, hf⟩ := Classical.axiomOfChoice h0
  exact ⟨(fun k => (f k).1, fun k => (f k).2), hf⟩
set_option maxHeartbeats 4000000 in
set_option maxRecDepth 20000 in
theorem lw_loop {p : Program} {l : Launch} {e : Env} {s : State} {m : MethodId} {below : List Frame} {meth : Method} {c : Code} {b L : Nat} {xs : Nat → Int32} (hL : L ≤ 3072) (C0 : lw_At p s m meth c b L xs) {D : va_G} {cI cR : ClassId} {adX adM : Nat → Nat} {Inv : gb_Mem → gb_Mem → Prop} (hSi : lw_Sims Inv) : ∀ (n t : Nat), t ≤ L + 6 → L + 6 ≤ t + 6 * n → ∀ (H : Heap) (locs : List Loc) (IX IM : gb_Mem), Inv IX IM → lw_W D cI cR adX adM s H locs IX IM → ∀ (ls : Array Slot), lv_has ls 4 [(0, .ref b), (1, .ref (adX 0)), (2, .ref (adM 0)), (3, .int (nI t))] → W p l e room_1 s m #[Value.ref b] below meth c H locs 200 20000 (lw_Z below #[Value.ref b] s) (F0 m 18 ls []) := by
  obtain ⟨hx, hb, hr, hml, hown, hts, hX, hbl, hlocks, hgv⟩ := id C0
  have hbA : ¬ (fun q : Nat => s.heap.size ≤ q) b := Nat.not_le.mpr hbl
  intro n
  induction n with
  | zero =>
    intro t h1 h2 H locs IX IM hI hW ls hl
    refine lv_iload_n hx hb d_law_18 rfl (lv_at hl 3 rfl) ?_
    refine lv_aload_n hx hb d_law_19 rfl (lv_at hl 0 rfl) ?_
    refine va_slen hx hb hX hbl hbA hW.2.2.2.2.2.2.2.1 d_law_20 ?_
    refine lv_bipush (v := 6) hx hb d_law_21 (by decide) ?_
    refine lv_isub hx hb d_law_23 ?_
    refine lv_icmp_gt (tgt := 1389) hx hb d_law_24 (by decide) (fun hc => ?_) (fun hc => ?_)
    · refine lv_iconst (v := 1) hx hb d_law_1389 (by decide) ?_
      refine va_forget (fun q hq => hW.2.2.2.2.2.2.2.1.2.2 q hq) ?_
      refine W.widen (k := 600000) (n := 7302250) (by decide) (by decide) ?_
      exact lw_ret hx hb hr hlocks d_law_1390
    · exfalso
      apply hc
      rw [Int32.lt_iff_toInt_lt, show Int32.ofNat L - 6 = nI L - nI 6 from rfl, pk_sub_toInt (by omega) (by omega), nI_toInt (by omega)]
      omega
  | succ n ih =>
    intro t h1 h2 H locs IX IM hI hW ls hl
    refine lv_iload_n hx hb d_law_18 rfl (lv_at hl 3 rfl) ?_
    refine lv_aload_n hx hb d_law_19 rfl (lv_at hl 0 rfl) ?_
    refine va_slen hx hb hX hbl hbA hW.2.2.2.2.2.2.2.1 d_law_20 ?_
    refine lv_bipush (v := 6) hx hb d_law_21 (by decide) ?_
    refine lv_isub hx hb d_law_23 ?_
    refine lv_icmp_gt (tgt := 1389) hx hb d_law_24 (by decide) (fun hc => ?_) (fun hc => ?_)
    · refine lv_iconst (v := 1) hx hb d_law_1389 (by decide) ?_
      refine va_forget (fun q hq => hW.2.2.2.2.2.2.2.1.2.2 q hq) ?_
      refine W.widen (k := 600000) (n := 7302250) (by decide) (by decide) ?_
      exact lw_ret hx hb hr hlocks d_law_1390
    · have ht : t + 6 ≤ L := by
        rcases Nat.lt_or_ge L (t + 6) with q | q
        · exfalso
          apply hc
          rw [Int32.lt_iff_toInt_lt, show Int32.ofNat L - 6 = nI L - nI 6 from rfl, pk_sub_toInt (by omega) (by omega), nI_toInt (by omega)]
          omega
        · exact q
      have KK : ∀ (IX2 IM2 : gb_Mem) (H2 : Heap) (locs2 : List Loc), Inv IX2 IM2 → lw_W D cI cR adX adM s H2 locs2 IX2 IM2 → W p l e room_1 s m #[Value.ref b] below meth c H2 locs2 200 20000 (lw_Z below #[Value.ref b] s) (F0 m 1383 ls []) := by
        intro IX2 IM2 H2 locs2 hI2 hW2
        refine lv_iinc (v := nI (t + 6)) (lv' := [(3, .int (nI (t + 6))), (0, .ref b), (1, .ref (adX 0)), (2, .ref (adM 0))]) hx hb d_law_1383 hl (k := 3) rfl (nI_add t 6) (by decide) rfl (fun ls2 hl2 => ?_)
        refine lv_goto (tgt := 18) hx hb d_law_1386 (by decide) ?_
        exact ih (t + 6) (by omega) (by omega) H2 locs2 IX2 IM2 hI2 hW2 ls2 (lv_sub hl2 [1, 2, 3, 0] rfl)
      refine lv_aload_n hx hb d_law_27 rfl (lv_at hl 0 rfl) ?_
      refine lv_iload_n hx hb d_law_28 rfl (lv_at hl 3 rfl) ?_
      refine va_sld hx hb hX hbl hbA hW.2.2.2.2.2.2.2.1 (vp_in_nI (by omega) (by omega)) d_law_29 ?_
      refine lv_bipush (v := 63) hx hb d_law_30 (by decide) ?_
      refine lv_iand hx hb d_law_32 ?_
      generalize xs (nI t).toNatClampNeg &&& 63 = z
      by_cases hc0 : z = 0
      · refine lv_tableIn (tgt := 196) hx hb d_law_33 (by rw [hc0]; decide) (by rw [hc0]; decide) (by rw [hc0]; rfl) (by decide) ?_
        exact lw_case_state hL C0 (hSi.1) ht hI hW hl KK
      by_cases hc1 : z = 1
      · refine lv_tableIn (tgt := 219) hx hb d_law_33 (by rw [hc1]; decide) (by rw [hc1]; decide) (by rw [hc1]; rfl) (by decide) ?_
        exact lw_case_boat hL C0 (hSi.2.1) ht hI hW hl KK
      by_cases hc2 : z = 2
      · refine lv_tableIn (tgt := 272) hx hb d_law_33 (by rw [hc2]; decide) (by rw [hc2]; decide) (by rw [hc2]; rfl) (by decide) ?_
        exact lw_case_set hL C0 (hSi.2.2.1) ht hI hW hl KK
      by_cases hc3 : z = 3
      · refine lv_tableIn (tgt := 315) hx hb d_law_33 (by rw [hc3]; decide) (by rw [hc3]; decide) (by rw [hc3]; rfl) (by decide) ?_
        exact lw_case_act hL C0 (hSi.2.2.2.1) ht hI hW hl KK
      by_cases hc4 : z = 4
      · refine lv_tableIn (tgt := 358) hx hb d_law_33 (by rw [hc4]; decide) (by rw [hc4]; decide) (by rw [hc4]; rfl) (by decide) ?_
        exact lw_case_minutes hL C0 (hSi.2.2.2.2.1) ht hI hW hl KK
      by_cases hc5 : z = 5
      · refine lv_tableIn (tgt := 381) hx hb d_law_33 (by rw [hc5]; decide) (by rw [hc5]; decide) (by rw [hc5]; rfl) (by decide) ?_
        exact lw_case_feed hL C0 (hSi.2.2.2.2.2.1) ht hI hW hl KK
      by_cases hc6 : z = 6
      · refine lv_tableIn (tgt := 444) hx hb d_law_33 (by rw [hc6]; decide) (by rw [hc6]; decide) (by rw [hc6]; rfl) (by decide) ?_
        exact lw_case_end hL C0 (hSi.2.2.2.2.2.2.1) ht hI hW hl KK
      by_cases hc7 : z = 7
      · refine lv_tableIn (tgt := 467) hx hb d_law_33 (by rw [hc7]; decide) (by rw [hc7]; decide) (by rw [hc7]; rfl) (by decide) ?_
        exact lw_case_text hL C0 (hSi.2.2.2.2.2.2.2.1) ht hI hW hl KK
      by_cases hc8 : z = 8
      · refine lv_tableIn (tgt := 490) hx hb d_law_33 (by rw [hc8]; decide) (by rw [hc8]; decide) (by rw [hc8]; rfl) (by decide) ?_
        exact lw_case_fault hL C0 (hSi.2.2.2.2.2.2.2.2.1) ht hI hW hl KK
      by_cases hc9 : z = 9
      · refine lv_tableIn (tgt := 513) hx hb d_law_33 (by rw [hc9]; decide) (by rw [hc9]; decide) (by rw [hc9]; rfl) (by decide) ?_
        exact lw_case_of hL C0 (hSi.2.2.2.2.2.2.2.2.2.1) ht hI hW hl KK
      by_cases hc10 : z = 10
      · refine lv_tableIn (tgt := 546) hx hb d_law_33 (by rw [hc10]; decide) (by rw [hc10]; decide) (by rw [hc10]; rfl) (by decide) ?_
        exact lw_case_seat hL C0 (hSi.2.2.2.2.2.2.2.2.2.2.1) ht hI hW hl KK
      by_cases hc11 : z = 11
      · refine lv_tableIn (tgt := 579) hx hb d_law_33 (by rw [hc11]; decide) (by rw [hc11]; decide) (by rw [hc11]; rfl) (by decide) ?_
        exact lw_case_got hL C0 (hSi.2.2.2.2.2.2.2.2.2.2.2.1) ht hI hW hl KK
      by_cases hc12 : z = 12
      · refine lv_tableIn (tgt := 612) hx hb d_law_33 (by rw [hc12]; decide) (by rw [hc12]; decide) (by rw [hc12]; rfl) (by decide) ?_
        exact lw_case_book hL C0 (hSi.2.2.2.2.2.2.2.2.2.2.2.2.1) ht hI hW hl KK
      by_cases hc13 : z = 13
      · refine lv_tableIn (tgt := 645) hx hb d_law_33 (by rw [hc13]; decide) (by rw [hc13]; decide) (by rw [hc13]; rfl) (by decide) ?_
        exact lw_case_goes hL C0 (hSi.2.2.2.2.2.2.2.2.2.2.2.2.2.1) ht hI hW hl KK
      by_cases hc14 : z = 14
      · refine lv_tableIn (tgt := 678) hx hb d_law_33 (by rw [hc14]; decide) (by rw [hc14]; decide) (by rw [hc14]; rfl) (by decide) ?_
        exact lw_case_brings hL C0 (hSi.2.2.2.2.2.2.2.2.2.2.2.2.2.2.1) ht hI hW hl KK
      by_cases hc15 : z = 15
      · refine lv_tableIn (tgt := 711) hx hb d_law_33 (by rw [hc15]; decide) (by rw [hc15]; decide) (by rw [hc15]; rfl) (by decide) ?_
        exact lw_case_hands hL C0 (hSi.2.2.2.2.2.2.2.2.2.2.2.2.2.2.2.1) ht hI hW hl KK
      by_cases hc16 : z = 16
      · refine lv_tableIn (tgt := 754) hx hb d_law_33 (by rw [hc16]; decide) (by rw [hc16]; decide) (by rw [hc16]; rfl) (by decide) ?_
        exact lw_case_letter hL C0 (hSi.2.2.2.2.2.2.2.2.2.2.2.2.2.2.2.2.1) ht hI hW hl KK
      by_cases hc17 : z = 17
      · refine lv_tableIn (tgt := 787) hx hb d_law_33 (by rw [hc17]; decide) (by rw [hc17]; decide) (by rw [hc17]; rfl) (by decide) ?_
        exact lw_case_both hL C0 (hSi.2.2.2.2.2.2.2.2.2.2.2.2.2.2.2.2.2.1) ht hI hW hl KK
      by_cases hc18 : z = 18
      · refine lv_tableIn (tgt := 810) hx hb d_law_33 (by rw [hc18]; decide) (by rw [hc18]; decide) (by rw [hc18]; rfl) (by decide) ?_
        exact lw_case_candles hL C0 (hSi.2.2.2.2.2.2.2.2.2.2.2.2.2.2.2.2.2.2.1) ht hI hW hl KK
      by_cases hc19 : z = 19
      · refine lv_tableIn (tgt := 853) hx hb d_law_33 (by rw [hc19]; decide) (by rw [hc19]; decide) (by rw [hc19]; rfl) (by decide) ?_
        exact lw_case_stained hL C0 (hSi.2.2.2.2.2.2.2.2.2.2.2.2.2.2.2.2.2.2.2.1) ht hI hW hl KK
      by_cases hc20 : z = 20
      · refine lv_tableIn (tgt := 876) hx hb d_law_33 (by rw [hc20]; decide) (by rw [hc20]; decide) (by rw [hc20]; rfl) (by decide) ?_
        exact lw_case_convoy hL C0 (hSi.2.2.2.2.2.2.2.2.2.2.2.2.2.2.2.2.2.2.2.2.1) ht hI hW hl KK
      by_cases hc21 : z = 21
      · refine lv_tableIn (tgt := 909) hx hb d_law_33 (by rw [hc21]; decide) (by rw [hc21]; decide) (by rw [hc21]; rfl) (by decide) ?_
        exact lw_case_meets hL C0 (hSi.2.2.2.2.2.2.2.2.2.2.2.2.2.2.2.2.2.2.2.2.2.1) ht hI hW hl KK
      by_cases hc22 : z = 22
      · refine lv_tableIn (tgt := 932) hx hb d_law_33 (by rw [hc22]; decide) (by rw [hc22]; decide) (by rw [hc22]; rfl) (by decide) ?_
        exact lw_case_flag hL C0 (hSi.2.2.2.2.2.2.2.2.2.2.2.2.2.2.2.2.2.2.2.2.2.2.1) ht hI hW hl KK
      by_cases hc23 : z = 23
      · refine lv_tableIn (tgt := 955) hx hb d_law_33 (by rw [hc23]; decide) (by rw [hc23]; decide) (by rw [hc23]; rfl) (by decide) ?_
        exact lw_case_spoons hL C0 (hSi.2.2.2.2.2.2.2.2.2.2.2.2.2.2.2.2.2.2.2.2.2.2.2.1) ht hI hW hl KK
      by_cases hc24 : z = 24
      · refine lv_tableIn (tgt := 988) hx hb d_law_33 (by rw [hc24]; decide) (by rw [hc24]; decide) (by rw [hc24]; rfl) (by decide) ?_
        exact lw_case_treaty hL C0 (hSi.2.2.2.2.2.2.2.2.2.2.2.2.2.2.2.2.2.2.2.2.2.2.2.2.1) ht hI hW hl KK
      by_cases hc25 : z = 25
      · refine lv_tableIn (tgt := 1031) hx hb d_law_33 (by rw [hc25]; decide) (by rw [hc25]; decide) (by rw [hc25]; rfl) (by decide) ?_
        exact lw_case_gives hL C0 (hSi.2.2.2.2.2.2.2.2.2.2.2.2.2.2.2.2.2.2.2.2.2.2.2.2.2.1) ht hI hW hl KK
      by_cases hc26 : z = 26
      · refine lv_tableIn (tgt := 1064) hx hb d_law_33 (by rw [hc26]; decide) (by rw [hc26]; decide) (by rw [hc26]; rfl) (by decide) ?_
        exact lw_case_way hL C0 (hSi.2.2.2.2.2.2.2.2.2.2.2.2.2.2.2.2.2.2.2.2.2.2.2.2.2.2.1) ht hI hW hl KK
      by_cases hc27 : z = 27
      · refine lv_tableIn (tgt := 1087) hx hb d_law_33 (by rw [hc27]; decide) (by rw [hc27]; decide) (by rw [hc27]; rfl) (by decide) ?_
        exact lw_case_cloth hL C0 (hSi.2.2.2.2.2.2.2.2.2.2.2.2.2.2.2.2.2.2.2.2.2.2.2.2.2.2.2.1) ht hI hW hl KK
      by_cases hc28 : z = 28
      · refine lv_tableIn (tgt := 1120) hx hb d_law_33 (by rw [hc28]; decide) (by rw [hc28]; decide) (by rw [hc28]; rfl) (by decide) ?_
        exact lw_case_free hL C0 (hSi.2.2.2.2.2.2.2.2.2.2.2.2.2.2.2.2.2.2.2.2.2.2.2.2.2.2.2.2.1) ht hI hW hl KK
      by_cases hc29 : z = 29
      · refine lv_tableIn (tgt := 1153) hx hb d_law_33 (by rw [hc29]; decide) (by rw [hc29]; decide) (by rw [hc29]; rfl) (by decide) ?_
        exact lw_case_report hL C0 (hSi.2.2.2.2.2.2.2.2.2.2.2.2.2.2.2.2.2.2.2.2.2.2.2.2.2.2.2.2.2.1) ht hI hW hl KK
      by_cases hc30 : z = 30
      · refine lv_tableIn (tgt := 1186) hx hb d_law_33 (by rw [hc30]; decide) (by rw [hc30]; decide) (by rw [hc30]; rfl) (by decide) ?_
        exact lw_case_sprouts hL C0 (hSi.2.2.2.2.2.2.2.2.2.2.2.2.2.2.2.2.2.2.2.2.2.2.2.2.2.2.2.2.2.2.1) ht hI hW hl KK
      by_cases hc31 : z = 31
      · refine lv_tableIn (tgt := 1209) hx hb d_law_33 (by rw [hc31]; decide) (by rw [hc31]; decide) (by rw [hc31]; rfl) (by decide) ?_
        exact lw_case_jar hL C0 (hSi.2.2.2.2.2.2.2.2.2.2.2.2.2.2.2.2.2.2.2.2.2.2.2.2.2.2.2.2.2.2.2.1) ht hI hW hl KK
      by_cases hc32 : z = 32
      · refine lv_tableIn (tgt := 1242) hx hb d_law_33 (by rw [hc32]; decide) (by rw [hc32]; decide) (by rw [hc32]; rfl) (by decide) ?_
        exact lw_case_stowed hL C0 (hSi.2.2.2.2.2.2.2.2.2.2.2.2.2.2.2.2.2.2.2.2.2.2.2.2.2.2.2.2.2.2.2.2.1) ht hI hW hl KK
      by_cases hc33 : z = 33
      · refine lv_tableIn (tgt := 1285) hx hb d_law_33 (by rw [hc33]; decide) (by rw [hc33]; decide) (by rw [hc33]; rfl) (by decide) ?_
        exact lw_case_game hL C0 (hSi.2.2.2.2.2.2.2.2.2.2.2.2.2.2.2.2.2.2.2.2.2.2.2.2.2.2.2.2.2.2.2.2.2.1) ht hI hW hl KK
      by_cases hc34 : z = 34
      · refine lv_tableIn (tgt := 1308) hx hb d_law_33 (by rw [hc34]; decide) (by rw [hc34]; decide) (by rw [hc34]; rfl) (by decide) ?_
        exact lw_case_undo hL C0 (hSi.2.2.2.2.2.2.2.2.2.2.2.2.2.2.2.2.2.2.2.2.2.2.2.2.2.2.2.2.2.2.2.2.2.2.1) ht hI hW hl KK
      by_cases hc35 : z = 35
      · refine lv_tableIn (tgt := 1321) hx hb d_law_33 (by rw [hc35]; decide) (by rw [hc35]; decide) (by rw [hc35]; rfl) (by decide) ?_
        exact lw_case_image hL C0 (hSi.2.2.2.2.2.2.2.2.2.2.2.2.2.2.2.2.2.2.2.2.2.2.2.2.2.2.2.2.2.2.2.2.2.2.2.1) ht hI hW hl KK
      by_cases hc36 : z = 36
      · refine lv_tableIn (tgt := 1360) hx hb d_law_33 (by rw [hc36]; decide) (by rw [hc36]; decide) (by rw [hc36]; rfl) (by decide) ?_
        exact lw_case_look hL C0 (hSi.2.2.2.2.2.2.2.2.2.2.2.2.2.2.2.2.2.2.2.2.2.2.2.2.2.2.2.2.2.2.2.2.2.2.2.2) ht hI hW hl KK
      refine lv_tableOut (tgt := 1383) hx hb d_law_33 (by have e0 := lv_neT hc0 (a := 0) (by decide); have e1 := lv_neT hc1 (a := 1) (by decide); have e2 := lv_neT hc2 (a := 2) (by decide); have e3 := lv_neT hc3 (a := 3) (by decide); have e4 := lv_neT hc4 (a := 4) (by decide); have e5 := lv_neT hc5 (a := 5) (by decide); have e6 := lv_neT hc6 (a := 6) (by decide); have e7 := lv_neT hc7 (a := 7) (by decide); have e8 := lv_neT hc8 (a := 8) (by decide); have e9 := lv_neT hc9 (a := 9) (by decide); have e10 := lv_neT hc10 (a := 10) (by decide); have e11 := lv_neT hc11 (a := 11) (by decide); have e12 := lv_neT hc12 (a := 12) (by decide); have e13 := lv_neT hc13 (a := 13) (by decide); have e14 := lv_neT hc14 (a := 14) (by decide); have e15 := lv_neT hc15 (a := 15) (by decide); have e16 := lv_neT hc16 (a := 16) (by decide); have e17 := lv_neT hc17 (a := 17) (by decide); have e18 := lv_neT hc18 (a := 18) (by decide); have e19 := lv_neT hc19 (a := 19) (by decide); have e20 := lv_neT hc20 (a := 20) (by decide); have e21 := lv_neT hc21 (a := 21) (by decide); have e22 := lv_neT hc22 (a := 22) (by decide); have e23 := lv_neT hc23 (a := 23) (by decide); have e24 := lv_neT hc24 (a := 24) (by decide); have e25 := lv_neT hc25 (a := 25) (by decide); have e26 := lv_neT hc26 (a := 26) (by decide); have e27 := lv_neT hc27 (a := 27) (by decide); have e28 := lv_neT hc28 (a := 28) (by decide); have e29 := lv_neT hc29 (a := 29) (by decide); have e30 := lv_neT hc30 (a := 30) (by decide); have e31 := lv_neT hc31 (a := 31) (by decide); have e32 := lv_neT hc32 (a := 32) (by decide); have e33 := lv_neT hc33 (a := 33) (by decide); have e34 := lv_neT hc34 (a := 34) (by decide); have e35 := lv_neT hc35 (a := 35) (by decide); have e36 := lv_neT hc36 (a := 36) (by decide); omega) (by decide) ?_
      exact KK IX IM H locs hI hW

