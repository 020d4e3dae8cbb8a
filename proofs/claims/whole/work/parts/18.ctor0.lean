theorem go_new2 {l : Launch} {M : gb_MI} {d kc ks kc1 ks1 pc n : Nat} {lv : List (Nat × gb_AV)} {st : List gb_AV} {Sh Sh' : List gb_Ce} {I : gb_Mem} {post : Option gb_AV → List gb_Ce → gb_Mem → Prop} {idx ci : Nat} {q : vw_C} {fs : List (Option (Option Nat))} (hd : decode M.2.1 pc = .ok (.new idx, 3)) (hcl : Cond.classLink M.1.cls idx q.1 ∈ gb_all) (hin : Cond.instantiable q.1 q.2.2 ∈ gb_all) (hini : Cond.initialized q.1 ∈ gb_all) (hc : gb_CL[ci]? = some q) (hN : Sh.length = n) (h99 : n + 1 ≤ 1000) (hz : ∀ k, I n k = 0) (hfs : fs.all (fun x => x == none || x == some none) = true) (hdf : ∀ j, j < q.2.2 → defaultValue ((gb_ET.getD ci eGb) j) = vp_V (fs.map gb_df) j) (hclo : Sh.all (gb_cokb n) = true) (hlv : lv.all (fun q => gb_ltAb n q.2) = true) (hst : st.all (gb_ltAb n) = true) (hSh : Sh ++ [.inr (ci, fs)] = Sh') (hkc : kc1 = kc + 1) (hks : ks1 = ks + q.2.2)
    (K : gb_Go l M d kc ks (pc + 3) lv (.inr (some n) :: st) Sh' I post) : gb_Go l M d kc1 ks1 pc lv st Sh I post := by
  subst hkc; subst hks
  refine go_new hd hcl hin hini hc hN h99 hz (fun x hx => ?_) hdf (gb_cok_of hclo) (fun q hq => ?_) (gb_ltA_of hst) hSh K
  · have h1 := List.all_eq_true.mp hfs x hx
    rcases x with _ | (_ | r)
    · exact Or.inl rfl
    · exact Or.inr rfl
    · simp at h1
  · exact gb_ltA_of (st := [q.2]) (by simpa using List.all_eq_true.mp hlv q hq) q.2 List.mem_cons_self
theorem go_newa2 {l : Launch} {M : gb_MI} {d kc ks kc1 ks1 pc n : Nat} {lv : List (Nat × gb_AV)} {st : List gb_AV} {Sh Sh' : List gb_Ce} {I : gb_Mem} {post : Option gb_AV → List gb_Ce → gb_Mem → Prop} {x : Int32} {N : Nat} (hd : decode M.2.1 pc = .ok (.newarray .int, 2)) (hx : ¬ x < 0) (hN9 : x.toNatClampNeg = N) (hb : N ≤ 100000) (hN : Sh.length = n) (h99 : n + 1 ≤ 1000) (hz : ∀ k, I n k = 0) (hclo : Sh.all (gb_cokb n) = true) (hlv : lv.all (fun q => gb_ltAb n q.2) = true) (hst : st.all (gb_ltAb n) = true) (hSh : Sh ++ [.inl (.inl N)] = Sh') (hkc : kc1 = kc + 1) (hks : ks1 = ks + N)
    (K : gb_Go l M d kc ks (pc + 2) lv (.inr (some n) :: st) Sh' I post) : gb_Go l M d kc1 ks1 pc lv (.inl x :: st) Sh I post := by
  subst hkc; subst hks
  refine go_newa hd hx hN9 hb hN h99 hz (gb_cok_of hclo) (fun q hq => ?_) (gb_ltA_of hst) hSh K
  exact gb_ltA_of (st := [q.2]) (by simpa using List.all_eq_true.mp hlv q hq) q.2 List.mem_cons_self
theorem go_newq2 {l : Launch} {M : gb_MI} {d kc ks kc1 ks1 pc n : Nat} {lv : List (Nat × gb_AV)} {st : List gb_AV} {Sh Sh' : List gb_Ce} {I : gb_Mem} {post : Option gb_AV → List gb_Ce → gb_Mem → Prop} {idx : Nat} {x : Int32} {N : Nat} (hd : decode M.2.1 pc = .ok (.anewarray idx, 3)) (hlk : Cond.classLink M.1.cls idx "GravyBoats$Table" ∈ gb_all) (hx : ¬ x < 0) (hN9 : x.toNatClampNeg = N) (hb : N ≤ 100000) (hN : Sh.length = n) (h99 : n + 1 ≤ 1000) (hclo : Sh.all (gb_cokb n) = true) (hlv : lv.all (fun q => gb_ltAb n q.2) = true) (hst : st.all (gb_ltAb n) = true) (hSh : Sh ++ [.inl (.inr (List.replicate N none))] = Sh') (hkc : kc1 = kc + 1) (hks : ks1 = ks + N)
    (K : gb_Go l M d kc ks (pc + 3) lv (.inr (some n) :: st) Sh' I post) : gb_Go l M d kc1 ks1 pc lv (.inl x :: st) Sh I post := by
  subst hkc; subst hks
  refine go_newq hd hlk hx hN9 hb hN h99 (gb_cok_of hclo) (fun q hq => ?_) (gb_ltA_of hst) hSh K
  exact gb_ltA_of (st := [q.2]) (by simpa using List.all_eq_true.mp hlv q hq) q.2 List.mem_cons_self
theorem gb_lvA {n : Nat} {lv : List (Nat × gb_AV)} (h : lv.all (fun q => gb_ltAb n q.2) = true) : ∀ q ∈ lv, gb_ltA n q.2 := fun q hq => gb_ltA_of (st := [q.2]) (by simpa using List.all_eq_true.mp h q hq) q.2 List.mem_cons_self

set_option maxRecDepth 20000 in
theorem in_Gb : Cond.instantiable "GravyBoats" 12 ∈ gb_all := gb_t1 (List.mem_of_getElem? (i := 21) rfl) rfl
theorem df_Gb : ∀ j, j < 12 → defaultValue ((gb_ET.getD 0 eGb) j) = vp_V (([some none, some none, none, some none, some none, some none, some none, some none, some none, some none, none, some none] : List (Option (Option Nat))).map gb_df) j := by decide +kernel
set_option maxRecDepth 20000 in
theorem in_Wo : Cond.instantiable "GravyBoats$World" 14 ∈ gb_all := gb_t1 (List.mem_of_getElem? (i := 29) rfl) rfl
theorem df_Wo : ∀ j, j < 14 → defaultValue ((gb_ET.getD 1 eGb) j) = vp_V (([some none, some none, some none, some none, some none, some none, some none, some none, some none, some none, some none, some none, some none, some none] : List (Option (Option Nat))).map gb_df) j := by decide +kernel
set_option maxRecDepth 20000 in
theorem in_Ta : Cond.instantiable "GravyBoats$Table" 9 ∈ gb_all := gb_t1 (List.mem_of_getElem? (i := 35) rfl) rfl
theorem df_Ta : ∀ j, j < 9 → defaultValue ((gb_ET.getD 2 eGb) j) = vp_V (([none, none, none, none, none, none, some none, some none, some none] : List (Option (Option Nat))).map gb_df) j := by decide +kernel
set_option maxRecDepth 20000 in
theorem in_La : Cond.instantiable "GravyBoats$Law" 7 ∈ gb_all := gb_t1 (List.mem_of_getElem? (i := 83) rfl) rfl
theorem df_La : ∀ j, j < 7 → defaultValue ((gb_ET.getD 3 eGb) j) = vp_V (([some none, none, some none, some none, none, some none, none] : List (Option (Option Nat))).map gb_df) j := by decide +kernel
set_option maxRecDepth 20000 in
theorem in_Ro : Cond.instantiable "GravyBoats$Rows" 3 ∈ gb_all := gb_t1 (List.mem_of_getElem? (i := 113) rfl) rfl
theorem df_Ro : ∀ j, j < 3 → defaultValue ((gb_ET.getD 4 eGb) j) = vp_V (([none, some none, none] : List (Option (Option Nat))).map gb_df) j := by decide +kernel
set_option maxRecDepth 20000 in
theorem in_Pa : Cond.instantiable "GravyBoats$Past" 4 ∈ gb_all := gb_t1 (List.mem_of_getElem? (i := 203) rfl) rfl
theorem df_Pa : ∀ j, j < 4 → defaultValue ((gb_ET.getD 5 eGb) j) = vp_V (([some none, some none, none, none] : List (Option (Option Nat))).map gb_df) j := by decide +kernel
set_option maxRecDepth 20000 in
theorem in_Co : Cond.instantiable "GravyBoats$Course" 4 ∈ gb_all := gb_t1 (List.mem_of_getElem? (i := 228) rfl) rfl
theorem df_Co : ∀ j, j < 4 → defaultValue ((gb_ET.getD 6 eGb) j) = vp_V (([some none, some none, none, some none] : List (Option (Option Nat))).map gb_df) j := by decide +kernel
set_option maxRecDepth 20000 in
theorem in_Se : Cond.instantiable "GravyBoats$Seating" 2 ∈ gb_all := gb_t2 (List.mem_of_getElem? (i := 7) rfl) rfl
theorem df_Se : ∀ j, j < 2 → defaultValue ((gb_ET.getD 7 eGb) j) = vp_V (([some none, some none] : List (Option (Option Nat))).map gb_df) j := by decide +kernel
set_option maxRecDepth 20000 in
theorem in_Re : Cond.instantiable "GravyBoats$Reckoning" 3 ∈ gb_all := gb_t2 (List.mem_of_getElem? (i := 20) rfl) rfl
theorem df_Re : ∀ j, j < 3 → defaultValue ((gb_ET.getD 8 eGb) j) = vp_V (([some none, some none, some none] : List (Option (Option Nat))).map gb_df) j := by decide +kernel
set_option maxRecDepth 20000 in
theorem in_Rd : Cond.instantiable "GravyBoats$Reader" 11 ∈ gb_all := gb_t2 (List.mem_of_getElem? (i := 36) rfl) rfl
theorem df_Rd : ∀ j, j < 11 → defaultValue ((gb_ET.getD 9 eGb) j) = vp_V (([some none, none, none, some none, some none, none, none, none, none, some none, some none] : List (Option (Option Nat))).map gb_df) j := by decide +kernel
set_option maxRecDepth 20000 in
theorem in_Mo : Cond.instantiable "GravyBoatsModel" 71 ∈ gb_all := gb_t5 (List.mem_of_getElem? (i := 129) rfl) rfl
theorem df_Mo : ∀ j, j < 71 → defaultValue ((gb_ET.getD 10 eGb) j) = vp_V (([none, some none, some none, none, some none, none, none, some none, some none, some none, some none, some none, some none, none, none, none, none, none, some none, some none, some none, some none, some none, some none, some none, some none, none, none, none, some none, none, none, none, none, none, none, some none, none, some none, none, some none, some none, some none, none, some none, some none, some none, some none, some none, some none, none, some none, some none, none, some none, some none, none, some none, none, some none, some none, none, some none, some none, none, some none, some none, none, none, none, some none] : List (Option (Option Nat))).map gb_df) j := by decide +kernel
set_option maxRecDepth 20000 in
theorem cl_Gb_9 : Cond.classLink "GravyBoats" 9 "GravyBoats$World" ∈ gb_all := gb_t1 (List.mem_of_getElem? (i := 28) rfl) rfl
set_option maxRecDepth 20000 in
theorem cl_Wo_9 : Cond.classLink "GravyBoats$World" 9 "GravyBoats$Table" ∈ gb_all := gb_t1 (List.mem_of_getElem? (i := 34) rfl) rfl
set_option maxRecDepth 20000 in
theorem cl_Wo_18 : Cond.classLink "GravyBoats$World" 18 "GravyBoats$Law" ∈ gb_all := gb_t1 (List.mem_of_getElem? (i := 82) rfl) rfl
set_option maxRecDepth 20000 in
theorem cl_Wo_25 : Cond.classLink "GravyBoats$World" 25 "GravyBoats$Rows" ∈ gb_all := gb_t1 (List.mem_of_getElem? (i := 112) rfl) rfl
set_option maxRecDepth 20000 in
theorem cl_Gb_19 : Cond.classLink "GravyBoats" 19 "GravyBoats$Past" ∈ gb_all := gb_t1 (List.mem_of_getElem? (i := 202) rfl) rfl
set_option maxRecDepth 20000 in
theorem cl_Pa_9 : Cond.classLink "GravyBoats$Past" 9 "GravyBoats$Table" ∈ gb_all := gb_t1 (List.mem_of_getElem? (i := 208) rfl) rfl
set_option maxRecDepth 20000 in
theorem cl_Gb_26 : Cond.classLink "GravyBoats" 26 "GravyBoats$Table" ∈ gb_all := gb_t1 (List.mem_of_getElem? (i := 225) rfl) rfl
set_option maxRecDepth 20000 in
theorem cl_Gb_33 : Cond.classLink "GravyBoats" 33 "GravyBoats$Course" ∈ gb_all := gb_t1 (List.mem_of_getElem? (i := 227) rfl) rfl
set_option maxRecDepth 20000 in
theorem cl_Gb_48 : Cond.classLink "GravyBoats" 48 "GravyBoats$Seating" ∈ gb_all := gb_t2 (List.mem_of_getElem? (i := 6) rfl) rfl
set_option maxRecDepth 20000 in
theorem cl_Gb_57 : Cond.classLink "GravyBoats" 57 "GravyBoats$Reckoning" ∈ gb_all := gb_t2 (List.mem_of_getElem? (i := 19) rfl) rfl
set_option maxRecDepth 20000 in
theorem cl_Gb_68 : Cond.classLink "GravyBoats" 68 "GravyBoats$Reader" ∈ gb_all := gb_t2 (List.mem_of_getElem? (i := 35) rfl) rfl
set_option maxRecDepth 20000 in
theorem cl_Rd_22 : Cond.classLink "GravyBoats$Reader" 22 "GravyBoats$Law" ∈ gb_all := gb_t2 (List.mem_of_getElem? (i := 41) rfl) rfl
set_option maxRecDepth 20000 in
theorem cl_Rd_29 : Cond.classLink "GravyBoats$Reader" 29 "GravyBoats$Rows" ∈ gb_all := gb_t2 (List.mem_of_getElem? (i := 43) rfl) rfl
set_option maxRecDepth 20000 in
theorem oi_Gb : Cond.methodLink "GravyBoats" 3 Lib.objectInit ∈ gb_all := gb_t1 (List.mem_of_getElem? (i := 25) rfl) rfl
set_option maxRecDepth 20000 in
theorem oi_Wo : Cond.methodLink "GravyBoats$World" 3 Lib.objectInit ∈ gb_all := gb_t1 (List.mem_of_getElem? (i := 33) rfl) rfl
set_option maxRecDepth 20000 in
theorem oi_Ta : Cond.methodLink "GravyBoats$Table" 3 Lib.objectInit ∈ gb_all := gb_t1 (List.mem_of_getElem? (i := 39) rfl) rfl
set_option maxRecDepth 20000 in
theorem oi_La : Cond.methodLink "GravyBoats$Law" 3 Lib.objectInit ∈ gb_all := gb_t1 (List.mem_of_getElem? (i := 87) rfl) rfl
set_option maxRecDepth 20000 in
theorem oi_Ro : Cond.methodLink "GravyBoats$Rows" 3 Lib.objectInit ∈ gb_all := gb_t1 (List.mem_of_getElem? (i := 117) rfl) rfl
set_option maxRecDepth 20000 in
theorem oi_Pa : Cond.methodLink "GravyBoats$Past" 3 Lib.objectInit ∈ gb_all := gb_t1 (List.mem_of_getElem? (i := 207) rfl) rfl
set_option maxRecDepth 20000 in
theorem oi_Co : Cond.methodLink "GravyBoats$Course" 3 Lib.objectInit ∈ gb_all := gb_t1 (List.mem_of_getElem? (i := 232) rfl) rfl
set_option maxRecDepth 20000 in
theorem oi_Se : Cond.methodLink "GravyBoats$Seating" 3 Lib.objectInit ∈ gb_all := gb_t2 (List.mem_of_getElem? (i := 11) rfl) rfl
set_option maxRecDepth 20000 in
theorem oi_Re : Cond.methodLink "GravyBoats$Reckoning" 3 Lib.objectInit ∈ gb_all := gb_t2 (List.mem_of_getElem? (i := 24) rfl) rfl
set_option maxRecDepth 20000 in
theorem oi_Rd : Cond.methodLink "GravyBoats$Reader" 3 Lib.objectInit ∈ gb_all := gb_t2 (List.mem_of_getElem? (i := 40) rfl) rfl
set_option maxRecDepth 20000 in
theorem oi_Mo : Cond.methodLink "GravyBoatsModel" 1 Lib.objectInit ∈ gb_all := gb_t5 (List.mem_of_getElem? (i := 133) rfl) rfl
set_option maxRecDepth 20000 in
theorem oi_i : Cond.instanceMethod Lib.objectInit ∈ gb_all := gb_t1 (List.mem_of_getElem? (i := 26) rfl) rfl
set_option maxRecDepth 20000 in
theorem oi_c : Cond.code Lib.objectInit ⟨#[0xb1]⟩ 1 none ∈ gb_all := gb_t1 (List.mem_of_getElem? (i := 27) rfl) rfl
theorem d_Gb_init_0 : decode yGb_init.2.1 0 = .ok (.aload_n 0, 1) := by decide +kernel
theorem d_Gb_init_1 : decode yGb_init.2.1 1 = .ok (.invokespecial 3, 3) := by decide +kernel
theorem d_Gb_init_4 : decode yGb_init.2.1 4 = .ok (.aload_n 0, 1) := by decide +kernel
theorem d_Gb_init_5 : decode yGb_init.2.1 5 = .ok (.new 9, 3) := by decide +kernel
theorem d_Gb_init_8 : decode yGb_init.2.1 8 = .ok (.dup, 1) := by decide +kernel
theorem d_Gb_init_9 : decode yGb_init.2.1 9 = .ok (.invokespecial 11, 3) := by decide +kernel
theorem d_Gb_init_12 : decode yGb_init.2.1 12 = .ok (.putfield 12, 3) := by decide +kernel
theorem d_Gb_init_15 : decode yGb_init.2.1 15 = .ok (.aload_n 0, 1) := by decide +kernel
theorem d_Gb_init_16 : decode yGb_init.2.1 16 = .ok (.new 9, 3) := by decide +kernel
theorem d_Gb_init_19 : decode yGb_init.2.1 19 = .ok (.dup, 1) := by decide +kernel
theorem d_Gb_init_20 : decode yGb_init.2.1 20 = .ok (.invokespecial 11, 3) := by decide +kernel
theorem d_Gb_init_23 : decode yGb_init.2.1 23 = .ok (.putfield 16, 3) := by decide +kernel
theorem d_Gb_init_26 : decode yGb_init.2.1 26 = .ok (.aload_n 0, 1) := by decide +kernel
theorem d_Gb_init_27 : decode yGb_init.2.1 27 = .ok (.new 19, 3) := by decide +kernel
theorem d_Gb_init_30 : decode yGb_init.2.1 30 = .ok (.dup, 1) := by decide +kernel
theorem d_Gb_init_31 : decode yGb_init.2.1 31 = .ok (.invokespecial 21, 3) := by decide +kernel
theorem d_Gb_init_34 : decode yGb_init.2.1 34 = .ok (.putfield 22, 3) := by decide +kernel
theorem d_Gb_init_37 : decode yGb_init.2.1 37 = .ok (.aload_n 0, 1) := by decide +kernel
theorem d_Gb_init_38 : decode yGb_init.2.1 38 = .ok (.new 26, 3) := by decide +kernel
theorem d_Gb_init_41 : decode yGb_init.2.1 41 = .ok (.dup, 1) := by decide +kernel
theorem d_Gb_init_42 : decode yGb_init.2.1 42 = .ok (.invokespecial 28, 3) := by decide +kernel
theorem d_Gb_init_45 : decode yGb_init.2.1 45 = .ok (.putfield 29, 3) := by decide +kernel
theorem d_Gb_init_48 : decode yGb_init.2.1 48 = .ok (.aload_n 0, 1) := by decide +kernel
theorem d_Gb_init_49 : decode yGb_init.2.1 49 = .ok (.new 33, 3) := by decide +kernel
theorem d_Gb_init_52 : decode yGb_init.2.1 52 = .ok (.dup, 1) := by decide +kernel
theorem d_Gb_init_53 : decode yGb_init.2.1 53 = .ok (.aload_n 0, 1) := by decide +kernel
theorem d_Gb_init_54 : decode yGb_init.2.1 54 = .ok (.getfield 12, 3) := by decide +kernel
theorem d_Gb_init_57 : decode yGb_init.2.1 57 = .ok (.aload_n 0, 1) := by decide +kernel
theorem d_Gb_init_58 : decode yGb_init.2.1 58 = .ok (.getfield 12, 3) := by decide +kernel
theorem d_Gb_init_61 : decode yGb_init.2.1 61 = .ok (.getfield 35, 3) := by decide +kernel
theorem d_Gb_init_64 : decode yGb_init.2.1 64 = .ok (.iconst 0, 1) := by decide +kernel
theorem d_Gb_init_65 : decode yGb_init.2.1 65 = .ok (.invokespecial 38, 3) := by decide +kernel
theorem d_Gb_init_68 : decode yGb_init.2.1 68 = .ok (.putfield 41, 3) := by decide +kernel
theorem d_Gb_init_71 : decode yGb_init.2.1 71 = .ok (.aload_n 0, 1) := by decide +kernel
theorem d_Gb_init_72 : decode yGb_init.2.1 72 = .ok (.new 33, 3) := by decide +kernel
theorem d_Gb_init_75 : decode yGb_init.2.1 75 = .ok (.dup, 1) := by decide +kernel
theorem d_Gb_init_76 : decode yGb_init.2.1 76 = .ok (.aload_n 0, 1) := by decide +kernel
theorem d_Gb_init_77 : decode yGb_init.2.1 77 = .ok (.getfield 12, 3) := by decide +kernel
theorem d_Gb_init_80 : decode yGb_init.2.1 80 = .ok (.aload_n 0, 1) := by decide +kernel
theorem d_Gb_init_81 : decode yGb_init.2.1 81 = .ok (.getfield 29, 3) := by decide +kernel
theorem d_Gb_init_84 : decode yGb_init.2.1 84 = .ok (.iconst 1, 1) := by decide +kernel
theorem d_Gb_init_85 : decode yGb_init.2.1 85 = .ok (.invokespecial 38, 3) := by decide +kernel
theorem d_Gb_init_88 : decode yGb_init.2.1 88 = .ok (.putfield 45, 3) := by decide +kernel
theorem d_Gb_init_91 : decode yGb_init.2.1 91 = .ok (.aload_n 0, 1) := by decide +kernel
theorem d_Gb_init_92 : decode yGb_init.2.1 92 = .ok (.new 48, 3) := by decide +kernel
theorem d_Gb_init_95 : decode yGb_init.2.1 95 = .ok (.dup, 1) := by decide +kernel
theorem d_Gb_init_96 : decode yGb_init.2.1 96 = .ok (.aload_n 0, 1) := by decide +kernel
theorem d_Gb_init_97 : decode yGb_init.2.1 97 = .ok (.getfield 12, 3) := by decide +kernel
theorem d_Gb_init_100 : decode yGb_init.2.1 100 = .ok (.invokespecial 50, 3) := by decide +kernel
theorem d_Gb_init_103 : decode yGb_init.2.1 103 = .ok (.putfield 53, 3) := by decide +kernel
theorem d_Gb_init_106 : decode yGb_init.2.1 106 = .ok (.aload_n 0, 1) := by decide +kernel
theorem d_Gb_init_107 : decode yGb_init.2.1 107 = .ok (.new 57, 3) := by decide +kernel
theorem d_Gb_init_110 : decode yGb_init.2.1 110 = .ok (.dup, 1) := by decide +kernel
theorem d_Gb_init_111 : decode yGb_init.2.1 111 = .ok (.invokespecial 59, 3) := by decide +kernel
theorem d_Gb_init_114 : decode yGb_init.2.1 114 = .ok (.putfield 60, 3) := by decide +kernel
theorem d_Gb_init_117 : decode yGb_init.2.1 117 = .ok (.aload_n 0, 1) := by decide +kernel
theorem d_Gb_init_118 : decode yGb_init.2.1 118 = .ok (.sipush 400, 3) := by decide +kernel
theorem d_Gb_init_121 : decode yGb_init.2.1 121 = .ok (.newarray .int, 2) := by decide +kernel
theorem d_Gb_init_123 : decode yGb_init.2.1 123 = .ok (.putfield 64, 3) := by decide +kernel
theorem d_Gb_init_126 : decode yGb_init.2.1 126 = .ok (.aload_n 0, 1) := by decide +kernel
theorem d_Gb_init_127 : decode yGb_init.2.1 127 = .ok (.new 68, 3) := by decide +kernel
theorem d_Gb_init_130 : decode yGb_init.2.1 130 = .ok (.dup, 1) := by decide +kernel
theorem d_Gb_init_131 : decode yGb_init.2.1 131 = .ok (.aload_n 0, 1) := by decide +kernel
theorem d_Gb_init_132 : decode yGb_init.2.1 132 = .ok (.getfield 64, 3) := by decide +kernel
theorem d_Gb_init_135 : decode yGb_init.2.1 135 = .ok (.invokespecial 70, 3) := by decide +kernel
theorem d_Gb_init_138 : decode yGb_init.2.1 138 = .ok (.putfield 73, 3) := by decide +kernel
theorem d_Gb_init_141 : decode yGb_init.2.1 141 = .ok (.return_, 1) := by decide +kernel
theorem d_Wo_init_0 : decode yWo_init.2.1 0 = .ok (.aload_n 0, 1) := by decide +kernel
theorem d_Wo_init_1 : decode yWo_init.2.1 1 = .ok (.invokespecial 3, 3) := by decide +kernel
theorem d_Wo_init_4 : decode yWo_init.2.1 4 = .ok (.aload_n 0, 1) := by decide +kernel
theorem d_Wo_init_5 : decode yWo_init.2.1 5 = .ok (.new 9, 3) := by decide +kernel
theorem d_Wo_init_8 : decode yWo_init.2.1 8 = .ok (.dup, 1) := by decide +kernel
theorem d_Wo_init_9 : decode yWo_init.2.1 9 = .ok (.invokespecial 11, 3) := by decide +kernel
theorem d_Wo_init_12 : decode yWo_init.2.1 12 = .ok (.putfield 12, 3) := by decide +kernel
theorem d_Wo_init_15 : decode yWo_init.2.1 15 = .ok (.aload_n 0, 1) := by decide +kernel
theorem d_Wo_init_16 : decode yWo_init.2.1 16 = .ok (.new 18, 3) := by decide +kernel
theorem d_Wo_init_19 : decode yWo_init.2.1 19 = .ok (.dup, 1) := by decide +kernel
theorem d_Wo_init_20 : decode yWo_init.2.1 20 = .ok (.invokespecial 20, 3) := by decide +kernel
theorem d_Wo_init_23 : decode yWo_init.2.1 23 = .ok (.putfield 21, 3) := by decide +kernel
theorem d_Wo_init_26 : decode yWo_init.2.1 26 = .ok (.aload_n 0, 1) := by decide +kernel
theorem d_Wo_init_27 : decode yWo_init.2.1 27 = .ok (.new 25, 3) := by decide +kernel
theorem d_Wo_init_30 : decode yWo_init.2.1 30 = .ok (.dup, 1) := by decide +kernel
theorem d_Wo_init_31 : decode yWo_init.2.1 31 = .ok (.bipush 16, 2) := by decide +kernel
theorem d_Wo_init_33 : decode yWo_init.2.1 33 = .ok (.invokespecial 27, 3) := by decide +kernel
theorem d_Wo_init_36 : decode yWo_init.2.1 36 = .ok (.putfield 30, 3) := by decide +kernel
theorem d_Wo_init_39 : decode yWo_init.2.1 39 = .ok (.aload_n 0, 1) := by decide +kernel
theorem d_Wo_init_40 : decode yWo_init.2.1 40 = .ok (.new 25, 3) := by decide +kernel
theorem d_Wo_init_43 : decode yWo_init.2.1 43 = .ok (.dup, 1) := by decide +kernel
theorem d_Wo_init_44 : decode yWo_init.2.1 44 = .ok (.bipush 16, 2) := by decide +kernel
theorem d_Wo_init_46 : decode yWo_init.2.1 46 = .ok (.invokespecial 27, 3) := by decide +kernel
theorem d_Wo_init_49 : decode yWo_init.2.1 49 = .ok (.putfield 34, 3) := by decide +kernel
theorem d_Wo_init_52 : decode yWo_init.2.1 52 = .ok (.aload_n 0, 1) := by decide +kernel
theorem d_Wo_init_53 : decode yWo_init.2.1 53 = .ok (.new 25, 3) := by decide +kernel
theorem d_Wo_init_56 : decode yWo_init.2.1 56 = .ok (.dup, 1) := by decide +kernel
theorem d_Wo_init_57 : decode yWo_init.2.1 57 = .ok (.bipush 16, 2) := by decide +kernel
theorem d_Wo_init_59 : decode yWo_init.2.1 59 = .ok (.invokespecial 27, 3) := by decide +kernel
theorem d_Wo_init_62 : decode yWo_init.2.1 62 = .ok (.putfield 37, 3) := by decide +kernel
theorem d_Wo_init_65 : decode yWo_init.2.1 65 = .ok (.aload_n 0, 1) := by decide +kernel
theorem d_Wo_init_66 : decode yWo_init.2.1 66 = .ok (.new 25, 3) := by decide +kernel
theorem d_Wo_init_69 : decode yWo_init.2.1 69 = .ok (.dup, 1) := by decide +kernel
theorem d_Wo_init_70 : decode yWo_init.2.1 70 = .ok (.sipush 150, 3) := by decide +kernel
theorem d_Wo_init_73 : decode yWo_init.2.1 73 = .ok (.invokespecial 27, 3) := by decide +kernel
theorem d_Wo_init_76 : decode yWo_init.2.1 76 = .ok (.putfield 40, 3) := by decide +kernel
theorem d_Wo_init_79 : decode yWo_init.2.1 79 = .ok (.aload_n 0, 1) := by decide +kernel
theorem d_Wo_init_80 : decode yWo_init.2.1 80 = .ok (.new 25, 3) := by decide +kernel
theorem d_Wo_init_83 : decode yWo_init.2.1 83 = .ok (.dup, 1) := by decide +kernel
theorem d_Wo_init_84 : decode yWo_init.2.1 84 = .ok (.bipush 12, 2) := by decide +kernel
theorem d_Wo_init_86 : decode yWo_init.2.1 86 = .ok (.invokespecial 27, 3) := by decide +kernel
theorem d_Wo_init_89 : decode yWo_init.2.1 89 = .ok (.putfield 43, 3) := by decide +kernel
theorem d_Wo_init_92 : decode yWo_init.2.1 92 = .ok (.aload_n 0, 1) := by decide +kernel
theorem d_Wo_init_93 : decode yWo_init.2.1 93 = .ok (.new 25, 3) := by decide +kernel
theorem d_Wo_init_96 : decode yWo_init.2.1 96 = .ok (.dup, 1) := by decide +kernel
theorem d_Wo_init_97 : decode yWo_init.2.1 97 = .ok (.bipush 12, 2) := by decide +kernel
theorem d_Wo_init_99 : decode yWo_init.2.1 99 = .ok (.invokespecial 27, 3) := by decide +kernel
theorem d_Wo_init_102 : decode yWo_init.2.1 102 = .ok (.putfield 46, 3) := by decide +kernel
theorem d_Wo_init_105 : decode yWo_init.2.1 105 = .ok (.aload_n 0, 1) := by decide +kernel
theorem d_Wo_init_106 : decode yWo_init.2.1 106 = .ok (.new 25, 3) := by decide +kernel
theorem d_Wo_init_109 : decode yWo_init.2.1 109 = .ok (.dup, 1) := by decide +kernel
theorem d_Wo_init_110 : decode yWo_init.2.1 110 = .ok (.bipush 8, 2) := by decide +kernel
theorem d_Wo_init_112 : decode yWo_init.2.1 112 = .ok (.invokespecial 27, 3) := by decide +kernel
theorem d_Wo_init_115 : decode yWo_init.2.1 115 = .ok (.putfield 49, 3) := by decide +kernel
theorem d_Wo_init_118 : decode yWo_init.2.1 118 = .ok (.aload_n 0, 1) := by decide +kernel
theorem d_Wo_init_119 : decode yWo_init.2.1 119 = .ok (.new 25, 3) := by decide +kernel
theorem d_Wo_init_122 : decode yWo_init.2.1 122 = .ok (.dup, 1) := by decide +kernel
theorem d_Wo_init_123 : decode yWo_init.2.1 123 = .ok (.bipush 10, 2) := by decide +kernel
theorem d_Wo_init_125 : decode yWo_init.2.1 125 = .ok (.invokespecial 27, 3) := by decide +kernel
theorem d_Wo_init_128 : decode yWo_init.2.1 128 = .ok (.putfield 52, 3) := by decide +kernel
theorem d_Wo_init_131 : decode yWo_init.2.1 131 = .ok (.aload_n 0, 1) := by decide +kernel
theorem d_Wo_init_132 : decode yWo_init.2.1 132 = .ok (.new 25, 3) := by decide +kernel
theorem d_Wo_init_135 : decode yWo_init.2.1 135 = .ok (.dup, 1) := by decide +kernel
theorem d_Wo_init_136 : decode yWo_init.2.1 136 = .ok (.bipush 16, 2) := by decide +kernel
theorem d_Wo_init_138 : decode yWo_init.2.1 138 = .ok (.invokespecial 27, 3) := by decide +kernel
theorem d_Wo_init_141 : decode yWo_init.2.1 141 = .ok (.putfield 55, 3) := by decide +kernel
theorem d_Wo_init_144 : decode yWo_init.2.1 144 = .ok (.aload_n 0, 1) := by decide +kernel
theorem d_Wo_init_145 : decode yWo_init.2.1 145 = .ok (.new 25, 3) := by decide +kernel
theorem d_Wo_init_148 : decode yWo_init.2.1 148 = .ok (.dup, 1) := by decide +kernel
theorem d_Wo_init_149 : decode yWo_init.2.1 149 = .ok (.bipush 9, 2) := by decide +kernel
theorem d_Wo_init_151 : decode yWo_init.2.1 151 = .ok (.invokespecial 27, 3) := by decide +kernel
theorem d_Wo_init_154 : decode yWo_init.2.1 154 = .ok (.putfield 58, 3) := by decide +kernel
theorem d_Wo_init_157 : decode yWo_init.2.1 157 = .ok (.aload_n 0, 1) := by decide +kernel
theorem d_Wo_init_158 : decode yWo_init.2.1 158 = .ok (.new 25, 3) := by decide +kernel
theorem d_Wo_init_161 : decode yWo_init.2.1 161 = .ok (.dup, 1) := by decide +kernel
theorem d_Wo_init_162 : decode yWo_init.2.1 162 = .ok (.bipush 8, 2) := by decide +kernel
theorem d_Wo_init_164 : decode yWo_init.2.1 164 = .ok (.invokespecial 27, 3) := by decide +kernel
theorem d_Wo_init_167 : decode yWo_init.2.1 167 = .ok (.putfield 61, 3) := by decide +kernel
theorem d_Wo_init_170 : decode yWo_init.2.1 170 = .ok (.aload_n 0, 1) := by decide +kernel
theorem d_Wo_init_171 : decode yWo_init.2.1 171 = .ok (.new 25, 3) := by decide +kernel
theorem d_Wo_init_174 : decode yWo_init.2.1 174 = .ok (.dup, 1) := by decide +kernel
theorem d_Wo_init_175 : decode yWo_init.2.1 175 = .ok (.bipush 9, 2) := by decide +kernel
theorem d_Wo_init_177 : decode yWo_init.2.1 177 = .ok (.invokespecial 27, 3) := by decide +kernel
theorem d_Wo_init_180 : decode yWo_init.2.1 180 = .ok (.putfield 64, 3) := by decide +kernel
theorem d_Wo_init_183 : decode yWo_init.2.1 183 = .ok (.return_, 1) := by decide +kernel
theorem d_Ta_init_0 : decode yTa_init.2.1 0 = .ok (.aload_n 0, 1) := by decide +kernel
theorem d_Ta_init_1 : decode yTa_init.2.1 1 = .ok (.invokespecial 3, 3) := by decide +kernel
theorem d_Ta_init_4 : decode yTa_init.2.1 4 = .ok (.aload_n 0, 1) := by decide +kernel
theorem d_Ta_init_5 : decode yTa_init.2.1 5 = .ok (.bipush 60, 2) := by decide +kernel
theorem d_Ta_init_7 : decode yTa_init.2.1 7 = .ok (.newarray .int, 2) := by decide +kernel
theorem d_Ta_init_9 : decode yTa_init.2.1 9 = .ok (.putfield 9, 3) := by decide +kernel
theorem d_Ta_init_12 : decode yTa_init.2.1 12 = .ok (.aload_n 0, 1) := by decide +kernel
theorem d_Ta_init_13 : decode yTa_init.2.1 13 = .ok (.bipush 48, 2) := by decide +kernel
theorem d_Ta_init_15 : decode yTa_init.2.1 15 = .ok (.newarray .int, 2) := by decide +kernel
theorem d_Ta_init_17 : decode yTa_init.2.1 17 = .ok (.putfield 15, 3) := by decide +kernel
theorem d_Ta_init_20 : decode yTa_init.2.1 20 = .ok (.aload_n 0, 1) := by decide +kernel
theorem d_Ta_init_21 : decode yTa_init.2.1 21 = .ok (.bipush 10, 2) := by decide +kernel
theorem d_Ta_init_23 : decode yTa_init.2.1 23 = .ok (.newarray .int, 2) := by decide +kernel
theorem d_Ta_init_25 : decode yTa_init.2.1 25 = .ok (.putfield 18, 3) := by decide +kernel
theorem d_Ta_init_28 : decode yTa_init.2.1 28 = .ok (.iconst 0, 1) := by decide +kernel
theorem d_Ta_init_29 : decode yTa_init.2.1 29 = .ok (.istore_n 1, 1) := by decide +kernel
theorem d_Ta_init_30 : decode yTa_init.2.1 30 = .ok (.iload_n 1, 1) := by decide +kernel
theorem d_Ta_init_31 : decode yTa_init.2.1 31 = .ok (.bipush 12, 2) := by decide +kernel
theorem d_Ta_init_33 : decode yTa_init.2.1 33 = .ok (.if_icmp .ge 18, 3) := by decide +kernel
theorem d_Ta_init_36 : decode yTa_init.2.1 36 = .ok (.aload_n 0, 1) := by decide +kernel
theorem d_Ta_init_37 : decode yTa_init.2.1 37 = .ok (.getfield 9, 3) := by decide +kernel
theorem d_Ta_init_40 : decode yTa_init.2.1 40 = .ok (.iconst 0, 1) := by decide +kernel
theorem d_Ta_init_41 : decode yTa_init.2.1 41 = .ok (.iload_n 1, 1) := by decide +kernel
theorem d_Ta_init_42 : decode yTa_init.2.1 42 = .ok (.iadd, 1) := by decide +kernel
theorem d_Ta_init_43 : decode yTa_init.2.1 43 = .ok (.iconst 5, 1) := by decide +kernel
theorem d_Ta_init_44 : decode yTa_init.2.1 44 = .ok (.iastore, 1) := by decide +kernel
theorem d_Ta_init_45 : decode yTa_init.2.1 45 = .ok (.iinc 1 1, 3) := by decide +kernel
theorem d_Ta_init_48 : decode yTa_init.2.1 48 = .ok (.goto (-18), 3) := by decide +kernel
theorem d_Ta_init_51 : decode yTa_init.2.1 51 = .ok (.return_, 1) := by decide +kernel
theorem d_La_init_0 : decode yLa_init.2.1 0 = .ok (.aload_n 0, 1) := by decide +kernel
theorem d_La_init_1 : decode yLa_init.2.1 1 = .ok (.invokespecial 3, 3) := by decide +kernel
theorem d_La_init_4 : decode yLa_init.2.1 4 = .ok (.aload_n 0, 1) := by decide +kernel
theorem d_La_init_5 : decode yLa_init.2.1 5 = .ok (.sipush 400, 3) := by decide +kernel
theorem d_La_init_8 : decode yLa_init.2.1 8 = .ok (.newarray .int, 2) := by decide +kernel
theorem d_La_init_10 : decode yLa_init.2.1 10 = .ok (.putfield 9, 3) := by decide +kernel
theorem d_La_init_13 : decode yLa_init.2.1 13 = .ok (.aload_n 0, 1) := by decide +kernel
theorem d_La_init_14 : decode yLa_init.2.1 14 = .ok (.bipush 16, 2) := by decide +kernel
theorem d_La_init_16 : decode yLa_init.2.1 16 = .ok (.newarray .int, 2) := by decide +kernel
theorem d_La_init_18 : decode yLa_init.2.1 18 = .ok (.putfield 15, 3) := by decide +kernel
theorem d_La_init_21 : decode yLa_init.2.1 21 = .ok (.aload_n 0, 1) := by decide +kernel
theorem d_La_init_22 : decode yLa_init.2.1 22 = .ok (.bipush 33, 2) := by decide +kernel
theorem d_La_init_24 : decode yLa_init.2.1 24 = .ok (.newarray .int, 2) := by decide +kernel
theorem d_La_init_26 : decode yLa_init.2.1 26 = .ok (.putfield 18, 3) := by decide +kernel
theorem d_La_init_29 : decode yLa_init.2.1 29 = .ok (.aload_n 0, 1) := by decide +kernel
theorem d_La_init_30 : decode yLa_init.2.1 30 = .ok (.bipush 64, 2) := by decide +kernel
theorem d_La_init_32 : decode yLa_init.2.1 32 = .ok (.newarray .int, 2) := by decide +kernel
theorem d_La_init_34 : decode yLa_init.2.1 34 = .ok (.putfield 21, 3) := by decide +kernel
theorem d_La_init_37 : decode yLa_init.2.1 37 = .ok (.return_, 1) := by decide +kernel
theorem d_Ro_init_0 : decode yRo_init.2.1 0 = .ok (.aload_n 0, 1) := by decide +kernel
theorem d_Ro_init_1 : decode yRo_init.2.1 1 = .ok (.invokespecial 3, 3) := by decide +kernel
theorem d_Ro_init_4 : decode yRo_init.2.1 4 = .ok (.aload_n 0, 1) := by decide +kernel
theorem d_Ro_init_5 : decode yRo_init.2.1 5 = .ok (.iconst 0, 1) := by decide +kernel
theorem d_Ro_init_6 : decode yRo_init.2.1 6 = .ok (.iload_n 1, 1) := by decide +kernel
theorem d_Ro_init_7 : decode yRo_init.2.1 7 = .ok (.invokestatic 9, 3) := by decide +kernel
theorem d_Ro_init_10 : decode yRo_init.2.1 10 = .ok (.putfield 15, 3) := by decide +kernel
theorem d_Ro_init_13 : decode yRo_init.2.1 13 = .ok (.aload_n 0, 1) := by decide +kernel
theorem d_Ro_init_14 : decode yRo_init.2.1 14 = .ok (.iconst 4, 1) := by decide +kernel
theorem d_Ro_init_15 : decode yRo_init.2.1 15 = .ok (.aload_n 0, 1) := by decide +kernel
theorem d_Ro_init_16 : decode yRo_init.2.1 16 = .ok (.getfield 15, 3) := by decide +kernel
theorem d_Ro_init_19 : decode yRo_init.2.1 19 = .ok (.imul, 1) := by decide +kernel
theorem d_Ro_init_20 : decode yRo_init.2.1 20 = .ok (.newarray .int, 2) := by decide +kernel
theorem d_Ro_init_22 : decode yRo_init.2.1 22 = .ok (.putfield 21, 3) := by decide +kernel
theorem d_Ro_init_25 : decode yRo_init.2.1 25 = .ok (.return_, 1) := by decide +kernel
theorem d_Pa_init_0 : decode yPa_init.2.1 0 = .ok (.aload_n 0, 1) := by decide +kernel
theorem d_Pa_init_1 : decode yPa_init.2.1 1 = .ok (.invokespecial 3, 3) := by decide +kernel
theorem d_Pa_init_4 : decode yPa_init.2.1 4 = .ok (.aload_n 0, 1) := by decide +kernel
theorem d_Pa_init_5 : decode yPa_init.2.1 5 = .ok (.bipush 6, 2) := by decide +kernel
theorem d_Pa_init_7 : decode yPa_init.2.1 7 = .ok (.anewarray 9, 3) := by decide +kernel
theorem d_Pa_init_10 : decode yPa_init.2.1 10 = .ok (.putfield 11, 3) := by decide +kernel
theorem d_Pa_init_13 : decode yPa_init.2.1 13 = .ok (.aload_n 0, 1) := by decide +kernel
theorem d_Pa_init_14 : decode yPa_init.2.1 14 = .ok (.bipush 6, 2) := by decide +kernel
theorem d_Pa_init_16 : decode yPa_init.2.1 16 = .ok (.newarray .int, 2) := by decide +kernel
theorem d_Pa_init_18 : decode yPa_init.2.1 18 = .ok (.putfield 17, 3) := by decide +kernel
theorem d_Pa_init_21 : decode yPa_init.2.1 21 = .ok (.iconst 0, 1) := by decide +kernel
theorem d_Pa_init_22 : decode yPa_init.2.1 22 = .ok (.istore_n 1, 1) := by decide +kernel
theorem d_Pa_init_23 : decode yPa_init.2.1 23 = .ok (.iload_n 1, 1) := by decide +kernel
theorem d_Pa_init_24 : decode yPa_init.2.1 24 = .ok (.bipush 6, 2) := by decide +kernel
theorem d_Pa_init_26 : decode yPa_init.2.1 26 = .ok (.if_icmp .ge 22, 3) := by decide +kernel
theorem d_Pa_init_29 : decode yPa_init.2.1 29 = .ok (.aload_n 0, 1) := by decide +kernel
theorem d_Pa_init_30 : decode yPa_init.2.1 30 = .ok (.getfield 11, 3) := by decide +kernel
theorem d_Pa_init_33 : decode yPa_init.2.1 33 = .ok (.iload_n 1, 1) := by decide +kernel
theorem d_Pa_init_34 : decode yPa_init.2.1 34 = .ok (.new 9, 3) := by decide +kernel
theorem d_Pa_init_37 : decode yPa_init.2.1 37 = .ok (.dup, 1) := by decide +kernel
theorem d_Pa_init_38 : decode yPa_init.2.1 38 = .ok (.invokespecial 21, 3) := by decide +kernel
theorem d_Pa_init_41 : decode yPa_init.2.1 41 = .ok (.aastore, 1) := by decide +kernel
theorem d_Pa_init_42 : decode yPa_init.2.1 42 = .ok (.iinc 1 1, 3) := by decide +kernel
theorem d_Pa_init_45 : decode yPa_init.2.1 45 = .ok (.goto (-22), 3) := by decide +kernel
theorem d_Pa_init_48 : decode yPa_init.2.1 48 = .ok (.return_, 1) := by decide +kernel
theorem d_Co_init_0 : decode yCo_init.2.1 0 = .ok (.aload_n 0, 1) := by decide +kernel
theorem d_Co_init_1 : decode yCo_init.2.1 1 = .ok (.invokespecial 3, 3) := by decide +kernel
theorem d_Co_init_4 : decode yCo_init.2.1 4 = .ok (.aload_n 0, 1) := by decide +kernel
theorem d_Co_init_5 : decode yCo_init.2.1 5 = .ok (.bipush 8, 2) := by decide +kernel
theorem d_Co_init_7 : decode yCo_init.2.1 7 = .ok (.newarray .int, 2) := by decide +kernel
theorem d_Co_init_9 : decode yCo_init.2.1 9 = .ok (.putfield 9, 3) := by decide +kernel
theorem d_Co_init_12 : decode yCo_init.2.1 12 = .ok (.aload_n 0, 1) := by decide +kernel
theorem d_Co_init_13 : decode yCo_init.2.1 13 = .ok (.aload_n 1, 1) := by decide +kernel
theorem d_Co_init_14 : decode yCo_init.2.1 14 = .ok (.putfield 15, 3) := by decide +kernel
theorem d_Co_init_17 : decode yCo_init.2.1 17 = .ok (.aload_n 0, 1) := by decide +kernel
theorem d_Co_init_18 : decode yCo_init.2.1 18 = .ok (.aload_n 2, 1) := by decide +kernel
theorem d_Co_init_19 : decode yCo_init.2.1 19 = .ok (.putfield 19, 3) := by decide +kernel
theorem d_Co_init_22 : decode yCo_init.2.1 22 = .ok (.aload_n 0, 1) := by decide +kernel
theorem d_Co_init_23 : decode yCo_init.2.1 23 = .ok (.iload_n 3, 1) := by decide +kernel
theorem d_Co_init_24 : decode yCo_init.2.1 24 = .ok (.putfield 23, 3) := by decide +kernel
theorem d_Co_init_27 : decode yCo_init.2.1 27 = .ok (.return_, 1) := by decide +kernel
theorem d_Se_init_0 : decode ySe_init.2.1 0 = .ok (.aload_n 0, 1) := by decide +kernel
theorem d_Se_init_1 : decode ySe_init.2.1 1 = .ok (.invokespecial 3, 3) := by decide +kernel
theorem d_Se_init_4 : decode ySe_init.2.1 4 = .ok (.aload_n 0, 1) := by decide +kernel
theorem d_Se_init_5 : decode ySe_init.2.1 5 = .ok (.bipush 12, 2) := by decide +kernel
theorem d_Se_init_7 : decode ySe_init.2.1 7 = .ok (.newarray .int, 2) := by decide +kernel
theorem d_Se_init_9 : decode ySe_init.2.1 9 = .ok (.putfield 9, 3) := by decide +kernel
theorem d_Se_init_12 : decode ySe_init.2.1 12 = .ok (.aload_n 0, 1) := by decide +kernel
theorem d_Se_init_13 : decode ySe_init.2.1 13 = .ok (.aload_n 1, 1) := by decide +kernel
theorem d_Se_init_14 : decode ySe_init.2.1 14 = .ok (.putfield 15, 3) := by decide +kernel
theorem d_Se_init_17 : decode ySe_init.2.1 17 = .ok (.return_, 1) := by decide +kernel
theorem d_Re_init_0 : decode yRe_init.2.1 0 = .ok (.aload_n 0, 1) := by decide +kernel
theorem d_Re_init_1 : decode yRe_init.2.1 1 = .ok (.invokespecial 3, 3) := by decide +kernel
theorem d_Re_init_4 : decode yRe_init.2.1 4 = .ok (.aload_n 0, 1) := by decide +kernel
theorem d_Re_init_5 : decode yRe_init.2.1 5 = .ok (.sipush 169, 3) := by decide +kernel
theorem d_Re_init_8 : decode yRe_init.2.1 8 = .ok (.newarray .int, 2) := by decide +kernel
theorem d_Re_init_10 : decode yRe_init.2.1 10 = .ok (.putfield 9, 3) := by decide +kernel
theorem d_Re_init_13 : decode yRe_init.2.1 13 = .ok (.aload_n 0, 1) := by decide +kernel
theorem d_Re_init_14 : decode yRe_init.2.1 14 = .ok (.sipush 512, 3) := by decide +kernel
theorem d_Re_init_17 : decode yRe_init.2.1 17 = .ok (.newarray .int, 2) := by decide +kernel
theorem d_Re_init_19 : decode yRe_init.2.1 19 = .ok (.putfield 15, 3) := by decide +kernel
theorem d_Re_init_22 : decode yRe_init.2.1 22 = .ok (.aload_n 0, 1) := by decide +kernel
theorem d_Re_init_23 : decode yRe_init.2.1 23 = .ok (.sipush 512, 3) := by decide +kernel
theorem d_Re_init_26 : decode yRe_init.2.1 26 = .ok (.newarray .int, 2) := by decide +kernel
theorem d_Re_init_28 : decode yRe_init.2.1 28 = .ok (.putfield 18, 3) := by decide +kernel
theorem d_Re_init_31 : decode yRe_init.2.1 31 = .ok (.return_, 1) := by decide +kernel
theorem d_Rd_init_0 : decode yRd_init.2.1 0 = .ok (.aload_n 0, 1) := by decide +kernel
theorem d_Rd_init_1 : decode yRd_init.2.1 1 = .ok (.invokespecial 3, 3) := by decide +kernel
theorem d_Rd_init_4 : decode yRd_init.2.1 4 = .ok (.aload_n 0, 1) := by decide +kernel
theorem d_Rd_init_5 : decode yRd_init.2.1 5 = .ok (.sipush 401, 3) := by decide +kernel
theorem d_Rd_init_8 : decode yRd_init.2.1 8 = .ok (.newarray .int, 2) := by decide +kernel
theorem d_Rd_init_10 : decode yRd_init.2.1 10 = .ok (.putfield 9, 3) := by decide +kernel
theorem d_Rd_init_13 : decode yRd_init.2.1 13 = .ok (.aload_n 0, 1) := by decide +kernel
theorem d_Rd_init_14 : decode yRd_init.2.1 14 = .ok (.sipush 401, 3) := by decide +kernel
theorem d_Rd_init_17 : decode yRd_init.2.1 17 = .ok (.newarray .int, 2) := by decide +kernel
theorem d_Rd_init_19 : decode yRd_init.2.1 19 = .ok (.putfield 15, 3) := by decide +kernel
theorem d_Rd_init_22 : decode yRd_init.2.1 22 = .ok (.aload_n 0, 1) := by decide +kernel
theorem d_Rd_init_23 : decode yRd_init.2.1 23 = .ok (.iconst (-1), 1) := by decide +kernel
theorem d_Rd_init_24 : decode yRd_init.2.1 24 = .ok (.putfield 18, 3) := by decide +kernel
theorem d_Rd_init_27 : decode yRd_init.2.1 27 = .ok (.aload_n 0, 1) := by decide +kernel
theorem d_Rd_init_28 : decode yRd_init.2.1 28 = .ok (.new 22, 3) := by decide +kernel
theorem d_Rd_init_31 : decode yRd_init.2.1 31 = .ok (.dup, 1) := by decide +kernel
theorem d_Rd_init_32 : decode yRd_init.2.1 32 = .ok (.invokespecial 24, 3) := by decide +kernel
theorem d_Rd_init_35 : decode yRd_init.2.1 35 = .ok (.putfield 25, 3) := by decide +kernel
theorem d_Rd_init_38 : decode yRd_init.2.1 38 = .ok (.aload_n 0, 1) := by decide +kernel
theorem d_Rd_init_39 : decode yRd_init.2.1 39 = .ok (.new 29, 3) := by decide +kernel
theorem d_Rd_init_42 : decode yRd_init.2.1 42 = .ok (.dup, 1) := by decide +kernel
theorem d_Rd_init_43 : decode yRd_init.2.1 43 = .ok (.bipush 16, 2) := by decide +kernel
theorem d_Rd_init_45 : decode yRd_init.2.1 45 = .ok (.invokespecial 31, 3) := by decide +kernel
theorem d_Rd_init_48 : decode yRd_init.2.1 48 = .ok (.putfield 34, 3) := by decide +kernel
theorem d_Rd_init_51 : decode yRd_init.2.1 51 = .ok (.aload_n 0, 1) := by decide +kernel
theorem d_Rd_init_52 : decode yRd_init.2.1 52 = .ok (.aload_n 1, 1) := by decide +kernel
theorem d_Rd_init_53 : decode yRd_init.2.1 53 = .ok (.putfield 38, 3) := by decide +kernel
theorem d_Rd_init_56 : decode yRd_init.2.1 56 = .ok (.return_, 1) := by decide +kernel
theorem d_Mo_init_0 : decode yMo_init.2.1 0 = .ok (.aload_n 0, 1) := by decide +kernel
theorem d_Mo_init_1 : decode yMo_init.2.1 1 = .ok (.invokespecial 1, 3) := by decide +kernel
theorem d_Mo_init_4 : decode yMo_init.2.1 4 = .ok (.aload_n 0, 1) := by decide +kernel
theorem d_Mo_init_5 : decode yMo_init.2.1 5 = .ok (.bipush 80, 2) := by decide +kernel
theorem d_Mo_init_7 : decode yMo_init.2.1 7 = .ok (.newarray .int, 2) := by decide +kernel
theorem d_Mo_init_9 : decode yMo_init.2.1 9 = .ok (.putfield 7, 3) := by decide +kernel
theorem d_Mo_init_12 : decode yMo_init.2.1 12 = .ok (.aload_n 0, 1) := by decide +kernel
theorem d_Mo_init_13 : decode yMo_init.2.1 13 = .ok (.sipush 480, 3) := by decide +kernel
theorem d_Mo_init_16 : decode yMo_init.2.1 16 = .ok (.newarray .int, 2) := by decide +kernel
theorem d_Mo_init_18 : decode yMo_init.2.1 18 = .ok (.putfield 13, 3) := by decide +kernel
theorem d_Mo_init_21 : decode yMo_init.2.1 21 = .ok (.aload_n 0, 1) := by decide +kernel
theorem d_Mo_init_22 : decode yMo_init.2.1 22 = .ok (.bipush 80, 2) := by decide +kernel
theorem d_Mo_init_24 : decode yMo_init.2.1 24 = .ok (.newarray .int, 2) := by decide +kernel
theorem d_Mo_init_26 : decode yMo_init.2.1 26 = .ok (.putfield 16, 3) := by decide +kernel
theorem d_Mo_init_29 : decode yMo_init.2.1 29 = .ok (.aload_n 0, 1) := by decide +kernel
theorem d_Mo_init_30 : decode yMo_init.2.1 30 = .ok (.bipush 12, 2) := by decide +kernel
theorem d_Mo_init_32 : decode yMo_init.2.1 32 = .ok (.newarray .int, 2) := by decide +kernel
theorem d_Mo_init_34 : decode yMo_init.2.1 34 = .ok (.putfield 19, 3) := by decide +kernel
theorem d_Mo_init_37 : decode yMo_init.2.1 37 = .ok (.aload_n 0, 1) := by decide +kernel
theorem d_Mo_init_38 : decode yMo_init.2.1 38 = .ok (.bipush 12, 2) := by decide +kernel
theorem d_Mo_init_40 : decode yMo_init.2.1 40 = .ok (.newarray .int, 2) := by decide +kernel
theorem d_Mo_init_42 : decode yMo_init.2.1 42 = .ok (.putfield 22, 3) := by decide +kernel
theorem d_Mo_init_45 : decode yMo_init.2.1 45 = .ok (.aload_n 0, 1) := by decide +kernel
theorem d_Mo_init_46 : decode yMo_init.2.1 46 = .ok (.bipush 12, 2) := by decide +kernel
theorem d_Mo_init_48 : decode yMo_init.2.1 48 = .ok (.newarray .int, 2) := by decide +kernel
theorem d_Mo_init_50 : decode yMo_init.2.1 50 = .ok (.putfield 25, 3) := by decide +kernel
theorem d_Mo_init_53 : decode yMo_init.2.1 53 = .ok (.aload_n 0, 1) := by decide +kernel
theorem d_Mo_init_54 : decode yMo_init.2.1 54 = .ok (.bipush 8, 2) := by decide +kernel
theorem d_Mo_init_56 : decode yMo_init.2.1 56 = .ok (.newarray .int, 2) := by decide +kernel
theorem d_Mo_init_58 : decode yMo_init.2.1 58 = .ok (.putfield 28, 3) := by decide +kernel
theorem d_Mo_init_61 : decode yMo_init.2.1 61 = .ok (.aload_n 0, 1) := by decide +kernel
theorem d_Mo_init_62 : decode yMo_init.2.1 62 = .ok (.sipush 600, 3) := by decide +kernel
theorem d_Mo_init_65 : decode yMo_init.2.1 65 = .ok (.newarray .int, 2) := by decide +kernel
theorem d_Mo_init_67 : decode yMo_init.2.1 67 = .ok (.putfield 31, 3) := by decide +kernel
theorem d_Mo_init_70 : decode yMo_init.2.1 70 = .ok (.aload_n 0, 1) := by decide +kernel
theorem d_Mo_init_71 : decode yMo_init.2.1 71 = .ok (.sipush 400, 3) := by decide +kernel
theorem d_Mo_init_74 : decode yMo_init.2.1 74 = .ok (.newarray .int, 2) := by decide +kernel
theorem d_Mo_init_76 : decode yMo_init.2.1 76 = .ok (.putfield 34, 3) := by decide +kernel
theorem d_Mo_init_79 : decode yMo_init.2.1 79 = .ok (.aload_n 0, 1) := by decide +kernel
theorem d_Mo_init_80 : decode yMo_init.2.1 80 = .ok (.sipush 142, 3) := by decide +kernel
theorem d_Mo_init_83 : decode yMo_init.2.1 83 = .ok (.newarray .int, 2) := by decide +kernel
theorem d_Mo_init_85 : decode yMo_init.2.1 85 = .ok (.dup, 1) := by decide +kernel
theorem d_Mo_init_86 : decode yMo_init.2.1 86 = .ok (.iconst 0, 1) := by decide +kernel
theorem d_Mo_init_87 : decode yMo_init.2.1 87 = .ok (.bipush 32, 2) := by decide +kernel
theorem d_Mo_init_89 : decode yMo_init.2.1 89 = .ok (.iastore, 1) := by decide +kernel
theorem d_Mo_init_90 : decode yMo_init.2.1 90 = .ok (.dup, 1) := by decide +kernel
theorem d_Mo_init_91 : decode yMo_init.2.1 91 = .ok (.iconst 1, 1) := by decide +kernel
theorem d_Mo_init_92 : decode yMo_init.2.1 92 = .ok (.bipush 112, 2) := by decide +kernel
theorem d_Mo_init_94 : decode yMo_init.2.1 94 = .ok (.iastore, 1) := by decide +kernel
theorem d_Mo_init_95 : decode yMo_init.2.1 95 = .ok (.dup, 1) := by decide +kernel
theorem d_Mo_init_96 : decode yMo_init.2.1 96 = .ok (.iconst 2, 1) := by decide +kernel
theorem d_Mo_init_97 : decode yMo_init.2.1 97 = .ok (.bipush 97, 2) := by decide +kernel
theorem d_Mo_init_99 : decode yMo_init.2.1 99 = .ok (.iastore, 1) := by decide +kernel
theorem d_Mo_init_100 : decode yMo_init.2.1 100 = .ok (.dup, 1) := by decide +kernel
theorem d_Mo_init_101 : decode yMo_init.2.1 101 = .ok (.iconst 3, 1) := by decide +kernel
theorem d_Mo_init_102 : decode yMo_init.2.1 102 = .ok (.bipush 115, 2) := by decide +kernel
theorem d_Mo_init_104 : decode yMo_init.2.1 104 = .ok (.iastore, 1) := by decide +kernel
theorem d_Mo_init_105 : decode yMo_init.2.1 105 = .ok (.dup, 1) := by decide +kernel
theorem d_Mo_init_106 : decode yMo_init.2.1 106 = .ok (.iconst 4, 1) := by decide +kernel
theorem d_Mo_init_107 : decode yMo_init.2.1 107 = .ok (.bipush 115, 2) := by decide +kernel
theorem d_Mo_init_109 : decode yMo_init.2.1 109 = .ok (.iastore, 1) := by decide +kernel
theorem d_Mo_init_110 : decode yMo_init.2.1 110 = .ok (.dup, 1) := by decide +kernel
theorem d_Mo_init_111 : decode yMo_init.2.1 111 = .ok (.iconst 5, 1) := by decide +kernel
theorem d_Mo_init_112 : decode yMo_init.2.1 112 = .ok (.bipush 101, 2) := by decide +kernel
theorem d_Mo_init_114 : decode yMo_init.2.1 114 = .ok (.iastore, 1) := by decide +kernel
theorem d_Mo_init_115 : decode yMo_init.2.1 115 = .ok (.dup, 1) := by decide +kernel
theorem d_Mo_init_116 : decode yMo_init.2.1 116 = .ok (.bipush 6, 2) := by decide +kernel
theorem d_Mo_init_118 : decode yMo_init.2.1 118 = .ok (.bipush 115, 2) := by decide +kernel
theorem d_Mo_init_120 : decode yMo_init.2.1 120 = .ok (.iastore, 1) := by decide +kernel
theorem d_Mo_init_121 : decode yMo_init.2.1 121 = .ok (.dup, 1) := by decide +kernel
theorem d_Mo_init_122 : decode yMo_init.2.1 122 = .ok (.bipush 7, 2) := by decide +kernel
theorem d_Mo_init_124 : decode yMo_init.2.1 124 = .ok (.bipush 32, 2) := by decide +kernel
theorem d_Mo_init_126 : decode yMo_init.2.1 126 = .ok (.iastore, 1) := by decide +kernel
theorem d_Mo_init_127 : decode yMo_init.2.1 127 = .ok (.dup, 1) := by decide +kernel
theorem d_Mo_init_128 : decode yMo_init.2.1 128 = .ok (.bipush 8, 2) := by decide +kernel
theorem d_Mo_init_130 : decode yMo_init.2.1 130 = .ok (.bipush 112, 2) := by decide +kernel
theorem d_Mo_init_132 : decode yMo_init.2.1 132 = .ok (.iastore, 1) := by decide +kernel
theorem d_Mo_init_133 : decode yMo_init.2.1 133 = .ok (.dup, 1) := by decide +kernel
theorem d_Mo_init_134 : decode yMo_init.2.1 134 = .ok (.bipush 9, 2) := by decide +kernel
theorem d_Mo_init_136 : decode yMo_init.2.1 136 = .ok (.bipush 111, 2) := by decide +kernel
theorem d_Mo_init_138 : decode yMo_init.2.1 138 = .ok (.iastore, 1) := by decide +kernel
theorem d_Mo_init_139 : decode yMo_init.2.1 139 = .ok (.dup, 1) := by decide +kernel
theorem d_Mo_init_140 : decode yMo_init.2.1 140 = .ok (.bipush 10, 2) := by decide +kernel
theorem d_Mo_init_142 : decode yMo_init.2.1 142 = .ok (.bipush 117, 2) := by decide +kernel
theorem d_Mo_init_144 : decode yMo_init.2.1 144 = .ok (.iastore, 1) := by decide +kernel
theorem d_Mo_init_145 : decode yMo_init.2.1 145 = .ok (.dup, 1) := by decide +kernel
theorem d_Mo_init_146 : decode yMo_init.2.1 146 = .ok (.bipush 11, 2) := by decide +kernel
theorem d_Mo_init_148 : decode yMo_init.2.1 148 = .ok (.bipush 114, 2) := by decide +kernel
theorem d_Mo_init_150 : decode yMo_init.2.1 150 = .ok (.iastore, 1) := by decide +kernel
theorem d_Mo_init_151 : decode yMo_init.2.1 151 = .ok (.dup, 1) := by decide +kernel
theorem d_Mo_init_152 : decode yMo_init.2.1 152 = .ok (.bipush 12, 2) := by decide +kernel
theorem d_Mo_init_154 : decode yMo_init.2.1 154 = .ok (.bipush 115, 2) := by decide +kernel
theorem d_Mo_init_156 : decode yMo_init.2.1 156 = .ok (.iastore, 1) := by decide +kernel
theorem d_Mo_init_157 : decode yMo_init.2.1 157 = .ok (.dup, 1) := by decide +kernel
theorem d_Mo_init_158 : decode yMo_init.2.1 158 = .ok (.bipush 13, 2) := by decide +kernel
theorem d_Mo_init_160 : decode yMo_init.2.1 160 = .ok (.bipush 32, 2) := by decide +kernel
theorem d_Mo_init_162 : decode yMo_init.2.1 162 = .ok (.iastore, 1) := by decide +kernel
theorem d_Mo_init_163 : decode yMo_init.2.1 163 = .ok (.dup, 1) := by decide +kernel
theorem d_Mo_init_164 : decode yMo_init.2.1 164 = .ok (.bipush 14, 2) := by decide +kernel
theorem d_Mo_init_166 : decode yMo_init.2.1 166 = .ok (.bipush 115, 2) := by decide +kernel
theorem d_Mo_init_168 : decode yMo_init.2.1 168 = .ok (.iastore, 1) := by decide +kernel
theorem d_Mo_init_169 : decode yMo_init.2.1 169 = .ok (.dup, 1) := by decide +kernel
theorem d_Mo_init_170 : decode yMo_init.2.1 170 = .ok (.bipush 15, 2) := by decide +kernel
theorem d_Mo_init_172 : decode yMo_init.2.1 172 = .ok (.bipush 112, 2) := by decide +kernel
theorem d_Mo_init_174 : decode yMo_init.2.1 174 = .ok (.iastore, 1) := by decide +kernel
theorem d_Mo_init_175 : decode yMo_init.2.1 175 = .ok (.dup, 1) := by decide +kernel
theorem d_Mo_init_176 : decode yMo_init.2.1 176 = .ok (.bipush 16, 2) := by decide +kernel
theorem d_Mo_init_178 : decode yMo_init.2.1 178 = .ok (.bipush 105, 2) := by decide +kernel
theorem d_Mo_init_180 : decode yMo_init.2.1 180 = .ok (.iastore, 1) := by decide +kernel
theorem d_Mo_init_181 : decode yMo_init.2.1 181 = .ok (.dup, 1) := by decide +kernel
theorem d_Mo_init_182 : decode yMo_init.2.1 182 = .ok (.bipush 17, 2) := by decide +kernel
theorem d_Mo_init_184 : decode yMo_init.2.1 184 = .ok (.bipush 108, 2) := by decide +kernel
theorem d_Mo_init_186 : decode yMo_init.2.1 186 = .ok (.iastore, 1) := by decide +kernel
theorem d_Mo_init_187 : decode yMo_init.2.1 187 = .ok (.dup, 1) := by decide +kernel
theorem d_Mo_init_188 : decode yMo_init.2.1 188 = .ok (.bipush 18, 2) := by decide +kernel
theorem d_Mo_init_190 : decode yMo_init.2.1 190 = .ok (.bipush 108, 2) := by decide +kernel
theorem d_Mo_init_192 : decode yMo_init.2.1 192 = .ok (.iastore, 1) := by decide +kernel
theorem d_Mo_init_193 : decode yMo_init.2.1 193 = .ok (.dup, 1) := by decide +kernel
theorem d_Mo_init_194 : decode yMo_init.2.1 194 = .ok (.bipush 19, 2) := by decide +kernel
theorem d_Mo_init_196 : decode yMo_init.2.1 196 = .ok (.bipush 115, 2) := by decide +kernel
theorem d_Mo_init_198 : decode yMo_init.2.1 198 = .ok (.iastore, 1) := by decide +kernel
theorem d_Mo_init_199 : decode yMo_init.2.1 199 = .ok (.dup, 1) := by decide +kernel
theorem d_Mo_init_200 : decode yMo_init.2.1 200 = .ok (.bipush 20, 2) := by decide +kernel
theorem d_Mo_init_202 : decode yMo_init.2.1 202 = .ok (.bipush 32, 2) := by decide +kernel
theorem d_Mo_init_204 : decode yMo_init.2.1 204 = .ok (.iastore, 1) := by decide +kernel
theorem d_Mo_init_205 : decode yMo_init.2.1 205 = .ok (.dup, 1) := by decide +kernel
theorem d_Mo_init_206 : decode yMo_init.2.1 206 = .ok (.bipush 21, 2) := by decide +kernel
theorem d_Mo_init_208 : decode yMo_init.2.1 208 = .ok (.bipush 119, 2) := by decide +kernel
theorem d_Mo_init_210 : decode yMo_init.2.1 210 = .ok (.iastore, 1) := by decide +kernel
theorem d_Mo_init_211 : decode yMo_init.2.1 211 = .ok (.dup, 1) := by decide +kernel
theorem d_Mo_init_212 : decode yMo_init.2.1 212 = .ok (.bipush 22, 2) := by decide +kernel
theorem d_Mo_init_214 : decode yMo_init.2.1 214 = .ok (.bipush 104, 2) := by decide +kernel
theorem d_Mo_init_216 : decode yMo_init.2.1 216 = .ok (.iastore, 1) := by decide +kernel
theorem d_Mo_init_217 : decode yMo_init.2.1 217 = .ok (.dup, 1) := by decide +kernel
theorem d_Mo_init_218 : decode yMo_init.2.1 218 = .ok (.bipush 23, 2) := by decide +kernel
theorem d_Mo_init_220 : decode yMo_init.2.1 220 = .ok (.bipush 101, 2) := by decide +kernel
theorem d_Mo_init_222 : decode yMo_init.2.1 222 = .ok (.iastore, 1) := by decide +kernel
theorem d_Mo_init_223 : decode yMo_init.2.1 223 = .ok (.dup, 1) := by decide +kernel
theorem d_Mo_init_224 : decode yMo_init.2.1 224 = .ok (.bipush 24, 2) := by decide +kernel
theorem d_Mo_init_226 : decode yMo_init.2.1 226 = .ok (.bipush 110, 2) := by decide +kernel
theorem d_Mo_init_228 : decode yMo_init.2.1 228 = .ok (.iastore, 1) := by decide +kernel
theorem d_Mo_init_229 : decode yMo_init.2.1 229 = .ok (.dup, 1) := by decide +kernel
theorem d_Mo_init_230 : decode yMo_init.2.1 230 = .ok (.bipush 25, 2) := by decide +kernel
theorem d_Mo_init_232 : decode yMo_init.2.1 232 = .ok (.bipush 32, 2) := by decide +kernel
theorem d_Mo_init_234 : decode yMo_init.2.1 234 = .ok (.iastore, 1) := by decide +kernel
theorem d_Mo_init_235 : decode yMo_init.2.1 235 = .ok (.dup, 1) := by decide +kernel
theorem d_Mo_init_236 : decode yMo_init.2.1 236 = .ok (.bipush 26, 2) := by decide +kernel
theorem d_Mo_init_238 : decode yMo_init.2.1 238 = .ok (.bipush 111, 2) := by decide +kernel
theorem d_Mo_init_240 : decode yMo_init.2.1 240 = .ok (.iastore, 1) := by decide +kernel
theorem d_Mo_init_241 : decode yMo_init.2.1 241 = .ok (.dup, 1) := by decide +kernel
theorem d_Mo_init_242 : decode yMo_init.2.1 242 = .ok (.bipush 27, 2) := by decide +kernel
theorem d_Mo_init_244 : decode yMo_init.2.1 244 = .ok (.bipush 114, 2) := by decide +kernel
theorem d_Mo_init_246 : decode yMo_init.2.1 246 = .ok (.iastore, 1) := by decide +kernel
theorem d_Mo_init_247 : decode yMo_init.2.1 247 = .ok (.dup, 1) := by decide +kernel
theorem d_Mo_init_248 : decode yMo_init.2.1 248 = .ok (.bipush 28, 2) := by decide +kernel
theorem d_Mo_init_250 : decode yMo_init.2.1 250 = .ok (.bipush 32, 2) := by decide +kernel
theorem d_Mo_init_252 : decode yMo_init.2.1 252 = .ok (.iastore, 1) := by decide +kernel
theorem d_Mo_init_253 : decode yMo_init.2.1 253 = .ok (.dup, 1) := by decide +kernel
theorem d_Mo_init_254 : decode yMo_init.2.1 254 = .ok (.bipush 29, 2) := by decide +kernel
theorem d_Mo_init_256 : decode yMo_init.2.1 256 = .ok (.bipush 97, 2) := by decide +kernel
theorem d_Mo_init_258 : decode yMo_init.2.1 258 = .ok (.iastore, 1) := by decide +kernel
theorem d_Mo_init_259 : decode yMo_init.2.1 259 = .ok (.dup, 1) := by decide +kernel
theorem d_Mo_init_260 : decode yMo_init.2.1 260 = .ok (.bipush 30, 2) := by decide +kernel
theorem d_Mo_init_262 : decode yMo_init.2.1 262 = .ok (.bipush 110, 2) := by decide +kernel
theorem d_Mo_init_264 : decode yMo_init.2.1 264 = .ok (.iastore, 1) := by decide +kernel
theorem d_Mo_init_265 : decode yMo_init.2.1 265 = .ok (.dup, 1) := by decide +kernel
theorem d_Mo_init_266 : decode yMo_init.2.1 266 = .ok (.bipush 31, 2) := by decide +kernel
theorem d_Mo_init_268 : decode yMo_init.2.1 268 = .ok (.bipush 100, 2) := by decide +kernel
theorem d_Mo_init_270 : decode yMo_init.2.1 270 = .ok (.iastore, 1) := by decide +kernel
theorem d_Mo_init_271 : decode yMo_init.2.1 271 = .ok (.dup, 1) := by decide +kernel
theorem d_Mo_init_272 : decode yMo_init.2.1 272 = .ok (.bipush 32, 2) := by decide +kernel
theorem d_Mo_init_274 : decode yMo_init.2.1 274 = .ok (.bipush 32, 2) := by decide +kernel
theorem d_Mo_init_276 : decode yMo_init.2.1 276 = .ok (.iastore, 1) := by decide +kernel
theorem d_Mo_init_277 : decode yMo_init.2.1 277 = .ok (.dup, 1) := by decide +kernel
theorem d_Mo_init_278 : decode yMo_init.2.1 278 = .ok (.bipush 33, 2) := by decide +kernel
theorem d_Mo_init_280 : decode yMo_init.2.1 280 = .ok (.bipush 110, 2) := by decide +kernel
theorem d_Mo_init_282 : decode yMo_init.2.1 282 = .ok (.iastore, 1) := by decide +kernel
theorem d_Mo_init_283 : decode yMo_init.2.1 283 = .ok (.dup, 1) := by decide +kernel
theorem d_Mo_init_284 : decode yMo_init.2.1 284 = .ok (.bipush 34, 2) := by decide +kernel
theorem d_Mo_init_286 : decode yMo_init.2.1 286 = .ok (.bipush 111, 2) := by decide +kernel
theorem d_Mo_init_288 : decode yMo_init.2.1 288 = .ok (.iastore, 1) := by decide +kernel
theorem d_Mo_init_289 : decode yMo_init.2.1 289 = .ok (.dup, 1) := by decide +kernel
theorem d_Mo_init_290 : decode yMo_init.2.1 290 = .ok (.bipush 35, 2) := by decide +kernel
theorem d_Mo_init_292 : decode yMo_init.2.1 292 = .ok (.bipush 116, 2) := by decide +kernel
theorem d_Mo_init_294 : decode yMo_init.2.1 294 = .ok (.iastore, 1) := by decide +kernel
theorem d_Mo_init_295 : decode yMo_init.2.1 295 = .ok (.dup, 1) := by decide +kernel
theorem d_Mo_init_296 : decode yMo_init.2.1 296 = .ok (.bipush 36, 2) := by decide +kernel
theorem d_Mo_init_298 : decode yMo_init.2.1 298 = .ok (.bipush 32, 2) := by decide +kernel
theorem d_Mo_init_300 : decode yMo_init.2.1 300 = .ok (.iastore, 1) := by decide +kernel
theorem d_Mo_init_301 : decode yMo_init.2.1 301 = .ok (.dup, 1) := by decide +kernel
theorem d_Mo_init_302 : decode yMo_init.2.1 302 = .ok (.bipush 37, 2) := by decide +kernel
theorem d_Mo_init_304 : decode yMo_init.2.1 304 = .ok (.bipush 107, 2) := by decide +kernel
theorem d_Mo_init_306 : decode yMo_init.2.1 306 = .ok (.iastore, 1) := by decide +kernel
theorem d_Mo_init_307 : decode yMo_init.2.1 307 = .ok (.dup, 1) := by decide +kernel
theorem d_Mo_init_308 : decode yMo_init.2.1 308 = .ok (.bipush 38, 2) := by decide +kernel
theorem d_Mo_init_310 : decode yMo_init.2.1 310 = .ok (.bipush 105, 2) := by decide +kernel
theorem d_Mo_init_312 : decode yMo_init.2.1 312 = .ok (.iastore, 1) := by decide +kernel
theorem d_Mo_init_313 : decode yMo_init.2.1 313 = .ok (.dup, 1) := by decide +kernel
theorem d_Mo_init_314 : decode yMo_init.2.1 314 = .ok (.bipush 39, 2) := by decide +kernel
theorem d_Mo_init_316 : decode yMo_init.2.1 316 = .ok (.bipush 110, 2) := by decide +kernel
theorem d_Mo_init_318 : decode yMo_init.2.1 318 = .ok (.iastore, 1) := by decide +kernel
theorem d_Mo_init_319 : decode yMo_init.2.1 319 = .ok (.dup, 1) := by decide +kernel
theorem d_Mo_init_320 : decode yMo_init.2.1 320 = .ok (.bipush 40, 2) := by decide +kernel
theorem d_Mo_init_322 : decode yMo_init.2.1 322 = .ok (.bipush 100, 2) := by decide +kernel
theorem d_Mo_init_324 : decode yMo_init.2.1 324 = .ok (.iastore, 1) := by decide +kernel
theorem d_Mo_init_325 : decode yMo_init.2.1 325 = .ok (.dup, 1) := by decide +kernel
theorem d_Mo_init_326 : decode yMo_init.2.1 326 = .ok (.bipush 41, 2) := by decide +kernel
theorem d_Mo_init_328 : decode yMo_init.2.1 328 = .ok (.bipush 32, 2) := by decide +kernel
theorem d_Mo_init_330 : decode yMo_init.2.1 330 = .ok (.iastore, 1) := by decide +kernel
theorem d_Mo_init_331 : decode yMo_init.2.1 331 = .ok (.dup, 1) := by decide +kernel
theorem d_Mo_init_332 : decode yMo_init.2.1 332 = .ok (.bipush 42, 2) := by decide +kernel
theorem d_Mo_init_334 : decode yMo_init.2.1 334 = .ok (.bipush 102, 2) := by decide +kernel
theorem d_Mo_init_336 : decode yMo_init.2.1 336 = .ok (.iastore, 1) := by decide +kernel
theorem d_Mo_init_337 : decode yMo_init.2.1 337 = .ok (.dup, 1) := by decide +kernel
theorem d_Mo_init_338 : decode yMo_init.2.1 338 = .ok (.bipush 43, 2) := by decide +kernel
theorem d_Mo_init_340 : decode yMo_init.2.1 340 = .ok (.bipush 117, 2) := by decide +kernel
theorem d_Mo_init_342 : decode yMo_init.2.1 342 = .ok (.iastore, 1) := by decide +kernel
theorem d_Mo_init_343 : decode yMo_init.2.1 343 = .ok (.dup, 1) := by decide +kernel
theorem d_Mo_init_344 : decode yMo_init.2.1 344 = .ok (.bipush 44, 2) := by decide +kernel
theorem d_Mo_init_346 : decode yMo_init.2.1 346 = .ok (.bipush 108, 2) := by decide +kernel
theorem d_Mo_init_348 : decode yMo_init.2.1 348 = .ok (.iastore, 1) := by decide +kernel
theorem d_Mo_init_349 : decode yMo_init.2.1 349 = .ok (.dup, 1) := by decide +kernel
theorem d_Mo_init_350 : decode yMo_init.2.1 350 = .ok (.bipush 45, 2) := by decide +kernel
theorem d_Mo_init_352 : decode yMo_init.2.1 352 = .ok (.bipush 108, 2) := by decide +kernel
theorem d_Mo_init_354 : decode yMo_init.2.1 354 = .ok (.iastore, 1) := by decide +kernel
theorem d_Mo_init_355 : decode yMo_init.2.1 355 = .ok (.dup, 1) := by decide +kernel
theorem d_Mo_init_356 : decode yMo_init.2.1 356 = .ok (.bipush 46, 2) := by decide +kernel
theorem d_Mo_init_358 : decode yMo_init.2.1 358 = .ok (.bipush 32, 2) := by decide +kernel
theorem d_Mo_init_360 : decode yMo_init.2.1 360 = .ok (.iastore, 1) := by decide +kernel
theorem d_Mo_init_361 : decode yMo_init.2.1 361 = .ok (.dup, 1) := by decide +kernel
theorem d_Mo_init_362 : decode yMo_init.2.1 362 = .ok (.bipush 47, 2) := by decide +kernel
theorem d_Mo_init_364 : decode yMo_init.2.1 364 = .ok (.bipush 115, 2) := by decide +kernel
theorem d_Mo_init_366 : decode yMo_init.2.1 366 = .ok (.iastore, 1) := by decide +kernel
theorem d_Mo_init_367 : decode yMo_init.2.1 367 = .ok (.dup, 1) := by decide +kernel
theorem d_Mo_init_368 : decode yMo_init.2.1 368 = .ok (.bipush 48, 2) := by decide +kernel
theorem d_Mo_init_370 : decode yMo_init.2.1 370 = .ok (.bipush 107, 2) := by decide +kernel
theorem d_Mo_init_372 : decode yMo_init.2.1 372 = .ok (.iastore, 1) := by decide +kernel
theorem d_Mo_init_373 : decode yMo_init.2.1 373 = .ok (.dup, 1) := by decide +kernel
theorem d_Mo_init_374 : decode yMo_init.2.1 374 = .ok (.bipush 49, 2) := by decide +kernel
theorem d_Mo_init_376 : decode yMo_init.2.1 376 = .ok (.bipush 105, 2) := by decide +kernel
theorem d_Mo_init_378 : decode yMo_init.2.1 378 = .ok (.iastore, 1) := by decide +kernel
theorem d_Mo_init_379 : decode yMo_init.2.1 379 = .ok (.dup, 1) := by decide +kernel
theorem d_Mo_init_380 : decode yMo_init.2.1 380 = .ok (.bipush 50, 2) := by decide +kernel
theorem d_Mo_init_382 : decode yMo_init.2.1 382 = .ok (.bipush 110, 2) := by decide +kernel
theorem d_Mo_init_384 : decode yMo_init.2.1 384 = .ok (.iastore, 1) := by decide +kernel
theorem d_Mo_init_385 : decode yMo_init.2.1 385 = .ok (.dup, 1) := by decide +kernel
theorem d_Mo_init_386 : decode yMo_init.2.1 386 = .ok (.bipush 51, 2) := by decide +kernel
theorem d_Mo_init_388 : decode yMo_init.2.1 388 = .ok (.bipush 32, 2) := by decide +kernel
theorem d_Mo_init_390 : decode yMo_init.2.1 390 = .ok (.iastore, 1) := by decide +kernel
theorem d_Mo_init_391 : decode yMo_init.2.1 391 = .ok (.dup, 1) := by decide +kernel
theorem d_Mo_init_392 : decode yMo_init.2.1 392 = .ok (.bipush 52, 2) := by decide +kernel
theorem d_Mo_init_394 : decode yMo_init.2.1 394 = .ok (.bipush 115, 2) := by decide +kernel
theorem d_Mo_init_396 : decode yMo_init.2.1 396 = .ok (.iastore, 1) := by decide +kernel
theorem d_Mo_init_397 : decode yMo_init.2.1 397 = .ok (.dup, 1) := by decide +kernel
theorem d_Mo_init_398 : decode yMo_init.2.1 398 = .ok (.bipush 53, 2) := by decide +kernel
theorem d_Mo_init_400 : decode yMo_init.2.1 400 = .ok (.bipush 116, 2) := by decide +kernel
theorem d_Mo_init_402 : decode yMo_init.2.1 402 = .ok (.iastore, 1) := by decide +kernel
theorem d_Mo_init_403 : decode yMo_init.2.1 403 = .ok (.dup, 1) := by decide +kernel
theorem d_Mo_init_404 : decode yMo_init.2.1 404 = .ok (.bipush 54, 2) := by decide +kernel
theorem d_Mo_init_406 : decode yMo_init.2.1 406 = .ok (.bipush 101, 2) := by decide +kernel
theorem d_Mo_init_408 : decode yMo_init.2.1 408 = .ok (.iastore, 1) := by decide +kernel
theorem d_Mo_init_409 : decode yMo_init.2.1 409 = .ok (.dup, 1) := by decide +kernel
theorem d_Mo_init_410 : decode yMo_init.2.1 410 = .ok (.bipush 55, 2) := by decide +kernel
theorem d_Mo_init_412 : decode yMo_init.2.1 412 = .ok (.bipush 97, 2) := by decide +kernel
theorem d_Mo_init_414 : decode yMo_init.2.1 414 = .ok (.iastore, 1) := by decide +kernel
theorem d_Mo_init_415 : decode yMo_init.2.1 415 = .ok (.dup, 1) := by decide +kernel
theorem d_Mo_init_416 : decode yMo_init.2.1 416 = .ok (.bipush 56, 2) := by decide +kernel
theorem d_Mo_init_418 : decode yMo_init.2.1 418 = .ok (.bipush 100, 2) := by decide +kernel
theorem d_Mo_init_420 : decode yMo_init.2.1 420 = .ok (.iastore, 1) := by decide +kernel
theorem d_Mo_init_421 : decode yMo_init.2.1 421 = .ok (.dup, 1) := by decide +kernel
theorem d_Mo_init_422 : decode yMo_init.2.1 422 = .ok (.bipush 57, 2) := by decide +kernel
theorem d_Mo_init_424 : decode yMo_init.2.1 424 = .ok (.bipush 121, 2) := by decide +kernel
theorem d_Mo_init_426 : decode yMo_init.2.1 426 = .ok (.iastore, 1) := by decide +kernel
theorem d_Mo_init_427 : decode yMo_init.2.1 427 = .ok (.dup, 1) := by decide +kernel
theorem d_Mo_init_428 : decode yMo_init.2.1 428 = .ok (.bipush 58, 2) := by decide +kernel
theorem d_Mo_init_430 : decode yMo_init.2.1 430 = .ok (.bipush 32, 2) := by decide +kernel
theorem d_Mo_init_432 : decode yMo_init.2.1 432 = .ok (.iastore, 1) := by decide +kernel
theorem d_Mo_init_433 : decode yMo_init.2.1 433 = .ok (.dup, 1) := by decide +kernel
theorem d_Mo_init_434 : decode yMo_init.2.1 434 = .ok (.bipush 59, 2) := by decide +kernel
theorem d_Mo_init_436 : decode yMo_init.2.1 436 = .ok (.bipush 116, 2) := by decide +kernel
theorem d_Mo_init_438 : decode yMo_init.2.1 438 = .ok (.iastore, 1) := by decide +kernel
theorem d_Mo_init_439 : decode yMo_init.2.1 439 = .ok (.dup, 1) := by decide +kernel
theorem d_Mo_init_440 : decode yMo_init.2.1 440 = .ok (.bipush 60, 2) := by decide +kernel
theorem d_Mo_init_442 : decode yMo_init.2.1 442 = .ok (.bipush 104, 2) := by decide +kernel
theorem d_Mo_init_444 : decode yMo_init.2.1 444 = .ok (.iastore, 1) := by decide +kernel
theorem d_Mo_init_445 : decode yMo_init.2.1 445 = .ok (.dup, 1) := by decide +kernel
theorem d_Mo_init_446 : decode yMo_init.2.1 446 = .ok (.bipush 61, 2) := by decide +kernel
theorem d_Mo_init_448 : decode yMo_init.2.1 448 = .ok (.bipush 105, 2) := by decide +kernel
theorem d_Mo_init_450 : decode yMo_init.2.1 450 = .ok (.iastore, 1) := by decide +kernel
theorem d_Mo_init_451 : decode yMo_init.2.1 451 = .ok (.dup, 1) := by decide +kernel
theorem d_Mo_init_452 : decode yMo_init.2.1 452 = .ok (.bipush 62, 2) := by decide +kernel
theorem d_Mo_init_454 : decode yMo_init.2.1 454 = .ok (.bipush 114, 2) := by decide +kernel
theorem d_Mo_init_456 : decode yMo_init.2.1 456 = .ok (.iastore, 1) := by decide +kernel
theorem d_Mo_init_457 : decode yMo_init.2.1 457 = .ok (.dup, 1) := by decide +kernel
theorem d_Mo_init_458 : decode yMo_init.2.1 458 = .ok (.bipush 63, 2) := by decide +kernel
theorem d_Mo_init_460 : decode yMo_init.2.1 460 = .ok (.bipush 115, 2) := by decide +kernel
theorem d_Mo_init_462 : decode yMo_init.2.1 462 = .ok (.iastore, 1) := by decide +kernel
theorem d_Mo_init_463 : decode yMo_init.2.1 463 = .ok (.dup, 1) := by decide +kernel
theorem d_Mo_init_464 : decode yMo_init.2.1 464 = .ok (.bipush 64, 2) := by decide +kernel
theorem d_Mo_init_466 : decode yMo_init.2.1 466 = .ok (.bipush 116, 2) := by decide +kernel
theorem d_Mo_init_468 : decode yMo_init.2.1 468 = .ok (.iastore, 1) := by decide +kernel
theorem d_Mo_init_469 : decode yMo_init.2.1 469 = .ok (.dup, 1) := by decide +kernel
theorem d_Mo_init_470 : decode yMo_init.2.1 470 = .ok (.bipush 65, 2) := by decide +kernel
theorem d_Mo_init_472 : decode yMo_init.2.1 472 = .ok (.bipush 32, 2) := by decide +kernel
theorem d_Mo_init_474 : decode yMo_init.2.1 474 = .ok (.iastore, 1) := by decide +kernel
theorem d_Mo_init_475 : decode yMo_init.2.1 475 = .ok (.dup, 1) := by decide +kernel
theorem d_Mo_init_476 : decode yMo_init.2.1 476 = .ok (.bipush 66, 2) := by decide +kernel
theorem d_Mo_init_478 : decode yMo_init.2.1 478 = .ok (.bipush 108, 2) := by decide +kernel
theorem d_Mo_init_480 : decode yMo_init.2.1 480 = .ok (.iastore, 1) := by decide +kernel
theorem d_Mo_init_481 : decode yMo_init.2.1 481 = .ok (.dup, 1) := by decide +kernel
theorem d_Mo_init_482 : decode yMo_init.2.1 482 = .ok (.bipush 67, 2) := by decide +kernel
theorem d_Mo_init_484 : decode yMo_init.2.1 484 = .ok (.bipush 111, 2) := by decide +kernel
theorem d_Mo_init_486 : decode yMo_init.2.1 486 = .ok (.iastore, 1) := by decide +kernel
theorem d_Mo_init_487 : decode yMo_init.2.1 487 = .ok (.dup, 1) := by decide +kernel
theorem d_Mo_init_488 : decode yMo_init.2.1 488 = .ok (.bipush 68, 2) := by decide +kernel
theorem d_Mo_init_490 : decode yMo_init.2.1 490 = .ok (.bipush 118, 2) := by decide +kernel
theorem d_Mo_init_492 : decode yMo_init.2.1 492 = .ok (.iastore, 1) := by decide +kernel
theorem d_Mo_init_493 : decode yMo_init.2.1 493 = .ok (.dup, 1) := by decide +kernel
theorem d_Mo_init_494 : decode yMo_init.2.1 494 = .ok (.bipush 69, 2) := by decide +kernel
theorem d_Mo_init_496 : decode yMo_init.2.1 496 = .ok (.bipush 101, 2) := by decide +kernel
theorem d_Mo_init_498 : decode yMo_init.2.1 498 = .ok (.iastore, 1) := by decide +kernel
theorem d_Mo_init_499 : decode yMo_init.2.1 499 = .ok (.dup, 1) := by decide +kernel
theorem d_Mo_init_500 : decode yMo_init.2.1 500 = .ok (.bipush 70, 2) := by decide +kernel
theorem d_Mo_init_502 : decode yMo_init.2.1 502 = .ok (.bipush 32, 2) := by decide +kernel
theorem d_Mo_init_504 : decode yMo_init.2.1 504 = .ok (.iastore, 1) := by decide +kernel
theorem d_Mo_init_505 : decode yMo_init.2.1 505 = .ok (.dup, 1) := by decide +kernel
theorem d_Mo_init_506 : decode yMo_init.2.1 506 = .ok (.bipush 71, 2) := by decide +kernel
theorem d_Mo_init_508 : decode yMo_init.2.1 508 = .ok (.bipush 112, 2) := by decide +kernel
theorem d_Mo_init_510 : decode yMo_init.2.1 510 = .ok (.iastore, 1) := by decide +kernel
theorem d_Mo_init_511 : decode yMo_init.2.1 511 = .ok (.dup, 1) := by decide +kernel
theorem d_Mo_init_512 : decode yMo_init.2.1 512 = .ok (.bipush 72, 2) := by decide +kernel
theorem d_Mo_init_514 : decode yMo_init.2.1 514 = .ok (.bipush 105, 2) := by decide +kernel
theorem d_Mo_init_516 : decode yMo_init.2.1 516 = .ok (.iastore, 1) := by decide +kernel
theorem d_Mo_init_517 : decode yMo_init.2.1 517 = .ok (.dup, 1) := by decide +kernel
theorem d_Mo_init_518 : decode yMo_init.2.1 518 = .ok (.bipush 73, 2) := by decide +kernel
theorem d_Mo_init_520 : decode yMo_init.2.1 520 = .ok (.bipush 114, 2) := by decide +kernel
theorem d_Mo_init_522 : decode yMo_init.2.1 522 = .ok (.iastore, 1) := by decide +kernel
theorem d_Mo_init_523 : decode yMo_init.2.1 523 = .ok (.dup, 1) := by decide +kernel
theorem d_Mo_init_524 : decode yMo_init.2.1 524 = .ok (.bipush 74, 2) := by decide +kernel
theorem d_Mo_init_526 : decode yMo_init.2.1 526 = .ok (.bipush 97, 2) := by decide +kernel
theorem d_Mo_init_528 : decode yMo_init.2.1 528 = .ok (.iastore, 1) := by decide +kernel
theorem d_Mo_init_529 : decode yMo_init.2.1 529 = .ok (.dup, 1) := by decide +kernel
theorem d_Mo_init_530 : decode yMo_init.2.1 530 = .ok (.bipush 75, 2) := by decide +kernel
theorem d_Mo_init_532 : decode yMo_init.2.1 532 = .ok (.bipush 116, 2) := by decide +kernel
theorem d_Mo_init_534 : decode yMo_init.2.1 534 = .ok (.iastore, 1) := by decide +kernel
theorem d_Mo_init_535 : decode yMo_init.2.1 535 = .ok (.dup, 1) := by decide +kernel
theorem d_Mo_init_536 : decode yMo_init.2.1 536 = .ok (.bipush 76, 2) := by decide +kernel
theorem d_Mo_init_538 : decode yMo_init.2.1 538 = .ok (.bipush 101, 2) := by decide +kernel
theorem d_Mo_init_540 : decode yMo_init.2.1 540 = .ok (.iastore, 1) := by decide +kernel
theorem d_Mo_init_541 : decode yMo_init.2.1 541 = .ok (.dup, 1) := by decide +kernel
theorem d_Mo_init_542 : decode yMo_init.2.1 542 = .ok (.bipush 77, 2) := by decide +kernel
theorem d_Mo_init_544 : decode yMo_init.2.1 544 = .ok (.bipush 32, 2) := by decide +kernel
theorem d_Mo_init_546 : decode yMo_init.2.1 546 = .ok (.iastore, 1) := by decide +kernel
theorem d_Mo_init_547 : decode yMo_init.2.1 547 = .ok (.dup, 1) := by decide +kernel
theorem d_Mo_init_548 : decode yMo_init.2.1 548 = .ok (.bipush 78, 2) := by decide +kernel
theorem d_Mo_init_550 : decode yMo_init.2.1 550 = .ok (.bipush 115, 2) := by decide +kernel
theorem d_Mo_init_552 : decode yMo_init.2.1 552 = .ok (.iastore, 1) := by decide +kernel
theorem d_Mo_init_553 : decode yMo_init.2.1 553 = .ok (.dup, 1) := by decide +kernel
theorem d_Mo_init_554 : decode yMo_init.2.1 554 = .ok (.bipush 79, 2) := by decide +kernel
theorem d_Mo_init_556 : decode yMo_init.2.1 556 = .ok (.bipush 101, 2) := by decide +kernel
theorem d_Mo_init_558 : decode yMo_init.2.1 558 = .ok (.iastore, 1) := by decide +kernel
theorem d_Mo_init_559 : decode yMo_init.2.1 559 = .ok (.dup, 1) := by decide +kernel
theorem d_Mo_init_560 : decode yMo_init.2.1 560 = .ok (.bipush 80, 2) := by decide +kernel
theorem d_Mo_init_562 : decode yMo_init.2.1 562 = .ok (.bipush 97, 2) := by decide +kernel
theorem d_Mo_init_564 : decode yMo_init.2.1 564 = .ok (.iastore, 1) := by decide +kernel
theorem d_Mo_init_565 : decode yMo_init.2.1 565 = .ok (.dup, 1) := by decide +kernel
theorem d_Mo_init_566 : decode yMo_init.2.1 566 = .ok (.bipush 81, 2) := by decide +kernel
theorem d_Mo_init_568 : decode yMo_init.2.1 568 = .ok (.bipush 116, 2) := by decide +kernel
theorem d_Mo_init_570 : decode yMo_init.2.1 570 = .ok (.iastore, 1) := by decide +kernel
theorem d_Mo_init_571 : decode yMo_init.2.1 571 = .ok (.dup, 1) := by decide +kernel
theorem d_Mo_init_572 : decode yMo_init.2.1 572 = .ok (.bipush 82, 2) := by decide +kernel
theorem d_Mo_init_574 : decode yMo_init.2.1 574 = .ok (.bipush 32, 2) := by decide +kernel
theorem d_Mo_init_576 : decode yMo_init.2.1 576 = .ok (.iastore, 1) := by decide +kernel
theorem d_Mo_init_577 : decode yMo_init.2.1 577 = .ok (.dup, 1) := by decide +kernel
theorem d_Mo_init_578 : decode yMo_init.2.1 578 = .ok (.bipush 83, 2) := by decide +kernel
theorem d_Mo_init_580 : decode yMo_init.2.1 580 = .ok (.bipush 104, 2) := by decide +kernel
theorem d_Mo_init_582 : decode yMo_init.2.1 582 = .ok (.iastore, 1) := by decide +kernel
theorem d_Mo_init_583 : decode yMo_init.2.1 583 = .ok (.dup, 1) := by decide +kernel
theorem d_Mo_init_584 : decode yMo_init.2.1 584 = .ok (.bipush 84, 2) := by decide +kernel
theorem d_Mo_init_586 : decode yMo_init.2.1 586 = .ok (.bipush 101, 2) := by decide +kernel
theorem d_Mo_init_588 : decode yMo_init.2.1 588 = .ok (.iastore, 1) := by decide +kernel
theorem d_Mo_init_589 : decode yMo_init.2.1 589 = .ok (.dup, 1) := by decide +kernel
theorem d_Mo_init_590 : decode yMo_init.2.1 590 = .ok (.bipush 85, 2) := by decide +kernel
theorem d_Mo_init_592 : decode yMo_init.2.1 592 = .ok (.bipush 97, 2) := by decide +kernel
theorem d_Mo_init_594 : decode yMo_init.2.1 594 = .ok (.iastore, 1) := by decide +kernel
theorem d_Mo_init_595 : decode yMo_init.2.1 595 = .ok (.dup, 1) := by decide +kernel
theorem d_Mo_init_596 : decode yMo_init.2.1 596 = .ok (.bipush 86, 2) := by decide +kernel
theorem d_Mo_init_598 : decode yMo_init.2.1 598 = .ok (.bipush 100, 2) := by decide +kernel
theorem d_Mo_init_600 : decode yMo_init.2.1 600 = .ok (.iastore, 1) := by decide +kernel
theorem d_Mo_init_601 : decode yMo_init.2.1 601 = .ok (.dup, 1) := by decide +kernel
theorem d_Mo_init_602 : decode yMo_init.2.1 602 = .ok (.bipush 87, 2) := by decide +kernel
theorem d_Mo_init_604 : decode yMo_init.2.1 604 = .ok (.bipush 32, 2) := by decide +kernel
theorem d_Mo_init_606 : decode yMo_init.2.1 606 = .ok (.iastore, 1) := by decide +kernel
theorem d_Mo_init_607 : decode yMo_init.2.1 607 = .ok (.dup, 1) := by decide +kernel
theorem d_Mo_init_608 : decode yMo_init.2.1 608 = .ok (.bipush 88, 2) := by decide +kernel
theorem d_Mo_init_610 : decode yMo_init.2.1 610 = .ok (.bipush 102, 2) := by decide +kernel
theorem d_Mo_init_612 : decode yMo_init.2.1 612 = .ok (.iastore, 1) := by decide +kernel
theorem d_Mo_init_613 : decode yMo_init.2.1 613 = .ok (.dup, 1) := by decide +kernel
theorem d_Mo_init_614 : decode yMo_init.2.1 614 = .ok (.bipush 89, 2) := by decide +kernel
theorem d_Mo_init_616 : decode yMo_init.2.1 616 = .ok (.bipush 111, 2) := by decide +kernel
theorem d_Mo_init_618 : decode yMo_init.2.1 618 = .ok (.iastore, 1) := by decide +kernel
theorem d_Mo_init_619 : decode yMo_init.2.1 619 = .ok (.dup, 1) := by decide +kernel
theorem d_Mo_init_620 : decode yMo_init.2.1 620 = .ok (.bipush 90, 2) := by decide +kernel
theorem d_Mo_init_622 : decode yMo_init.2.1 622 = .ok (.bipush 103, 2) := by decide +kernel
theorem d_Mo_init_624 : decode yMo_init.2.1 624 = .ok (.iastore, 1) := by decide +kernel
theorem d_Mo_init_625 : decode yMo_init.2.1 625 = .ok (.dup, 1) := by decide +kernel
theorem d_Mo_init_626 : decode yMo_init.2.1 626 = .ok (.bipush 91, 2) := by decide +kernel
theorem d_Mo_init_628 : decode yMo_init.2.1 628 = .ok (.bipush 32, 2) := by decide +kernel
theorem d_Mo_init_630 : decode yMo_init.2.1 630 = .ok (.iastore, 1) := by decide +kernel
theorem d_Mo_init_631 : decode yMo_init.2.1 631 = .ok (.dup, 1) := by decide +kernel
theorem d_Mo_init_632 : decode yMo_init.2.1 632 = .ok (.bipush 92, 2) := by decide +kernel
theorem d_Mo_init_634 : decode yMo_init.2.1 634 = .ok (.bipush 115, 2) := by decide +kernel
theorem d_Mo_init_636 : decode yMo_init.2.1 636 = .ok (.iastore, 1) := by decide +kernel
theorem d_Mo_init_637 : decode yMo_init.2.1 637 = .ok (.dup, 1) := by decide +kernel
theorem d_Mo_init_638 : decode yMo_init.2.1 638 = .ok (.bipush 93, 2) := by decide +kernel
theorem d_Mo_init_640 : decode yMo_init.2.1 640 = .ok (.bipush 116, 2) := by decide +kernel
theorem d_Mo_init_642 : decode yMo_init.2.1 642 = .ok (.iastore, 1) := by decide +kernel
theorem d_Mo_init_643 : decode yMo_init.2.1 643 = .ok (.dup, 1) := by decide +kernel
theorem d_Mo_init_644 : decode yMo_init.2.1 644 = .ok (.bipush 94, 2) := by decide +kernel
theorem d_Mo_init_646 : decode yMo_init.2.1 646 = .ok (.bipush 97, 2) := by decide +kernel
theorem d_Mo_init_648 : decode yMo_init.2.1 648 = .ok (.iastore, 1) := by decide +kernel
theorem d_Mo_init_649 : decode yMo_init.2.1 649 = .ok (.dup, 1) := by decide +kernel
theorem d_Mo_init_650 : decode yMo_init.2.1 650 = .ok (.bipush 95, 2) := by decide +kernel
theorem d_Mo_init_652 : decode yMo_init.2.1 652 = .ok (.bipush 105, 2) := by decide +kernel
theorem d_Mo_init_654 : decode yMo_init.2.1 654 = .ok (.iastore, 1) := by decide +kernel
theorem d_Mo_init_655 : decode yMo_init.2.1 655 = .ok (.dup, 1) := by decide +kernel
theorem d_Mo_init_656 : decode yMo_init.2.1 656 = .ok (.bipush 96, 2) := by decide +kernel
theorem d_Mo_init_658 : decode yMo_init.2.1 658 = .ok (.bipush 110, 2) := by decide +kernel
theorem d_Mo_init_660 : decode yMo_init.2.1 660 = .ok (.iastore, 1) := by decide +kernel
theorem d_Mo_init_661 : decode yMo_init.2.1 661 = .ok (.dup, 1) := by decide +kernel
theorem d_Mo_init_662 : decode yMo_init.2.1 662 = .ok (.bipush 97, 2) := by decide +kernel
theorem d_Mo_init_664 : decode yMo_init.2.1 664 = .ok (.bipush 32, 2) := by decide +kernel
theorem d_Mo_init_666 : decode yMo_init.2.1 666 = .ok (.iastore, 1) := by decide +kernel
theorem d_Mo_init_667 : decode yMo_init.2.1 667 = .ok (.dup, 1) := by decide +kernel
theorem d_Mo_init_668 : decode yMo_init.2.1 668 = .ok (.bipush 98, 2) := by decide +kernel
theorem d_Mo_init_670 : decode yMo_init.2.1 670 = .ok (.bipush 109, 2) := by decide +kernel
theorem d_Mo_init_672 : decode yMo_init.2.1 672 = .ok (.iastore, 1) := by decide +kernel
theorem d_Mo_init_673 : decode yMo_init.2.1 673 = .ok (.dup, 1) := by decide +kernel
theorem d_Mo_init_674 : decode yMo_init.2.1 674 = .ok (.bipush 99, 2) := by decide +kernel
theorem d_Mo_init_676 : decode yMo_init.2.1 676 = .ok (.bipush 105, 2) := by decide +kernel
theorem d_Mo_init_678 : decode yMo_init.2.1 678 = .ok (.iastore, 1) := by decide +kernel
theorem d_Mo_init_679 : decode yMo_init.2.1 679 = .ok (.dup, 1) := by decide +kernel
theorem d_Mo_init_680 : decode yMo_init.2.1 680 = .ok (.bipush 100, 2) := by decide +kernel
theorem d_Mo_init_682 : decode yMo_init.2.1 682 = .ok (.bipush 110, 2) := by decide +kernel
theorem d_Mo_init_684 : decode yMo_init.2.1 684 = .ok (.iastore, 1) := by decide +kernel
theorem d_Mo_init_685 : decode yMo_init.2.1 685 = .ok (.dup, 1) := by decide +kernel
theorem d_Mo_init_686 : decode yMo_init.2.1 686 = .ok (.bipush 101, 2) := by decide +kernel
theorem d_Mo_init_688 : decode yMo_init.2.1 688 = .ok (.bipush 117, 2) := by decide +kernel
theorem d_Mo_init_690 : decode yMo_init.2.1 690 = .ok (.iastore, 1) := by decide +kernel
theorem d_Mo_init_691 : decode yMo_init.2.1 691 = .ok (.dup, 1) := by decide +kernel
theorem d_Mo_init_692 : decode yMo_init.2.1 692 = .ok (.bipush 102, 2) := by decide +kernel
theorem d_Mo_init_694 : decode yMo_init.2.1 694 = .ok (.bipush 116, 2) := by decide +kernel
theorem d_Mo_init_696 : decode yMo_init.2.1 696 = .ok (.iastore, 1) := by decide +kernel
theorem d_Mo_init_697 : decode yMo_init.2.1 697 = .ok (.dup, 1) := by decide +kernel
theorem d_Mo_init_698 : decode yMo_init.2.1 698 = .ok (.bipush 103, 2) := by decide +kernel
theorem d_Mo_init_700 : decode yMo_init.2.1 700 = .ok (.bipush 101, 2) := by decide +kernel
theorem d_Mo_init_702 : decode yMo_init.2.1 702 = .ok (.iastore, 1) := by decide +kernel
theorem d_Mo_init_703 : decode yMo_init.2.1 703 = .ok (.dup, 1) := by decide +kernel
theorem d_Mo_init_704 : decode yMo_init.2.1 704 = .ok (.bipush 104, 2) := by decide +kernel
theorem d_Mo_init_706 : decode yMo_init.2.1 706 = .ok (.bipush 32, 2) := by decide +kernel
theorem d_Mo_init_708 : decode yMo_init.2.1 708 = .ok (.iastore, 1) := by decide +kernel
theorem d_Mo_init_709 : decode yMo_init.2.1 709 = .ok (.dup, 1) := by decide +kernel
theorem d_Mo_init_710 : decode yMo_init.2.1 710 = .ok (.bipush 105, 2) := by decide +kernel
theorem d_Mo_init_712 : decode yMo_init.2.1 712 = .ok (.bipush 98, 2) := by decide +kernel
theorem d_Mo_init_714 : decode yMo_init.2.1 714 = .ok (.iastore, 1) := by decide +kernel
theorem d_Mo_init_715 : decode yMo_init.2.1 715 = .ok (.dup, 1) := by decide +kernel
theorem d_Mo_init_716 : decode yMo_init.2.1 716 = .ok (.bipush 106, 2) := by decide +kernel
theorem d_Mo_init_718 : decode yMo_init.2.1 718 = .ok (.bipush 111, 2) := by decide +kernel
theorem d_Mo_init_720 : decode yMo_init.2.1 720 = .ok (.iastore, 1) := by decide +kernel
theorem d_Mo_init_721 : decode yMo_init.2.1 721 = .ok (.dup, 1) := by decide +kernel
theorem d_Mo_init_722 : decode yMo_init.2.1 722 = .ok (.bipush 107, 2) := by decide +kernel
theorem d_Mo_init_724 : decode yMo_init.2.1 724 = .ok (.bipush 97, 2) := by decide +kernel
theorem d_Mo_init_726 : decode yMo_init.2.1 726 = .ok (.iastore, 1) := by decide +kernel
theorem d_Mo_init_727 : decode yMo_init.2.1 727 = .ok (.dup, 1) := by decide +kernel
theorem d_Mo_init_728 : decode yMo_init.2.1 728 = .ok (.bipush 108, 2) := by decide +kernel
theorem d_Mo_init_730 : decode yMo_init.2.1 730 = .ok (.bipush 116, 2) := by decide +kernel
theorem d_Mo_init_732 : decode yMo_init.2.1 732 = .ok (.iastore, 1) := by decide +kernel
theorem d_Mo_init_733 : decode yMo_init.2.1 733 = .ok (.dup, 1) := by decide +kernel
theorem d_Mo_init_734 : decode yMo_init.2.1 734 = .ok (.bipush 109, 2) := by decide +kernel
theorem d_Mo_init_736 : decode yMo_init.2.1 736 = .ok (.bipush 32, 2) := by decide +kernel
theorem d_Mo_init_738 : decode yMo_init.2.1 738 = .ok (.iastore, 1) := by decide +kernel
theorem d_Mo_init_739 : decode yMo_init.2.1 739 = .ok (.dup, 1) := by decide +kernel
theorem d_Mo_init_740 : decode yMo_init.2.1 740 = .ok (.bipush 110, 2) := by decide +kernel
theorem d_Mo_init_742 : decode yMo_init.2.1 742 = .ok (.bipush 97, 2) := by decide +kernel
theorem d_Mo_init_744 : decode yMo_init.2.1 744 = .ok (.iastore, 1) := by decide +kernel
theorem d_Mo_init_745 : decode yMo_init.2.1 745 = .ok (.dup, 1) := by decide +kernel
theorem d_Mo_init_746 : decode yMo_init.2.1 746 = .ok (.bipush 111, 2) := by decide +kernel
theorem d_Mo_init_748 : decode yMo_init.2.1 748 = .ok (.bipush 103, 2) := by decide +kernel
theorem d_Mo_init_750 : decode yMo_init.2.1 750 = .ok (.iastore, 1) := by decide +kernel
theorem d_Mo_init_751 : decode yMo_init.2.1 751 = .ok (.dup, 1) := by decide +kernel
theorem d_Mo_init_752 : decode yMo_init.2.1 752 = .ok (.bipush 112, 2) := by decide +kernel
theorem d_Mo_init_754 : decode yMo_init.2.1 754 = .ok (.bipush 97, 2) := by decide +kernel
theorem d_Mo_init_756 : decode yMo_init.2.1 756 = .ok (.iastore, 1) := by decide +kernel
theorem d_Mo_init_757 : decode yMo_init.2.1 757 = .ok (.dup, 1) := by decide +kernel
theorem d_Mo_init_758 : decode yMo_init.2.1 758 = .ok (.bipush 113, 2) := by decide +kernel
theorem d_Mo_init_760 : decode yMo_init.2.1 760 = .ok (.bipush 105, 2) := by decide +kernel
theorem d_Mo_init_762 : decode yMo_init.2.1 762 = .ok (.iastore, 1) := by decide +kernel
theorem d_Mo_init_763 : decode yMo_init.2.1 763 = .ok (.dup, 1) := by decide +kernel
theorem d_Mo_init_764 : decode yMo_init.2.1 764 = .ok (.bipush 114, 2) := by decide +kernel
theorem d_Mo_init_766 : decode yMo_init.2.1 766 = .ok (.bipush 110, 2) := by decide +kernel
theorem d_Mo_init_768 : decode yMo_init.2.1 768 = .ok (.iastore, 1) := by decide +kernel
theorem d_Mo_init_769 : decode yMo_init.2.1 769 = .ok (.dup, 1) := by decide +kernel
theorem d_Mo_init_770 : decode yMo_init.2.1 770 = .ok (.bipush 115, 2) := by decide +kernel
theorem d_Mo_init_772 : decode yMo_init.2.1 772 = .ok (.bipush 32, 2) := by decide +kernel
theorem d_Mo_init_774 : decode yMo_init.2.1 774 = .ok (.iastore, 1) := by decide +kernel
theorem d_Mo_init_775 : decode yMo_init.2.1 775 = .ok (.dup, 1) := by decide +kernel
theorem d_Mo_init_776 : decode yMo_init.2.1 776 = .ok (.bipush 116, 2) := by decide +kernel
theorem d_Mo_init_778 : decode yMo_init.2.1 778 = .ok (.bipush 97, 2) := by decide +kernel
theorem d_Mo_init_780 : decode yMo_init.2.1 780 = .ok (.iastore, 1) := by decide +kernel
theorem d_Mo_init_781 : decode yMo_init.2.1 781 = .ok (.dup, 1) := by decide +kernel
theorem d_Mo_init_782 : decode yMo_init.2.1 782 = .ok (.bipush 117, 2) := by decide +kernel
theorem d_Mo_init_784 : decode yMo_init.2.1 784 = .ok (.bipush 116, 2) := by decide +kernel
theorem d_Mo_init_786 : decode yMo_init.2.1 786 = .ok (.iastore, 1) := by decide +kernel
theorem d_Mo_init_787 : decode yMo_init.2.1 787 = .ok (.dup, 1) := by decide +kernel
theorem d_Mo_init_788 : decode yMo_init.2.1 788 = .ok (.bipush 118, 2) := by decide +kernel
theorem d_Mo_init_790 : decode yMo_init.2.1 790 = .ok (.bipush 32, 2) := by decide +kernel
theorem d_Mo_init_792 : decode yMo_init.2.1 792 = .ok (.iastore, 1) := by decide +kernel
theorem d_Mo_init_793 : decode yMo_init.2.1 793 = .ok (.dup, 1) := by decide +kernel
theorem d_Mo_init_794 : decode yMo_init.2.1 794 = .ok (.bipush 119, 2) := by decide +kernel
theorem d_Mo_init_796 : decode yMo_init.2.1 796 = .ok (.bipush 116, 2) := by decide +kernel
theorem d_Mo_init_798 : decode yMo_init.2.1 798 = .ok (.iastore, 1) := by decide +kernel
theorem d_Mo_init_799 : decode yMo_init.2.1 799 = .ok (.dup, 1) := by decide +kernel
theorem d_Mo_init_800 : decode yMo_init.2.1 800 = .ok (.bipush 120, 2) := by decide +kernel
theorem d_Mo_init_802 : decode yMo_init.2.1 802 = .ok (.bipush 97, 2) := by decide +kernel
theorem d_Mo_init_804 : decode yMo_init.2.1 804 = .ok (.iastore, 1) := by decide +kernel
theorem d_Mo_init_805 : decode yMo_init.2.1 805 = .ok (.dup, 1) := by decide +kernel
theorem d_Mo_init_806 : decode yMo_init.2.1 806 = .ok (.bipush 121, 2) := by decide +kernel
theorem d_Mo_init_808 : decode yMo_init.2.1 808 = .ok (.bipush 108, 2) := by decide +kernel
theorem d_Mo_init_810 : decode yMo_init.2.1 810 = .ok (.iastore, 1) := by decide +kernel
theorem d_Mo_init_811 : decode yMo_init.2.1 811 = .ok (.dup, 1) := by decide +kernel
theorem d_Mo_init_812 : decode yMo_init.2.1 812 = .ok (.bipush 122, 2) := by decide +kernel
theorem d_Mo_init_814 : decode yMo_init.2.1 814 = .ok (.bipush 107, 2) := by decide +kernel
theorem d_Mo_init_816 : decode yMo_init.2.1 816 = .ok (.iastore, 1) := by decide +kernel
theorem d_Mo_init_817 : decode yMo_init.2.1 817 = .ok (.dup, 1) := by decide +kernel
theorem d_Mo_init_818 : decode yMo_init.2.1 818 = .ok (.bipush 123, 2) := by decide +kernel
theorem d_Mo_init_820 : decode yMo_init.2.1 820 = .ok (.bipush 32, 2) := by decide +kernel
theorem d_Mo_init_822 : decode yMo_init.2.1 822 = .ok (.iastore, 1) := by decide +kernel
theorem d_Mo_init_823 : decode yMo_init.2.1 823 = .ok (.dup, 1) := by decide +kernel
theorem d_Mo_init_824 : decode yMo_init.2.1 824 = .ok (.bipush 124, 2) := by decide +kernel
theorem d_Mo_init_826 : decode yMo_init.2.1 826 = .ok (.bipush 115, 2) := by decide +kernel
theorem d_Mo_init_828 : decode yMo_init.2.1 828 = .ok (.iastore, 1) := by decide +kernel
theorem d_Mo_init_829 : decode yMo_init.2.1 829 = .ok (.dup, 1) := by decide +kernel
theorem d_Mo_init_830 : decode yMo_init.2.1 830 = .ok (.bipush 125, 2) := by decide +kernel
theorem d_Mo_init_832 : decode yMo_init.2.1 832 = .ok (.bipush 97, 2) := by decide +kernel
theorem d_Mo_init_834 : decode yMo_init.2.1 834 = .ok (.iastore, 1) := by decide +kernel
theorem d_Mo_init_835 : decode yMo_init.2.1 835 = .ok (.dup, 1) := by decide +kernel
theorem d_Mo_init_836 : decode yMo_init.2.1 836 = .ok (.bipush 126, 2) := by decide +kernel
theorem d_Mo_init_838 : decode yMo_init.2.1 838 = .ok (.bipush 108, 2) := by decide +kernel
theorem d_Mo_init_840 : decode yMo_init.2.1 840 = .ok (.iastore, 1) := by decide +kernel
theorem d_Mo_init_841 : decode yMo_init.2.1 841 = .ok (.dup, 1) := by decide +kernel
theorem d_Mo_init_842 : decode yMo_init.2.1 842 = .ok (.bipush 127, 2) := by decide +kernel
theorem d_Mo_init_844 : decode yMo_init.2.1 844 = .ok (.bipush 116, 2) := by decide +kernel
theorem d_Mo_init_846 : decode yMo_init.2.1 846 = .ok (.iastore, 1) := by decide +kernel
theorem d_Mo_init_847 : decode yMo_init.2.1 847 = .ok (.dup, 1) := by decide +kernel
theorem d_Mo_init_848 : decode yMo_init.2.1 848 = .ok (.sipush 128, 3) := by decide +kernel
theorem d_Mo_init_851 : decode yMo_init.2.1 851 = .ok (.bipush 32, 2) := by decide +kernel
theorem d_Mo_init_853 : decode yMo_init.2.1 853 = .ok (.iastore, 1) := by decide +kernel
theorem d_Mo_init_854 : decode yMo_init.2.1 854 = .ok (.dup, 1) := by decide +kernel
theorem d_Mo_init_855 : decode yMo_init.2.1 855 = .ok (.sipush 129, 3) := by decide +kernel
theorem d_Mo_init_858 : decode yMo_init.2.1 858 = .ok (.bipush 102, 2) := by decide +kernel
theorem d_Mo_init_860 : decode yMo_init.2.1 860 = .ok (.iastore, 1) := by decide +kernel
theorem d_Mo_init_861 : decode yMo_init.2.1 861 = .ok (.dup, 1) := by decide +kernel
theorem d_Mo_init_862 : decode yMo_init.2.1 862 = .ok (.sipush 130, 3) := by decide +kernel
theorem d_Mo_init_865 : decode yMo_init.2.1 865 = .ok (.bipush 105, 2) := by decide +kernel
theorem d_Mo_init_867 : decode yMo_init.2.1 867 = .ok (.iastore, 1) := by decide +kernel
theorem d_Mo_init_868 : decode yMo_init.2.1 868 = .ok (.dup, 1) := by decide +kernel
theorem d_Mo_init_869 : decode yMo_init.2.1 869 = .ok (.sipush 131, 3) := by decide +kernel
theorem d_Mo_init_872 : decode yMo_init.2.1 872 = .ok (.bipush 108, 2) := by decide +kernel
theorem d_Mo_init_874 : decode yMo_init.2.1 874 = .ok (.iastore, 1) := by decide +kernel
theorem d_Mo_init_875 : decode yMo_init.2.1 875 = .ok (.dup, 1) := by decide +kernel
theorem d_Mo_init_876 : decode yMo_init.2.1 876 = .ok (.sipush 132, 3) := by decide +kernel
theorem d_Mo_init_879 : decode yMo_init.2.1 879 = .ok (.bipush 108, 2) := by decide +kernel
theorem d_Mo_init_881 : decode yMo_init.2.1 881 = .ok (.iastore, 1) := by decide +kernel
theorem d_Mo_init_882 : decode yMo_init.2.1 882 = .ok (.dup, 1) := by decide +kernel
theorem d_Mo_init_883 : decode yMo_init.2.1 883 = .ok (.sipush 133, 3) := by decide +kernel
theorem d_Mo_init_886 : decode yMo_init.2.1 886 = .ok (.bipush 32, 2) := by decide +kernel
theorem d_Mo_init_888 : decode yMo_init.2.1 888 = .ok (.iastore, 1) := by decide +kernel
theorem d_Mo_init_889 : decode yMo_init.2.1 889 = .ok (.dup, 1) := by decide +kernel
theorem d_Mo_init_890 : decode yMo_init.2.1 890 = .ok (.sipush 134, 3) := by decide +kernel
theorem d_Mo_init_893 : decode yMo_init.2.1 893 = .ok (.bipush 116, 2) := by decide +kernel
theorem d_Mo_init_895 : decode yMo_init.2.1 895 = .ok (.iastore, 1) := by decide +kernel
theorem d_Mo_init_896 : decode yMo_init.2.1 896 = .ok (.dup, 1) := by decide +kernel
theorem d_Mo_init_897 : decode yMo_init.2.1 897 = .ok (.sipush 135, 3) := by decide +kernel
theorem d_Mo_init_900 : decode yMo_init.2.1 900 = .ok (.bipush 117, 2) := by decide +kernel
theorem d_Mo_init_902 : decode yMo_init.2.1 902 = .ok (.iastore, 1) := by decide +kernel
theorem d_Mo_init_903 : decode yMo_init.2.1 903 = .ok (.dup, 1) := by decide +kernel
theorem d_Mo_init_904 : decode yMo_init.2.1 904 = .ok (.sipush 136, 3) := by decide +kernel
theorem d_Mo_init_907 : decode yMo_init.2.1 907 = .ok (.bipush 114, 2) := by decide +kernel
theorem d_Mo_init_909 : decode yMo_init.2.1 909 = .ok (.iastore, 1) := by decide +kernel
theorem d_Mo_init_910 : decode yMo_init.2.1 910 = .ok (.dup, 1) := by decide +kernel
theorem d_Mo_init_911 : decode yMo_init.2.1 911 = .ok (.sipush 137, 3) := by decide +kernel
theorem d_Mo_init_914 : decode yMo_init.2.1 914 = .ok (.bipush 110, 2) := by decide +kernel
theorem d_Mo_init_916 : decode yMo_init.2.1 916 = .ok (.iastore, 1) := by decide +kernel
theorem d_Mo_init_917 : decode yMo_init.2.1 917 = .ok (.dup, 1) := by decide +kernel
theorem d_Mo_init_918 : decode yMo_init.2.1 918 = .ok (.sipush 138, 3) := by decide +kernel
theorem d_Mo_init_921 : decode yMo_init.2.1 921 = .ok (.bipush 32, 2) := by decide +kernel
theorem d_Mo_init_923 : decode yMo_init.2.1 923 = .ok (.iastore, 1) := by decide +kernel
theorem d_Mo_init_924 : decode yMo_init.2.1 924 = .ok (.dup, 1) := by decide +kernel
theorem d_Mo_init_925 : decode yMo_init.2.1 925 = .ok (.sipush 139, 3) := by decide +kernel
theorem d_Mo_init_928 : decode yMo_init.2.1 928 = .ok (.bipush 116, 2) := by decide +kernel
theorem d_Mo_init_930 : decode yMo_init.2.1 930 = .ok (.iastore, 1) := by decide +kernel
theorem d_Mo_init_931 : decode yMo_init.2.1 931 = .ok (.dup, 1) := by decide +kernel
theorem d_Mo_init_932 : decode yMo_init.2.1 932 = .ok (.sipush 140, 3) := by decide +kernel
theorem d_Mo_init_935 : decode yMo_init.2.1 935 = .ok (.bipush 111, 2) := by decide +kernel
theorem d_Mo_init_937 : decode yMo_init.2.1 937 = .ok (.iastore, 1) := by decide +kernel
theorem d_Mo_init_938 : decode yMo_init.2.1 938 = .ok (.dup, 1) := by decide +kernel
theorem d_Mo_init_939 : decode yMo_init.2.1 939 = .ok (.sipush 141, 3) := by decide +kernel
theorem d_Mo_init_942 : decode yMo_init.2.1 942 = .ok (.bipush 32, 2) := by decide +kernel
theorem d_Mo_init_944 : decode yMo_init.2.1 944 = .ok (.iastore, 1) := by decide +kernel
theorem d_Mo_init_945 : decode yMo_init.2.1 945 = .ok (.putfield 37, 3) := by decide +kernel
theorem d_Mo_init_948 : decode yMo_init.2.1 948 = .ok (.aload_n 0, 1) := by decide +kernel
theorem d_Mo_init_949 : decode yMo_init.2.1 949 = .ok (.iconst 2, 1) := by decide +kernel
theorem d_Mo_init_950 : decode yMo_init.2.1 950 = .ok (.newarray .int, 2) := by decide +kernel
theorem d_Mo_init_952 : decode yMo_init.2.1 952 = .ok (.putfield 40, 3) := by decide +kernel
theorem d_Mo_init_955 : decode yMo_init.2.1 955 = .ok (.aload_n 0, 1) := by decide +kernel
theorem d_Mo_init_956 : decode yMo_init.2.1 956 = .ok (.bipush 48, 2) := by decide +kernel
theorem d_Mo_init_958 : decode yMo_init.2.1 958 = .ok (.newarray .int, 2) := by decide +kernel
theorem d_Mo_init_960 : decode yMo_init.2.1 960 = .ok (.putfield 43, 3) := by decide +kernel
theorem d_Mo_init_963 : decode yMo_init.2.1 963 = .ok (.aload_n 0, 1) := by decide +kernel
theorem d_Mo_init_964 : decode yMo_init.2.1 964 = .ok (.bipush 48, 2) := by decide +kernel
theorem d_Mo_init_966 : decode yMo_init.2.1 966 = .ok (.newarray .int, 2) := by decide +kernel
theorem d_Mo_init_968 : decode yMo_init.2.1 968 = .ok (.putfield 46, 3) := by decide +kernel
theorem d_Mo_init_971 : decode yMo_init.2.1 971 = .ok (.aload_n 0, 1) := by decide +kernel
theorem d_Mo_init_972 : decode yMo_init.2.1 972 = .ok (.bipush 48, 2) := by decide +kernel
theorem d_Mo_init_974 : decode yMo_init.2.1 974 = .ok (.newarray .int, 2) := by decide +kernel
theorem d_Mo_init_976 : decode yMo_init.2.1 976 = .ok (.putfield 49, 3) := by decide +kernel
theorem d_Mo_init_979 : decode yMo_init.2.1 979 = .ok (.aload_n 0, 1) := by decide +kernel
theorem d_Mo_init_980 : decode yMo_init.2.1 980 = .ok (.bipush 48, 2) := by decide +kernel
theorem d_Mo_init_982 : decode yMo_init.2.1 982 = .ok (.newarray .int, 2) := by decide +kernel
theorem d_Mo_init_984 : decode yMo_init.2.1 984 = .ok (.putfield 52, 3) := by decide +kernel
theorem d_Mo_init_987 : decode yMo_init.2.1 987 = .ok (.aload_n 0, 1) := by decide +kernel
theorem d_Mo_init_988 : decode yMo_init.2.1 988 = .ok (.sipush 1200, 3) := by decide +kernel
theorem d_Mo_init_991 : decode yMo_init.2.1 991 = .ok (.newarray .int, 2) := by decide +kernel
theorem d_Mo_init_993 : decode yMo_init.2.1 993 = .ok (.putfield 55, 3) := by decide +kernel
theorem d_Mo_init_996 : decode yMo_init.2.1 996 = .ok (.aload_n 0, 1) := by decide +kernel
theorem d_Mo_init_997 : decode yMo_init.2.1 997 = .ok (.sipush 1200, 3) := by decide +kernel
theorem d_Mo_init_1000 : decode yMo_init.2.1 1000 = .ok (.newarray .int, 2) := by decide +kernel
theorem d_Mo_init_1002 : decode yMo_init.2.1 1002 = .ok (.putfield 58, 3) := by decide +kernel
theorem d_Mo_init_1005 : decode yMo_init.2.1 1005 = .ok (.aload_n 0, 1) := by decide +kernel
theorem d_Mo_init_1006 : decode yMo_init.2.1 1006 = .ok (.bipush 40, 2) := by decide +kernel
theorem d_Mo_init_1008 : decode yMo_init.2.1 1008 = .ok (.newarray .int, 2) := by decide +kernel
theorem d_Mo_init_1010 : decode yMo_init.2.1 1010 = .ok (.putfield 61, 3) := by decide +kernel
theorem d_Mo_init_1013 : decode yMo_init.2.1 1013 = .ok (.aload_n 0, 1) := by decide +kernel
theorem d_Mo_init_1014 : decode yMo_init.2.1 1014 = .ok (.iconst (-1), 1) := by decide +kernel
theorem d_Mo_init_1015 : decode yMo_init.2.1 1015 = .ok (.putfield 64, 3) := by decide +kernel
theorem d_Mo_init_1018 : decode yMo_init.2.1 1018 = .ok (.aload_n 0, 1) := by decide +kernel
theorem d_Mo_init_1019 : decode yMo_init.2.1 1019 = .ok (.bipush 16, 2) := by decide +kernel
theorem d_Mo_init_1021 : decode yMo_init.2.1 1021 = .ok (.newarray .int, 2) := by decide +kernel
theorem d_Mo_init_1023 : decode yMo_init.2.1 1023 = .ok (.putfield 68, 3) := by decide +kernel
theorem d_Mo_init_1026 : decode yMo_init.2.1 1026 = .ok (.aload_n 0, 1) := by decide +kernel
theorem d_Mo_init_1027 : decode yMo_init.2.1 1027 = .ok (.sipush 128, 3) := by decide +kernel
theorem d_Mo_init_1030 : decode yMo_init.2.1 1030 = .ok (.newarray .int, 2) := by decide +kernel
theorem d_Mo_init_1032 : decode yMo_init.2.1 1032 = .ok (.putfield 71, 3) := by decide +kernel
theorem d_Mo_init_1035 : decode yMo_init.2.1 1035 = .ok (.aload_n 0, 1) := by decide +kernel
theorem d_Mo_init_1036 : decode yMo_init.2.1 1036 = .ok (.bipush 24, 2) := by decide +kernel
theorem d_Mo_init_1038 : decode yMo_init.2.1 1038 = .ok (.newarray .int, 2) := by decide +kernel
theorem d_Mo_init_1040 : decode yMo_init.2.1 1040 = .ok (.putfield 74, 3) := by decide +kernel
theorem d_Mo_init_1043 : decode yMo_init.2.1 1043 = .ok (.aload_n 0, 1) := by decide +kernel
theorem d_Mo_init_1044 : decode yMo_init.2.1 1044 = .ok (.bipush 12, 2) := by decide +kernel
theorem d_Mo_init_1046 : decode yMo_init.2.1 1046 = .ok (.newarray .int, 2) := by decide +kernel
theorem d_Mo_init_1048 : decode yMo_init.2.1 1048 = .ok (.putfield 77, 3) := by decide +kernel
theorem d_Mo_init_1051 : decode yMo_init.2.1 1051 = .ok (.aload_n 0, 1) := by decide +kernel
theorem d_Mo_init_1052 : decode yMo_init.2.1 1052 = .ok (.sipush 420, 3) := by decide +kernel
theorem d_Mo_init_1055 : decode yMo_init.2.1 1055 = .ok (.newarray .int, 2) := by decide +kernel
theorem d_Mo_init_1057 : decode yMo_init.2.1 1057 = .ok (.putfield 80, 3) := by decide +kernel
theorem d_Mo_init_1060 : decode yMo_init.2.1 1060 = .ok (.aload_n 0, 1) := by decide +kernel
theorem d_Mo_init_1061 : decode yMo_init.2.1 1061 = .ok (.bipush 12, 2) := by decide +kernel
theorem d_Mo_init_1063 : decode yMo_init.2.1 1063 = .ok (.newarray .int, 2) := by decide +kernel
theorem d_Mo_init_1065 : decode yMo_init.2.1 1065 = .ok (.putfield 83, 3) := by decide +kernel
theorem d_Mo_init_1068 : decode yMo_init.2.1 1068 = .ok (.aload_n 0, 1) := by decide +kernel
theorem d_Mo_init_1069 : decode yMo_init.2.1 1069 = .ok (.bipush 12, 2) := by decide +kernel
theorem d_Mo_init_1071 : decode yMo_init.2.1 1071 = .ok (.newarray .int, 2) := by decide +kernel
theorem d_Mo_init_1073 : decode yMo_init.2.1 1073 = .ok (.putfield 86, 3) := by decide +kernel
theorem d_Mo_init_1076 : decode yMo_init.2.1 1076 = .ok (.aload_n 0, 1) := by decide +kernel
theorem d_Mo_init_1077 : decode yMo_init.2.1 1077 = .ok (.iconst 2, 1) := by decide +kernel
theorem d_Mo_init_1078 : decode yMo_init.2.1 1078 = .ok (.newarray .int, 2) := by decide +kernel
theorem d_Mo_init_1080 : decode yMo_init.2.1 1080 = .ok (.putfield 89, 3) := by decide +kernel
theorem d_Mo_init_1083 : decode yMo_init.2.1 1083 = .ok (.aload_n 0, 1) := by decide +kernel
theorem d_Mo_init_1084 : decode yMo_init.2.1 1084 = .ok (.bipush 24, 2) := by decide +kernel
theorem d_Mo_init_1086 : decode yMo_init.2.1 1086 = .ok (.newarray .int, 2) := by decide +kernel
theorem d_Mo_init_1088 : decode yMo_init.2.1 1088 = .ok (.putfield 92, 3) := by decide +kernel
theorem d_Mo_init_1091 : decode yMo_init.2.1 1091 = .ok (.aload_n 0, 1) := by decide +kernel
theorem d_Mo_init_1092 : decode yMo_init.2.1 1092 = .ok (.sipush 169, 3) := by decide +kernel
theorem d_Mo_init_1095 : decode yMo_init.2.1 1095 = .ok (.newarray .int, 2) := by decide +kernel
theorem d_Mo_init_1097 : decode yMo_init.2.1 1097 = .ok (.putfield 95, 3) := by decide +kernel
theorem d_Mo_init_1100 : decode yMo_init.2.1 1100 = .ok (.aload_n 0, 1) := by decide +kernel
theorem d_Mo_init_1101 : decode yMo_init.2.1 1101 = .ok (.sipush 169, 3) := by decide +kernel
theorem d_Mo_init_1104 : decode yMo_init.2.1 1104 = .ok (.newarray .int, 2) := by decide +kernel
theorem d_Mo_init_1106 : decode yMo_init.2.1 1106 = .ok (.putfield 98, 3) := by decide +kernel
theorem d_Mo_init_1109 : decode yMo_init.2.1 1109 = .ok (.aload_n 0, 1) := by decide +kernel
theorem d_Mo_init_1110 : decode yMo_init.2.1 1110 = .ok (.bipush 8, 2) := by decide +kernel
theorem d_Mo_init_1112 : decode yMo_init.2.1 1112 = .ok (.newarray .int, 2) := by decide +kernel
theorem d_Mo_init_1114 : decode yMo_init.2.1 1114 = .ok (.putfield 101, 3) := by decide +kernel
theorem d_Mo_init_1117 : decode yMo_init.2.1 1117 = .ok (.aload_n 0, 1) := by decide +kernel
theorem d_Mo_init_1118 : decode yMo_init.2.1 1118 = .ok (.bipush 8, 2) := by decide +kernel
theorem d_Mo_init_1120 : decode yMo_init.2.1 1120 = .ok (.newarray .int, 2) := by decide +kernel
theorem d_Mo_init_1122 : decode yMo_init.2.1 1122 = .ok (.putfield 104, 3) := by decide +kernel
theorem d_Mo_init_1125 : decode yMo_init.2.1 1125 = .ok (.aload_n 0, 1) := by decide +kernel
theorem d_Mo_init_1126 : decode yMo_init.2.1 1126 = .ok (.bipush 10, 2) := by decide +kernel
theorem d_Mo_init_1128 : decode yMo_init.2.1 1128 = .ok (.newarray .int, 2) := by decide +kernel
theorem d_Mo_init_1130 : decode yMo_init.2.1 1130 = .ok (.putfield 107, 3) := by decide +kernel
theorem d_Mo_init_1133 : decode yMo_init.2.1 1133 = .ok (.aload_n 0, 1) := by decide +kernel
theorem d_Mo_init_1134 : decode yMo_init.2.1 1134 = .ok (.bipush 41, 2) := by decide +kernel
theorem d_Mo_init_1136 : decode yMo_init.2.1 1136 = .ok (.newarray .int, 2) := by decide +kernel
theorem d_Mo_init_1138 : decode yMo_init.2.1 1138 = .ok (.putfield 110, 3) := by decide +kernel
theorem d_Mo_init_1141 : decode yMo_init.2.1 1141 = .ok (.aload_n 0, 1) := by decide +kernel
theorem d_Mo_init_1142 : decode yMo_init.2.1 1142 = .ok (.bipush 8, 2) := by decide +kernel
theorem d_Mo_init_1144 : decode yMo_init.2.1 1144 = .ok (.newarray .int, 2) := by decide +kernel
theorem d_Mo_init_1146 : decode yMo_init.2.1 1146 = .ok (.putfield 113, 3) := by decide +kernel
theorem d_Mo_init_1149 : decode yMo_init.2.1 1149 = .ok (.aload_n 0, 1) := by decide +kernel
theorem d_Mo_init_1150 : decode yMo_init.2.1 1150 = .ok (.bipush 9, 2) := by decide +kernel
theorem d_Mo_init_1152 : decode yMo_init.2.1 1152 = .ok (.newarray .int, 2) := by decide +kernel
theorem d_Mo_init_1154 : decode yMo_init.2.1 1154 = .ok (.putfield 116, 3) := by decide +kernel
theorem d_Mo_init_1157 : decode yMo_init.2.1 1157 = .ok (.aload_n 0, 1) := by decide +kernel
theorem d_Mo_init_1158 : decode yMo_init.2.1 1158 = .ok (.bipush 9, 2) := by decide +kernel
theorem d_Mo_init_1160 : decode yMo_init.2.1 1160 = .ok (.newarray .int, 2) := by decide +kernel
theorem d_Mo_init_1162 : decode yMo_init.2.1 1162 = .ok (.putfield 119, 3) := by decide +kernel
theorem d_Mo_init_1165 : decode yMo_init.2.1 1165 = .ok (.aload_n 0, 1) := by decide +kernel
theorem d_Mo_init_1166 : decode yMo_init.2.1 1166 = .ok (.bipush 8, 2) := by decide +kernel
theorem d_Mo_init_1168 : decode yMo_init.2.1 1168 = .ok (.newarray .int, 2) := by decide +kernel
theorem d_Mo_init_1170 : decode yMo_init.2.1 1170 = .ok (.putfield 122, 3) := by decide +kernel
theorem d_Mo_init_1173 : decode yMo_init.2.1 1173 = .ok (.aload_n 0, 1) := by decide +kernel
theorem d_Mo_init_1174 : decode yMo_init.2.1 1174 = .ok (.bipush 8, 2) := by decide +kernel
theorem d_Mo_init_1176 : decode yMo_init.2.1 1176 = .ok (.newarray .int, 2) := by decide +kernel
theorem d_Mo_init_1178 : decode yMo_init.2.1 1178 = .ok (.putfield 125, 3) := by decide +kernel
theorem d_Mo_init_1181 : decode yMo_init.2.1 1181 = .ok (.aload_n 0, 1) := by decide +kernel
theorem d_Mo_init_1182 : decode yMo_init.2.1 1182 = .ok (.bipush 9, 2) := by decide +kernel
theorem d_Mo_init_1184 : decode yMo_init.2.1 1184 = .ok (.newarray .int, 2) := by decide +kernel
theorem d_Mo_init_1186 : decode yMo_init.2.1 1186 = .ok (.putfield 128, 3) := by decide +kernel
theorem d_Mo_init_1189 : decode yMo_init.2.1 1189 = .ok (.aload_n 0, 1) := by decide +kernel
theorem d_Mo_init_1190 : decode yMo_init.2.1 1190 = .ok (.bipush 9, 2) := by decide +kernel
theorem d_Mo_init_1192 : decode yMo_init.2.1 1192 = .ok (.newarray .int, 2) := by decide +kernel
theorem d_Mo_init_1194 : decode yMo_init.2.1 1194 = .ok (.putfield 131, 3) := by decide +kernel
theorem d_Mo_init_1197 : decode yMo_init.2.1 1197 = .ok (.aload_n 0, 1) := by decide +kernel
theorem d_Mo_init_1198 : decode yMo_init.2.1 1198 = .ok (.sipush 2300, 3) := by decide +kernel
theorem d_Mo_init_1201 : decode yMo_init.2.1 1201 = .ok (.newarray .int, 2) := by decide +kernel
theorem d_Mo_init_1203 : decode yMo_init.2.1 1203 = .ok (.putfield 134, 3) := by decide +kernel
theorem d_Mo_init_1206 : decode yMo_init.2.1 1206 = .ok (.return_, 1) := by decide +kernel
theorem go_callI2 {l : Launch} {M : gb_MI} {d kc ks kcT ksT pc : Nat} {lv : List (Nat × gb_AV)} {st sk : List gb_AV} {Sh : List gb_Ce} {I : gb_Mem} {post : Option gb_AV → List gb_Ce → gb_Mem → Prop} {y : gb_MI} {idx np a kc1 ks1 : Nat} {asr : List gb_AV} {Sh1 : List gb_Ce} {I1 : gb_Mem} (hd : decode M.2.1 pc = .ok (.invokespecial idx, 3)) (hy : gb_Mc y np) (hlk : Cond.methodLink M.1.cls idx y.1 ∈ gb_all) (hn : asr.length = np) (h8 : st.length ≤ 8) (hk : sk = asr.reverse ++ .inr (some a) :: st) (hlv : lv.all (fun q => gb_ltAb Sh.length q.2) = true) (hst : st.all (gb_ltAb Sh.length) = true) (hkc : kcT = kc + kc1) (hks : ksT = ks + ks1) (hC : gb_Ct l y d kc1 ks1 (.inr (some a) :: asr) Sh I (gb_po Sh1 none I1))
    (K : gb_Go l M (d + 1) kc ks (pc + 3) lv st Sh1 I1 post) : gb_Go l M (d + 1) kcT ksT pc lv sk Sh I post := by
  subst hkc; subst hks
  exact go_callI hd hy hlk hn h8 hk (gb_lvA hlv) (gb_ltA_of hst) hC K
theorem go_callI2N {l : Launch} {M : gb_MI} {d kc ks kcT ksT pc : Nat} {lv : List (Nat × gb_AV)} {st sk : List gb_AV} {Sh : List gb_Ce} {I : gb_Mem} {post : Option gb_AV → List gb_Ce → gb_Mem → Prop} {y : gb_MI} {idx np a kc1 ks1 : Nat} {host : String} {asr : List gb_AV} {Sh1 : List gb_Ce} {I1 : gb_Mem} (hd : decode M.2.1 pc = .ok (.invokespecial idx, 3)) (hy : gb_Mc y np) (hlk : Cond.methodLinkNest M.1.cls idx y.1 host ∈ gb_all) (hn : asr.length = np) (h8 : st.length ≤ 8) (hk : sk = asr.reverse ++ .inr (some a) :: st) (hlv : lv.all (fun q => gb_ltAb Sh.length q.2) = true) (hst : st.all (gb_ltAb Sh.length) = true) (hkc : kcT = kc + kc1) (hks : ksT = ks + ks1) (hC : gb_Ct l y d kc1 ks1 (.inr (some a) :: asr) Sh I (gb_po Sh1 none I1))
    (K : gb_Go l M (d + 1) kc ks (pc + 3) lv st Sh1 I1 post) : gb_Go l M (d + 1) kcT ksT pc lv sk Sh I post := by
  subst hkc; subst hks
  exact go_callIN hd hy hlk hn h8 hk (gb_lvA hlv) (gb_ltA_of hst) hC K
