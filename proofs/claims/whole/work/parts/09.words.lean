/-! The words that the rules ask for, by their places in the tables; by a program of my own. -/
theorem gb_t0 {w : Cond} (h : w ∈ k2_sels lw_privs) (ho : gb_ok w = true) : w ∈ gb_all := List.mem_filter.mpr ⟨List.mem_append_left _ h, ho⟩
theorem gb_t1 {w : Cond} (h : w ∈ tables_1_1) (ho : gb_ok w = true) : w ∈ gb_all := List.mem_filter.mpr ⟨List.mem_append_right _ (by unfold tables_1; simp only [List.mem_append, h, true_or, or_true]), ho⟩
theorem gb_t2 {w : Cond} (h : w ∈ tables_1_2) (ho : gb_ok w = true) : w ∈ gb_all := List.mem_filter.mpr ⟨List.mem_append_right _ (by unfold tables_1; simp only [List.mem_append, h, true_or, or_true]), ho⟩
theorem gb_t3 {w : Cond} (h : w ∈ tables_1_3) (ho : gb_ok w = true) : w ∈ gb_all := List.mem_filter.mpr ⟨List.mem_append_right _ (by unfold tables_1; simp only [List.mem_append, h, true_or, or_true]), ho⟩
theorem gb_t4 {w : Cond} (h : w ∈ tables_1_4) (ho : gb_ok w = true) : w ∈ gb_all := List.mem_filter.mpr ⟨List.mem_append_right _ (by unfold tables_1; simp only [List.mem_append, h, true_or, or_true]), ho⟩
theorem gb_t5 {w : Cond} (h : w ∈ tables_1_5) (ho : gb_ok w = true) : w ∈ gb_all := List.mem_filter.mpr ⟨List.mem_append_right _ (by unfold tables_1; simp only [List.mem_append, h, true_or, or_true]), ho⟩
theorem gb_t6 {w : Cond} (h : w ∈ tables_1_6) (ho : gb_ok w = true) : w ∈ gb_all := List.mem_filter.mpr ⟨List.mem_append_right _ (by unfold tables_1; simp only [List.mem_append, h, true_or, or_true]), ho⟩
theorem gb_t7 {w : Cond} (h : w ∈ tables_1_7) (ho : gb_ok w = true) : w ∈ gb_all := List.mem_filter.mpr ⟨List.mem_append_right _ (by unfold tables_1; simp only [List.mem_append, h, true_or, or_true]), ho⟩
theorem gb_t8 {w : Cond} (h : w ∈ tables_1_8) (ho : gb_ok w = true) : w ∈ gb_all := List.mem_filter.mpr ⟨List.mem_append_right _ (by unfold tables_1; simp only [List.mem_append, h, true_or, or_true]), ho⟩
set_option maxRecDepth 20000 in
theorem f_Ta_21 : Cond.fieldLink "GravyBoats$Table" 21 (TTa 0).1 (TTa 0).2.1 (TTa 0).2.2.1 ∈ gb_all := gb_t1 (List.mem_of_getElem? (i := 40) rfl) rfl
set_option maxRecDepth 20000 in
theorem f_Gb_77 : Cond.fieldLinkNest "GravyBoats" 77 (TTa 0).1 (TTa 0).2.1 (TTa 0).2.2.1 "GravyBoats" ∈ gb_all := gb_t1 (List.mem_of_getElem? (i := 41) rfl) rfl
set_option maxRecDepth 20000 in
theorem f_Ta_25 : Cond.fieldLink "GravyBoats$Table" 25 (TTa 1).1 (TTa 1).2.1 (TTa 1).2.2.1 ∈ gb_all := gb_t1 (List.mem_of_getElem? (i := 42) rfl) rfl
set_option maxRecDepth 20000 in
theorem f_Co_72 : Cond.fieldLinkNest "GravyBoats$Course" 72 (TTa 1).1 (TTa 1).2.1 (TTa 1).2.2.1 "GravyBoats" ∈ gb_all := gb_t1 (List.mem_of_getElem? (i := 43) rfl) rfl
set_option maxRecDepth 20000 in
theorem f_Gb_311 : Cond.fieldLinkNest "GravyBoats" 311 (TTa 1).1 (TTa 1).2.1 (TTa 1).2.2.1 "GravyBoats" ∈ gb_all := gb_t1 (List.mem_of_getElem? (i := 44) rfl) rfl
set_option maxRecDepth 20000 in
theorem f_Ta_28 : Cond.fieldLink "GravyBoats$Table" 28 (TTa 2).1 (TTa 2).2.1 (TTa 2).2.2.1 ∈ gb_all := gb_t1 (List.mem_of_getElem? (i := 45) rfl) rfl
set_option maxRecDepth 20000 in
theorem f_Co_34 : Cond.fieldLinkNest "GravyBoats$Course" 34 (TTa 2).1 (TTa 2).2.1 (TTa 2).2.2.1 "GravyBoats" ∈ gb_all := gb_t1 (List.mem_of_getElem? (i := 46) rfl) rfl
set_option maxRecDepth 20000 in
theorem f_Gb_128 : Cond.fieldLinkNest "GravyBoats" 128 (TTa 2).1 (TTa 2).2.1 (TTa 2).2.2.1 "GravyBoats" ∈ gb_all := gb_t1 (List.mem_of_getElem? (i := 47) rfl) rfl
set_option maxRecDepth 20000 in
theorem f_Ta_31 : Cond.fieldLink "GravyBoats$Table" 31 (TTa 3).1 (TTa 3).2.1 (TTa 3).2.2.1 ∈ gb_all := gb_t1 (List.mem_of_getElem? (i := 48) rfl) rfl
set_option maxRecDepth 20000 in
theorem f_Gb_105 : Cond.fieldLinkNest "GravyBoats" 105 (TTa 3).1 (TTa 3).2.1 (TTa 3).2.2.1 "GravyBoats" ∈ gb_all := gb_t1 (List.mem_of_getElem? (i := 49) rfl) rfl
set_option maxRecDepth 20000 in
theorem f_La_62 : Cond.fieldLinkNest "GravyBoats$Law" 62 (TTa 3).1 (TTa 3).2.1 (TTa 3).2.2.1 "GravyBoats" ∈ gb_all := gb_t1 (List.mem_of_getElem? (i := 50) rfl) rfl
set_option maxRecDepth 20000 in
theorem f_Co_98 : Cond.fieldLinkNest "GravyBoats$Course" 98 (TTa 3).1 (TTa 3).2.1 (TTa 3).2.2.1 "GravyBoats" ∈ gb_all := gb_t1 (List.mem_of_getElem? (i := 51) rfl) rfl
set_option maxRecDepth 20000 in
theorem f_Ta_34 : Cond.fieldLink "GravyBoats$Table" 34 (TTa 4).1 (TTa 4).2.1 (TTa 4).2.2.1 ∈ gb_all := gb_t1 (List.mem_of_getElem? (i := 52) rfl) rfl
set_option maxRecDepth 20000 in
theorem f_Co_54 : Cond.fieldLinkNest "GravyBoats$Course" 54 (TTa 4).1 (TTa 4).2.1 (TTa 4).2.2.1 "GravyBoats" ∈ gb_all := gb_t1 (List.mem_of_getElem? (i := 53) rfl) rfl
set_option maxRecDepth 20000 in
theorem f_Gb_131 : Cond.fieldLinkNest "GravyBoats" 131 (TTa 4).1 (TTa 4).2.1 (TTa 4).2.2.1 "GravyBoats" ∈ gb_all := gb_t1 (List.mem_of_getElem? (i := 54) rfl) rfl
set_option maxRecDepth 20000 in
theorem f_La_87 : Cond.fieldLinkNest "GravyBoats$Law" 87 (TTa 4).1 (TTa 4).2.1 (TTa 4).2.2.1 "GravyBoats" ∈ gb_all := gb_t1 (List.mem_of_getElem? (i := 55) rfl) rfl
set_option maxRecDepth 20000 in
theorem f_Ta_37 : Cond.fieldLink "GravyBoats$Table" 37 (TTa 5).1 (TTa 5).2.1 (TTa 5).2.2.1 ∈ gb_all := gb_t1 (List.mem_of_getElem? (i := 56) rfl) rfl
set_option maxRecDepth 20000 in
theorem f_Co_43 : Cond.fieldLinkNest "GravyBoats$Course" 43 (TTa 5).1 (TTa 5).2.1 (TTa 5).2.2.1 "GravyBoats" ∈ gb_all := gb_t1 (List.mem_of_getElem? (i := 57) rfl) rfl
set_option maxRecDepth 20000 in
theorem f_Gb_95 : Cond.fieldLinkNest "GravyBoats" 95 (TTa 5).1 (TTa 5).2.1 (TTa 5).2.2.1 "GravyBoats" ∈ gb_all := gb_t1 (List.mem_of_getElem? (i := 58) rfl) rfl
set_option maxRecDepth 20000 in
theorem f_Ta_9 : Cond.fieldLink "GravyBoats$Table" 9 (TTa 6).1 (TTa 6).2.1 (TTa 6).2.2.1 ∈ gb_all := gb_t1 (List.mem_of_getElem? (i := 59) rfl) rfl
set_option maxRecDepth 20000 in
theorem f_Ta_15 : Cond.fieldLink "GravyBoats$Table" 15 (TTa 7).1 (TTa 7).2.1 (TTa 7).2.2.1 ∈ gb_all := gb_t1 (List.mem_of_getElem? (i := 60) rfl) rfl
set_option maxRecDepth 20000 in
theorem f_Ta_18 : Cond.fieldLink "GravyBoats$Table" 18 (TTa 8).1 (TTa 8).2.1 (TTa 8).2.2.1 ∈ gb_all := gb_t1 (List.mem_of_getElem? (i := 61) rfl) rfl
set_option maxRecDepth 20000 in
theorem f_La_9 : Cond.fieldLink "GravyBoats$Law" 9 (TLa 0).1 (TLa 0).2.1 (TLa 0).2.2.1 ∈ gb_all := gb_t1 (List.mem_of_getElem? (i := 88) rfl) rfl
set_option maxRecDepth 20000 in
theorem f_La_24 : Cond.fieldLink "GravyBoats$Law" 24 (TLa 1).1 (TLa 1).2.1 (TLa 1).2.2.1 ∈ gb_all := gb_t1 (List.mem_of_getElem? (i := 89) rfl) rfl
set_option maxRecDepth 20000 in
theorem f_Rd_77 : Cond.fieldLinkNest "GravyBoats$Reader" 77 (TLa 1).1 (TLa 1).2.1 (TLa 1).2.2.1 "GravyBoats" ∈ gb_all := gb_t1 (List.mem_of_getElem? (i := 90) rfl) rfl
set_option maxRecDepth 20000 in
theorem f_La_15 : Cond.fieldLink "GravyBoats$Law" 15 (TLa 2).1 (TLa 2).2.1 (TLa 2).2.2.1 ∈ gb_all := gb_t1 (List.mem_of_getElem? (i := 91) rfl) rfl
set_option maxRecDepth 20000 in
theorem f_La_18 : Cond.fieldLink "GravyBoats$Law" 18 (TLa 3).1 (TLa 3).2.1 (TLa 3).2.2.1 ∈ gb_all := gb_t1 (List.mem_of_getElem? (i := 92) rfl) rfl
set_option maxRecDepth 20000 in
theorem f_La_28 : Cond.fieldLink "GravyBoats$Law" 28 (TLa 4).1 (TLa 4).2.1 (TLa 4).2.2.1 ∈ gb_all := gb_t1 (List.mem_of_getElem? (i := 93) rfl) rfl
set_option maxRecDepth 20000 in
theorem f_Gb_314 : Cond.fieldLinkNest "GravyBoats" 314 (TLa 4).1 (TLa 4).2.1 (TLa 4).2.2.1 "GravyBoats" ∈ gb_all := gb_t1 (List.mem_of_getElem? (i := 94) rfl) rfl
set_option maxRecDepth 20000 in
theorem f_La_21 : Cond.fieldLink "GravyBoats$Law" 21 (TLa 5).1 (TLa 5).2.1 (TLa 5).2.2.1 ∈ gb_all := gb_t1 (List.mem_of_getElem? (i := 95) rfl) rfl
set_option maxRecDepth 20000 in
theorem f_La_65 : Cond.fieldLink "GravyBoats$Law" 65 (TLa 6).1 (TLa 6).2.1 (TLa 6).2.2.1 ∈ gb_all := gb_t1 (List.mem_of_getElem? (i := 96) rfl) rfl
set_option maxRecDepth 20000 in
theorem f_Ro_15 : Cond.fieldLink "GravyBoats$Rows" 15 (TRo 0).1 (TRo 0).2.1 (TRo 0).2.2.1 ∈ gb_all := gb_t1 (List.mem_of_getElem? (i := 121) rfl) rfl
set_option maxRecDepth 20000 in
theorem f_Ro_21 : Cond.fieldLink "GravyBoats$Rows" 21 (TRo 1).1 (TRo 1).2.1 (TRo 1).2.2.1 ∈ gb_all := gb_t1 (List.mem_of_getElem? (i := 122) rfl) rfl
set_option maxRecDepth 20000 in
theorem f_Ro_25 : Cond.fieldLink "GravyBoats$Rows" 25 (TRo 2).1 (TRo 2).2.1 (TRo 2).2.2.1 ∈ gb_all := gb_t1 (List.mem_of_getElem? (i := 123) rfl) rfl
set_option maxRecDepth 20000 in
theorem f_Re_21 : Cond.fieldLinkNest "GravyBoats$Reckoning" 21 (TRo 2).1 (TRo 2).2.1 (TRo 2).2.2.1 "GravyBoats" ∈ gb_all := gb_t1 (List.mem_of_getElem? (i := 124) rfl) rfl
set_option maxRecDepth 20000 in
theorem f_Se_29 : Cond.fieldLinkNest "GravyBoats$Seating" 29 (TRo 2).1 (TRo 2).2.1 (TRo 2).2.2.1 "GravyBoats" ∈ gb_all := gb_t1 (List.mem_of_getElem? (i := 125) rfl) rfl
set_option maxRecDepth 20000 in
theorem f_Pa_47 : Cond.fieldLinkNest "GravyBoats$Past" 47 (TRo 2).1 (TRo 2).2.1 (TRo 2).2.2.1 "GravyBoats" ∈ gb_all := gb_t1 (List.mem_of_getElem? (i := 126) rfl) rfl
set_option maxRecDepth 20000 in
theorem f_Rd_93 : Cond.fieldLinkNest "GravyBoats$Reader" 93 (TRo 2).1 (TRo 2).2.1 (TRo 2).2.2.1 "GravyBoats" ∈ gb_all := gb_t1 (List.mem_of_getElem? (i := 127) rfl) rfl
set_option maxRecDepth 20000 in
theorem f_Co_87 : Cond.fieldLinkNest "GravyBoats$Course" 87 (TRo 2).1 (TRo 2).2.1 (TRo 2).2.2.1 "GravyBoats" ∈ gb_all := gb_t1 (List.mem_of_getElem? (i := 128) rfl) rfl
set_option maxRecDepth 20000 in
theorem f_Gb_189 : Cond.fieldLinkNest "GravyBoats" 189 (TRo 2).1 (TRo 2).2.1 (TRo 2).2.2.1 "GravyBoats" ∈ gb_all := gb_t1 (List.mem_of_getElem? (i := 129) rfl) rfl
set_option maxRecDepth 20000 in
theorem f_Wo_12 : Cond.fieldLink "GravyBoats$World" 12 (TWo 0).1 (TWo 0).2.1 (TWo 0).2.2.1 ∈ gb_all := gb_t1 (List.mem_of_getElem? (i := 137) rfl) rfl
set_option maxRecDepth 20000 in
theorem f_Gb_35 : Cond.fieldLinkNest "GravyBoats" 35 (TWo 0).1 (TWo 0).2.1 (TWo 0).2.2.1 "GravyBoats" ∈ gb_all := gb_t1 (List.mem_of_getElem? (i := 138) rfl) rfl
set_option maxRecDepth 20000 in
theorem f_Pa_33 : Cond.fieldLinkNest "GravyBoats$Past" 33 (TWo 0).1 (TWo 0).2.1 (TWo 0).2.2.1 "GravyBoats" ∈ gb_all := gb_t1 (List.mem_of_getElem? (i := 139) rfl) rfl
set_option maxRecDepth 20000 in
theorem f_Se_49 : Cond.fieldLinkNest "GravyBoats$Seating" 49 (TWo 0).1 (TWo 0).2.1 (TWo 0).2.2.1 "GravyBoats" ∈ gb_all := gb_t1 (List.mem_of_getElem? (i := 140) rfl) rfl
set_option maxRecDepth 20000 in
theorem f_Wo_21 : Cond.fieldLink "GravyBoats$World" 21 (TWo 1).1 (TWo 1).2.1 (TWo 1).2.2.1 ∈ gb_all := gb_t1 (List.mem_of_getElem? (i := 141) rfl) rfl
set_option maxRecDepth 20000 in
theorem f_Co_110 : Cond.fieldLinkNest "GravyBoats$Course" 110 (TWo 1).1 (TWo 1).2.1 (TWo 1).2.2.1 "GravyBoats" ∈ gb_all := gb_t1 (List.mem_of_getElem? (i := 142) rfl) rfl
set_option maxRecDepth 20000 in
theorem f_Gb_166 : Cond.fieldLinkNest "GravyBoats" 166 (TWo 1).1 (TWo 1).2.1 (TWo 1).2.2.1 "GravyBoats" ∈ gb_all := gb_t1 (List.mem_of_getElem? (i := 143) rfl) rfl
set_option maxRecDepth 20000 in
theorem f_Wo_30 : Cond.fieldLink "GravyBoats$World" 30 (TWo 2).1 (TWo 2).2.1 (TWo 2).2.2.1 ∈ gb_all := gb_t1 (List.mem_of_getElem? (i := 144) rfl) rfl
set_option maxRecDepth 20000 in
theorem f_Co_150 : Cond.fieldLinkNest "GravyBoats$Course" 150 (TWo 2).1 (TWo 2).2.1 (TWo 2).2.2.1 "GravyBoats" ∈ gb_all := gb_t1 (List.mem_of_getElem? (i := 145) rfl) rfl
set_option maxRecDepth 20000 in
theorem f_Gb_317 : Cond.fieldLinkNest "GravyBoats" 317 (TWo 2).1 (TWo 2).2.1 (TWo 2).2.2.1 "GravyBoats" ∈ gb_all := gb_t1 (List.mem_of_getElem? (i := 146) rfl) rfl
set_option maxRecDepth 20000 in
theorem f_Wo_34 : Cond.fieldLink "GravyBoats$World" 34 (TWo 3).1 (TWo 3).2.1 (TWo 3).2.2.1 ∈ gb_all := gb_t1 (List.mem_of_getElem? (i := 147) rfl) rfl
set_option maxRecDepth 20000 in
theorem f_Co_81 : Cond.fieldLinkNest "GravyBoats$Course" 81 (TWo 3).1 (TWo 3).2.1 (TWo 3).2.2.1 "GravyBoats" ∈ gb_all := gb_t1 (List.mem_of_getElem? (i := 148) rfl) rfl
set_option maxRecDepth 20000 in
theorem f_Gb_320 : Cond.fieldLinkNest "GravyBoats" 320 (TWo 3).1 (TWo 3).2.1 (TWo 3).2.2.1 "GravyBoats" ∈ gb_all := gb_t1 (List.mem_of_getElem? (i := 149) rfl) rfl
set_option maxRecDepth 20000 in
theorem f_Wo_37 : Cond.fieldLink "GravyBoats$World" 37 (TWo 4).1 (TWo 4).2.1 (TWo 4).2.2.1 ∈ gb_all := gb_t1 (List.mem_of_getElem? (i := 150) rfl) rfl
set_option maxRecDepth 20000 in
theorem f_Se_23 : Cond.fieldLinkNest "GravyBoats$Seating" 23 (TWo 4).1 (TWo 4).2.1 (TWo 4).2.2.1 "GravyBoats" ∈ gb_all := gb_t1 (List.mem_of_getElem? (i := 151) rfl) rfl
set_option maxRecDepth 20000 in
theorem f_Gb_323 : Cond.fieldLinkNest "GravyBoats" 323 (TWo 4).1 (TWo 4).2.1 (TWo 4).2.2.1 "GravyBoats" ∈ gb_all := gb_t1 (List.mem_of_getElem? (i := 152) rfl) rfl
set_option maxRecDepth 20000 in
theorem f_Wo_40 : Cond.fieldLink "GravyBoats$World" 40 (TWo 5).1 (TWo 5).2.1 (TWo 5).2.2.1 ∈ gb_all := gb_t1 (List.mem_of_getElem? (i := 153) rfl) rfl
set_option maxRecDepth 20000 in
theorem f_Pa_43 : Cond.fieldLinkNest "GravyBoats$Past" 43 (TWo 5).1 (TWo 5).2.1 (TWo 5).2.2.1 "GravyBoats" ∈ gb_all := gb_t1 (List.mem_of_getElem? (i := 154) rfl) rfl
set_option maxRecDepth 20000 in
theorem f_Gb_185 : Cond.fieldLinkNest "GravyBoats" 185 (TWo 5).1 (TWo 5).2.1 (TWo 5).2.2.1 "GravyBoats" ∈ gb_all := gb_t1 (List.mem_of_getElem? (i := 155) rfl) rfl
set_option maxRecDepth 20000 in
theorem f_Co_153 : Cond.fieldLinkNest "GravyBoats$Course" 153 (TWo 5).1 (TWo 5).2.1 (TWo 5).2.2.1 "GravyBoats" ∈ gb_all := gb_t1 (List.mem_of_getElem? (i := 156) rfl) rfl
set_option maxRecDepth 20000 in
theorem f_Wo_43 : Cond.fieldLink "GravyBoats$World" 43 (TWo 6).1 (TWo 6).2.1 (TWo 6).2.2.1 ∈ gb_all := gb_t1 (List.mem_of_getElem? (i := 157) rfl) rfl
set_option maxRecDepth 20000 in
theorem f_Gb_211 : Cond.fieldLinkNest "GravyBoats" 211 (TWo 6).1 (TWo 6).2.1 (TWo 6).2.2.1 "GravyBoats" ∈ gb_all := gb_t1 (List.mem_of_getElem? (i := 158) rfl) rfl
set_option maxRecDepth 20000 in
theorem f_Wo_46 : Cond.fieldLink "GravyBoats$World" 46 (TWo 7).1 (TWo 7).2.1 (TWo 7).2.2.1 ∈ gb_all := gb_t1 (List.mem_of_getElem? (i := 159) rfl) rfl
set_option maxRecDepth 20000 in
theorem f_Gb_214 : Cond.fieldLinkNest "GravyBoats" 214 (TWo 7).1 (TWo 7).2.1 (TWo 7).2.2.1 "GravyBoats" ∈ gb_all := gb_t1 (List.mem_of_getElem? (i := 160) rfl) rfl
set_option maxRecDepth 20000 in
theorem f_Wo_49 : Cond.fieldLink "GravyBoats$World" 49 (TWo 8).1 (TWo 8).2.1 (TWo 8).2.2.1 ∈ gb_all := gb_t1 (List.mem_of_getElem? (i := 161) rfl) rfl
set_option maxRecDepth 20000 in
theorem f_Gb_239 : Cond.fieldLinkNest "GravyBoats" 239 (TWo 8).1 (TWo 8).2.1 (TWo 8).2.2.1 "GravyBoats" ∈ gb_all := gb_t1 (List.mem_of_getElem? (i := 162) rfl) rfl
set_option maxRecDepth 20000 in
theorem f_Wo_52 : Cond.fieldLink "GravyBoats$World" 52 (TWo 9).1 (TWo 9).2.1 (TWo 9).2.2.1 ∈ gb_all := gb_t1 (List.mem_of_getElem? (i := 163) rfl) rfl
set_option maxRecDepth 20000 in
theorem f_Gb_250 : Cond.fieldLinkNest "GravyBoats" 250 (TWo 9).1 (TWo 9).2.1 (TWo 9).2.2.1 "GravyBoats" ∈ gb_all := gb_t1 (List.mem_of_getElem? (i := 164) rfl) rfl
set_option maxRecDepth 20000 in
theorem f_Wo_55 : Cond.fieldLink "GravyBoats$World" 55 (TWo 10).1 (TWo 10).2.1 (TWo 10).2.2.1 ∈ gb_all := gb_t1 (List.mem_of_getElem? (i := 165) rfl) rfl
set_option maxRecDepth 20000 in
theorem f_Gb_266 : Cond.fieldLinkNest "GravyBoats" 266 (TWo 10).1 (TWo 10).2.1 (TWo 10).2.2.1 "GravyBoats" ∈ gb_all := gb_t1 (List.mem_of_getElem? (i := 166) rfl) rfl
set_option maxRecDepth 20000 in
theorem f_Wo_58 : Cond.fieldLink "GravyBoats$World" 58 (TWo 11).1 (TWo 11).2.1 (TWo 11).2.2.1 ∈ gb_all := gb_t1 (List.mem_of_getElem? (i := 167) rfl) rfl
set_option maxRecDepth 20000 in
theorem f_Gb_276 : Cond.fieldLinkNest "GravyBoats" 276 (TWo 11).1 (TWo 11).2.1 (TWo 11).2.2.1 "GravyBoats" ∈ gb_all := gb_t1 (List.mem_of_getElem? (i := 168) rfl) rfl
set_option maxRecDepth 20000 in
theorem f_Wo_61 : Cond.fieldLink "GravyBoats$World" 61 (TWo 12).1 (TWo 12).2.1 (TWo 12).2.2.1 ∈ gb_all := gb_t1 (List.mem_of_getElem? (i := 169) rfl) rfl
set_option maxRecDepth 20000 in
theorem f_Gb_285 : Cond.fieldLinkNest "GravyBoats" 285 (TWo 12).1 (TWo 12).2.1 (TWo 12).2.2.1 "GravyBoats" ∈ gb_all := gb_t1 (List.mem_of_getElem? (i := 170) rfl) rfl
set_option maxRecDepth 20000 in
theorem f_Wo_64 : Cond.fieldLink "GravyBoats$World" 64 (TWo 13).1 (TWo 13).2.1 (TWo 13).2.2.1 ∈ gb_all := gb_t1 (List.mem_of_getElem? (i := 171) rfl) rfl
set_option maxRecDepth 20000 in
theorem f_Gb_291 : Cond.fieldLinkNest "GravyBoats" 291 (TWo 13).1 (TWo 13).2.1 (TWo 13).2.2.1 "GravyBoats" ∈ gb_all := gb_t1 (List.mem_of_getElem? (i := 172) rfl) rfl
set_option maxRecDepth 20000 in
theorem f_Pa_11 : Cond.fieldLink "GravyBoats$Past" 11 (TPa 0).1 (TPa 0).2.1 (TPa 0).2.2.1 ∈ gb_all := gb_t1 (List.mem_of_getElem? (i := 211) rfl) rfl
set_option maxRecDepth 20000 in
theorem f_Pa_17 : Cond.fieldLink "GravyBoats$Past" 17 (TPa 1).1 (TPa 1).2.1 (TPa 1).2.2.1 ∈ gb_all := gb_t1 (List.mem_of_getElem? (i := 212) rfl) rfl
set_option maxRecDepth 20000 in
theorem f_Pa_26 : Cond.fieldLink "GravyBoats$Past" 26 (TPa 2).1 (TPa 2).2.1 (TPa 2).2.2.1 ∈ gb_all := gb_t1 (List.mem_of_getElem? (i := 213) rfl) rfl
set_option maxRecDepth 20000 in
theorem f_Pa_22 : Cond.fieldLink "GravyBoats$Past" 22 (TPa 3).1 (TPa 3).2.1 (TPa 3).2.2.1 ∈ gb_all := gb_t1 (List.mem_of_getElem? (i := 214) rfl) rfl
set_option maxRecDepth 20000 in
theorem f_Gb_326 : Cond.fieldLinkNest "GravyBoats" 326 (TPa 3).1 (TPa 3).2.1 (TPa 3).2.2.1 "GravyBoats" ∈ gb_all := gb_t1 (List.mem_of_getElem? (i := 215) rfl) rfl
set_option maxRecDepth 20000 in
theorem f_Co_15 : Cond.fieldLink "GravyBoats$Course" 15 (TCo 0).1 (TCo 0).2.1 (TCo 0).2.2.1 ∈ gb_all := gb_t1 (List.mem_of_getElem? (i := 233) rfl) rfl
set_option maxRecDepth 20000 in
theorem f_Co_19 : Cond.fieldLink "GravyBoats$Course" 19 (TCo 1).1 (TCo 1).2.1 (TCo 1).2.2.1 ∈ gb_all := gb_t1 (List.mem_of_getElem? (i := 234) rfl) rfl
set_option maxRecDepth 20000 in
theorem f_Co_23 : Cond.fieldLink "GravyBoats$Course" 23 (TCo 2).1 (TCo 2).2.1 (TCo 2).2.2.1 ∈ gb_all := gb_t1 (List.mem_of_getElem? (i := 235) rfl) rfl
set_option maxRecDepth 20000 in
theorem f_Co_9 : Cond.fieldLink "GravyBoats$Course" 9 (TCo 3).1 (TCo 3).2.1 (TCo 3).2.2.1 ∈ gb_all := gb_t1 (List.mem_of_getElem? (i := 236) rfl) rfl
set_option maxRecDepth 20000 in
theorem f_Se_15 : Cond.fieldLink "GravyBoats$Seating" 15 (TSe 0).1 (TSe 0).2.1 (TSe 0).2.2.1 ∈ gb_all := gb_t2 (List.mem_of_getElem? (i := 12) rfl) rfl
set_option maxRecDepth 20000 in
theorem f_Se_9 : Cond.fieldLink "GravyBoats$Seating" 9 (TSe 1).1 (TSe 1).2.1 (TSe 1).2.2.1 ∈ gb_all := gb_t2 (List.mem_of_getElem? (i := 13) rfl) rfl
set_option maxRecDepth 20000 in
theorem f_Re_9 : Cond.fieldLink "GravyBoats$Reckoning" 9 (TRe 0).1 (TRe 0).2.1 (TRe 0).2.2.1 ∈ gb_all := gb_t2 (List.mem_of_getElem? (i := 25) rfl) rfl
set_option maxRecDepth 20000 in
theorem f_Re_15 : Cond.fieldLink "GravyBoats$Reckoning" 15 (TRe 1).1 (TRe 1).2.1 (TRe 1).2.2.1 ∈ gb_all := gb_t2 (List.mem_of_getElem? (i := 26) rfl) rfl
set_option maxRecDepth 20000 in
theorem f_Re_18 : Cond.fieldLink "GravyBoats$Reckoning" 18 (TRe 2).1 (TRe 2).2.1 (TRe 2).2.2.1 ∈ gb_all := gb_t2 (List.mem_of_getElem? (i := 27) rfl) rfl
set_option maxRecDepth 20000 in
theorem f_Rd_38 : Cond.fieldLink "GravyBoats$Reader" 38 (TRd 0).1 (TRd 0).2.1 (TRd 0).2.2.1 ∈ gb_all := gb_t2 (List.mem_of_getElem? (i := 45) rfl) rfl
set_option maxRecDepth 20000 in
theorem f_Rd_47 : Cond.fieldLink "GravyBoats$Reader" 47 (TRd 1).1 (TRd 1).2.1 (TRd 1).2.2.1 ∈ gb_all := gb_t2 (List.mem_of_getElem? (i := 46) rfl) rfl
set_option maxRecDepth 20000 in
theorem f_Rd_50 : Cond.fieldLink "GravyBoats$Reader" 50 (TRd 2).1 (TRd 2).2.1 (TRd 2).2.2.1 ∈ gb_all := gb_t2 (List.mem_of_getElem? (i := 47) rfl) rfl
set_option maxRecDepth 20000 in
theorem f_Rd_9 : Cond.fieldLink "GravyBoats$Reader" 9 (TRd 3).1 (TRd 3).2.1 (TRd 3).2.2.1 ∈ gb_all := gb_t2 (List.mem_of_getElem? (i := 48) rfl) rfl
set_option maxRecDepth 20000 in
theorem f_Rd_15 : Cond.fieldLink "GravyBoats$Reader" 15 (TRd 4).1 (TRd 4).2.1 (TRd 4).2.2.1 ∈ gb_all := gb_t2 (List.mem_of_getElem? (i := 49) rfl) rfl
set_option maxRecDepth 20000 in
theorem f_Rd_131 : Cond.fieldLink "GravyBoats$Reader" 131 (TRd 5).1 (TRd 5).2.1 (TRd 5).2.2.1 ∈ gb_all := gb_t2 (List.mem_of_getElem? (i := 50) rfl) rfl
set_option maxRecDepth 20000 in
theorem f_Rd_80 : Cond.fieldLink "GravyBoats$Reader" 80 (TRd 6).1 (TRd 6).2.1 (TRd 6).2.2.1 ∈ gb_all := gb_t2 (List.mem_of_getElem? (i := 51) rfl) rfl
set_option maxRecDepth 20000 in
theorem f_Rd_53 : Cond.fieldLink "GravyBoats$Reader" 53 (TRd 7).1 (TRd 7).2.1 (TRd 7).2.2.1 ∈ gb_all := gb_t2 (List.mem_of_getElem? (i := 52) rfl) rfl
set_option maxRecDepth 20000 in
theorem f_Gb_153 : Cond.fieldLinkNest "GravyBoats" 153 (TRd 7).1 (TRd 7).2.1 (TRd 7).2.2.1 "GravyBoats" ∈ gb_all := gb_t2 (List.mem_of_getElem? (i := 53) rfl) rfl
set_option maxRecDepth 20000 in
theorem f_Rd_18 : Cond.fieldLink "GravyBoats$Reader" 18 (TRd 8).1 (TRd 8).2.1 (TRd 8).2.2.1 ∈ gb_all := gb_t2 (List.mem_of_getElem? (i := 54) rfl) rfl
set_option maxRecDepth 20000 in
theorem f_Gb_159 : Cond.fieldLinkNest "GravyBoats" 159 (TRd 8).1 (TRd 8).2.1 (TRd 8).2.2.1 "GravyBoats" ∈ gb_all := gb_t2 (List.mem_of_getElem? (i := 55) rfl) rfl
set_option maxRecDepth 20000 in
theorem f_Rd_25 : Cond.fieldLink "GravyBoats$Reader" 25 (TRd 9).1 (TRd 9).2.1 (TRd 9).2.2.1 ∈ gb_all := gb_t2 (List.mem_of_getElem? (i := 56) rfl) rfl
set_option maxRecDepth 20000 in
theorem f_Gb_329 : Cond.fieldLinkNest "GravyBoats" 329 (TRd 9).1 (TRd 9).2.1 (TRd 9).2.2.1 "GravyBoats" ∈ gb_all := gb_t2 (List.mem_of_getElem? (i := 57) rfl) rfl
set_option maxRecDepth 20000 in
theorem f_Rd_34 : Cond.fieldLink "GravyBoats$Reader" 34 (TRd 10).1 (TRd 10).2.1 (TRd 10).2.2.1 ∈ gb_all := gb_t2 (List.mem_of_getElem? (i := 58) rfl) rfl
set_option maxRecDepth 20000 in
theorem f_Gb_333 : Cond.fieldLinkNest "GravyBoats" 333 (TRd 10).1 (TRd 10).2.1 (TRd 10).2.2.1 "GravyBoats" ∈ gb_all := gb_t2 (List.mem_of_getElem? (i := 59) rfl) rfl
set_option maxRecDepth 20000 in
theorem f_Gb_12 : Cond.fieldLink "GravyBoats" 12 (TGb 0).1 (TGb 0).2.1 (TGb 0).2.2.1 ∈ gb_all := gb_t2 (List.mem_of_getElem? (i := 83) rfl) rfl
set_option maxRecDepth 20000 in
theorem f_Gb_16 : Cond.fieldLink "GravyBoats" 16 (TGb 1).1 (TGb 1).2.1 (TGb 1).2.2.1 ∈ gb_all := gb_t2 (List.mem_of_getElem? (i := 84) rfl) rfl
set_option maxRecDepth 20000 in
theorem f_Gb_307 : Cond.fieldLink "GravyBoats" 307 (TGb 2).1 (TGb 2).2.1 (TGb 2).2.2.1 ∈ gb_all := gb_t2 (List.mem_of_getElem? (i := 85) rfl) rfl
set_option maxRecDepth 20000 in
theorem f_Gb_22 : Cond.fieldLink "GravyBoats" 22 (TGb 3).1 (TGb 3).2.1 (TGb 3).2.2.1 ∈ gb_all := gb_t2 (List.mem_of_getElem? (i := 86) rfl) rfl
set_option maxRecDepth 20000 in
theorem f_Gb_29 : Cond.fieldLink "GravyBoats" 29 (TGb 4).1 (TGb 4).2.1 (TGb 4).2.2.1 ∈ gb_all := gb_t2 (List.mem_of_getElem? (i := 87) rfl) rfl
set_option maxRecDepth 20000 in
theorem f_Gb_41 : Cond.fieldLink "GravyBoats" 41 (TGb 5).1 (TGb 5).2.1 (TGb 5).2.2.1 ∈ gb_all := gb_t2 (List.mem_of_getElem? (i := 88) rfl) rfl
set_option maxRecDepth 20000 in
theorem f_Gb_45 : Cond.fieldLink "GravyBoats" 45 (TGb 6).1 (TGb 6).2.1 (TGb 6).2.2.1 ∈ gb_all := gb_t2 (List.mem_of_getElem? (i := 89) rfl) rfl
set_option maxRecDepth 20000 in
theorem f_Gb_53 : Cond.fieldLink "GravyBoats" 53 (TGb 7).1 (TGb 7).2.1 (TGb 7).2.2.1 ∈ gb_all := gb_t2 (List.mem_of_getElem? (i := 90) rfl) rfl
set_option maxRecDepth 20000 in
theorem f_Gb_60 : Cond.fieldLink "GravyBoats" 60 (TGb 8).1 (TGb 8).2.1 (TGb 8).2.2.1 ∈ gb_all := gb_t2 (List.mem_of_getElem? (i := 91) rfl) rfl
set_option maxRecDepth 20000 in
theorem f_Gb_64 : Cond.fieldLink "GravyBoats" 64 (TGb 9).1 (TGb 9).2.1 (TGb 9).2.2.1 ∈ gb_all := gb_t2 (List.mem_of_getElem? (i := 92) rfl) rfl
set_option maxRecDepth 20000 in
theorem f_Gb_138 : Cond.fieldLink "GravyBoats" 138 (TGb 10).1 (TGb 10).2.1 (TGb 10).2.2.1 ∈ gb_all := gb_t2 (List.mem_of_getElem? (i := 93) rfl) rfl
set_option maxRecDepth 20000 in
theorem f_Gb_73 : Cond.fieldLink "GravyBoats" 73 (TGb 11).1 (TGb 11).2.1 (TGb 11).2.2.1 ∈ gb_all := gb_t2 (List.mem_of_getElem? (i := 94) rfl) rfl
set_option maxRecDepth 20000 in
theorem f_Gb_88 : Cond.fieldLink "GravyBoats" 88 "GravyBoats" "GREATEST" "[I" ∈ gb_all := gb_t2 (List.mem_of_getElem? (i := 135) rfl) rfl
set_option maxRecDepth 20000 in
theorem f_Co_138 : Cond.fieldLinkNest "GravyBoats$Course" 138 "GravyBoats" "GREATEST" "[I" "GravyBoats" ∈ gb_all := gb_t3 (List.mem_of_getElem? (i := 95) rfl) rfl
set_option maxRecDepth 20000 in
theorem f_Mo_137 : Cond.fieldLink "GravyBoatsModel" 137 (TMo 0).1 (TMo 0).2.1 (TMo 0).2.2.1 ∈ gb_all := gb_t5 (List.mem_of_getElem? (i := 134) rfl) rfl
set_option maxRecDepth 20000 in
theorem f_Mo_7 : Cond.fieldLink "GravyBoatsModel" 7 (TMo 1).1 (TMo 1).2.1 (TMo 1).2.2.1 ∈ gb_all := gb_t5 (List.mem_of_getElem? (i := 135) rfl) rfl
set_option maxRecDepth 20000 in
theorem f_Mo_13 : Cond.fieldLink "GravyBoatsModel" 13 (TMo 2).1 (TMo 2).2.1 (TMo 2).2.2.1 ∈ gb_all := gb_t5 (List.mem_of_getElem? (i := 136) rfl) rfl
set_option maxRecDepth 20000 in
theorem f_Mo_141 : Cond.fieldLink "GravyBoatsModel" 141 (TMo 3).1 (TMo 3).2.1 (TMo 3).2.2.1 ∈ gb_all := gb_t5 (List.mem_of_getElem? (i := 137) rfl) rfl
set_option maxRecDepth 20000 in
theorem f_Mo_16 : Cond.fieldLink "GravyBoatsModel" 16 (TMo 4).1 (TMo 4).2.1 (TMo 4).2.2.1 ∈ gb_all := gb_t5 (List.mem_of_getElem? (i := 138) rfl) rfl
set_option maxRecDepth 20000 in
theorem f_Mo_144 : Cond.fieldLink "GravyBoatsModel" 144 (TMo 5).1 (TMo 5).2.1 (TMo 5).2.2.1 ∈ gb_all := gb_t5 (List.mem_of_getElem? (i := 139) rfl) rfl
set_option maxRecDepth 20000 in
theorem f_Mo_150 : Cond.fieldLink "GravyBoatsModel" 150 (TMo 6).1 (TMo 6).2.1 (TMo 6).2.2.1 ∈ gb_all := gb_t5 (List.mem_of_getElem? (i := 140) rfl) rfl
set_option maxRecDepth 20000 in
theorem f_Mo_19 : Cond.fieldLink "GravyBoatsModel" 19 (TMo 7).1 (TMo 7).2.1 (TMo 7).2.2.1 ∈ gb_all := gb_t5 (List.mem_of_getElem? (i := 141) rfl) rfl
set_option maxRecDepth 20000 in
theorem f_Mo_22 : Cond.fieldLink "GravyBoatsModel" 22 (TMo 8).1 (TMo 8).2.1 (TMo 8).2.2.1 ∈ gb_all := gb_t5 (List.mem_of_getElem? (i := 142) rfl) rfl
set_option maxRecDepth 20000 in
theorem f_Mo_25 : Cond.fieldLink "GravyBoatsModel" 25 (TMo 9).1 (TMo 9).2.1 (TMo 9).2.2.1 ∈ gb_all := gb_t5 (List.mem_of_getElem? (i := 143) rfl) rfl
set_option maxRecDepth 20000 in
theorem f_Mo_28 : Cond.fieldLink "GravyBoatsModel" 28 (TMo 10).1 (TMo 10).2.1 (TMo 10).2.2.1 ∈ gb_all := gb_t5 (List.mem_of_getElem? (i := 144) rfl) rfl
set_option maxRecDepth 20000 in
theorem f_Mo_31 : Cond.fieldLink "GravyBoatsModel" 31 (TMo 11).1 (TMo 11).2.1 (TMo 11).2.2.1 ∈ gb_all := gb_t5 (List.mem_of_getElem? (i := 145) rfl) rfl
set_option maxRecDepth 20000 in
theorem f_Mo_34 : Cond.fieldLink "GravyBoatsModel" 34 (TMo 12).1 (TMo 12).2.1 (TMo 12).2.2.1 ∈ gb_all := gb_t5 (List.mem_of_getElem? (i := 146) rfl) rfl
set_option maxRecDepth 20000 in
theorem f_Mo_171 : Cond.fieldLink "GravyBoatsModel" 171 (TMo 13).1 (TMo 13).2.1 (TMo 13).2.2.1 ∈ gb_all := gb_t5 (List.mem_of_getElem? (i := 147) rfl) rfl
set_option maxRecDepth 20000 in
theorem f_Mo_178 : Cond.fieldLink "GravyBoatsModel" 178 (TMo 14).1 (TMo 14).2.1 (TMo 14).2.2.1 ∈ gb_all := gb_t5 (List.mem_of_getElem? (i := 148) rfl) rfl
set_option maxRecDepth 20000 in
theorem f_Mo_184 : Cond.fieldLink "GravyBoatsModel" 184 (TMo 15).1 (TMo 15).2.1 (TMo 15).2.2.1 ∈ gb_all := gb_t5 (List.mem_of_getElem? (i := 149) rfl) rfl
set_option maxRecDepth 20000 in
theorem f_Mo_187 : Cond.fieldLink "GravyBoatsModel" 187 (TMo 16).1 (TMo 16).2.1 (TMo 16).2.2.1 ∈ gb_all := gb_t5 (List.mem_of_getElem? (i := 150) rfl) rfl
set_option maxRecDepth 20000 in
theorem f_Mo_190 : Cond.fieldLink "GravyBoatsModel" 190 (TMo 17).1 (TMo 17).2.1 (TMo 17).2.2.1 ∈ gb_all := gb_t5 (List.mem_of_getElem? (i := 151) rfl) rfl
set_option maxRecDepth 20000 in
theorem f_Mo_37 : Cond.fieldLink "GravyBoatsModel" 37 (TMo 18).1 (TMo 18).2.1 (TMo 18).2.2.1 ∈ gb_all := gb_t5 (List.mem_of_getElem? (i := 152) rfl) rfl
set_option maxRecDepth 20000 in
theorem f_Mo_40 : Cond.fieldLink "GravyBoatsModel" 40 (TMo 19).1 (TMo 19).2.1 (TMo 19).2.2.1 ∈ gb_all := gb_t5 (List.mem_of_getElem? (i := 153) rfl) rfl
set_option maxRecDepth 20000 in
theorem f_Mo_43 : Cond.fieldLink "GravyBoatsModel" 43 (TMo 20).1 (TMo 20).2.1 (TMo 20).2.2.1 ∈ gb_all := gb_t5 (List.mem_of_getElem? (i := 154) rfl) rfl
set_option maxRecDepth 20000 in
theorem f_Mo_46 : Cond.fieldLink "GravyBoatsModel" 46 (TMo 21).1 (TMo 21).2.1 (TMo 21).2.2.1 ∈ gb_all := gb_t5 (List.mem_of_getElem? (i := 155) rfl) rfl
set_option maxRecDepth 20000 in
theorem f_Mo_49 : Cond.fieldLink "GravyBoatsModel" 49 (TMo 22).1 (TMo 22).2.1 (TMo 22).2.2.1 ∈ gb_all := gb_t5 (List.mem_of_getElem? (i := 156) rfl) rfl
set_option maxRecDepth 20000 in
theorem f_Mo_52 : Cond.fieldLink "GravyBoatsModel" 52 (TMo 23).1 (TMo 23).2.1 (TMo 23).2.2.1 ∈ gb_all := gb_t5 (List.mem_of_getElem? (i := 157) rfl) rfl
set_option maxRecDepth 20000 in
theorem f_Mo_55 : Cond.fieldLink "GravyBoatsModel" 55 (TMo 24).1 (TMo 24).2.1 (TMo 24).2.2.1 ∈ gb_all := gb_t5 (List.mem_of_getElem? (i := 158) rfl) rfl
set_option maxRecDepth 20000 in
theorem f_Mo_58 : Cond.fieldLink "GravyBoatsModel" 58 (TMo 25).1 (TMo 25).2.1 (TMo 25).2.2.1 ∈ gb_all := gb_t5 (List.mem_of_getElem? (i := 159) rfl) rfl
set_option maxRecDepth 20000 in
theorem f_Mo_266 : Cond.fieldLink "GravyBoatsModel" 266 (TMo 26).1 (TMo 26).2.1 (TMo 26).2.2.1 ∈ gb_all := gb_t5 (List.mem_of_getElem? (i := 160) rfl) rfl
set_option maxRecDepth 20000 in
theorem f_Mo_212 : Cond.fieldLink "GravyBoatsModel" 212 (TMo 27).1 (TMo 27).2.1 (TMo 27).2.2.1 ∈ gb_all := gb_t5 (List.mem_of_getElem? (i := 161) rfl) rfl
set_option maxRecDepth 20000 in
theorem f_Mo_244 : Cond.fieldLink "GravyBoatsModel" 244 (TMo 28).1 (TMo 28).2.1 (TMo 28).2.2.1 ∈ gb_all := gb_t5 (List.mem_of_getElem? (i := 162) rfl) rfl
set_option maxRecDepth 20000 in
theorem f_Mo_61 : Cond.fieldLink "GravyBoatsModel" 61 (TMo 29).1 (TMo 29).2.1 (TMo 29).2.2.1 ∈ gb_all := gb_t5 (List.mem_of_getElem? (i := 163) rfl) rfl
set_option maxRecDepth 20000 in
theorem f_Mo_241 : Cond.fieldLink "GravyBoatsModel" 241 (TMo 30).1 (TMo 30).2.1 (TMo 30).2.2.1 ∈ gb_all := gb_t5 (List.mem_of_getElem? (i := 164) rfl) rfl
set_option maxRecDepth 20000 in
theorem f_Mo_206 : Cond.fieldLink "GravyBoatsModel" 206 (TMo 31).1 (TMo 31).2.1 (TMo 31).2.2.1 ∈ gb_all := gb_t5 (List.mem_of_getElem? (i := 165) rfl) rfl
set_option maxRecDepth 20000 in
theorem f_Mo_209 : Cond.fieldLink "GravyBoatsModel" 209 (TMo 32).1 (TMo 32).2.1 (TMo 32).2.2.1 ∈ gb_all := gb_t5 (List.mem_of_getElem? (i := 166) rfl) rfl
set_option maxRecDepth 20000 in
theorem f_Mo_312 : Cond.fieldLink "GravyBoatsModel" 312 (TMo 33).1 (TMo 33).2.1 (TMo 33).2.2.1 ∈ gb_all := gb_t5 (List.mem_of_getElem? (i := 167) rfl) rfl
set_option maxRecDepth 20000 in
theorem f_Mo_64 : Cond.fieldLink "GravyBoatsModel" 64 (TMo 34).1 (TMo 34).2.1 (TMo 34).2.2.1 ∈ gb_all := gb_t5 (List.mem_of_getElem? (i := 168) rfl) rfl
set_option maxRecDepth 20000 in
theorem f_Mo_306 : Cond.fieldLink "GravyBoatsModel" 306 (TMo 35).1 (TMo 35).2.1 (TMo 35).2.2.1 ∈ gb_all := gb_t5 (List.mem_of_getElem? (i := 169) rfl) rfl
set_option maxRecDepth 20000 in
theorem f_Mo_68 : Cond.fieldLink "GravyBoatsModel" 68 (TMo 36).1 (TMo 36).2.1 (TMo 36).2.2.1 ∈ gb_all := gb_t5 (List.mem_of_getElem? (i := 170) rfl) rfl
set_option maxRecDepth 20000 in
theorem f_Mo_309 : Cond.fieldLink "GravyBoatsModel" 309 (TMo 37).1 (TMo 37).2.1 (TMo 37).2.2.1 ∈ gb_all := gb_t5 (List.mem_of_getElem? (i := 171) rfl) rfl
set_option maxRecDepth 20000 in
theorem f_Mo_71 : Cond.fieldLink "GravyBoatsModel" 71 (TMo 38).1 (TMo 38).2.1 (TMo 38).2.2.1 ∈ gb_all := gb_t5 (List.mem_of_getElem? (i := 172) rfl) rfl
set_option maxRecDepth 20000 in
theorem f_Mo_303 : Cond.fieldLink "GravyBoatsModel" 303 (TMo 39).1 (TMo 39).2.1 (TMo 39).2.2.1 ∈ gb_all := gb_t5 (List.mem_of_getElem? (i := 173) rfl) rfl
set_option maxRecDepth 20000 in
theorem f_Mo_74 : Cond.fieldLink "GravyBoatsModel" 74 (TMo 40).1 (TMo 40).2.1 (TMo 40).2.2.1 ∈ gb_all := gb_t5 (List.mem_of_getElem? (i := 174) rfl) rfl
set_option maxRecDepth 20000 in
theorem f_Mo_77 : Cond.fieldLink "GravyBoatsModel" 77 (TMo 41).1 (TMo 41).2.1 (TMo 41).2.2.1 ∈ gb_all := gb_t5 (List.mem_of_getElem? (i := 175) rfl) rfl
set_option maxRecDepth 20000 in
theorem f_Mo_80 : Cond.fieldLink "GravyBoatsModel" 80 (TMo 42).1 (TMo 42).2.1 (TMo 42).2.2.1 ∈ gb_all := gb_t5 (List.mem_of_getElem? (i := 176) rfl) rfl
set_option maxRecDepth 20000 in
theorem f_Mo_358 : Cond.fieldLink "GravyBoatsModel" 358 (TMo 43).1 (TMo 43).2.1 (TMo 43).2.2.1 ∈ gb_all := gb_t5 (List.mem_of_getElem? (i := 177) rfl) rfl
set_option maxRecDepth 20000 in
theorem f_Mo_83 : Cond.fieldLink "GravyBoatsModel" 83 (TMo 44).1 (TMo 44).2.1 (TMo 44).2.2.1 ∈ gb_all := gb_t5 (List.mem_of_getElem? (i := 178) rfl) rfl
set_option maxRecDepth 20000 in
theorem f_Mo_86 : Cond.fieldLink "GravyBoatsModel" 86 (TMo 45).1 (TMo 45).2.1 (TMo 45).2.2.1 ∈ gb_all := gb_t5 (List.mem_of_getElem? (i := 179) rfl) rfl
set_option maxRecDepth 20000 in
theorem f_Mo_89 : Cond.fieldLink "GravyBoatsModel" 89 (TMo 46).1 (TMo 46).2.1 (TMo 46).2.2.1 ∈ gb_all := gb_t5 (List.mem_of_getElem? (i := 180) rfl) rfl
set_option maxRecDepth 20000 in
theorem f_Mo_92 : Cond.fieldLink "GravyBoatsModel" 92 (TMo 47).1 (TMo 47).2.1 (TMo 47).2.2.1 ∈ gb_all := gb_t5 (List.mem_of_getElem? (i := 181) rfl) rfl
set_option maxRecDepth 20000 in
theorem f_Mo_95 : Cond.fieldLink "GravyBoatsModel" 95 (TMo 48).1 (TMo 48).2.1 (TMo 48).2.2.1 ∈ gb_all := gb_t5 (List.mem_of_getElem? (i := 182) rfl) rfl
set_option maxRecDepth 20000 in
theorem f_Mo_98 : Cond.fieldLink "GravyBoatsModel" 98 (TMo 49).1 (TMo 49).2.1 (TMo 49).2.2.1 ∈ gb_all := gb_t5 (List.mem_of_getElem? (i := 183) rfl) rfl
set_option maxRecDepth 20000 in
theorem f_Mo_441 : Cond.fieldLink "GravyBoatsModel" 441 (TMo 50).1 (TMo 50).2.1 (TMo 50).2.2.1 ∈ gb_all := gb_t5 (List.mem_of_getElem? (i := 184) rfl) rfl
set_option maxRecDepth 20000 in
theorem f_Mo_101 : Cond.fieldLink "GravyBoatsModel" 101 (TMo 51).1 (TMo 51).2.1 (TMo 51).2.2.1 ∈ gb_all := gb_t5 (List.mem_of_getElem? (i := 185) rfl) rfl
set_option maxRecDepth 20000 in
theorem f_Mo_104 : Cond.fieldLink "GravyBoatsModel" 104 (TMo 52).1 (TMo 52).2.1 (TMo 52).2.2.1 ∈ gb_all := gb_t5 (List.mem_of_getElem? (i := 186) rfl) rfl
set_option maxRecDepth 20000 in
theorem f_Mo_444 : Cond.fieldLink "GravyBoatsModel" 444 (TMo 53).1 (TMo 53).2.1 (TMo 53).2.2.1 ∈ gb_all := gb_t5 (List.mem_of_getElem? (i := 187) rfl) rfl
set_option maxRecDepth 20000 in
theorem f_Mo_107 : Cond.fieldLink "GravyBoatsModel" 107 (TMo 54).1 (TMo 54).2.1 (TMo 54).2.2.1 ∈ gb_all := gb_t5 (List.mem_of_getElem? (i := 188) rfl) rfl
set_option maxRecDepth 20000 in
theorem f_Mo_110 : Cond.fieldLink "GravyBoatsModel" 110 (TMo 55).1 (TMo 55).2.1 (TMo 55).2.2.1 ∈ gb_all := gb_t5 (List.mem_of_getElem? (i := 189) rfl) rfl
set_option maxRecDepth 20000 in
theorem f_Mo_456 : Cond.fieldLink "GravyBoatsModel" 456 (TMo 56).1 (TMo 56).2.1 (TMo 56).2.2.1 ∈ gb_all := gb_t5 (List.mem_of_getElem? (i := 190) rfl) rfl
set_option maxRecDepth 20000 in
theorem f_Mo_113 : Cond.fieldLink "GravyBoatsModel" 113 (TMo 57).1 (TMo 57).2.1 (TMo 57).2.2.1 ∈ gb_all := gb_t5 (List.mem_of_getElem? (i := 191) rfl) rfl
set_option maxRecDepth 20000 in
theorem f_Mo_465 : Cond.fieldLink "GravyBoatsModel" 465 (TMo 58).1 (TMo 58).2.1 (TMo 58).2.2.1 ∈ gb_all := gb_t5 (List.mem_of_getElem? (i := 192) rfl) rfl
set_option maxRecDepth 20000 in
theorem f_Mo_116 : Cond.fieldLink "GravyBoatsModel" 116 (TMo 59).1 (TMo 59).2.1 (TMo 59).2.2.1 ∈ gb_all := gb_t5 (List.mem_of_getElem? (i := 193) rfl) rfl
set_option maxRecDepth 20000 in
theorem f_Mo_119 : Cond.fieldLink "GravyBoatsModel" 119 (TMo 60).1 (TMo 60).2.1 (TMo 60).2.2.1 ∈ gb_all := gb_t5 (List.mem_of_getElem? (i := 194) rfl) rfl
set_option maxRecDepth 20000 in
theorem f_Mo_471 : Cond.fieldLink "GravyBoatsModel" 471 (TMo 61).1 (TMo 61).2.1 (TMo 61).2.2.1 ∈ gb_all := gb_t5 (List.mem_of_getElem? (i := 195) rfl) rfl
set_option maxRecDepth 20000 in
theorem f_Mo_122 : Cond.fieldLink "GravyBoatsModel" 122 (TMo 62).1 (TMo 62).2.1 (TMo 62).2.2.1 ∈ gb_all := gb_t5 (List.mem_of_getElem? (i := 196) rfl) rfl
set_option maxRecDepth 20000 in
theorem f_Mo_125 : Cond.fieldLink "GravyBoatsModel" 125 (TMo 63).1 (TMo 63).2.1 (TMo 63).2.2.1 ∈ gb_all := gb_t5 (List.mem_of_getElem? (i := 197) rfl) rfl
set_option maxRecDepth 20000 in
theorem f_Mo_477 : Cond.fieldLink "GravyBoatsModel" 477 (TMo 64).1 (TMo 64).2.1 (TMo 64).2.2.1 ∈ gb_all := gb_t5 (List.mem_of_getElem? (i := 198) rfl) rfl
set_option maxRecDepth 20000 in
theorem f_Mo_128 : Cond.fieldLink "GravyBoatsModel" 128 (TMo 65).1 (TMo 65).2.1 (TMo 65).2.2.1 ∈ gb_all := gb_t5 (List.mem_of_getElem? (i := 199) rfl) rfl
set_option maxRecDepth 20000 in
theorem f_Mo_131 : Cond.fieldLink "GravyBoatsModel" 131 (TMo 66).1 (TMo 66).2.1 (TMo 66).2.2.1 ∈ gb_all := gb_t5 (List.mem_of_getElem? (i := 200) rfl) rfl
set_option maxRecDepth 20000 in
theorem f_Mo_493 : Cond.fieldLink "GravyBoatsModel" 493 (TMo 67).1 (TMo 67).2.1 (TMo 67).2.2.1 ∈ gb_all := gb_t5 (List.mem_of_getElem? (i := 201) rfl) rfl
set_option maxRecDepth 20000 in
theorem f_Mo_499 : Cond.fieldLink "GravyBoatsModel" 499 (TMo 68).1 (TMo 68).2.1 (TMo 68).2.2.1 ∈ gb_all := gb_t5 (List.mem_of_getElem? (i := 202) rfl) rfl
set_option maxRecDepth 20000 in
theorem f_Mo_490 : Cond.fieldLink "GravyBoatsModel" 490 (TMo 69).1 (TMo 69).2.1 (TMo 69).2.2.1 ∈ gb_all := gb_t5 (List.mem_of_getElem? (i := 203) rfl) rfl
set_option maxRecDepth 20000 in
theorem f_Mo_134 : Cond.fieldLink "GravyBoatsModel" 134 (TMo 70).1 (TMo 70).2.1 (TMo 70).2.2.1 ∈ gb_all := gb_t5 (List.mem_of_getElem? (i := 204) rfl) rfl
set_option maxRecDepth 20000 in
theorem m_Gb_11 : Cond.methodLinkNest "GravyBoats" 11 yWo_init.1 "GravyBoats" ∈ gb_all := gb_t1 (List.mem_of_getElem? (i := 30) rfl) rfl
set_option maxRecDepth 20000 in
theorem m_Wo_11 : Cond.methodLink "GravyBoats$World" 11 yTa_init.1 ∈ gb_all := gb_t1 (List.mem_of_getElem? (i := 36) rfl) rfl
set_option maxRecDepth 20000 in
theorem m_Wo_20 : Cond.methodLinkNest "GravyBoats$World" 20 yLa_init.1 "GravyBoats" ∈ gb_all := gb_t1 (List.mem_of_getElem? (i := 84) rfl) rfl
set_option maxRecDepth 20000 in
theorem m_Wo_27 : Cond.methodLink "GravyBoats$World" 27 yRo_init.1 ∈ gb_all := gb_t1 (List.mem_of_getElem? (i := 114) rfl) rfl
set_option maxRecDepth 20000 in
theorem m_Ro_9 : Cond.methodLink "GravyBoats$Rows" 9 yJm_max.1 ∈ gb_all := gb_t1 (List.mem_of_getElem? (i := 118) rfl) rfl
set_option maxRecDepth 20000 in
theorem m_Gb_21 : Cond.methodLink "GravyBoats" 21 yPa_init.1 ∈ gb_all := gb_t1 (List.mem_of_getElem? (i := 204) rfl) rfl
set_option maxRecDepth 20000 in
theorem m_Pa_21 : Cond.methodLink "GravyBoats$Past" 21 yTa_init.1 ∈ gb_all := gb_t1 (List.mem_of_getElem? (i := 210) rfl) rfl
set_option maxRecDepth 20000 in
theorem m_Gb_28 : Cond.methodLink "GravyBoats" 28 yTa_init.1 ∈ gb_all := gb_t1 (List.mem_of_getElem? (i := 226) rfl) rfl
set_option maxRecDepth 20000 in
theorem m_Gb_38 : Cond.methodLink "GravyBoats" 38 yCo_init.1 ∈ gb_all := gb_t1 (List.mem_of_getElem? (i := 229) rfl) rfl
set_option maxRecDepth 20000 in
theorem m_Gb_50 : Cond.methodLink "GravyBoats" 50 ySe_init.1 ∈ gb_all := gb_t2 (List.mem_of_getElem? (i := 8) rfl) rfl
set_option maxRecDepth 20000 in
theorem m_Gb_59 : Cond.methodLinkNest "GravyBoats" 59 yRe_init.1 "GravyBoats" ∈ gb_all := gb_t2 (List.mem_of_getElem? (i := 21) rfl) rfl
set_option maxRecDepth 20000 in
theorem m_Gb_70 : Cond.methodLink "GravyBoats" 70 yRd_init.1 ∈ gb_all := gb_t2 (List.mem_of_getElem? (i := 37) rfl) rfl
set_option maxRecDepth 20000 in
theorem m_Rd_24 : Cond.methodLinkNest "GravyBoats$Reader" 24 yLa_init.1 "GravyBoats" ∈ gb_all := gb_t2 (List.mem_of_getElem? (i := 42) rfl) rfl
set_option maxRecDepth 20000 in
theorem m_Rd_31 : Cond.methodLink "GravyBoats$Reader" 31 yRo_init.1 ∈ gb_all := gb_t2 (List.mem_of_getElem? (i := 44) rfl) rfl
set_option maxRecDepth 20000 in
theorem m_Gb_81 : Cond.methodLink "GravyBoats" 81 yPa_forget.1 ∈ gb_all := gb_t2 (List.mem_of_getElem? (i := 124) rfl) rfl
set_option maxRecDepth 20000 in
theorem m_Gb_84 : Cond.methodLink "GravyBoats" 84 yGb_within.1 ∈ gb_all := gb_t2 (List.mem_of_getElem? (i := 132) rfl) rfl
set_option maxRecDepth 20000 in
theorem m_Gb_91 : Cond.methodLink "GravyBoats" 91 yGb_shoreOf.1 ∈ gb_all := gb_t2 (List.mem_of_getElem? (i := 137) rfl) rfl
set_option maxRecDepth 20000 in
theorem m_Gb_98 : Cond.methodLink "GravyBoats" 98 yTa_putBoat.1 ∈ gb_all := gb_t2 (List.mem_of_getElem? (i := 140) rfl) rfl
set_option maxRecDepth 20000 in
theorem m_Ta_48 : Cond.methodLinkNest "GravyBoats$Table" 48 yGb_within.1 "GravyBoats" ∈ gb_all := gb_t2 (List.mem_of_getElem? (i := 144) rfl) rfl
set_option maxRecDepth 20000 in
theorem m_Gb_102 : Cond.methodLink "GravyBoats" 102 yGb_canSet.1 ∈ gb_all := gb_t2 (List.mem_of_getElem? (i := 149) rfl) rfl
set_option maxRecDepth 20000 in
theorem m_Gb_108 : Cond.methodLink "GravyBoats" 108 yTa_putSeat.1 ∈ gb_all := gb_t2 (List.mem_of_getElem? (i := 153) rfl) rfl
set_option maxRecDepth 20000 in
theorem m_Gb_111 : Cond.methodLink "GravyBoats" 111 yGb_canAct.1 ∈ gb_all := gb_t2 (List.mem_of_getElem? (i := 161) rfl) rfl
set_option maxRecDepth 20000 in
theorem m_Gb_179 : Cond.methodLink "GravyBoats" 179 yTa_ofSeat.1 ∈ gb_all := gb_t2 (List.mem_of_getElem? (i := 165) rfl) rfl
set_option maxRecDepth 20000 in
theorem m_Gb_162 : Cond.methodLink "GravyBoats" 162 yTa_ofBoat.1 ∈ gb_all := gb_t2 (List.mem_of_getElem? (i := 169) rfl) rfl
set_option maxRecDepth 20000 in
theorem m_Gb_176 : Cond.methodLink "GravyBoats" 176 ySe_reachedFrom.1 ∈ gb_all := gb_t2 (List.mem_of_getElem? (i := 173) rfl) rfl
set_option maxRecDepth 20000 in
theorem m_Se_19 : Cond.methodLink "GravyBoats$Seating" 19 ySe_around.1 ∈ gb_all := gb_t2 (List.mem_of_getElem? (i := 177) rfl) rfl
set_option maxRecDepth 20000 in
theorem m_Se_58 : Cond.methodLink "GravyBoats$Seating" 58 yJm_max.1 ∈ gb_all := gb_t2 (List.mem_of_getElem? (i := 180) rfl) rfl
set_option maxRecDepth 20000 in
theorem m_Se_35 : Cond.methodLink "GravyBoats$Seating" 35 yRo_cell.1 ∈ gb_all := gb_t2 (List.mem_of_getElem? (i := 181) rfl) rfl
set_option maxRecDepth 20000 in
theorem m_Ro_28 : Cond.methodLinkNest "GravyBoats$Rows" 28 yGb_within.1 "GravyBoats" ∈ gb_all := gb_t2 (List.mem_of_getElem? (i := 185) rfl) rfl
set_option maxRecDepth 20000 in
theorem m_Gb_114 : Cond.methodLink "GravyBoats" 114 yPa_keep.1 ∈ gb_all := gb_t2 (List.mem_of_getElem? (i := 186) rfl) rfl
set_option maxRecDepth 20000 in
theorem m_Pa_29 : Cond.methodLinkNest "GravyBoats$Past" 29 yGb_within.1 "GravyBoats" ∈ gb_all := gb_t2 (List.mem_of_getElem? (i := 190) rfl) rfl
set_option maxRecDepth 20000 in
theorem m_Pa_39 : Cond.methodLink "GravyBoats$Past" 39 yTa_copyFrom.1 ∈ gb_all := gb_t2 (List.mem_of_getElem? (i := 191) rfl) rfl
set_option maxRecDepth 20000 in
theorem m_Pa_52 : Cond.methodLink "GravyBoats$Past" 52 yJm_min.1 ∈ gb_all := gb_t2 (List.mem_of_getElem? (i := 198) rfl) rfl
set_option maxRecDepth 20000 in
theorem m_Gb_117 : Cond.methodLink "GravyBoats" 117 yCo_passByHand.1 ∈ gb_all := gb_t2 (List.mem_of_getElem? (i := 201) rfl) rfl
set_option maxRecDepth 20000 in
theorem m_Co_57 : Cond.methodLink "GravyBoats$Course" 57 yTa_putBoat.1 ∈ gb_all := gb_t2 (List.mem_of_getElem? (i := 205) rfl) rfl
set_option maxRecDepth 20000 in
theorem m_Co_61 : Cond.methodLink "GravyBoats$Course" 61 yCo_write.1 ∈ gb_all := gb_t2 (List.mem_of_getElem? (i := 206) rfl) rfl
set_option maxRecDepth 20000 in
theorem m_Co_156 : Cond.methodLink "GravyBoats$Course" 156 yRo_add.1 ∈ gb_all := gb_t2 (List.mem_of_getElem? (i := 210) rfl) rfl
set_option maxRecDepth 20000 in
theorem m_Co_46 : Cond.methodLink "GravyBoats$Course" 46 yTa_isAtItsShore.1 ∈ gb_all := gb_t2 (List.mem_of_getElem? (i := 214) rfl) rfl
set_option maxRecDepth 20000 in
theorem m_Ta_52 : Cond.methodLink "GravyBoats$Table" 52 yTa_ofBoat.1 ∈ gb_all := gb_t2 (List.mem_of_getElem? (i := 218) rfl) rfl
set_option maxRecDepth 20000 in
theorem m_Ta_56 : Cond.methodLinkNest "GravyBoats$Table" 56 yGb_shoreOf.1 "GravyBoats" ∈ gb_all := gb_t2 (List.mem_of_getElem? (i := 219) rfl) rfl
set_option maxRecDepth 20000 in
theorem m_Co_64 : Cond.methodLink "GravyBoats$Course" 64 yCo_land.1 ∈ gb_all := gb_t2 (List.mem_of_getElem? (i := 220) rfl) rfl
set_option maxRecDepth 20000 in
theorem m_Co_68 : Cond.methodLink "GravyBoats$Course" 68 yTa_ofBoat.1 ∈ gb_all := gb_t2 (List.mem_of_getElem? (i := 224) rfl) rfl
set_option maxRecDepth 20000 in
theorem m_Co_141 : Cond.methodLink "GravyBoats$Course" 141 yJm_max.1 ∈ gb_all := gb_t2 (List.mem_of_getElem? (i := 225) rfl) rfl
set_option maxRecDepth 20000 in
theorem m_Co_144 : Cond.methodLink "GravyBoats$Course" 144 yTa_addGot.1 ∈ gb_all := gb_t2 (List.mem_of_getElem? (i := 226) rfl) rfl
set_option maxRecDepth 20000 in
theorem m_Co_27 : Cond.methodLinkNest "GravyBoats$Course" 27 yGb_within.1 "GravyBoats" ∈ gb_all := gb_t2 (List.mem_of_getElem? (i := 230) rfl) rfl
set_option maxRecDepth 20000 in
theorem m_Co_147 : Cond.methodLink "GravyBoats$Course" 147 yCo_setOutAgain.1 ∈ gb_all := gb_t2 (List.mem_of_getElem? (i := 231) rfl) rfl
set_option maxRecDepth 20000 in
theorem m_Co_92 : Cond.methodLink "GravyBoats$Course" 92 yRo_cell.1 ∈ gb_all := gb_t2 (List.mem_of_getElem? (i := 235) rfl) rfl
set_option maxRecDepth 20000 in
theorem m_Co_104 : Cond.methodLink "GravyBoats$Course" 104 yTa_turn.1 ∈ gb_all := gb_t2 (List.mem_of_getElem? (i := 236) rfl) rfl
set_option maxRecDepth 20000 in
theorem m_Ta_65 : Cond.methodLink "GravyBoats$Table" 65 yTa_putBoat.1 ∈ gb_all := gb_t3 (List.mem_of_getElem? (i := 0) rfl) rfl
set_option maxRecDepth 20000 in
theorem m_Gb_121 : Cond.methodLink "GravyBoats" 121 yCo_pourByHand.1 ∈ gb_all := gb_t3 (List.mem_of_getElem? (i := 1) rfl) rfl
set_option maxRecDepth 20000 in
theorem m_Gb_124 : Cond.methodLink "GravyBoats" 124 yCo_salt.1 ∈ gb_all := gb_t3 (List.mem_of_getElem? (i := 5) rfl) rfl
set_option maxRecDepth 20000 in
theorem m_Co_75 : Cond.methodLink "GravyBoats$Course" 75 yTa_ofSeat.1 ∈ gb_all := gb_t3 (List.mem_of_getElem? (i := 9) rfl) rfl
set_option maxRecDepth 20000 in
theorem m_Co_78 : Cond.methodLink "GravyBoats$Course" 78 yTa_putSeat.1 ∈ gb_all := gb_t3 (List.mem_of_getElem? (i := 10) rfl) rfl
set_option maxRecDepth 20000 in
theorem m_Gb_134 : Cond.methodLink "GravyBoats" 134 yCo_goByOne.1 ∈ gb_all := gb_t3 (List.mem_of_getElem? (i := 15) rfl) rfl
set_option maxRecDepth 20000 in
theorem m_Co_31 : Cond.methodLink "GravyBoats$Course" 31 yCo_serve.1 ∈ gb_all := gb_t3 (List.mem_of_getElem? (i := 19) rfl) rfl
set_option maxRecDepth 20000 in
theorem m_Co_95 : Cond.methodLink "GravyBoats$Course" 95 yCo_serveLine.1 ∈ gb_all := gb_t3 (List.mem_of_getElem? (i := 23) rfl) rfl
set_option maxRecDepth 20000 in
theorem m_Co_101 : Cond.methodLink "GravyBoats$Course" 101 yCo_salt.1 ∈ gb_all := gb_t3 (List.mem_of_getElem? (i := 27) rfl) rfl
set_option maxRecDepth 20000 in
theorem m_Co_40 : Cond.methodLink "GravyBoats$Course" 40 yCo_listen.1 ∈ gb_all := gb_t3 (List.mem_of_getElem? (i := 28) rfl) rfl
set_option maxRecDepth 20000 in
theorem m_Co_107 : Cond.methodLink "GravyBoats$Course" 107 yTa_thickenSkin.1 ∈ gb_all := gb_t3 (List.mem_of_getElem? (i := 32) rfl) rfl
set_option maxRecDepth 20000 in
theorem m_Ta_60 : Cond.methodLink "GravyBoats$Table" 60 yJm_min.1 ∈ gb_all := gb_t3 (List.mem_of_getElem? (i := 36) rfl) rfl
set_option maxRecDepth 20000 in
theorem m_Co_50 : Cond.methodLink "GravyBoats$Course" 50 yCo_sail.1 ∈ gb_all := gb_t3 (List.mem_of_getElem? (i := 37) rfl) rfl
set_option maxRecDepth 20000 in
theorem m_Co_114 : Cond.methodLink "GravyBoats$Course" 114 yLa_tells.1 ∈ gb_all := gb_t3 (List.mem_of_getElem? (i := 41) rfl) rfl
set_option maxRecDepth 20000 in
theorem m_La_41 : Cond.methodLink "GravyBoats$Law" 41 yLa_reckon.1 ∈ gb_all := gb_t3 (List.mem_of_getElem? (i := 45) rfl) rfl
set_option maxRecDepth 20000 in
theorem m_La_68 : Cond.methodLink "GravyBoats$Law" 68 yJm_max.1 ∈ gb_all := gb_t3 (List.mem_of_getElem? (i := 49) rfl) rfl
set_option maxRecDepth 20000 in
theorem m_La_73 : Cond.methodLink "GravyBoats$Law" 73 yLa_push.1 ∈ gb_all := gb_t3 (List.mem_of_getElem? (i := 50) rfl) rfl
set_option maxRecDepth 20000 in
theorem m_La_37 : Cond.methodLinkNest "GravyBoats$Law" 37 yGb_within.1 "GravyBoats" ∈ gb_all := gb_t3 (List.mem_of_getElem? (i := 54) rfl) rfl
set_option maxRecDepth 20000 in
theorem m_La_77 : Cond.methodLink "GravyBoats$Law" 77 yLa_worth.1 ∈ gb_all := gb_t3 (List.mem_of_getElem? (i := 55) rfl) rfl
set_option maxRecDepth 20000 in
theorem m_La_53 : Cond.methodLink "GravyBoats$Law" 53 yTa_ofBoat.1 ∈ gb_all := gb_t3 (List.mem_of_getElem? (i := 58) rfl) rfl
set_option maxRecDepth 20000 in
theorem m_La_59 : Cond.methodLink "GravyBoats$Law" 59 yTa_ofSeat.1 ∈ gb_all := gb_t3 (List.mem_of_getElem? (i := 59) rfl) rfl
set_option maxRecDepth 20000 in
theorem m_La_80 : Cond.methodLink "GravyBoats$Law" 80 yLa_pop.1 ∈ gb_all := gb_t3 (List.mem_of_getElem? (i := 60) rfl) rfl
set_option maxRecDepth 20000 in
theorem m_La_84 : Cond.methodLink "GravyBoats$Law" 84 yLa_joined.1 ∈ gb_all := gb_t3 (List.mem_of_getElem? (i := 64) rfl) rfl
set_option maxRecDepth 20000 in
theorem m_La_45 : Cond.methodLinkNest "GravyBoats$Law" 45 yGb_held.1 "GravyBoats" ∈ gb_all := gb_t3 (List.mem_of_getElem? (i := 67) rfl) rfl
set_option maxRecDepth 20000 in
theorem m_Gb_343 : Cond.methodLink "GravyBoats" 343 yJm_min.1 ∈ gb_all := gb_t3 (List.mem_of_getElem? (i := 70) rfl) rfl
set_option maxRecDepth 20000 in
theorem m_Gb_348 : Cond.methodLink "GravyBoats" 348 yJm_max.1 ∈ gb_all := gb_t3 (List.mem_of_getElem? (i := 71) rfl) rfl
set_option maxRecDepth 20000 in
theorem m_La_49 : Cond.methodLink "GravyBoats$Law" 49 yLa_unwritten.1 ∈ gb_all := gb_t3 (List.mem_of_getElem? (i := 72) rfl) rfl
set_option maxRecDepth 20000 in
theorem m_Co_120 : Cond.methodLink "GravyBoats$Course" 120 yCo_pourOut.1 ∈ gb_all := gb_t3 (List.mem_of_getElem? (i := 76) rfl) rfl
set_option maxRecDepth 20000 in
theorem m_Co_133 : Cond.methodLink "GravyBoats$Course" 133 yJm_min.1 ∈ gb_all := gb_t3 (List.mem_of_getElem? (i := 80) rfl) rfl
set_option maxRecDepth 20000 in
theorem m_Co_124 : Cond.methodLink "GravyBoats$Course" 124 yCo_happens.1 ∈ gb_all := gb_t3 (List.mem_of_getElem? (i := 81) rfl) rfl
set_option maxRecDepth 20000 in
theorem m_Co_130 : Cond.methodLink "GravyBoats$Course" 130 yTa_draw.1 ∈ gb_all := gb_t3 (List.mem_of_getElem? (i := 85) rfl) rfl
set_option maxRecDepth 20000 in
theorem m_Co_127 : Cond.methodLink "GravyBoats$Course" 127 yCo_spill.1 ∈ gb_all := gb_t3 (List.mem_of_getElem? (i := 91) rfl) rfl
set_option maxRecDepth 20000 in
theorem m_Gb_141 : Cond.methodLink "GravyBoats" 141 yGb_tapeNumber.1 ∈ gb_all := gb_t3 (List.mem_of_getElem? (i := 100) rfl) rfl
set_option maxRecDepth 20000 in
theorem m_Gb_144 : Cond.methodLink "GravyBoats" 144 yRd_start.1 ∈ gb_all := gb_t3 (List.mem_of_getElem? (i := 112) rfl) rfl
set_option maxRecDepth 20000 in
theorem m_Rd_41 : Cond.methodLink "GravyBoats$Reader" 41 yJm_min.1 ∈ gb_all := gb_t3 (List.mem_of_getElem? (i := 116) rfl) rfl
set_option maxRecDepth 20000 in
theorem m_Gb_147 : Cond.methodLink "GravyBoats" 147 yRd_readLaw.1 ∈ gb_all := gb_t3 (List.mem_of_getElem? (i := 117) rfl) rfl
set_option maxRecDepth 20000 in
theorem m_Rd_56 : Cond.methodLink "GravyBoats$Reader" 56 yRd_cutTokens.1 ∈ gb_all := gb_t3 (List.mem_of_getElem? (i := 121) rfl) rfl
set_option maxRecDepth 20000 in
theorem m_Rd_134 : Cond.methodLink "GravyBoats$Reader" 134 yRd_runEnd.1 ∈ gb_all := gb_t3 (List.mem_of_getElem? (i := 125) rfl) rfl
set_option maxRecDepth 20000 in
theorem m_Rd_137 : Cond.methodLink "GravyBoats$Reader" 137 yRd_charAt.1 ∈ gb_all := gb_t3 (List.mem_of_getElem? (i := 129) rfl) rfl
set_option maxRecDepth 20000 in
theorem m_Rd_66 : Cond.methodLinkNest "GravyBoats$Reader" 66 yGb_within.1 "GravyBoats" ∈ gb_all := gb_t3 (List.mem_of_getElem? (i := 133) rfl) rfl
set_option maxRecDepth 20000 in
theorem m_Rd_146 : Cond.methodLink "GravyBoats$Reader" 146 yRd_isLetter.1 ∈ gb_all := gb_t3 (List.mem_of_getElem? (i := 134) rfl) rfl
set_option maxRecDepth 20000 in
theorem m_Rd_150 : Cond.methodLink "GravyBoats$Reader" 150 yRd_isDigit.1 ∈ gb_all := gb_t3 (List.mem_of_getElem? (i := 137) rfl) rfl
set_option maxRecDepth 20000 in
theorem m_Rd_140 : Cond.methodLink "GravyBoats$Reader" 140 yRd_tokenOf.1 ∈ gb_all := gb_t3 (List.mem_of_getElem? (i := 140) rfl) rfl
set_option maxRecDepth 20000 in
theorem m_Rd_153 : Cond.methodLink "GravyBoats$Reader" 153 yRd_wordOf.1 ∈ gb_all := gb_t3 (List.mem_of_getElem? (i := 144) rfl) rfl
set_option maxRecDepth 20000 in
theorem m_Rd_168 : Cond.methodLink "GravyBoats$Reader" 168 yJs_length.1 ∈ gb_all := gb_t3 (List.mem_of_getElem? (i := 149) rfl) rfl
set_option maxRecDepth 20000 in
theorem m_Js_335 : Cond.methodLink "java/lang/String" 335 yJs_coder.1 ∈ gb_all := gb_t3 (List.mem_of_getElem? (i := 153) rfl) rfl
set_option maxRecDepth 20000 in
theorem m_Rd_170 : Cond.methodLink "GravyBoats$Reader" 170 yJs_charAt.1 ∈ gb_all := gb_t3 (List.mem_of_getElem? (i := 159) rfl) rfl
set_option maxRecDepth 20000 in
theorem m_Js_492 : Cond.methodLink "java/lang/String" 492 yJs_isLatin1.1 ∈ gb_all := gb_t3 (List.mem_of_getElem? (i := 163) rfl) rfl
set_option maxRecDepth 20000 in
theorem m_Js_495 : Cond.methodLink "java/lang/String" 495 yJl_charAt.1 ∈ gb_all := gb_t3 (List.mem_of_getElem? (i := 167) rfl) rfl
set_option maxRecDepth 20000 in
theorem m_Jl_9 : Cond.methodLink "java/lang/StringLatin1" 9 yJs_checkIndex.1 ∈ gb_all := gb_t3 (List.mem_of_getElem? (i := 170) rfl) rfl
set_option maxRecDepth 20000 in
theorem m_Js_1059 : Cond.methodLink "java/lang/String" 1059 yJp_checkIndex.1 ∈ gb_all := gb_t3 (List.mem_of_getElem? (i := 175) rfl) rfl
set_option maxRecDepth 20000 in
theorem m_Rd_173 : Cond.methodLink "GravyBoats$Reader" 173 yRd_isWordAt.1 ∈ gb_all := gb_t3 (List.mem_of_getElem? (i := 197) rfl) rfl
set_option maxRecDepth 20000 in
theorem m_Rd_156 : Cond.methodLink "GravyBoats$Reader" 156 yRd_numberOf.1 ∈ gb_all := gb_t3 (List.mem_of_getElem? (i := 201) rfl) rfl
set_option maxRecDepth 20000 in
theorem m_Rd_161 : Cond.methodLink "GravyBoats$Reader" 161 yJs_indexOf.1 ∈ gb_all := gb_t3 (List.mem_of_getElem? (i := 206) rfl) rfl
set_option maxRecDepth 20000 in
theorem m_Js_633 : Cond.methodLink "java/lang/String" 633 yJs_indexOf_III.1 ∈ gb_all := gb_t3 (List.mem_of_getElem? (i := 210) rfl) rfl
set_option maxRecDepth 20000 in
theorem m_Js_505 : Cond.methodLink "java/lang/String" 505 yJs_length.1 ∈ gb_all := gb_t3 (List.mem_of_getElem? (i := 214) rfl) rfl
set_option maxRecDepth 20000 in
theorem m_Js_637 : Cond.methodLink "java/lang/String" 637 yJl_indexOf.1 ∈ gb_all := gb_t3 (List.mem_of_getElem? (i := 215) rfl) rfl
set_option maxRecDepth 20000 in
theorem m_Jl_88 : Cond.methodLink "java/lang/StringLatin1" 88 yJl_canEncode.1 ∈ gb_all := gb_t3 (List.mem_of_getElem? (i := 218) rfl) rfl
set_option maxRecDepth 20000 in
theorem m_Jl_92 : Cond.methodLink "java/lang/StringLatin1" 92 yJm_max.1 ∈ gb_all := gb_t3 (List.mem_of_getElem? (i := 221) rfl) rfl
set_option maxRecDepth 20000 in
theorem m_Jl_38 : Cond.methodLink "java/lang/StringLatin1" 38 yJm_min.1 ∈ gb_all := gb_t3 (List.mem_of_getElem? (i := 222) rfl) rfl
set_option maxRecDepth 20000 in
theorem m_Jl_95 : Cond.methodLink "java/lang/StringLatin1" 95 yJl_indexOfChar.1 ∈ gb_all := gb_t3 (List.mem_of_getElem? (i := 223) rfl) rfl
set_option maxRecDepth 20000 in
theorem m_Js_1062 : Cond.methodLink "java/lang/String" 1062 yJp_checkFromToIndex.1 ∈ gb_all := gb_t4 (List.mem_of_getElem? (i := 1) rfl) rfl
set_option maxRecDepth 20000 in
theorem m_Rd_143 : Cond.methodLink "GravyBoats$Reader" 143 yJm_max.1 ∈ gb_all := gb_t4 (List.mem_of_getElem? (i := 21) rfl) rfl
set_option maxRecDepth 20000 in
theorem m_Rd_59 : Cond.methodLink "GravyBoats$Reader" 59 yLa_clear.1 ∈ gb_all := gb_t4 (List.mem_of_getElem? (i := 22) rfl) rfl
set_option maxRecDepth 20000 in
theorem m_Rd_62 : Cond.methodLink "GravyBoats$Reader" 62 yRd_now.1 ∈ gb_all := gb_t4 (List.mem_of_getElem? (i := 26) rfl) rfl
set_option maxRecDepth 20000 in
theorem m_Rd_70 : Cond.methodLink "GravyBoats$Reader" 70 yRd_openLine.1 ∈ gb_all := gb_t4 (List.mem_of_getElem? (i := 30) rfl) rfl
set_option maxRecDepth 20000 in
theorem m_Rd_112 : Cond.methodLink "GravyBoats$Reader" 112 yRd_refuse.1 ∈ gb_all := gb_t4 (List.mem_of_getElem? (i := 34) rfl) rfl
set_option maxRecDepth 20000 in
theorem m_Rd_74 : Cond.methodLink "GravyBoats$Reader" 74 yRd_readSum.1 ∈ gb_all := gb_t4 (List.mem_of_getElem? (i := 38) rfl) rfl
set_option maxRecDepth 20000 in
theorem m_Rd_125 : Cond.methodLink "GravyBoats$Reader" 125 yRd_readProduct.1 ∈ gb_all := gb_t4 (List.mem_of_getElem? (i := 42) rfl) rfl
set_option maxRecDepth 20000 in
theorem m_Rd_128 : Cond.methodLink "GravyBoats$Reader" 128 yRd_readUnit.1 ∈ gb_all := gb_t4 (List.mem_of_getElem? (i := 46) rfl) rfl
set_option maxRecDepth 20000 in
theorem m_Rd_122 : Cond.methodLink "GravyBoats$Reader" 122 yLa_emit.1 ∈ gb_all := gb_t4 (List.mem_of_getElem? (i := 50) rfl) rfl
set_option maxRecDepth 20000 in
theorem m_Rd_105 : Cond.methodLink "GravyBoats$Reader" 105 yRd_takeNumber.1 ∈ gb_all := gb_t4 (List.mem_of_getElem? (i := 54) rfl) rfl
set_option maxRecDepth 20000 in
theorem m_Rd_83 : Cond.methodLink "GravyBoats$Reader" 83 yRd_readCondition.1 ∈ gb_all := gb_t4 (List.mem_of_getElem? (i := 58) rfl) rfl
set_option maxRecDepth 20000 in
theorem m_Rd_119 : Cond.methodLink "GravyBoats$Reader" 119 yRd_readSingle.1 ∈ gb_all := gb_t4 (List.mem_of_getElem? (i := 62) rfl) rfl
set_option maxRecDepth 20000 in
theorem m_Rd_86 : Cond.methodLink "GravyBoats$Reader" 86 yRd_take.1 ∈ gb_all := gb_t4 (List.mem_of_getElem? (i := 66) rfl) rfl
set_option maxRecDepth 20000 in
theorem m_Rd_89 : Cond.methodLink "GravyBoats$Reader" 89 yLa_addLine.1 ∈ gb_all := gb_t4 (List.mem_of_getElem? (i := 70) rfl) rfl
set_option maxRecDepth 20000 in
theorem m_Gb_150 : Cond.methodLink "GravyBoats" 150 yRd_readLines.1 ∈ gb_all := gb_t4 (List.mem_of_getElem? (i := 74) rfl) rfl
set_option maxRecDepth 20000 in
theorem m_Rd_96 : Cond.methodLink "GravyBoats$Reader" 96 yRd_readVoyage.1 ∈ gb_all := gb_t4 (List.mem_of_getElem? (i := 78) rfl) rfl
set_option maxRecDepth 20000 in
theorem m_Rd_108 : Cond.methodLink "GravyBoats$Reader" 108 yRo_add.1 ∈ gb_all := gb_t4 (List.mem_of_getElem? (i := 82) rfl) rfl
set_option maxRecDepth 20000 in
theorem m_Rd_99 : Cond.methodLink "GravyBoats$Reader" 99 yRd_readEvent.1 ∈ gb_all := gb_t4 (List.mem_of_getElem? (i := 83) rfl) rfl
set_option maxRecDepth 20000 in
theorem m_Rd_102 : Cond.methodLink "GravyBoats$Reader" 102 yRd_readReach.1 ∈ gb_all := gb_t4 (List.mem_of_getElem? (i := 87) rfl) rfl
set_option maxRecDepth 20000 in
theorem m_Rd_115 : Cond.methodLink "GravyBoats$Reader" 115 yJm_abs.1 ∈ gb_all := gb_t4 (List.mem_of_getElem? (i := 91) rfl) rfl
set_option maxRecDepth 20000 in
theorem m_Gb_156 : Cond.methodLink "GravyBoats" 156 yGb_takeText.1 ∈ gb_all := gb_t4 (List.mem_of_getElem? (i := 94) rfl) rfl
set_option maxRecDepth 20000 in
theorem m_Gb_330 : Cond.methodLink "GravyBoats" 330 yLa_copyFrom.1 ∈ gb_all := gb_t4 (List.mem_of_getElem? (i := 98) rfl) rfl
set_option maxRecDepth 20000 in
theorem m_Gb_336 : Cond.methodLink "GravyBoats" 336 yRo_copyFrom.1 ∈ gb_all := gb_t4 (List.mem_of_getElem? (i := 103) rfl) rfl
set_option maxRecDepth 20000 in
theorem m_Ro_35 : Cond.methodLink "GravyBoats$Rows" 35 yJm_min.1 ∈ gb_all := gb_t4 (List.mem_of_getElem? (i := 107) rfl) rfl
set_option maxRecDepth 20000 in
theorem m_Gb_170 : Cond.methodLink "GravyBoats" 170 yLa_tells.1 ∈ gb_all := gb_t4 (List.mem_of_getElem? (i := 118) rfl) rfl
set_option maxRecDepth 20000 in
theorem m_Gb_182 : Cond.methodLink "GravyBoats" 182 yTa_ofGot.1 ∈ gb_all := gb_t4 (List.mem_of_getElem? (i := 127) rfl) rfl
set_option maxRecDepth 20000 in
theorem m_Gb_194 : Cond.methodLink "GravyBoats" 194 yRo_cell.1 ∈ gb_all := gb_t4 (List.mem_of_getElem? (i := 135) rfl) rfl
set_option maxRecDepth 20000 in
theorem m_Gb_197 : Cond.methodLink "GravyBoats" 197 yTa_copyFrom.1 ∈ gb_all := gb_t4 (List.mem_of_getElem? (i := 140) rfl) rfl
set_option maxRecDepth 20000 in
theorem m_Gb_201 : Cond.methodLink "GravyBoats" 201 yTa_sumOf.1 ∈ gb_all := gb_t4 (List.mem_of_getElem? (i := 141) rfl) rfl
set_option maxRecDepth 20000 in
theorem m_Ta_69 : Cond.methodLink "GravyBoats$Table" 69 yTa_ofSeat.1 ∈ gb_all := gb_t4 (List.mem_of_getElem? (i := 145) rfl) rfl
set_option maxRecDepth 20000 in
theorem m_Gb_204 : Cond.methodLink "GravyBoats" 204 yCo_broughtBy.1 ∈ gb_all := gb_t4 (List.mem_of_getElem? (i := 150) rfl) rfl
set_option maxRecDepth 20000 in
theorem m_Gb_207 : Cond.methodLink "GravyBoats" 207 ySe_shortest.1 ∈ gb_all := gb_t4 (List.mem_of_getElem? (i := 158) rfl) rfl
set_option maxRecDepth 20000 in
theorem m_Se_38 : Cond.methodLinkNest "GravyBoats$Seating" 38 yGb_within.1 "GravyBoats" ∈ gb_all := gb_t4 (List.mem_of_getElem? (i := 162) rfl) rfl
set_option maxRecDepth 20000 in
theorem m_Se_42 : Cond.methodLink "GravyBoats$Seating" 42 ySe_nextEdge.1 ∈ gb_all := gb_t4 (List.mem_of_getElem? (i := 163) rfl) rfl
set_option maxRecDepth 20000 in
theorem m_Se_45 : Cond.methodLink "GravyBoats$Seating" 45 ySe_reachedFrom.1 ∈ gb_all := gb_t4 (List.mem_of_getElem? (i := 167) rfl) rfl
set_option maxRecDepth 20000 in
theorem m_Se_53 : Cond.methodLink "GravyBoats$Seating" 53 yTa_ofSeat.1 ∈ gb_all := gb_t4 (List.mem_of_getElem? (i := 168) rfl) rfl
set_option maxRecDepth 20000 in
theorem m_Gb_217 : Cond.methodLink "GravyBoats" 217 yGb_tell.1 ∈ gb_all := gb_t4 (List.mem_of_getElem? (i := 173) rfl) rfl
set_option maxRecDepth 20000 in
theorem m_Gb_339 : Cond.methodLink "GravyBoats" 339 yRo_add.1 ∈ gb_all := gb_t4 (List.mem_of_getElem? (i := 176) rfl) rfl
set_option maxRecDepth 20000 in
theorem m_Gb_221 : Cond.methodLink "GravyBoats" 221 yRe_inBoth.1 ∈ gb_all := gb_t4 (List.mem_of_getElem? (i := 181) rfl) rfl
set_option maxRecDepth 20000 in
theorem m_Re_27 : Cond.methodLink "GravyBoats$Reckoning" 27 yRe_gridAt.1 ∈ gb_all := gb_t4 (List.mem_of_getElem? (i := 185) rfl) rfl
set_option maxRecDepth 20000 in
theorem m_Re_46 : Cond.methodLinkNest "GravyBoats$Reckoning" 46 yGb_within.1 "GravyBoats" ∈ gb_all := gb_t4 (List.mem_of_getElem? (i := 189) rfl) rfl
set_option maxRecDepth 20000 in
theorem m_Re_31 : Cond.methodLink "GravyBoats$Reckoning" 31 yJm_max.1 ∈ gb_all := gb_t4 (List.mem_of_getElem? (i := 190) rfl) rfl
set_option maxRecDepth 20000 in
theorem m_Re_36 : Cond.methodLink "GravyBoats$Reckoning" 36 yRo_cell.1 ∈ gb_all := gb_t4 (List.mem_of_getElem? (i := 191) rfl) rfl
set_option maxRecDepth 20000 in
theorem m_Re_39 : Cond.methodLink "GravyBoats$Reckoning" 39 yRe_putGrid.1 ∈ gb_all := gb_t4 (List.mem_of_getElem? (i := 192) rfl) rfl
set_option maxRecDepth 20000 in
theorem m_Gb_225 : Cond.methodLink "GravyBoats" 225 yRe_changesBetween.1 ∈ gb_all := gb_t4 (List.mem_of_getElem? (i := 196) rfl) rfl
set_option maxRecDepth 20000 in
theorem m_Re_43 : Cond.methodLink "GravyBoats$Reckoning" 43 yJm_min.1 ∈ gb_all := gb_t4 (List.mem_of_getElem? (i := 200) rfl) rfl
set_option maxRecDepth 20000 in
theorem m_Gb_228 : Cond.methodLink "GravyBoats" 228 ySe_moreCandles.1 ∈ gb_all := gb_t4 (List.mem_of_getElem? (i := 205) rfl) rfl
set_option maxRecDepth 20000 in
theorem m_Gb_231 : Cond.methodLink "GravyBoats" 231 yJi_bitCount.1 ∈ gb_all := gb_t4 (List.mem_of_getElem? (i := 209) rfl) rfl
set_option maxRecDepth 20000 in
theorem m_Gb_236 : Cond.methodLink "GravyBoats" 236 ySe_stainsJoined.1 ∈ gb_all := gb_t4 (List.mem_of_getElem? (i := 219) rfl) rfl
set_option maxRecDepth 20000 in
theorem m_Gb_242 : Cond.methodLink "GravyBoats" 242 yRo_hasFirst.1 ∈ gb_all := gb_t4 (List.mem_of_getElem? (i := 227) rfl) rfl
set_option maxRecDepth 20000 in
theorem m_Ro_32 : Cond.methodLink "GravyBoats$Rows" 32 yRo_cell.1 ∈ gb_all := gb_t4 (List.mem_of_getElem? (i := 231) rfl) rfl
set_option maxRecDepth 20000 in
theorem m_Gb_246 : Cond.methodLink "GravyBoats" 246 yRe_meetings.1 ∈ gb_all := gb_t4 (List.mem_of_getElem? (i := 236) rfl) rfl
set_option maxRecDepth 20000 in
theorem m_Gb_253 : Cond.methodLink "GravyBoats" 253 yRe_nearestFlag.1 ∈ gb_all := gb_t5 (List.mem_of_getElem? (i := 8) rfl) rfl
set_option maxRecDepth 20000 in
theorem m_Re_50 : Cond.methodLink "GravyBoats$Reckoning" 50 yJi_bitCount.1 ∈ gb_all := gb_t5 (List.mem_of_getElem? (i := 12) rfl) rfl
set_option maxRecDepth 20000 in
theorem m_Gb_257 : Cond.methodLink "GravyBoats" 257 yRe_said.1 ∈ gb_all := gb_t5 (List.mem_of_getElem? (i := 13) rfl) rfl
set_option maxRecDepth 20000 in
theorem m_Gb_260 : Cond.methodLink "GravyBoats" 260 yRe_wrongRows.1 ∈ gb_all := gb_t5 (List.mem_of_getElem? (i := 17) rfl) rfl
set_option maxRecDepth 20000 in
theorem m_Gb_263 : Cond.methodLink "GravyBoats" 263 yRe_lumpings.1 ∈ gb_all := gb_t5 (List.mem_of_getElem? (i := 25) rfl) rfl
set_option maxRecDepth 20000 in
theorem m_Gb_269 : Cond.methodLink "GravyBoats" 269 yRe_firstOnes.1 ∈ gb_all := gb_t5 (List.mem_of_getElem? (i := 38) rfl) rfl
set_option maxRecDepth 20000 in
theorem m_Gb_273 : Cond.methodLink "GravyBoats" 273 yRe_roundGoers.1 ∈ gb_all := gb_t5 (List.mem_of_getElem? (i := 42) rfl) rfl
set_option maxRecDepth 20000 in
theorem m_Gb_279 : Cond.methodLink "GravyBoats" 279 yRe_freeHour.1 ∈ gb_all := gb_t5 (List.mem_of_getElem? (i := 54) rfl) rfl
set_option maxRecDepth 20000 in
theorem m_Re_57 : Cond.methodLink "GravyBoats$Reckoning" 57 yRe_inTheWay.1 ∈ gb_all := gb_t5 (List.mem_of_getElem? (i := 58) rfl) rfl
set_option maxRecDepth 20000 in
theorem m_Gb_282 : Cond.methodLink "GravyBoats" 282 yRe_fewestGivenUp.1 ∈ gb_all := gb_t5 (List.mem_of_getElem? (i := 62) rfl) rfl
set_option maxRecDepth 20000 in
theorem m_Gb_288 : Cond.methodLink "GravyBoats" 288 yRe_believed.1 ∈ gb_all := gb_t5 (List.mem_of_getElem? (i := 74) rfl) rfl
set_option maxRecDepth 20000 in
theorem m_Gb_294 : Cond.methodLink "GravyBoats" 294 yRe_stowing.1 ∈ gb_all := gb_t5 (List.mem_of_getElem? (i := 86) rfl) rfl
set_option maxRecDepth 20000 in
theorem m_Re_61 : Cond.methodLink "GravyBoats$Reckoning" 61 yRe_partFor.1 ∈ gb_all := gb_t5 (List.mem_of_getElem? (i := 90) rfl) rfl
set_option maxRecDepth 20000 in
theorem m_Gb_297 : Cond.methodLink "GravyBoats" 297 ySe_ladling.1 ∈ gb_all := gb_t5 (List.mem_of_getElem? (i := 98) rfl) rfl
set_option maxRecDepth 20000 in
theorem m_Se_63 : Cond.methodLink "GravyBoats$Seating" 63 ySe_nimberOf.1 ∈ gb_all := gb_t5 (List.mem_of_getElem? (i := 102) rfl) rfl
set_option maxRecDepth 20000 in
theorem m_Gb_301 : Cond.methodLink "GravyBoats" 301 yPa_goBack.1 ∈ gb_all := gb_t5 (List.mem_of_getElem? (i := 109) rfl) rfl
set_option maxRecDepth 20000 in
theorem m_Gb_305 : Cond.methodLink "GravyBoats" 305 yWo_copyFrom.1 ∈ gb_all := gb_t5 (List.mem_of_getElem? (i := 117) rfl) rfl
set_option maxRecDepth 20000 in
theorem m_Wo_67 : Cond.methodLink "GravyBoats$World" 67 yTa_copyFrom.1 ∈ gb_all := gb_t5 (List.mem_of_getElem? (i := 121) rfl) rfl
set_option maxRecDepth 20000 in
theorem m_Wo_71 : Cond.methodLink "GravyBoats$World" 71 yLa_copyFrom.1 ∈ gb_all := gb_t5 (List.mem_of_getElem? (i := 122) rfl) rfl
set_option maxRecDepth 20000 in
theorem m_Wo_74 : Cond.methodLink "GravyBoats$World" 74 yRo_copyFrom.1 ∈ gb_all := gb_t5 (List.mem_of_getElem? (i := 123) rfl) rfl
set_option maxRecDepth 20000 in
theorem m_Mo_157 : Cond.methodLink "GravyBoatsModel" 157 yMo_isIn.1 ∈ gb_all := gb_t6 (List.mem_of_getElem? (i := 120) rfl) rfl
set_option maxRecDepth 20000 in
theorem m_Mo_161 : Cond.methodLink "GravyBoatsModel" 161 yMo_isSeat.1 ∈ gb_all := gb_t6 (List.mem_of_getElem? (i := 124) rfl) rfl
set_option maxRecDepth 20000 in
theorem m_Mo_153 : Cond.methodLink "GravyBoatsModel" 153 yMo_shoreOf.1 ∈ gb_all := gb_t6 (List.mem_of_getElem? (i := 128) rfl) rfl
set_option maxRecDepth 20000 in
theorem m_Mo_168 : Cond.methodLink "GravyBoatsModel" 168 yMo_canSet.1 ∈ gb_all := gb_t6 (List.mem_of_getElem? (i := 136) rfl) rfl
set_option maxRecDepth 20000 in
theorem m_Mo_165 : Cond.methodLink "GravyBoatsModel" 165 yMo_isBoat.1 ∈ gb_all := gb_t6 (List.mem_of_getElem? (i := 140) rfl) rfl
set_option maxRecDepth 20000 in
theorem m_Mo_174 : Cond.methodLink "GravyBoatsModel" 174 yMo_types.1 ∈ gb_all := gb_t6 (List.mem_of_getElem? (i := 148) rfl) rfl
set_option maxRecDepth 20000 in
theorem m_Mo_315 : Cond.methodLink "GravyBoatsModel" 315 yMo_readsText.1 ∈ gb_all := gb_t6 (List.mem_of_getElem? (i := 160) rfl) rfl
set_option maxRecDepth 20000 in
theorem m_Mo_225 : Cond.methodLink "GravyBoatsModel" 225 yMo_reads.1 ∈ gb_all := gb_t6 (List.mem_of_getElem? (i := 164) rfl) rfl
set_option maxRecDepth 20000 in
theorem m_Mo_181 : Cond.methodLink "GravyBoatsModel" 181 yMo_raw.1 ∈ gb_all := gb_t6 (List.mem_of_getElem? (i := 168) rfl) rfl
set_option maxRecDepth 20000 in
theorem m_Mo_193 : Cond.methodLink "GravyBoatsModel" 193 yMo_isLetter.1 ∈ gb_all := gb_t6 (List.mem_of_getElem? (i := 172) rfl) rfl
set_option maxRecDepth 20000 in
theorem m_Mo_196 : Cond.methodLink "GravyBoatsModel" 196 yMo_wordAt.1 ∈ gb_all := gb_t6 (List.mem_of_getElem? (i := 176) rfl) rfl
set_option maxRecDepth 20000 in
theorem m_Mo_200 : Cond.methodLink "GravyBoatsModel" 200 yMo_isDigit.1 ∈ gb_all := gb_t6 (List.mem_of_getElem? (i := 180) rfl) rfl
set_option maxRecDepth 20000 in
theorem m_Mo_203 : Cond.methodLink "GravyBoatsModel" 203 yMo_isMarkSign.1 ∈ gb_all := gb_t6 (List.mem_of_getElem? (i := 184) rfl) rfl
set_option maxRecDepth 20000 in
theorem m_Mo_291 : Cond.methodLink "GravyBoatsModel" 291 yMo_readVoyages.1 ∈ gb_all := gb_t6 (List.mem_of_getElem? (i := 188) rfl) rfl
set_option maxRecDepth 20000 in
theorem m_Mo_247 : Cond.methodLink "GravyBoatsModel" 247 yMo_isWord.1 ∈ gb_all := gb_t6 (List.mem_of_getElem? (i := 192) rfl) rfl
set_option maxRecDepth 20000 in
theorem m_Mo_218 : Cond.methodLink "GravyBoatsModel" 218 yMo_errs.1 ∈ gb_all := gb_t6 (List.mem_of_getElem? (i := 196) rfl) rfl
set_option maxRecDepth 20000 in
theorem m_Mo_272 : Cond.methodLink "GravyBoatsModel" 272 yMo_readTold.1 ∈ gb_all := gb_t6 (List.mem_of_getElem? (i := 200) rfl) rfl
set_option maxRecDepth 20000 in
theorem m_Mo_269 : Cond.methodLink "GravyBoatsModel" 269 yMo_readNumber.1 ∈ gb_all := gb_t6 (List.mem_of_getElem? (i := 204) rfl) rfl
set_option maxRecDepth 20000 in
theorem m_Mo_276 : Cond.methodLink "GravyBoatsModel" 276 yMo_readMark.1 ∈ gb_all := gb_t6 (List.mem_of_getElem? (i := 208) rfl) rfl
set_option maxRecDepth 20000 in
theorem m_Mo_232 : Cond.methodLink "GravyBoatsModel" 232 yMo_isSign.1 ∈ gb_all := gb_t6 (List.mem_of_getElem? (i := 212) rfl) rfl
set_option maxRecDepth 20000 in
theorem m_Mo_294 : Cond.methodLink "GravyBoatsModel" 294 yMo_readDinner.1 ∈ gb_all := gb_t6 (List.mem_of_getElem? (i := 216) rfl) rfl
set_option maxRecDepth 20000 in
theorem m_Mo_285 : Cond.methodLink "GravyBoatsModel" 285 yMo_readDeed.1 ∈ gb_all := gb_t6 (List.mem_of_getElem? (i := 220) rfl) rfl
set_option maxRecDepth 20000 in
theorem m_Mo_279 : Cond.methodLink "GravyBoatsModel" 279 yMo_kindOfDeed.1 ∈ gb_all := gb_t6 (List.mem_of_getElem? (i := 224) rfl) rfl
set_option maxRecDepth 20000 in
theorem m_Mo_282 : Cond.methodLink "GravyBoatsModel" 282 yMo_mostFor.1 ∈ gb_all := gb_t6 (List.mem_of_getElem? (i := 228) rfl) rfl
set_option maxRecDepth 20000 in
theorem m_Mo_297 : Cond.methodLink "GravyBoatsModel" 297 yMo_readReaches.1 ∈ gb_all := gb_t6 (List.mem_of_getElem? (i := 232) rfl) rfl
set_option maxRecDepth 20000 in
theorem m_Mo_288 : Cond.methodLink "GravyBoatsModel" 288 yMo_readReach.1 ∈ gb_all := gb_t6 (List.mem_of_getElem? (i := 236) rfl) rfl
set_option maxRecDepth 20000 in
theorem m_Mo_300 : Cond.methodLink "GravyBoatsModel" 300 yMo_readLaw.1 ∈ gb_all := gb_t7 (List.mem_of_getElem? (i := 0) rfl) rfl
set_option maxRecDepth 20000 in
theorem m_Mo_259 : Cond.methodLink "GravyBoatsModel" 259 yMo_isLineWord.1 ∈ gb_all := gb_t7 (List.mem_of_getElem? (i := 4) rfl) rfl
set_option maxRecDepth 20000 in
theorem m_Mo_238 : Cond.methodLink "GravyBoatsModel" 238 yMo_readSum.1 ∈ gb_all := gb_t7 (List.mem_of_getElem? (i := 8) rfl) rfl
set_option maxRecDepth 20000 in
theorem m_Mo_235 : Cond.methodLink "GravyBoatsModel" 235 yMo_readProduct.1 ∈ gb_all := gb_t7 (List.mem_of_getElem? (i := 12) rfl) rfl
set_option maxRecDepth 20000 in
theorem m_Mo_228 : Cond.methodLink "GravyBoatsModel" 228 yMo_readUnit.1 ∈ gb_all := gb_t7 (List.mem_of_getElem? (i := 16) rfl) rfl
set_option maxRecDepth 20000 in
theorem m_Mo_215 : Cond.methodLink "GravyBoatsModel" 215 yMo_canAsk.1 ∈ gb_all := gb_t7 (List.mem_of_getElem? (i := 20) rfl) rfl
set_option maxRecDepth 20000 in
theorem m_Mo_221 : Cond.methodLink "GravyBoatsModel" 221 yMo_emits.1 ∈ gb_all := gb_t7 (List.mem_of_getElem? (i := 24) rfl) rfl
set_option maxRecDepth 20000 in
theorem m_Mo_263 : Cond.methodLink "GravyBoatsModel" 263 yMo_readAny.1 ∈ gb_all := gb_t7 (List.mem_of_getElem? (i := 28) rfl) rfl
set_option maxRecDepth 20000 in
theorem m_Mo_250 : Cond.methodLink "GravyBoatsModel" 250 yMo_waits.1 ∈ gb_all := gb_t7 (List.mem_of_getElem? (i := 32) rfl) rfl
set_option maxRecDepth 20000 in
theorem m_Mo_253 : Cond.methodLink "GravyBoatsModel" 253 yMo_readCompared.1 ∈ gb_all := gb_t7 (List.mem_of_getElem? (i := 36) rfl) rfl
set_option maxRecDepth 20000 in
theorem m_Mo_256 : Cond.methodLink "GravyBoatsModel" 256 yMo_settles.1 ∈ gb_all := gb_t7 (List.mem_of_getElem? (i := 40) rfl) rfl
set_option maxRecDepth 20000 in
theorem m_Mo_318 : Cond.methodLink "GravyBoatsModel" 318 yMo_takesLaw.1 ∈ gb_all := gb_t7 (List.mem_of_getElem? (i := 44) rfl) rfl
set_option maxRecDepth 20000 in
theorem m_Mo_321 : Cond.methodLink "GravyBoatsModel" 321 yMo_takesOther.1 ∈ gb_all := gb_t7 (List.mem_of_getElem? (i := 48) rfl) rfl
set_option maxRecDepth 20000 in
theorem m_Mo_395 : Cond.methodLink "GravyBoatsModel" 395 yMo_canAct.1 ∈ gb_all := gb_t7 (List.mem_of_getElem? (i := 60) rfl) rfl
set_option maxRecDepth 20000 in
theorem m_Mo_388 : Cond.methodLink "GravyBoatsModel" 388 yMo_reachOf.1 ∈ gb_all := gb_t7 (List.mem_of_getElem? (i := 64) rfl) rfl
set_option maxRecDepth 20000 in
theorem m_Mo_391 : Cond.methodLink "GravyBoatsModel" 391 yMo_has.1 ∈ gb_all := gb_t7 (List.mem_of_getElem? (i := 68) rfl) rfl
set_option maxRecDepth 20000 in
theorem m_Mo_398 : Cond.methodLink "GravyBoatsModel" 398 yMo_keepsAhead.1 ∈ gb_all := gb_t7 (List.mem_of_getElem? (i := 72) rfl) rfl
set_option maxRecDepth 20000 in
theorem m_Mo_354 : Cond.methodLink "GravyBoatsModel" 354 yMo_notes.1 ∈ gb_all := gb_t7 (List.mem_of_getElem? (i := 76) rfl) rfl
set_option maxRecDepth 20000 in
theorem m_Mo_385 : Cond.methodLink "GravyBoatsModel" 385 yMo_lands.1 ∈ gb_all := gb_t7 (List.mem_of_getElem? (i := 80) rfl) rfl
set_option maxRecDepth 20000 in
theorem m_Mo_348 : Cond.methodLink "GravyBoatsModel" 348 yMo_isAshore.1 ∈ gb_all := gb_t7 (List.mem_of_getElem? (i := 84) rfl) rfl
set_option maxRecDepth 20000 in
theorem m_Mo_351 : Cond.methodLink "GravyBoatsModel" 351 yMo_greater.1 ∈ gb_all := gb_t7 (List.mem_of_getElem? (i := 88) rfl) rfl
set_option maxRecDepth 20000 in
theorem m_Mo_401 : Cond.methodLink "GravyBoatsModel" 401 yMo_salts.1 ∈ gb_all := gb_t7 (List.mem_of_getElem? (i := 92) rfl) rfl
set_option maxRecDepth 20000 in
theorem m_Mo_410 : Cond.methodLink "GravyBoatsModel" 410 yMo_goesBy.1 ∈ gb_all := gb_t7 (List.mem_of_getElem? (i := 100) rfl) rfl
set_option maxRecDepth 20000 in
theorem m_Mo_404 : Cond.methodLink "GravyBoatsModel" 404 yMo_does.1 ∈ gb_all := gb_t7 (List.mem_of_getElem? (i := 104) rfl) rfl
set_option maxRecDepth 20000 in
theorem m_Mo_379 : Cond.methodLink "GravyBoatsModel" 379 yMo_isSkinned.1 ∈ gb_all := gb_t7 (List.mem_of_getElem? (i := 108) rfl) rfl
set_option maxRecDepth 20000 in
theorem m_Mo_364 : Cond.methodLink "GravyBoatsModel" 364 yMo_lesser.1 ∈ gb_all := gb_t7 (List.mem_of_getElem? (i := 112) rfl) rfl
set_option maxRecDepth 20000 in
theorem m_Mo_407 : Cond.methodLink "GravyBoatsModel" 407 yMo_goesOn.1 ∈ gb_all := gb_t7 (List.mem_of_getElem? (i := 116) rfl) rfl
set_option maxRecDepth 20000 in
theorem m_Mo_373 : Cond.methodLink "GravyBoatsModel" 373 yMo_pours.1 ∈ gb_all := gb_t7 (List.mem_of_getElem? (i := 120) rfl) rfl
set_option maxRecDepth 20000 in
theorem m_Mo_361 : Cond.methodLink "GravyBoatsModel" 361 yMo_poursOf.1 ∈ gb_all := gb_t7 (List.mem_of_getElem? (i := 124) rfl) rfl
set_option maxRecDepth 20000 in
theorem m_Mo_339 : Cond.methodLink "GravyBoatsModel" 339 yMo_asks.1 ∈ gb_all := gb_t7 (List.mem_of_getElem? (i := 128) rfl) rfl
set_option maxRecDepth 20000 in
theorem m_Mo_330 : Cond.methodLink "GravyBoatsModel" 330 yMo_steady.1 ∈ gb_all := gb_t7 (List.mem_of_getElem? (i := 132) rfl) rfl
set_option maxRecDepth 20000 in
theorem m_Mo_342 : Cond.methodLink "GravyBoatsModel" 342 yMo_lawTells.1 ∈ gb_all := gb_t7 (List.mem_of_getElem? (i := 136) rfl) rfl
set_option maxRecDepth 20000 in
theorem m_Mo_333 : Cond.methodLink "GravyBoatsModel" 333 yMo_lineOf.1 ∈ gb_all := gb_t7 (List.mem_of_getElem? (i := 140) rfl) rfl
set_option maxRecDepth 20000 in
theorem m_Mo_327 : Cond.methodLink "GravyBoatsModel" 327 yMo_runs.1 ∈ gb_all := gb_t7 (List.mem_of_getElem? (i := 144) rfl) rfl
set_option maxRecDepth 20000 in
theorem m_Mo_324 : Cond.methodLink "GravyBoatsModel" 324 yMo_twoOf.1 ∈ gb_all := gb_t7 (List.mem_of_getElem? (i := 148) rfl) rfl
set_option maxRecDepth 20000 in
theorem m_Mo_336 : Cond.methodLink "GravyBoatsModel" 336 yMo_held.1 ∈ gb_all := gb_t7 (List.mem_of_getElem? (i := 152) rfl) rfl
set_option maxRecDepth 20000 in
theorem m_Mo_376 : Cond.methodLink "GravyBoatsModel" 376 yMo_passesOf.1 ∈ gb_all := gb_t7 (List.mem_of_getElem? (i := 156) rfl) rfl
set_option maxRecDepth 20000 in
theorem m_Mo_370 : Cond.methodLink "GravyBoatsModel" 370 yMo_comes.1 ∈ gb_all := gb_t7 (List.mem_of_getElem? (i := 160) rfl) rfl
set_option maxRecDepth 20000 in
theorem m_Mo_345 : Cond.methodLink "GravyBoatsModel" 345 yMo_draw.1 ∈ gb_all := gb_t7 (List.mem_of_getElem? (i := 164) rfl) rfl
set_option maxRecDepth 20000 in
theorem m_Mo_382 : Cond.methodLink "GravyBoatsModel" 382 yMo_mightSpill.1 ∈ gb_all := gb_t7 (List.mem_of_getElem? (i := 170) rfl) rfl
set_option maxRecDepth 20000 in
theorem m_Mo_367 : Cond.methodLink "GravyBoatsModel" 367 yMo_spillsOf.1 ∈ gb_all := gb_t7 (List.mem_of_getElem? (i := 174) rfl) rfl
set_option maxRecDepth 20000 in
theorem m_Mo_413 : Cond.methodLink "GravyBoatsModel" 413 yMo_thinks.1 ∈ gb_all := gb_t7 (List.mem_of_getElem? (i := 198) rfl) rfl
set_option maxRecDepth 20000 in
theorem m_Mo_416 : Cond.methodLink "GravyBoatsModel" 416 yMo_sumOf.1 ∈ gb_all := gb_t7 (List.mem_of_getElem? (i := 202) rfl) rfl
set_option maxRecDepth 20000 in
theorem m_Mo_419 : Cond.methodLink "GravyBoatsModel" 419 yMo_endsThought.1 ∈ gb_all := gb_t7 (List.mem_of_getElem? (i := 206) rfl) rfl
set_option maxRecDepth 20000 in
theorem m_Mo_422 : Cond.methodLink "GravyBoatsModel" 422 yMo_landsIn.1 ∈ gb_all := gb_t7 (List.mem_of_getElem? (i := 214) rfl) rfl
set_option maxRecDepth 20000 in
theorem m_Mo_426 : Cond.methodLink "GravyBoatsModel" 426 yMo_findsHands.1 ∈ gb_all := gb_t7 (List.mem_of_getElem? (i := 222) rfl) rfl
set_option maxRecDepth 20000 in
theorem m_Mo_429 : Cond.methodLink "GravyBoatsModel" 429 yMo_findsBoth.1 ∈ gb_all := gb_t7 (List.mem_of_getElem? (i := 235) rfl) rfl
set_option maxRecDepth 20000 in
theorem m_Mo_435 : Cond.methodLink "GravyBoatsModel" 435 yMo_litBy.1 ∈ gb_all := gb_t8 (List.mem_of_getElem? (i := 3) rfl) rfl
set_option maxRecDepth 20000 in
theorem m_Mo_432 : Cond.methodLink "GravyBoatsModel" 432 yMo_apart.1 ∈ gb_all := gb_t8 (List.mem_of_getElem? (i := 7) rfl) rfl
set_option maxRecDepth 20000 in
theorem m_Mo_438 : Cond.methodLink "GravyBoatsModel" 438 yMo_onesOf.1 ∈ gb_all := gb_t8 (List.mem_of_getElem? (i := 11) rfl) rfl
set_option maxRecDepth 20000 in
theorem m_Mo_447 : Cond.methodLink "GravyBoatsModel" 447 yMo_saidBy.1 ∈ gb_all := gb_t8 (List.mem_of_getElem? (i := 35) rfl) rfl
set_option maxRecDepth 20000 in
theorem m_Mo_450 : Cond.methodLink "GravyBoatsModel" 450 yMo_wrongIn.1 ∈ gb_all := gb_t8 (List.mem_of_getElem? (i := 39) rfl) rfl
set_option maxRecDepth 20000 in
theorem m_Mo_453 : Cond.methodLink "GravyBoatsModel" 453 yMo_added.1 ∈ gb_all := gb_t8 (List.mem_of_getElem? (i := 47) rfl) rfl
set_option maxRecDepth 20000 in
theorem m_Mo_459 : Cond.methodLink "GravyBoatsModel" 459 yMo_givenBy.1 ∈ gb_all := gb_t8 (List.mem_of_getElem? (i := 60) rfl) rfl
set_option maxRecDepth 20000 in
theorem m_Mo_462 : Cond.methodLink "GravyBoatsModel" 462 yMo_comesRound.1 ∈ gb_all := gb_t8 (List.mem_of_getElem? (i := 64) rfl) rfl
set_option maxRecDepth 20000 in
theorem m_Mo_468 : Cond.methodLink "GravyBoatsModel" 468 yMo_spansOver.1 ∈ gb_all := gb_t8 (List.mem_of_getElem? (i := 76) rfl) rfl
set_option maxRecDepth 20000 in
theorem m_Mo_474 : Cond.methodLink "GravyBoatsModel" 474 yMo_sayingOf.1 ∈ gb_all := gb_t8 (List.mem_of_getElem? (i := 88) rfl) rfl
set_option maxRecDepth 20000 in
theorem m_Mo_480 : Cond.methodLink "GravyBoatsModel" 480 yMo_jarsOf.1 ∈ gb_all := gb_t8 (List.mem_of_getElem? (i := 100) rfl) rfl
set_option maxRecDepth 20000 in
theorem m_Mo_484 : Cond.methodLink "GravyBoatsModel" 484 yMo_firstHold.1 ∈ gb_all := gb_t8 (List.mem_of_getElem? (i := 104) rfl) rfl
set_option maxRecDepth 20000 in
theorem m_Mo_487 : Cond.methodLink "GravyBoatsModel" 487 yMo_nimber.1 ∈ gb_all := gb_t8 (List.mem_of_getElem? (i := 112) rfl) rfl
set_option maxRecDepth 20000 in
theorem m_Mo_496 : Cond.methodLink "GravyBoatsModel" 496 yMo_keeps.1 ∈ gb_all := gb_t8 (List.mem_of_getElem? (i := 120) rfl) rfl
set_option maxRecDepth 20000 in
theorem m_Mo_502 : Cond.methodLink "GravyBoatsModel" 502 yMo_keepsMany.1 ∈ gb_all := gb_t8 (List.mem_of_getElem? (i := 124) rfl) rfl
set_option maxRecDepth 20000 in
theorem m_Mo_505 : Cond.methodLink "GravyBoatsModel" 505 yMo_keepsTold.1 ∈ gb_all := gb_t8 (List.mem_of_getElem? (i := 128) rfl) rfl
set_option maxRecDepth 20000 in
theorem m_Mo_508 : Cond.methodLink "GravyBoatsModel" 508 yMo_keepsLaw.1 ∈ gb_all := gb_t8 (List.mem_of_getElem? (i := 132) rfl) rfl
set_option maxRecDepth 20000 in
theorem k_Ta_46 : Cond.constant "GravyBoats$Table" 46 (1664525 : Int32) ∈ gb_all := gb_t3 (List.mem_of_getElem? (i := 89) rfl) rfl
set_option maxRecDepth 20000 in
theorem k_Ta_47 : Cond.constant "GravyBoats$Table" 47 (1013904223 : Int32) ∈ gb_all := gb_t3 (List.mem_of_getElem? (i := 90) rfl) rfl
set_option maxRecDepth 20000 in
theorem k_Ji_265 : Cond.constant "java/lang/Integer" 265 (1431655765 : Int32) ∈ gb_all := gb_t4 (List.mem_of_getElem? (i := 212) rfl) rfl
set_option maxRecDepth 20000 in
theorem k_Ji_266 : Cond.constant "java/lang/Integer" 266 (858993459 : Int32) ∈ gb_all := gb_t4 (List.mem_of_getElem? (i := 213) rfl) rfl
set_option maxRecDepth 20000 in
theorem k_Ji_267 : Cond.constant "java/lang/Integer" 267 (252645135 : Int32) ∈ gb_all := gb_t4 (List.mem_of_getElem? (i := 214) rfl) rfl
set_option maxRecDepth 20000 in
theorem k_Re_56 : Cond.constant "GravyBoats$Reckoning" 56 (1000000007 : Int32) ∈ gb_all := gb_t5 (List.mem_of_getElem? (i := 29) rfl) rfl
set_option maxRecDepth 20000 in
theorem k_Mo_148 : Cond.constant "GravyBoatsModel" 148 (1664525 : Int32) ∈ gb_all := gb_t7 (List.mem_of_getElem? (i := 168) rfl) rfl
set_option maxRecDepth 20000 in
theorem k_Mo_149 : Cond.constant "GravyBoatsModel" 149 (1013904223 : Int32) ∈ gb_all := gb_t7 (List.mem_of_getElem? (i := 169) rfl) rfl
set_option maxRecDepth 20000 in
theorem k_Mo_425 : Cond.constant "GravyBoatsModel" 425 (100000000 : Int32) ∈ gb_all := gb_t7 (List.mem_of_getElem? (i := 226) rfl) rfl
set_option maxRecDepth 20000 in
theorem k_Mo_140 : Cond.constant "GravyBoatsModel" 140 (1000000007 : Int32) ∈ gb_all := gb_t8 (List.mem_of_getElem? (i := 51) rfl) rfl
set_option maxRecDepth 20000 in
theorem n_Gb : Cond.initialized "GravyBoats" ∈ gb_all := gb_t1 (List.mem_of_getElem? (i := 1) rfl) rfl
set_option maxRecDepth 20000 in
theorem n_Wo : Cond.initialized "GravyBoats$World" ∈ gb_all := gb_t1 (List.mem_of_getElem? (i := 2) rfl) rfl
set_option maxRecDepth 20000 in
theorem n_Ta : Cond.initialized "GravyBoats$Table" ∈ gb_all := gb_t1 (List.mem_of_getElem? (i := 3) rfl) rfl
set_option maxRecDepth 20000 in
theorem n_La : Cond.initialized "GravyBoats$Law" ∈ gb_all := gb_t1 (List.mem_of_getElem? (i := 4) rfl) rfl
set_option maxRecDepth 20000 in
theorem n_Ro : Cond.initialized "GravyBoats$Rows" ∈ gb_all := gb_t1 (List.mem_of_getElem? (i := 5) rfl) rfl
set_option maxRecDepth 20000 in
theorem n_Pa : Cond.initialized "GravyBoats$Past" ∈ gb_all := gb_t1 (List.mem_of_getElem? (i := 7) rfl) rfl
set_option maxRecDepth 20000 in
theorem n_Co : Cond.initialized "GravyBoats$Course" ∈ gb_all := gb_t1 (List.mem_of_getElem? (i := 8) rfl) rfl
set_option maxRecDepth 20000 in
theorem n_Se : Cond.initialized "GravyBoats$Seating" ∈ gb_all := gb_t1 (List.mem_of_getElem? (i := 9) rfl) rfl
set_option maxRecDepth 20000 in
theorem n_Re : Cond.initialized "GravyBoats$Reckoning" ∈ gb_all := gb_t1 (List.mem_of_getElem? (i := 10) rfl) rfl
set_option maxRecDepth 20000 in
theorem n_Rd : Cond.initialized "GravyBoats$Reader" ∈ gb_all := gb_t1 (List.mem_of_getElem? (i := 11) rfl) rfl
set_option maxRecDepth 20000 in
theorem n_Mo : Cond.initialized "GravyBoatsModel" ∈ gb_all := gb_t1 (List.mem_of_getElem? (i := 12) rfl) rfl
set_option maxRecDepth 20000 in
theorem n_Jm : Cond.initialized "java/lang/Math" ∈ gb_all := gb_t1 (List.mem_of_getElem? (i := 6) rfl) rfl
set_option maxRecDepth 20000 in
theorem n_Ji : Cond.initialized "java/lang/Integer" ∈ gb_all := gb_t1 (List.mem_of_getElem? (i := 19) rfl) rfl
set_option maxRecDepth 20000 in
theorem n_Js : Cond.initialized "java/lang/String" ∈ gb_all := gb_t1 (List.mem_of_getElem? (i := 14) rfl) rfl
set_option maxRecDepth 20000 in
theorem n_Jl : Cond.initialized "java/lang/StringLatin1" ∈ gb_all := gb_t1 (List.mem_of_getElem? (i := 15) rfl) rfl
set_option maxRecDepth 20000 in
theorem n_Jp : Cond.initialized "jdk/internal/util/Preconditions" ∈ gb_all := gb_t1 (List.mem_of_getElem? (i := 16) rfl) rfl
set_option maxRecDepth 20000 in
theorem s_yGb_init : gb_Mc yGb_init 0 := ⟨⟨⟨by decide +kernel, by decide +kernel⟩, by decide +kernel, by decide +kernel⟩, gb_t1 (List.mem_of_getElem? (i := 24) rfl) rfl, n_Gb, gb_t1 (List.mem_of_getElem? (i := 23) rfl) rfl, rfl, rfl⟩
set_option maxRecDepth 20000 in
theorem s_yWo_init : gb_Mc yWo_init 0 := ⟨⟨⟨by decide +kernel, by decide +kernel⟩, by decide +kernel, by decide +kernel⟩, gb_t1 (List.mem_of_getElem? (i := 32) rfl) rfl, n_Wo, gb_t1 (List.mem_of_getElem? (i := 31) rfl) rfl, rfl, rfl⟩
set_option maxRecDepth 20000 in
theorem s_yTa_init : gb_Mc yTa_init 0 := ⟨⟨⟨by decide +kernel, by decide +kernel⟩, by decide +kernel, by decide +kernel⟩, gb_t1 (List.mem_of_getElem? (i := 38) rfl) rfl, n_Ta, gb_t1 (List.mem_of_getElem? (i := 37) rfl) rfl, rfl, rfl⟩
set_option maxRecDepth 20000 in
theorem s_yLa_init : gb_Mc yLa_init 0 := ⟨⟨⟨by decide +kernel, by decide +kernel⟩, by decide +kernel, by decide +kernel⟩, gb_t1 (List.mem_of_getElem? (i := 86) rfl) rfl, n_La, gb_t1 (List.mem_of_getElem? (i := 85) rfl) rfl, rfl, rfl⟩
set_option maxRecDepth 20000 in
theorem s_yRo_init : gb_Mc yRo_init 1 := ⟨⟨⟨by decide +kernel, by decide +kernel⟩, by decide +kernel, by decide +kernel⟩, gb_t1 (List.mem_of_getElem? (i := 116) rfl) rfl, n_Ro, gb_t1 (List.mem_of_getElem? (i := 115) rfl) rfl, rfl, rfl⟩
set_option maxRecDepth 20000 in
theorem s_yJm_max : gb_Ms yJm_max 2 := ⟨⟨⟨by decide +kernel, by decide +kernel⟩, by decide +kernel, by decide +kernel⟩, gb_t1 (List.mem_of_getElem? (i := 120) rfl) rfl, n_Jm, gb_t1 (List.mem_of_getElem? (i := 119) rfl) rfl⟩
set_option maxRecDepth 20000 in
theorem s_yPa_init : gb_Mc yPa_init 0 := ⟨⟨⟨by decide +kernel, by decide +kernel⟩, by decide +kernel, by decide +kernel⟩, gb_t1 (List.mem_of_getElem? (i := 206) rfl) rfl, n_Pa, gb_t1 (List.mem_of_getElem? (i := 205) rfl) rfl, rfl, rfl⟩
set_option maxRecDepth 20000 in
theorem s_yCo_init : gb_Mc yCo_init 3 := ⟨⟨⟨by decide +kernel, by decide +kernel⟩, by decide +kernel, by decide +kernel⟩, gb_t1 (List.mem_of_getElem? (i := 231) rfl) rfl, n_Co, gb_t1 (List.mem_of_getElem? (i := 230) rfl) rfl, rfl, rfl⟩
set_option maxRecDepth 20000 in
theorem s_ySe_init : gb_Mc ySe_init 1 := ⟨⟨⟨by decide +kernel, by decide +kernel⟩, by decide +kernel, by decide +kernel⟩, gb_t2 (List.mem_of_getElem? (i := 10) rfl) rfl, n_Se, gb_t2 (List.mem_of_getElem? (i := 9) rfl) rfl, rfl, rfl⟩
set_option maxRecDepth 20000 in
theorem s_yRe_init : gb_Mc yRe_init 0 := ⟨⟨⟨by decide +kernel, by decide +kernel⟩, by decide +kernel, by decide +kernel⟩, gb_t2 (List.mem_of_getElem? (i := 23) rfl) rfl, n_Re, gb_t2 (List.mem_of_getElem? (i := 22) rfl) rfl, rfl, rfl⟩
set_option maxRecDepth 20000 in
theorem s_yRd_init : gb_Mc yRd_init 1 := ⟨⟨⟨by decide +kernel, by decide +kernel⟩, by decide +kernel, by decide +kernel⟩, gb_t2 (List.mem_of_getElem? (i := 39) rfl) rfl, n_Rd, gb_t2 (List.mem_of_getElem? (i := 38) rfl) rfl, rfl, rfl⟩
set_option maxRecDepth 20000 in
theorem s_yGb_state : gb_Mi yGb_state 1 := ⟨⟨⟨by decide +kernel, by decide +kernel⟩, by decide +kernel, by decide +kernel⟩, gb_t2 (List.mem_of_getElem? (i := 123) rfl) rfl, n_Gb, gb_t2 (List.mem_of_getElem? (i := 121) rfl) rfl, gb_t2 (List.mem_of_getElem? (i := 122) rfl) rfl⟩
set_option maxRecDepth 20000 in
theorem s_yPa_forget : gb_Mi yPa_forget 0 := ⟨⟨⟨by decide +kernel, by decide +kernel⟩, by decide +kernel, by decide +kernel⟩, gb_t2 (List.mem_of_getElem? (i := 127) rfl) rfl, n_Pa, gb_t2 (List.mem_of_getElem? (i := 125) rfl) rfl, gb_t2 (List.mem_of_getElem? (i := 126) rfl) rfl⟩
set_option maxRecDepth 20000 in
theorem s_yGb_boat : gb_Mi yGb_boat 4 := ⟨⟨⟨by decide +kernel, by decide +kernel⟩, by decide +kernel, by decide +kernel⟩, gb_t2 (List.mem_of_getElem? (i := 131) rfl) rfl, n_Gb, gb_t2 (List.mem_of_getElem? (i := 129) rfl) rfl, gb_t2 (List.mem_of_getElem? (i := 130) rfl) rfl⟩
set_option maxRecDepth 20000 in
theorem s_yGb_within : gb_Ms yGb_within 3 := ⟨⟨⟨by decide +kernel, by decide +kernel⟩, by decide +kernel, by decide +kernel⟩, gb_t2 (List.mem_of_getElem? (i := 134) rfl) rfl, n_Gb, gb_t2 (List.mem_of_getElem? (i := 133) rfl) rfl⟩
set_option maxRecDepth 20000 in
theorem s_yGb_shoreOf : gb_Ms yGb_shoreOf 1 := ⟨⟨⟨by decide +kernel, by decide +kernel⟩, by decide +kernel, by decide +kernel⟩, gb_t2 (List.mem_of_getElem? (i := 139) rfl) rfl, n_Gb, gb_t2 (List.mem_of_getElem? (i := 138) rfl) rfl⟩
set_option maxRecDepth 20000 in
theorem s_yTa_putBoat : gb_Mi yTa_putBoat 3 := ⟨⟨⟨by decide +kernel, by decide +kernel⟩, by decide +kernel, by decide +kernel⟩, gb_t2 (List.mem_of_getElem? (i := 143) rfl) rfl, n_Ta, gb_t2 (List.mem_of_getElem? (i := 141) rfl) rfl, gb_t2 (List.mem_of_getElem? (i := 142) rfl) rfl⟩
set_option maxRecDepth 20000 in
theorem s_yGb_set : gb_Mi yGb_set 3 := ⟨⟨⟨by decide +kernel, by decide +kernel⟩, by decide +kernel, by decide +kernel⟩, gb_t2 (List.mem_of_getElem? (i := 148) rfl) rfl, n_Gb, gb_t2 (List.mem_of_getElem? (i := 146) rfl) rfl, gb_t2 (List.mem_of_getElem? (i := 147) rfl) rfl⟩
set_option maxRecDepth 20000 in
theorem s_yGb_canSet : gb_Mi yGb_canSet 3 := ⟨⟨⟨by decide +kernel, by decide +kernel⟩, by decide +kernel, by decide +kernel⟩, gb_t2 (List.mem_of_getElem? (i := 152) rfl) rfl, n_Gb, gb_t2 (List.mem_of_getElem? (i := 151) rfl) rfl, gb_t0 (List.mem_of_getElem? (i := 0) rfl) rfl⟩
set_option maxRecDepth 20000 in
theorem s_yTa_putSeat : gb_Mi yTa_putSeat 3 := ⟨⟨⟨by decide +kernel, by decide +kernel⟩, by decide +kernel, by decide +kernel⟩, gb_t2 (List.mem_of_getElem? (i := 156) rfl) rfl, n_Ta, gb_t2 (List.mem_of_getElem? (i := 154) rfl) rfl, gb_t2 (List.mem_of_getElem? (i := 155) rfl) rfl⟩
set_option maxRecDepth 20000 in
theorem s_yGb_act : gb_Mi yGb_act 3 := ⟨⟨⟨by decide +kernel, by decide +kernel⟩, by decide +kernel, by decide +kernel⟩, gb_t2 (List.mem_of_getElem? (i := 160) rfl) rfl, n_Gb, gb_t2 (List.mem_of_getElem? (i := 158) rfl) rfl, gb_t2 (List.mem_of_getElem? (i := 159) rfl) rfl⟩
set_option maxRecDepth 20000 in
theorem s_yGb_canAct : gb_Mi yGb_canAct 3 := ⟨⟨⟨by decide +kernel, by decide +kernel⟩, by decide +kernel, by decide +kernel⟩, gb_t2 (List.mem_of_getElem? (i := 164) rfl) rfl, n_Gb, gb_t2 (List.mem_of_getElem? (i := 163) rfl) rfl, gb_t0 (List.mem_of_getElem? (i := 1) rfl) rfl⟩
set_option maxRecDepth 20000 in
theorem s_yTa_ofSeat : gb_Mi yTa_ofSeat 2 := ⟨⟨⟨by decide +kernel, by decide +kernel⟩, by decide +kernel, by decide +kernel⟩, gb_t2 (List.mem_of_getElem? (i := 168) rfl) rfl, n_Ta, gb_t2 (List.mem_of_getElem? (i := 166) rfl) rfl, gb_t2 (List.mem_of_getElem? (i := 167) rfl) rfl⟩
set_option maxRecDepth 20000 in
theorem s_yTa_ofBoat : gb_Mi yTa_ofBoat 2 := ⟨⟨⟨by decide +kernel, by decide +kernel⟩, by decide +kernel, by decide +kernel⟩, gb_t2 (List.mem_of_getElem? (i := 172) rfl) rfl, n_Ta, gb_t2 (List.mem_of_getElem? (i := 170) rfl) rfl, gb_t2 (List.mem_of_getElem? (i := 171) rfl) rfl⟩
set_option maxRecDepth 20000 in
theorem s_ySe_reachedFrom : gb_Mi ySe_reachedFrom 1 := ⟨⟨⟨by decide +kernel, by decide +kernel⟩, by decide +kernel, by decide +kernel⟩, gb_t2 (List.mem_of_getElem? (i := 176) rfl) rfl, n_Se, gb_t2 (List.mem_of_getElem? (i := 174) rfl) rfl, gb_t2 (List.mem_of_getElem? (i := 175) rfl) rfl⟩
set_option maxRecDepth 20000 in
theorem s_ySe_around : gb_Ms ySe_around 2 := ⟨⟨⟨by decide +kernel, by decide +kernel⟩, by decide +kernel, by decide +kernel⟩, gb_t2 (List.mem_of_getElem? (i := 179) rfl) rfl, n_Se, gb_t2 (List.mem_of_getElem? (i := 178) rfl) rfl⟩
set_option maxRecDepth 20000 in
theorem s_yRo_cell : gb_Mi yRo_cell 2 := ⟨⟨⟨by decide +kernel, by decide +kernel⟩, by decide +kernel, by decide +kernel⟩, gb_t2 (List.mem_of_getElem? (i := 184) rfl) rfl, n_Ro, gb_t2 (List.mem_of_getElem? (i := 182) rfl) rfl, gb_t2 (List.mem_of_getElem? (i := 183) rfl) rfl⟩
set_option maxRecDepth 20000 in
theorem s_yPa_keep : gb_Mi yPa_keep 1 := ⟨⟨⟨by decide +kernel, by decide +kernel⟩, by decide +kernel, by decide +kernel⟩, gb_t2 (List.mem_of_getElem? (i := 189) rfl) rfl, n_Pa, gb_t2 (List.mem_of_getElem? (i := 187) rfl) rfl, gb_t2 (List.mem_of_getElem? (i := 188) rfl) rfl⟩
set_option maxRecDepth 20000 in
theorem s_yTa_copyFrom : gb_Mi yTa_copyFrom 1 := ⟨⟨⟨by decide +kernel, by decide +kernel⟩, by decide +kernel, by decide +kernel⟩, gb_t2 (List.mem_of_getElem? (i := 194) rfl) rfl, n_Ta, gb_t2 (List.mem_of_getElem? (i := 192) rfl) rfl, gb_t2 (List.mem_of_getElem? (i := 193) rfl) rfl⟩
set_option maxRecDepth 20000 in
theorem s_yJm_min : gb_Ms yJm_min 2 := ⟨⟨⟨by decide +kernel, by decide +kernel⟩, by decide +kernel, by decide +kernel⟩, gb_t2 (List.mem_of_getElem? (i := 200) rfl) rfl, n_Jm, gb_t2 (List.mem_of_getElem? (i := 199) rfl) rfl⟩
set_option maxRecDepth 20000 in
theorem s_yCo_passByHand : gb_Mi yCo_passByHand 2 := ⟨⟨⟨by decide +kernel, by decide +kernel⟩, by decide +kernel, by decide +kernel⟩, gb_t2 (List.mem_of_getElem? (i := 204) rfl) rfl, n_Co, gb_t2 (List.mem_of_getElem? (i := 202) rfl) rfl, gb_t2 (List.mem_of_getElem? (i := 203) rfl) rfl⟩
set_option maxRecDepth 20000 in
theorem s_yCo_write : gb_Mi yCo_write 3 := ⟨⟨⟨by decide +kernel, by decide +kernel⟩, by decide +kernel, by decide +kernel⟩, gb_t2 (List.mem_of_getElem? (i := 209) rfl) rfl, n_Co, gb_t2 (List.mem_of_getElem? (i := 208) rfl) rfl, gb_t0 (List.mem_of_getElem? (i := 2) rfl) rfl⟩
set_option maxRecDepth 20000 in
theorem s_yRo_add : gb_Mi yRo_add 4 := ⟨⟨⟨by decide +kernel, by decide +kernel⟩, by decide +kernel, by decide +kernel⟩, gb_t2 (List.mem_of_getElem? (i := 213) rfl) rfl, n_Ro, gb_t2 (List.mem_of_getElem? (i := 211) rfl) rfl, gb_t2 (List.mem_of_getElem? (i := 212) rfl) rfl⟩
set_option maxRecDepth 20000 in
theorem s_yTa_isAtItsShore : gb_Mi yTa_isAtItsShore 1 := ⟨⟨⟨by decide +kernel, by decide +kernel⟩, by decide +kernel, by decide +kernel⟩, gb_t2 (List.mem_of_getElem? (i := 217) rfl) rfl, n_Ta, gb_t2 (List.mem_of_getElem? (i := 215) rfl) rfl, gb_t2 (List.mem_of_getElem? (i := 216) rfl) rfl⟩
set_option maxRecDepth 20000 in
theorem s_yCo_land : gb_Mi yCo_land 1 := ⟨⟨⟨by decide +kernel, by decide +kernel⟩, by decide +kernel, by decide +kernel⟩, gb_t2 (List.mem_of_getElem? (i := 223) rfl) rfl, n_Co, gb_t2 (List.mem_of_getElem? (i := 222) rfl) rfl, gb_t0 (List.mem_of_getElem? (i := 3) rfl) rfl⟩
set_option maxRecDepth 20000 in
theorem s_yTa_addGot : gb_Mi yTa_addGot 3 := ⟨⟨⟨by decide +kernel, by decide +kernel⟩, by decide +kernel, by decide +kernel⟩, gb_t2 (List.mem_of_getElem? (i := 229) rfl) rfl, n_Ta, gb_t2 (List.mem_of_getElem? (i := 227) rfl) rfl, gb_t2 (List.mem_of_getElem? (i := 228) rfl) rfl⟩
set_option maxRecDepth 20000 in
theorem s_yCo_setOutAgain : gb_Mi yCo_setOutAgain 1 := ⟨⟨⟨by decide +kernel, by decide +kernel⟩, by decide +kernel, by decide +kernel⟩, gb_t2 (List.mem_of_getElem? (i := 234) rfl) rfl, n_Co, gb_t2 (List.mem_of_getElem? (i := 233) rfl) rfl, gb_t0 (List.mem_of_getElem? (i := 4) rfl) rfl⟩
set_option maxRecDepth 20000 in
theorem s_yTa_turn : gb_Mi yTa_turn 1 := ⟨⟨⟨by decide +kernel, by decide +kernel⟩, by decide +kernel, by decide +kernel⟩, gb_t2 (List.mem_of_getElem? (i := 239) rfl) rfl, n_Ta, gb_t2 (List.mem_of_getElem? (i := 237) rfl) rfl, gb_t2 (List.mem_of_getElem? (i := 238) rfl) rfl⟩
set_option maxRecDepth 20000 in
theorem s_yCo_pourByHand : gb_Mi yCo_pourByHand 2 := ⟨⟨⟨by decide +kernel, by decide +kernel⟩, by decide +kernel, by decide +kernel⟩, gb_t3 (List.mem_of_getElem? (i := 4) rfl) rfl, n_Co, gb_t3 (List.mem_of_getElem? (i := 2) rfl) rfl, gb_t3 (List.mem_of_getElem? (i := 3) rfl) rfl⟩
set_option maxRecDepth 20000 in
theorem s_yCo_salt : gb_Mi yCo_salt 1 := ⟨⟨⟨by decide +kernel, by decide +kernel⟩, by decide +kernel, by decide +kernel⟩, gb_t3 (List.mem_of_getElem? (i := 8) rfl) rfl, n_Co, gb_t3 (List.mem_of_getElem? (i := 6) rfl) rfl, gb_t3 (List.mem_of_getElem? (i := 7) rfl) rfl⟩
set_option maxRecDepth 20000 in
theorem s_yGb_minutes : gb_Mi yGb_minutes 1 := ⟨⟨⟨by decide +kernel, by decide +kernel⟩, by decide +kernel, by decide +kernel⟩, gb_t3 (List.mem_of_getElem? (i := 14) rfl) rfl, n_Gb, gb_t3 (List.mem_of_getElem? (i := 12) rfl) rfl, gb_t3 (List.mem_of_getElem? (i := 13) rfl) rfl⟩
set_option maxRecDepth 20000 in
theorem s_yCo_goByOne : gb_Mi yCo_goByOne 0 := ⟨⟨⟨by decide +kernel, by decide +kernel⟩, by decide +kernel, by decide +kernel⟩, gb_t3 (List.mem_of_getElem? (i := 18) rfl) rfl, n_Co, gb_t3 (List.mem_of_getElem? (i := 16) rfl) rfl, gb_t3 (List.mem_of_getElem? (i := 17) rfl) rfl⟩
set_option maxRecDepth 20000 in
theorem s_yCo_serve : gb_Mi yCo_serve 0 := ⟨⟨⟨by decide +kernel, by decide +kernel⟩, by decide +kernel, by decide +kernel⟩, gb_t3 (List.mem_of_getElem? (i := 22) rfl) rfl, n_Co, gb_t3 (List.mem_of_getElem? (i := 21) rfl) rfl, gb_t0 (List.mem_of_getElem? (i := 5) rfl) rfl⟩
set_option maxRecDepth 20000 in
theorem s_yCo_serveLine : gb_Mi yCo_serveLine 3 := ⟨⟨⟨by decide +kernel, by decide +kernel⟩, by decide +kernel, by decide +kernel⟩, gb_t3 (List.mem_of_getElem? (i := 26) rfl) rfl, n_Co, gb_t3 (List.mem_of_getElem? (i := 25) rfl) rfl, gb_t0 (List.mem_of_getElem? (i := 6) rfl) rfl⟩
set_option maxRecDepth 20000 in
theorem s_yCo_listen : gb_Mi yCo_listen 0 := ⟨⟨⟨by decide +kernel, by decide +kernel⟩, by decide +kernel, by decide +kernel⟩, gb_t3 (List.mem_of_getElem? (i := 31) rfl) rfl, n_Co, gb_t3 (List.mem_of_getElem? (i := 30) rfl) rfl, gb_t0 (List.mem_of_getElem? (i := 7) rfl) rfl⟩
set_option maxRecDepth 20000 in
theorem s_yTa_thickenSkin : gb_Mi yTa_thickenSkin 1 := ⟨⟨⟨by decide +kernel, by decide +kernel⟩, by decide +kernel, by decide +kernel⟩, gb_t3 (List.mem_of_getElem? (i := 35) rfl) rfl, n_Ta, gb_t3 (List.mem_of_getElem? (i := 33) rfl) rfl, gb_t3 (List.mem_of_getElem? (i := 34) rfl) rfl⟩
set_option maxRecDepth 20000 in
theorem s_yCo_sail : gb_Mi yCo_sail 1 := ⟨⟨⟨by decide +kernel, by decide +kernel⟩, by decide +kernel, by decide +kernel⟩, gb_t3 (List.mem_of_getElem? (i := 40) rfl) rfl, n_Co, gb_t3 (List.mem_of_getElem? (i := 39) rfl) rfl, gb_t0 (List.mem_of_getElem? (i := 8) rfl) rfl⟩
set_option maxRecDepth 20000 in
theorem s_yLa_tells : gb_Mi yLa_tells 3 := ⟨⟨⟨by decide +kernel, by decide +kernel⟩, by decide +kernel, by decide +kernel⟩, gb_t3 (List.mem_of_getElem? (i := 44) rfl) rfl, n_La, gb_t3 (List.mem_of_getElem? (i := 42) rfl) rfl, gb_t3 (List.mem_of_getElem? (i := 43) rfl) rfl⟩
set_option maxRecDepth 20000 in
theorem s_yLa_reckon : gb_Mi yLa_reckon 4 := ⟨⟨⟨by decide +kernel, by decide +kernel⟩, by decide +kernel, by decide +kernel⟩, gb_t3 (List.mem_of_getElem? (i := 48) rfl) rfl, n_La, gb_t3 (List.mem_of_getElem? (i := 47) rfl) rfl, gb_t0 (List.mem_of_getElem? (i := 9) rfl) rfl⟩
set_option maxRecDepth 20000 in
theorem s_yLa_push : gb_Mi yLa_push 1 := ⟨⟨⟨by decide +kernel, by decide +kernel⟩, by decide +kernel, by decide +kernel⟩, gb_t3 (List.mem_of_getElem? (i := 53) rfl) rfl, n_La, gb_t3 (List.mem_of_getElem? (i := 52) rfl) rfl, gb_t0 (List.mem_of_getElem? (i := 10) rfl) rfl⟩
set_option maxRecDepth 20000 in
theorem s_yLa_worth : gb_Ms yLa_worth 3 := ⟨⟨⟨by decide +kernel, by decide +kernel⟩, by decide +kernel, by decide +kernel⟩, gb_t3 (List.mem_of_getElem? (i := 57) rfl) rfl, n_La, gb_t3 (List.mem_of_getElem? (i := 56) rfl) rfl⟩
set_option maxRecDepth 20000 in
theorem s_yLa_pop : gb_Mi yLa_pop 0 := ⟨⟨⟨by decide +kernel, by decide +kernel⟩, by decide +kernel, by decide +kernel⟩, gb_t3 (List.mem_of_getElem? (i := 63) rfl) rfl, n_La, gb_t3 (List.mem_of_getElem? (i := 62) rfl) rfl, gb_t0 (List.mem_of_getElem? (i := 11) rfl) rfl⟩
set_option maxRecDepth 20000 in
theorem s_yLa_joined : gb_Ms yLa_joined 3 := ⟨⟨⟨by decide +kernel, by decide +kernel⟩, by decide +kernel, by decide +kernel⟩, gb_t3 (List.mem_of_getElem? (i := 66) rfl) rfl, n_La, gb_t3 (List.mem_of_getElem? (i := 65) rfl) rfl⟩
set_option maxRecDepth 20000 in
theorem s_yGb_held : gb_Ms yGb_held 3 := ⟨⟨⟨by decide +kernel, by decide +kernel⟩, by decide +kernel, by decide +kernel⟩, gb_t3 (List.mem_of_getElem? (i := 69) rfl) rfl, n_Gb, gb_t3 (List.mem_of_getElem? (i := 68) rfl) rfl⟩
set_option maxRecDepth 20000 in
theorem s_yLa_unwritten : gb_Mi yLa_unwritten 3 := ⟨⟨⟨by decide +kernel, by decide +kernel⟩, by decide +kernel, by decide +kernel⟩, gb_t3 (List.mem_of_getElem? (i := 75) rfl) rfl, n_La, gb_t3 (List.mem_of_getElem? (i := 74) rfl) rfl, gb_t0 (List.mem_of_getElem? (i := 12) rfl) rfl⟩
set_option maxRecDepth 20000 in
theorem s_yCo_pourOut : gb_Mi yCo_pourOut 2 := ⟨⟨⟨by decide +kernel, by decide +kernel⟩, by decide +kernel, by decide +kernel⟩, gb_t3 (List.mem_of_getElem? (i := 79) rfl) rfl, n_Co, gb_t3 (List.mem_of_getElem? (i := 78) rfl) rfl, gb_t0 (List.mem_of_getElem? (i := 13) rfl) rfl⟩
set_option maxRecDepth 20000 in
theorem s_yCo_happens : gb_Mi yCo_happens 1 := ⟨⟨⟨by decide +kernel, by decide +kernel⟩, by decide +kernel, by decide +kernel⟩, gb_t3 (List.mem_of_getElem? (i := 84) rfl) rfl, n_Co, gb_t3 (List.mem_of_getElem? (i := 83) rfl) rfl, gb_t0 (List.mem_of_getElem? (i := 14) rfl) rfl⟩
set_option maxRecDepth 20000 in
theorem s_yTa_draw : gb_Mi yTa_draw 1 := ⟨⟨⟨by decide +kernel, by decide +kernel⟩, by decide +kernel, by decide +kernel⟩, gb_t3 (List.mem_of_getElem? (i := 88) rfl) rfl, n_Ta, gb_t3 (List.mem_of_getElem? (i := 86) rfl) rfl, gb_t3 (List.mem_of_getElem? (i := 87) rfl) rfl⟩
set_option maxRecDepth 20000 in
theorem s_yCo_spill : gb_Mi yCo_spill 1 := ⟨⟨⟨by decide +kernel, by decide +kernel⟩, by decide +kernel, by decide +kernel⟩, gb_t3 (List.mem_of_getElem? (i := 94) rfl) rfl, n_Co, gb_t3 (List.mem_of_getElem? (i := 93) rfl) rfl, gb_t0 (List.mem_of_getElem? (i := 15) rfl) rfl⟩
set_option maxRecDepth 20000 in
theorem s_yGb_feed : gb_Mi yGb_feed 5 := ⟨⟨⟨by decide +kernel, by decide +kernel⟩, by decide +kernel, by decide +kernel⟩, gb_t3 (List.mem_of_getElem? (i := 99) rfl) rfl, n_Gb, gb_t3 (List.mem_of_getElem? (i := 97) rfl) rfl, gb_t3 (List.mem_of_getElem? (i := 98) rfl) rfl⟩
set_option maxRecDepth 20000 in
theorem s_yGb_tapeNumber : gb_Mi yGb_tapeNumber 1 := ⟨⟨⟨by decide +kernel, by decide +kernel⟩, by decide +kernel, by decide +kernel⟩, gb_t3 (List.mem_of_getElem? (i := 103) rfl) rfl, n_Gb, gb_t3 (List.mem_of_getElem? (i := 102) rfl) rfl, gb_t0 (List.mem_of_getElem? (i := 16) rfl) rfl⟩
set_option maxRecDepth 20000 in
theorem s_yGb_end : gb_Mi yGb_end 1 := ⟨⟨⟨by decide +kernel, by decide +kernel⟩, by decide +kernel, by decide +kernel⟩, gb_t3 (List.mem_of_getElem? (i := 107) rfl) rfl, n_Gb, gb_t3 (List.mem_of_getElem? (i := 105) rfl) rfl, gb_t3 (List.mem_of_getElem? (i := 106) rfl) rfl⟩
set_option maxRecDepth 20000 in
theorem s_yGb_text : gb_Mi yGb_text 1 := ⟨⟨⟨by decide +kernel, by decide +kernel⟩, by decide +kernel, by decide +kernel⟩, gb_t3 (List.mem_of_getElem? (i := 111) rfl) rfl, n_Gb, gb_t3 (List.mem_of_getElem? (i := 109) rfl) rfl, gb_t3 (List.mem_of_getElem? (i := 110) rfl) rfl⟩
set_option maxRecDepth 20000 in
theorem s_yRd_start : gb_Mi yRd_start 2 := ⟨⟨⟨by decide +kernel, by decide +kernel⟩, by decide +kernel, by decide +kernel⟩, gb_t3 (List.mem_of_getElem? (i := 115) rfl) rfl, n_Rd, gb_t3 (List.mem_of_getElem? (i := 113) rfl) rfl, gb_t3 (List.mem_of_getElem? (i := 114) rfl) rfl⟩
set_option maxRecDepth 20000 in
theorem s_yRd_readLaw : gb_Mi yRd_readLaw 0 := ⟨⟨⟨by decide +kernel, by decide +kernel⟩, by decide +kernel, by decide +kernel⟩, gb_t3 (List.mem_of_getElem? (i := 120) rfl) rfl, n_Rd, gb_t3 (List.mem_of_getElem? (i := 118) rfl) rfl, gb_t3 (List.mem_of_getElem? (i := 119) rfl) rfl⟩
set_option maxRecDepth 20000 in
theorem s_yRd_cutTokens : gb_Mi yRd_cutTokens 0 := ⟨⟨⟨by decide +kernel, by decide +kernel⟩, by decide +kernel, by decide +kernel⟩, gb_t3 (List.mem_of_getElem? (i := 124) rfl) rfl, n_Rd, gb_t3 (List.mem_of_getElem? (i := 123) rfl) rfl, gb_t0 (List.mem_of_getElem? (i := 17) rfl) rfl⟩
set_option maxRecDepth 20000 in
theorem s_yRd_runEnd : gb_Mi yRd_runEnd 1 := ⟨⟨⟨by decide +kernel, by decide +kernel⟩, by decide +kernel, by decide +kernel⟩, gb_t3 (List.mem_of_getElem? (i := 128) rfl) rfl, n_Rd, gb_t3 (List.mem_of_getElem? (i := 127) rfl) rfl, gb_t0 (List.mem_of_getElem? (i := 18) rfl) rfl⟩
set_option maxRecDepth 20000 in
theorem s_yRd_charAt : gb_Mi yRd_charAt 1 := ⟨⟨⟨by decide +kernel, by decide +kernel⟩, by decide +kernel, by decide +kernel⟩, gb_t3 (List.mem_of_getElem? (i := 132) rfl) rfl, n_Rd, gb_t3 (List.mem_of_getElem? (i := 131) rfl) rfl, gb_t0 (List.mem_of_getElem? (i := 19) rfl) rfl⟩
set_option maxRecDepth 20000 in
theorem s_yRd_isLetter : gb_Ms yRd_isLetter 1 := ⟨⟨⟨by decide +kernel, by decide +kernel⟩, by decide +kernel, by decide +kernel⟩, gb_t3 (List.mem_of_getElem? (i := 136) rfl) rfl, n_Rd, gb_t3 (List.mem_of_getElem? (i := 135) rfl) rfl⟩
set_option maxRecDepth 20000 in
theorem s_yRd_isDigit : gb_Ms yRd_isDigit 1 := ⟨⟨⟨by decide +kernel, by decide +kernel⟩, by decide +kernel, by decide +kernel⟩, gb_t3 (List.mem_of_getElem? (i := 139) rfl) rfl, n_Rd, gb_t3 (List.mem_of_getElem? (i := 138) rfl) rfl⟩
set_option maxRecDepth 20000 in
theorem s_yRd_tokenOf : gb_Mi yRd_tokenOf 2 := ⟨⟨⟨by decide +kernel, by decide +kernel⟩, by decide +kernel, by decide +kernel⟩, gb_t3 (List.mem_of_getElem? (i := 143) rfl) rfl, n_Rd, gb_t3 (List.mem_of_getElem? (i := 142) rfl) rfl, gb_t0 (List.mem_of_getElem? (i := 20) rfl) rfl⟩
set_option maxRecDepth 20000 in
theorem s_yRd_wordOf : gb_Mi yRd_wordOf 2 := ⟨⟨⟨by decide +kernel, by decide +kernel⟩, by decide +kernel, by decide +kernel⟩, gb_t3 (List.mem_of_getElem? (i := 147) rfl) rfl, n_Rd, gb_t3 (List.mem_of_getElem? (i := 146) rfl) rfl, gb_t0 (List.mem_of_getElem? (i := 21) rfl) rfl⟩
set_option maxRecDepth 20000 in
theorem s_yJs_length : gb_Mi yJs_length 0 := ⟨⟨⟨by decide +kernel, by decide +kernel⟩, by decide +kernel, by decide +kernel⟩, gb_t3 (List.mem_of_getElem? (i := 152) rfl) rfl, n_Js, gb_t3 (List.mem_of_getElem? (i := 150) rfl) rfl, gb_t3 (List.mem_of_getElem? (i := 151) rfl) rfl⟩
set_option maxRecDepth 20000 in
theorem s_yJs_coder : gb_Mi yJs_coder 0 := ⟨⟨⟨by decide +kernel, by decide +kernel⟩, by decide +kernel, by decide +kernel⟩, gb_t3 (List.mem_of_getElem? (i := 156) rfl) rfl, n_Js, gb_t3 (List.mem_of_getElem? (i := 154) rfl) rfl, gb_t3 (List.mem_of_getElem? (i := 155) rfl) rfl⟩
set_option maxRecDepth 20000 in
theorem s_yJs_charAt : gb_Mi yJs_charAt 1 := ⟨⟨⟨by decide +kernel, by decide +kernel⟩, by decide +kernel, by decide +kernel⟩, gb_t3 (List.mem_of_getElem? (i := 162) rfl) rfl, n_Js, gb_t3 (List.mem_of_getElem? (i := 160) rfl) rfl, gb_t3 (List.mem_of_getElem? (i := 161) rfl) rfl⟩
set_option maxRecDepth 20000 in
theorem s_yJs_isLatin1 : gb_Mi yJs_isLatin1 0 := ⟨⟨⟨by decide +kernel, by decide +kernel⟩, by decide +kernel, by decide +kernel⟩, gb_t3 (List.mem_of_getElem? (i := 166) rfl) rfl, n_Js, gb_t3 (List.mem_of_getElem? (i := 164) rfl) rfl, gb_t3 (List.mem_of_getElem? (i := 165) rfl) rfl⟩
set_option maxRecDepth 20000 in
theorem s_yJl_charAt : gb_Ms yJl_charAt 2 := ⟨⟨⟨by decide +kernel, by decide +kernel⟩, by decide +kernel, by decide +kernel⟩, gb_t3 (List.mem_of_getElem? (i := 169) rfl) rfl, n_Jl, gb_t3 (List.mem_of_getElem? (i := 168) rfl) rfl⟩
set_option maxRecDepth 20000 in
theorem s_yJs_checkIndex : gb_Ms yJs_checkIndex 2 := ⟨⟨⟨by decide +kernel, by decide +kernel⟩, by decide +kernel, by decide +kernel⟩, gb_t3 (List.mem_of_getElem? (i := 172) rfl) rfl, n_Js, gb_t3 (List.mem_of_getElem? (i := 171) rfl) rfl⟩
set_option maxRecDepth 20000 in
theorem s_yJp_checkIndex : gb_Ms yJp_checkIndex 3 := ⟨⟨⟨by decide +kernel, by decide +kernel⟩, by decide +kernel, by decide +kernel⟩, gb_t3 (List.mem_of_getElem? (i := 177) rfl) rfl, n_Jp, gb_t3 (List.mem_of_getElem? (i := 176) rfl) rfl⟩
set_option maxRecDepth 20000 in
theorem s_yRd_isWordAt : gb_Mi yRd_isWordAt 3 := ⟨⟨⟨by decide +kernel, by decide +kernel⟩, by decide +kernel, by decide +kernel⟩, gb_t3 (List.mem_of_getElem? (i := 200) rfl) rfl, n_Rd, gb_t3 (List.mem_of_getElem? (i := 199) rfl) rfl, gb_t0 (List.mem_of_getElem? (i := 22) rfl) rfl⟩
set_option maxRecDepth 20000 in
theorem s_yRd_numberOf : gb_Mi yRd_numberOf 2 := ⟨⟨⟨by decide +kernel, by decide +kernel⟩, by decide +kernel, by decide +kernel⟩, gb_t3 (List.mem_of_getElem? (i := 204) rfl) rfl, n_Rd, gb_t3 (List.mem_of_getElem? (i := 203) rfl) rfl, gb_t0 (List.mem_of_getElem? (i := 23) rfl) rfl⟩
set_option maxRecDepth 20000 in
theorem s_yJs_indexOf : gb_Mi yJs_indexOf 1 := ⟨⟨⟨by decide +kernel, by decide +kernel⟩, by decide +kernel, by decide +kernel⟩, gb_t3 (List.mem_of_getElem? (i := 209) rfl) rfl, n_Js, gb_t3 (List.mem_of_getElem? (i := 207) rfl) rfl, gb_t3 (List.mem_of_getElem? (i := 208) rfl) rfl⟩
set_option maxRecDepth 20000 in
theorem s_yJs_indexOf_III : gb_Mi yJs_indexOf_III 2 := ⟨⟨⟨by decide +kernel, by decide +kernel⟩, by decide +kernel, by decide +kernel⟩, gb_t3 (List.mem_of_getElem? (i := 213) rfl) rfl, n_Js, gb_t3 (List.mem_of_getElem? (i := 211) rfl) rfl, gb_t3 (List.mem_of_getElem? (i := 212) rfl) rfl⟩
set_option maxRecDepth 20000 in
theorem s_yJl_indexOf : gb_Ms yJl_indexOf 4 := ⟨⟨⟨by decide +kernel, by decide +kernel⟩, by decide +kernel, by decide +kernel⟩, gb_t3 (List.mem_of_getElem? (i := 217) rfl) rfl, n_Jl, gb_t3 (List.mem_of_getElem? (i := 216) rfl) rfl⟩
set_option maxRecDepth 20000 in
theorem s_yJl_canEncode : gb_Ms yJl_canEncode 1 := ⟨⟨⟨by decide +kernel, by decide +kernel⟩, by decide +kernel, by decide +kernel⟩, gb_t3 (List.mem_of_getElem? (i := 220) rfl) rfl, n_Jl, gb_t3 (List.mem_of_getElem? (i := 219) rfl) rfl⟩
set_option maxRecDepth 20000 in
theorem s_yJl_indexOfChar : gb_Ms yJl_indexOfChar 4 := ⟨⟨⟨by decide +kernel, by decide +kernel⟩, by decide +kernel, by decide +kernel⟩, gb_t3 (List.mem_of_getElem? (i := 225) rfl) rfl, n_Jl, gb_t3 (List.mem_of_getElem? (i := 224) rfl) rfl⟩
set_option maxRecDepth 20000 in
theorem s_yJs_checkBoundsBeginEnd : gb_Ms yJs_checkBoundsBeginEnd 3 := ⟨⟨⟨by decide +kernel, by decide +kernel⟩, by decide +kernel, by decide +kernel⟩, gb_t4 (List.mem_of_getElem? (i := 0) rfl) rfl, n_Js, gb_t3 (List.mem_of_getElem? (i := 239) rfl) rfl⟩
set_option maxRecDepth 20000 in
theorem s_yJp_checkFromToIndex : gb_Ms yJp_checkFromToIndex 4 := ⟨⟨⟨by decide +kernel, by decide +kernel⟩, by decide +kernel, by decide +kernel⟩, gb_t4 (List.mem_of_getElem? (i := 3) rfl) rfl, n_Jp, gb_t4 (List.mem_of_getElem? (i := 2) rfl) rfl⟩
set_option maxRecDepth 20000 in
theorem s_yLa_clear : gb_Mi yLa_clear 0 := ⟨⟨⟨by decide +kernel, by decide +kernel⟩, by decide +kernel, by decide +kernel⟩, gb_t4 (List.mem_of_getElem? (i := 25) rfl) rfl, n_La, gb_t4 (List.mem_of_getElem? (i := 23) rfl) rfl, gb_t4 (List.mem_of_getElem? (i := 24) rfl) rfl⟩
set_option maxRecDepth 20000 in
theorem s_yRd_now : gb_Mi yRd_now 0 := ⟨⟨⟨by decide +kernel, by decide +kernel⟩, by decide +kernel, by decide +kernel⟩, gb_t4 (List.mem_of_getElem? (i := 29) rfl) rfl, n_Rd, gb_t4 (List.mem_of_getElem? (i := 28) rfl) rfl, gb_t0 (List.mem_of_getElem? (i := 24) rfl) rfl⟩
set_option maxRecDepth 20000 in
theorem s_yRd_openLine : gb_Mi yRd_openLine 2 := ⟨⟨⟨by decide +kernel, by decide +kernel⟩, by decide +kernel, by decide +kernel⟩, gb_t4 (List.mem_of_getElem? (i := 33) rfl) rfl, n_Rd, gb_t4 (List.mem_of_getElem? (i := 32) rfl) rfl, gb_t0 (List.mem_of_getElem? (i := 25) rfl) rfl⟩
set_option maxRecDepth 20000 in
theorem s_yRd_refuse : gb_Mi yRd_refuse 1 := ⟨⟨⟨by decide +kernel, by decide +kernel⟩, by decide +kernel, by decide +kernel⟩, gb_t4 (List.mem_of_getElem? (i := 37) rfl) rfl, n_Rd, gb_t4 (List.mem_of_getElem? (i := 36) rfl) rfl, gb_t0 (List.mem_of_getElem? (i := 26) rfl) rfl⟩
set_option maxRecDepth 20000 in
theorem s_yRd_readSum : gb_Mi yRd_readSum 0 := ⟨⟨⟨by decide +kernel, by decide +kernel⟩, by decide +kernel, by decide +kernel⟩, gb_t4 (List.mem_of_getElem? (i := 41) rfl) rfl, n_Rd, gb_t4 (List.mem_of_getElem? (i := 40) rfl) rfl, gb_t0 (List.mem_of_getElem? (i := 27) rfl) rfl⟩
set_option maxRecDepth 20000 in
theorem s_yRd_readProduct : gb_Mi yRd_readProduct 0 := ⟨⟨⟨by decide +kernel, by decide +kernel⟩, by decide +kernel, by decide +kernel⟩, gb_t4 (List.mem_of_getElem? (i := 45) rfl) rfl, n_Rd, gb_t4 (List.mem_of_getElem? (i := 44) rfl) rfl, gb_t0 (List.mem_of_getElem? (i := 28) rfl) rfl⟩
set_option maxRecDepth 20000 in
theorem s_yRd_readUnit : gb_Mi yRd_readUnit 0 := ⟨⟨⟨by decide +kernel, by decide +kernel⟩, by decide +kernel, by decide +kernel⟩, gb_t4 (List.mem_of_getElem? (i := 49) rfl) rfl, n_Rd, gb_t4 (List.mem_of_getElem? (i := 48) rfl) rfl, gb_t0 (List.mem_of_getElem? (i := 29) rfl) rfl⟩
set_option maxRecDepth 20000 in
theorem s_yLa_emit : gb_Mi yLa_emit 2 := ⟨⟨⟨by decide +kernel, by decide +kernel⟩, by decide +kernel, by decide +kernel⟩, gb_t4 (List.mem_of_getElem? (i := 53) rfl) rfl, n_La, gb_t4 (List.mem_of_getElem? (i := 51) rfl) rfl, gb_t4 (List.mem_of_getElem? (i := 52) rfl) rfl⟩
set_option maxRecDepth 20000 in
theorem s_yRd_takeNumber : gb_Mi yRd_takeNumber 2 := ⟨⟨⟨by decide +kernel, by decide +kernel⟩, by decide +kernel, by decide +kernel⟩, gb_t4 (List.mem_of_getElem? (i := 57) rfl) rfl, n_Rd, gb_t4 (List.mem_of_getElem? (i := 56) rfl) rfl, gb_t0 (List.mem_of_getElem? (i := 30) rfl) rfl⟩
set_option maxRecDepth 20000 in
theorem s_yRd_readCondition : gb_Mi yRd_readCondition 1 := ⟨⟨⟨by decide +kernel, by decide +kernel⟩, by decide +kernel, by decide +kernel⟩, gb_t4 (List.mem_of_getElem? (i := 61) rfl) rfl, n_Rd, gb_t4 (List.mem_of_getElem? (i := 60) rfl) rfl, gb_t0 (List.mem_of_getElem? (i := 31) rfl) rfl⟩
set_option maxRecDepth 20000 in
theorem s_yRd_readSingle : gb_Mi yRd_readSingle 1 := ⟨⟨⟨by decide +kernel, by decide +kernel⟩, by decide +kernel, by decide +kernel⟩, gb_t4 (List.mem_of_getElem? (i := 65) rfl) rfl, n_Rd, gb_t4 (List.mem_of_getElem? (i := 64) rfl) rfl, gb_t0 (List.mem_of_getElem? (i := 32) rfl) rfl⟩
set_option maxRecDepth 20000 in
theorem s_yRd_take : gb_Mi yRd_take 1 := ⟨⟨⟨by decide +kernel, by decide +kernel⟩, by decide +kernel, by decide +kernel⟩, gb_t4 (List.mem_of_getElem? (i := 69) rfl) rfl, n_Rd, gb_t4 (List.mem_of_getElem? (i := 68) rfl) rfl, gb_t0 (List.mem_of_getElem? (i := 33) rfl) rfl⟩
set_option maxRecDepth 20000 in
theorem s_yLa_addLine : gb_Mi yLa_addLine 2 := ⟨⟨⟨by decide +kernel, by decide +kernel⟩, by decide +kernel, by decide +kernel⟩, gb_t4 (List.mem_of_getElem? (i := 73) rfl) rfl, n_La, gb_t4 (List.mem_of_getElem? (i := 71) rfl) rfl, gb_t4 (List.mem_of_getElem? (i := 72) rfl) rfl⟩
set_option maxRecDepth 20000 in
theorem s_yRd_readLines : gb_Mi yRd_readLines 1 := ⟨⟨⟨by decide +kernel, by decide +kernel⟩, by decide +kernel, by decide +kernel⟩, gb_t4 (List.mem_of_getElem? (i := 77) rfl) rfl, n_Rd, gb_t4 (List.mem_of_getElem? (i := 75) rfl) rfl, gb_t4 (List.mem_of_getElem? (i := 76) rfl) rfl⟩
set_option maxRecDepth 20000 in
theorem s_yRd_readVoyage : gb_Mi yRd_readVoyage 0 := ⟨⟨⟨by decide +kernel, by decide +kernel⟩, by decide +kernel, by decide +kernel⟩, gb_t4 (List.mem_of_getElem? (i := 81) rfl) rfl, n_Rd, gb_t4 (List.mem_of_getElem? (i := 80) rfl) rfl, gb_t0 (List.mem_of_getElem? (i := 34) rfl) rfl⟩
set_option maxRecDepth 20000 in
theorem s_yRd_readEvent : gb_Mi yRd_readEvent 0 := ⟨⟨⟨by decide +kernel, by decide +kernel⟩, by decide +kernel, by decide +kernel⟩, gb_t4 (List.mem_of_getElem? (i := 86) rfl) rfl, n_Rd, gb_t4 (List.mem_of_getElem? (i := 85) rfl) rfl, gb_t0 (List.mem_of_getElem? (i := 35) rfl) rfl⟩
set_option maxRecDepth 20000 in
theorem s_yRd_readReach : gb_Mi yRd_readReach 0 := ⟨⟨⟨by decide +kernel, by decide +kernel⟩, by decide +kernel, by decide +kernel⟩, gb_t4 (List.mem_of_getElem? (i := 90) rfl) rfl, n_Rd, gb_t4 (List.mem_of_getElem? (i := 89) rfl) rfl, gb_t0 (List.mem_of_getElem? (i := 36) rfl) rfl⟩
set_option maxRecDepth 20000 in
theorem s_yJm_abs : gb_Ms yJm_abs 1 := ⟨⟨⟨by decide +kernel, by decide +kernel⟩, by decide +kernel, by decide +kernel⟩, gb_t4 (List.mem_of_getElem? (i := 93) rfl) rfl, n_Jm, gb_t4 (List.mem_of_getElem? (i := 92) rfl) rfl⟩
set_option maxRecDepth 20000 in
theorem s_yGb_takeText : gb_Mi yGb_takeText 1 := ⟨⟨⟨by decide +kernel, by decide +kernel⟩, by decide +kernel, by decide +kernel⟩, gb_t4 (List.mem_of_getElem? (i := 97) rfl) rfl, n_Gb, gb_t4 (List.mem_of_getElem? (i := 96) rfl) rfl, gb_t0 (List.mem_of_getElem? (i := 37) rfl) rfl⟩
set_option maxRecDepth 20000 in
theorem s_yLa_copyFrom : gb_Mi yLa_copyFrom 1 := ⟨⟨⟨by decide +kernel, by decide +kernel⟩, by decide +kernel, by decide +kernel⟩, gb_t4 (List.mem_of_getElem? (i := 101) rfl) rfl, n_La, gb_t4 (List.mem_of_getElem? (i := 99) rfl) rfl, gb_t4 (List.mem_of_getElem? (i := 100) rfl) rfl⟩
set_option maxRecDepth 20000 in
theorem s_yRo_copyFrom : gb_Mi yRo_copyFrom 1 := ⟨⟨⟨by decide +kernel, by decide +kernel⟩, by decide +kernel, by decide +kernel⟩, gb_t4 (List.mem_of_getElem? (i := 106) rfl) rfl, n_Ro, gb_t4 (List.mem_of_getElem? (i := 104) rfl) rfl, gb_t4 (List.mem_of_getElem? (i := 105) rfl) rfl⟩
set_option maxRecDepth 20000 in
theorem s_yGb_fault : gb_Mi yGb_fault 1 := ⟨⟨⟨by decide +kernel, by decide +kernel⟩, by decide +kernel, by decide +kernel⟩, gb_t4 (List.mem_of_getElem? (i := 113) rfl) rfl, n_Gb, gb_t4 (List.mem_of_getElem? (i := 111) rfl) rfl, gb_t4 (List.mem_of_getElem? (i := 112) rfl) rfl⟩
set_option maxRecDepth 20000 in
theorem s_yGb_of : gb_Mi yGb_of 2 := ⟨⟨⟨by decide +kernel, by decide +kernel⟩, by decide +kernel, by decide +kernel⟩, gb_t4 (List.mem_of_getElem? (i := 117) rfl) rfl, n_Gb, gb_t4 (List.mem_of_getElem? (i := 115) rfl) rfl, gb_t4 (List.mem_of_getElem? (i := 116) rfl) rfl⟩
set_option maxRecDepth 20000 in
theorem s_yGb_seat : gb_Mi yGb_seat 2 := ⟨⟨⟨by decide +kernel, by decide +kernel⟩, by decide +kernel, by decide +kernel⟩, gb_t4 (List.mem_of_getElem? (i := 122) rfl) rfl, n_Gb, gb_t4 (List.mem_of_getElem? (i := 120) rfl) rfl, gb_t4 (List.mem_of_getElem? (i := 121) rfl) rfl⟩
set_option maxRecDepth 20000 in
theorem s_yGb_got : gb_Mi yGb_got 2 := ⟨⟨⟨by decide +kernel, by decide +kernel⟩, by decide +kernel, by decide +kernel⟩, gb_t4 (List.mem_of_getElem? (i := 126) rfl) rfl, n_Gb, gb_t4 (List.mem_of_getElem? (i := 124) rfl) rfl, gb_t4 (List.mem_of_getElem? (i := 125) rfl) rfl⟩
set_option maxRecDepth 20000 in
theorem s_yTa_ofGot : gb_Mi yTa_ofGot 2 := ⟨⟨⟨by decide +kernel, by decide +kernel⟩, by decide +kernel, by decide +kernel⟩, gb_t4 (List.mem_of_getElem? (i := 130) rfl) rfl, n_Ta, gb_t4 (List.mem_of_getElem? (i := 128) rfl) rfl, gb_t4 (List.mem_of_getElem? (i := 129) rfl) rfl⟩
set_option maxRecDepth 20000 in
theorem s_yGb_book : gb_Mi yGb_book 2 := ⟨⟨⟨by decide +kernel, by decide +kernel⟩, by decide +kernel, by decide +kernel⟩, gb_t4 (List.mem_of_getElem? (i := 134) rfl) rfl, n_Gb, gb_t4 (List.mem_of_getElem? (i := 132) rfl) rfl, gb_t4 (List.mem_of_getElem? (i := 133) rfl) rfl⟩
set_option maxRecDepth 20000 in
theorem s_yGb_goes : gb_Mi yGb_goes 2 := ⟨⟨⟨by decide +kernel, by decide +kernel⟩, by decide +kernel, by decide +kernel⟩, gb_t4 (List.mem_of_getElem? (i := 139) rfl) rfl, n_Gb, gb_t4 (List.mem_of_getElem? (i := 137) rfl) rfl, gb_t4 (List.mem_of_getElem? (i := 138) rfl) rfl⟩
set_option maxRecDepth 20000 in
theorem s_yTa_sumOf : gb_Mi yTa_sumOf 1 := ⟨⟨⟨by decide +kernel, by decide +kernel⟩, by decide +kernel, by decide +kernel⟩, gb_t4 (List.mem_of_getElem? (i := 144) rfl) rfl, n_Ta, gb_t4 (List.mem_of_getElem? (i := 142) rfl) rfl, gb_t4 (List.mem_of_getElem? (i := 143) rfl) rfl⟩
set_option maxRecDepth 20000 in
theorem s_yGb_brings : gb_Mi yGb_brings 2 := ⟨⟨⟨by decide +kernel, by decide +kernel⟩, by decide +kernel, by decide +kernel⟩, gb_t4 (List.mem_of_getElem? (i := 149) rfl) rfl, n_Gb, gb_t4 (List.mem_of_getElem? (i := 147) rfl) rfl, gb_t4 (List.mem_of_getElem? (i := 148) rfl) rfl⟩
set_option maxRecDepth 20000 in
theorem s_yCo_broughtBy : gb_Mi yCo_broughtBy 1 := ⟨⟨⟨by decide +kernel, by decide +kernel⟩, by decide +kernel, by decide +kernel⟩, gb_t4 (List.mem_of_getElem? (i := 153) rfl) rfl, n_Co, gb_t4 (List.mem_of_getElem? (i := 151) rfl) rfl, gb_t4 (List.mem_of_getElem? (i := 152) rfl) rfl⟩
set_option maxRecDepth 20000 in
theorem s_yGb_hands : gb_Mi yGb_hands 3 := ⟨⟨⟨by decide +kernel, by decide +kernel⟩, by decide +kernel, by decide +kernel⟩, gb_t4 (List.mem_of_getElem? (i := 157) rfl) rfl, n_Gb, gb_t4 (List.mem_of_getElem? (i := 155) rfl) rfl, gb_t4 (List.mem_of_getElem? (i := 156) rfl) rfl⟩
set_option maxRecDepth 20000 in
theorem s_ySe_shortest : gb_Mi ySe_shortest 3 := ⟨⟨⟨by decide +kernel, by decide +kernel⟩, by decide +kernel, by decide +kernel⟩, gb_t4 (List.mem_of_getElem? (i := 161) rfl) rfl, n_Se, gb_t4 (List.mem_of_getElem? (i := 159) rfl) rfl, gb_t4 (List.mem_of_getElem? (i := 160) rfl) rfl⟩
set_option maxRecDepth 20000 in
theorem s_ySe_nextEdge : gb_Mi ySe_nextEdge 2 := ⟨⟨⟨by decide +kernel, by decide +kernel⟩, by decide +kernel, by decide +kernel⟩, gb_t4 (List.mem_of_getElem? (i := 166) rfl) rfl, n_Se, gb_t4 (List.mem_of_getElem? (i := 165) rfl) rfl, gb_t0 (List.mem_of_getElem? (i := 38) rfl) rfl⟩
set_option maxRecDepth 20000 in
theorem s_yGb_letter : gb_Mi yGb_letter 2 := ⟨⟨⟨by decide +kernel, by decide +kernel⟩, by decide +kernel, by decide +kernel⟩, gb_t4 (List.mem_of_getElem? (i := 172) rfl) rfl, n_Gb, gb_t4 (List.mem_of_getElem? (i := 170) rfl) rfl, gb_t4 (List.mem_of_getElem? (i := 171) rfl) rfl⟩
set_option maxRecDepth 20000 in
theorem s_yGb_tell : gb_Ms yGb_tell 4 := ⟨⟨⟨by decide +kernel, by decide +kernel⟩, by decide +kernel, by decide +kernel⟩, gb_t4 (List.mem_of_getElem? (i := 175) rfl) rfl, n_Gb, gb_t4 (List.mem_of_getElem? (i := 174) rfl) rfl⟩
set_option maxRecDepth 20000 in
theorem s_yGb_both : gb_Mi yGb_both 1 := ⟨⟨⟨by decide +kernel, by decide +kernel⟩, by decide +kernel, by decide +kernel⟩, gb_t4 (List.mem_of_getElem? (i := 180) rfl) rfl, n_Gb, gb_t4 (List.mem_of_getElem? (i := 178) rfl) rfl, gb_t4 (List.mem_of_getElem? (i := 179) rfl) rfl⟩
set_option maxRecDepth 20000 in
theorem s_yRe_inBoth : gb_Mi yRe_inBoth 2 := ⟨⟨⟨by decide +kernel, by decide +kernel⟩, by decide +kernel, by decide +kernel⟩, gb_t4 (List.mem_of_getElem? (i := 184) rfl) rfl, n_Re, gb_t4 (List.mem_of_getElem? (i := 182) rfl) rfl, gb_t4 (List.mem_of_getElem? (i := 183) rfl) rfl⟩
set_option maxRecDepth 20000 in
theorem s_yRe_gridAt : gb_Mi yRe_gridAt 2 := ⟨⟨⟨by decide +kernel, by decide +kernel⟩, by decide +kernel, by decide +kernel⟩, gb_t4 (List.mem_of_getElem? (i := 188) rfl) rfl, n_Re, gb_t4 (List.mem_of_getElem? (i := 187) rfl) rfl, gb_t0 (List.mem_of_getElem? (i := 39) rfl) rfl⟩
set_option maxRecDepth 20000 in
theorem s_yRe_putGrid : gb_Mi yRe_putGrid 3 := ⟨⟨⟨by decide +kernel, by decide +kernel⟩, by decide +kernel, by decide +kernel⟩, gb_t4 (List.mem_of_getElem? (i := 195) rfl) rfl, n_Re, gb_t4 (List.mem_of_getElem? (i := 194) rfl) rfl, gb_t0 (List.mem_of_getElem? (i := 40) rfl) rfl⟩
set_option maxRecDepth 20000 in
theorem s_yRe_changesBetween : gb_Mi yRe_changesBetween 2 := ⟨⟨⟨by decide +kernel, by decide +kernel⟩, by decide +kernel, by decide +kernel⟩, gb_t4 (List.mem_of_getElem? (i := 199) rfl) rfl, n_Re, gb_t4 (List.mem_of_getElem? (i := 197) rfl) rfl, gb_t4 (List.mem_of_getElem? (i := 198) rfl) rfl⟩
set_option maxRecDepth 20000 in
theorem s_yGb_candles : gb_Mi yGb_candles 3 := ⟨⟨⟨by decide +kernel, by decide +kernel⟩, by decide +kernel, by decide +kernel⟩, gb_t4 (List.mem_of_getElem? (i := 204) rfl) rfl, n_Gb, gb_t4 (List.mem_of_getElem? (i := 202) rfl) rfl, gb_t4 (List.mem_of_getElem? (i := 203) rfl) rfl⟩
set_option maxRecDepth 20000 in
theorem s_ySe_moreCandles : gb_Mi ySe_moreCandles 2 := ⟨⟨⟨by decide +kernel, by decide +kernel⟩, by decide +kernel, by decide +kernel⟩, gb_t4 (List.mem_of_getElem? (i := 208) rfl) rfl, n_Se, gb_t4 (List.mem_of_getElem? (i := 206) rfl) rfl, gb_t4 (List.mem_of_getElem? (i := 207) rfl) rfl⟩
set_option maxRecDepth 20000 in
theorem s_yJi_bitCount : gb_Ms yJi_bitCount 1 := ⟨⟨⟨by decide +kernel, by decide +kernel⟩, by decide +kernel, by decide +kernel⟩, gb_t4 (List.mem_of_getElem? (i := 211) rfl) rfl, n_Ji, gb_t4 (List.mem_of_getElem? (i := 210) rfl) rfl⟩
set_option maxRecDepth 20000 in
theorem s_yGb_stained : gb_Mi yGb_stained 1 := ⟨⟨⟨by decide +kernel, by decide +kernel⟩, by decide +kernel, by decide +kernel⟩, gb_t4 (List.mem_of_getElem? (i := 218) rfl) rfl, n_Gb, gb_t4 (List.mem_of_getElem? (i := 216) rfl) rfl, gb_t4 (List.mem_of_getElem? (i := 217) rfl) rfl⟩
set_option maxRecDepth 20000 in
theorem s_ySe_stainsJoined : gb_Mi ySe_stainsJoined 1 := ⟨⟨⟨by decide +kernel, by decide +kernel⟩, by decide +kernel, by decide +kernel⟩, gb_t4 (List.mem_of_getElem? (i := 222) rfl) rfl, n_Se, gb_t4 (List.mem_of_getElem? (i := 220) rfl) rfl, gb_t4 (List.mem_of_getElem? (i := 221) rfl) rfl⟩
set_option maxRecDepth 20000 in
theorem s_yGb_convoy : gb_Mi yGb_convoy 2 := ⟨⟨⟨by decide +kernel, by decide +kernel⟩, by decide +kernel, by decide +kernel⟩, gb_t4 (List.mem_of_getElem? (i := 226) rfl) rfl, n_Gb, gb_t4 (List.mem_of_getElem? (i := 224) rfl) rfl, gb_t4 (List.mem_of_getElem? (i := 225) rfl) rfl⟩
set_option maxRecDepth 20000 in
theorem s_yRo_hasFirst : gb_Mi yRo_hasFirst 1 := ⟨⟨⟨by decide +kernel, by decide +kernel⟩, by decide +kernel, by decide +kernel⟩, gb_t4 (List.mem_of_getElem? (i := 230) rfl) rfl, n_Ro, gb_t4 (List.mem_of_getElem? (i := 228) rfl) rfl, gb_t4 (List.mem_of_getElem? (i := 229) rfl) rfl⟩
set_option maxRecDepth 20000 in
theorem s_yGb_meets : gb_Mi yGb_meets 1 := ⟨⟨⟨by decide +kernel, by decide +kernel⟩, by decide +kernel, by decide +kernel⟩, gb_t4 (List.mem_of_getElem? (i := 235) rfl) rfl, n_Gb, gb_t4 (List.mem_of_getElem? (i := 233) rfl) rfl, gb_t4 (List.mem_of_getElem? (i := 234) rfl) rfl⟩
set_option maxRecDepth 20000 in
theorem s_yRe_meetings : gb_Mi yRe_meetings 2 := ⟨⟨⟨by decide +kernel, by decide +kernel⟩, by decide +kernel, by decide +kernel⟩, gb_t4 (List.mem_of_getElem? (i := 239) rfl) rfl, n_Re, gb_t4 (List.mem_of_getElem? (i := 237) rfl) rfl, gb_t4 (List.mem_of_getElem? (i := 238) rfl) rfl⟩
set_option maxRecDepth 20000 in
theorem s_yGb_flag : gb_Mi yGb_flag 1 := ⟨⟨⟨by decide +kernel, by decide +kernel⟩, by decide +kernel, by decide +kernel⟩, gb_t5 (List.mem_of_getElem? (i := 3) rfl) rfl, n_Gb, gb_t5 (List.mem_of_getElem? (i := 1) rfl) rfl, gb_t5 (List.mem_of_getElem? (i := 2) rfl) rfl⟩
set_option maxRecDepth 20000 in
theorem s_yGb_spoons : gb_Mi yGb_spoons 2 := ⟨⟨⟨by decide +kernel, by decide +kernel⟩, by decide +kernel, by decide +kernel⟩, gb_t5 (List.mem_of_getElem? (i := 7) rfl) rfl, n_Gb, gb_t5 (List.mem_of_getElem? (i := 5) rfl) rfl, gb_t5 (List.mem_of_getElem? (i := 6) rfl) rfl⟩
set_option maxRecDepth 20000 in
theorem s_yRe_nearestFlag : gb_Mi yRe_nearestFlag 2 := ⟨⟨⟨by decide +kernel, by decide +kernel⟩, by decide +kernel, by decide +kernel⟩, gb_t5 (List.mem_of_getElem? (i := 11) rfl) rfl, n_Re, gb_t5 (List.mem_of_getElem? (i := 9) rfl) rfl, gb_t5 (List.mem_of_getElem? (i := 10) rfl) rfl⟩
set_option maxRecDepth 20000 in
theorem s_yRe_said : gb_Mi yRe_said 1 := ⟨⟨⟨by decide +kernel, by decide +kernel⟩, by decide +kernel, by decide +kernel⟩, gb_t5 (List.mem_of_getElem? (i := 16) rfl) rfl, n_Re, gb_t5 (List.mem_of_getElem? (i := 14) rfl) rfl, gb_t5 (List.mem_of_getElem? (i := 15) rfl) rfl⟩
set_option maxRecDepth 20000 in
theorem s_yRe_wrongRows : gb_Mi yRe_wrongRows 1 := ⟨⟨⟨by decide +kernel, by decide +kernel⟩, by decide +kernel, by decide +kernel⟩, gb_t5 (List.mem_of_getElem? (i := 20) rfl) rfl, n_Re, gb_t5 (List.mem_of_getElem? (i := 18) rfl) rfl, gb_t5 (List.mem_of_getElem? (i := 19) rfl) rfl⟩
set_option maxRecDepth 20000 in
theorem s_yGb_treaty : gb_Mi yGb_treaty 3 := ⟨⟨⟨by decide +kernel, by decide +kernel⟩, by decide +kernel, by decide +kernel⟩, gb_t5 (List.mem_of_getElem? (i := 24) rfl) rfl, n_Gb, gb_t5 (List.mem_of_getElem? (i := 22) rfl) rfl, gb_t5 (List.mem_of_getElem? (i := 23) rfl) rfl⟩
set_option maxRecDepth 20000 in
theorem s_yRe_lumpings : gb_Mi yRe_lumpings 3 := ⟨⟨⟨by decide +kernel, by decide +kernel⟩, by decide +kernel, by decide +kernel⟩, gb_t5 (List.mem_of_getElem? (i := 28) rfl) rfl, n_Re, gb_t5 (List.mem_of_getElem? (i := 26) rfl) rfl, gb_t5 (List.mem_of_getElem? (i := 27) rfl) rfl⟩
set_option maxRecDepth 20000 in
theorem s_yGb_gives : gb_Mi yGb_gives 2 := ⟨⟨⟨by decide +kernel, by decide +kernel⟩, by decide +kernel, by decide +kernel⟩, gb_t5 (List.mem_of_getElem? (i := 33) rfl) rfl, n_Gb, gb_t5 (List.mem_of_getElem? (i := 31) rfl) rfl, gb_t5 (List.mem_of_getElem? (i := 32) rfl) rfl⟩
set_option maxRecDepth 20000 in
theorem s_yGb_way : gb_Mi yGb_way 1 := ⟨⟨⟨by decide +kernel, by decide +kernel⟩, by decide +kernel, by decide +kernel⟩, gb_t5 (List.mem_of_getElem? (i := 37) rfl) rfl, n_Gb, gb_t5 (List.mem_of_getElem? (i := 35) rfl) rfl, gb_t5 (List.mem_of_getElem? (i := 36) rfl) rfl⟩
set_option maxRecDepth 20000 in
theorem s_yRe_firstOnes : gb_Mi yRe_firstOnes 1 := ⟨⟨⟨by decide +kernel, by decide +kernel⟩, by decide +kernel, by decide +kernel⟩, gb_t5 (List.mem_of_getElem? (i := 41) rfl) rfl, n_Re, gb_t5 (List.mem_of_getElem? (i := 39) rfl) rfl, gb_t5 (List.mem_of_getElem? (i := 40) rfl) rfl⟩
set_option maxRecDepth 20000 in
theorem s_yRe_roundGoers : gb_Mi yRe_roundGoers 1 := ⟨⟨⟨by decide +kernel, by decide +kernel⟩, by decide +kernel, by decide +kernel⟩, gb_t5 (List.mem_of_getElem? (i := 45) rfl) rfl, n_Re, gb_t5 (List.mem_of_getElem? (i := 43) rfl) rfl, gb_t5 (List.mem_of_getElem? (i := 44) rfl) rfl⟩
set_option maxRecDepth 20000 in
theorem s_yGb_cloth : gb_Mi yGb_cloth 2 := ⟨⟨⟨by decide +kernel, by decide +kernel⟩, by decide +kernel, by decide +kernel⟩, gb_t5 (List.mem_of_getElem? (i := 49) rfl) rfl, n_Gb, gb_t5 (List.mem_of_getElem? (i := 47) rfl) rfl, gb_t5 (List.mem_of_getElem? (i := 48) rfl) rfl⟩
set_option maxRecDepth 20000 in
theorem s_yGb_free : gb_Mi yGb_free 2 := ⟨⟨⟨by decide +kernel, by decide +kernel⟩, by decide +kernel, by decide +kernel⟩, gb_t5 (List.mem_of_getElem? (i := 53) rfl) rfl, n_Gb, gb_t5 (List.mem_of_getElem? (i := 51) rfl) rfl, gb_t5 (List.mem_of_getElem? (i := 52) rfl) rfl⟩
set_option maxRecDepth 20000 in
theorem s_yRe_freeHour : gb_Mi yRe_freeHour 2 := ⟨⟨⟨by decide +kernel, by decide +kernel⟩, by decide +kernel, by decide +kernel⟩, gb_t5 (List.mem_of_getElem? (i := 57) rfl) rfl, n_Re, gb_t5 (List.mem_of_getElem? (i := 55) rfl) rfl, gb_t5 (List.mem_of_getElem? (i := 56) rfl) rfl⟩
set_option maxRecDepth 20000 in
theorem s_yRe_inTheWay : gb_Mi yRe_inTheWay 3 := ⟨⟨⟨by decide +kernel, by decide +kernel⟩, by decide +kernel, by decide +kernel⟩, gb_t5 (List.mem_of_getElem? (i := 61) rfl) rfl, n_Re, gb_t5 (List.mem_of_getElem? (i := 60) rfl) rfl, gb_t0 (List.mem_of_getElem? (i := 41) rfl) rfl⟩
set_option maxRecDepth 20000 in
theorem s_yRe_fewestGivenUp : gb_Mi yRe_fewestGivenUp 2 := ⟨⟨⟨by decide +kernel, by decide +kernel⟩, by decide +kernel, by decide +kernel⟩, gb_t5 (List.mem_of_getElem? (i := 65) rfl) rfl, n_Re, gb_t5 (List.mem_of_getElem? (i := 63) rfl) rfl, gb_t5 (List.mem_of_getElem? (i := 64) rfl) rfl⟩
set_option maxRecDepth 20000 in
theorem s_yGb_report : gb_Mi yGb_report 2 := ⟨⟨⟨by decide +kernel, by decide +kernel⟩, by decide +kernel, by decide +kernel⟩, gb_t5 (List.mem_of_getElem? (i := 69) rfl) rfl, n_Gb, gb_t5 (List.mem_of_getElem? (i := 67) rfl) rfl, gb_t5 (List.mem_of_getElem? (i := 68) rfl) rfl⟩
set_option maxRecDepth 20000 in
theorem s_yGb_sprouts : gb_Mi yGb_sprouts 1 := ⟨⟨⟨by decide +kernel, by decide +kernel⟩, by decide +kernel, by decide +kernel⟩, gb_t5 (List.mem_of_getElem? (i := 73) rfl) rfl, n_Gb, gb_t5 (List.mem_of_getElem? (i := 71) rfl) rfl, gb_t5 (List.mem_of_getElem? (i := 72) rfl) rfl⟩
set_option maxRecDepth 20000 in
theorem s_yRe_believed : gb_Mi yRe_believed 2 := ⟨⟨⟨by decide +kernel, by decide +kernel⟩, by decide +kernel, by decide +kernel⟩, gb_t5 (List.mem_of_getElem? (i := 77) rfl) rfl, n_Re, gb_t5 (List.mem_of_getElem? (i := 75) rfl) rfl, gb_t5 (List.mem_of_getElem? (i := 76) rfl) rfl⟩
set_option maxRecDepth 20000 in
theorem s_yGb_jar : gb_Mi yGb_jar 2 := ⟨⟨⟨by decide +kernel, by decide +kernel⟩, by decide +kernel, by decide +kernel⟩, gb_t5 (List.mem_of_getElem? (i := 81) rfl) rfl, n_Gb, gb_t5 (List.mem_of_getElem? (i := 79) rfl) rfl, gb_t5 (List.mem_of_getElem? (i := 80) rfl) rfl⟩
set_option maxRecDepth 20000 in
theorem s_yGb_stowed : gb_Mi yGb_stowed 3 := ⟨⟨⟨by decide +kernel, by decide +kernel⟩, by decide +kernel, by decide +kernel⟩, gb_t5 (List.mem_of_getElem? (i := 85) rfl) rfl, n_Gb, gb_t5 (List.mem_of_getElem? (i := 83) rfl) rfl, gb_t5 (List.mem_of_getElem? (i := 84) rfl) rfl⟩
set_option maxRecDepth 20000 in
theorem s_yRe_stowing : gb_Mi yRe_stowing 4 := ⟨⟨⟨by decide +kernel, by decide +kernel⟩, by decide +kernel, by decide +kernel⟩, gb_t5 (List.mem_of_getElem? (i := 89) rfl) rfl, n_Re, gb_t5 (List.mem_of_getElem? (i := 87) rfl) rfl, gb_t5 (List.mem_of_getElem? (i := 88) rfl) rfl⟩
set_option maxRecDepth 20000 in
theorem s_yRe_partFor : gb_Mi yRe_partFor 3 := ⟨⟨⟨by decide +kernel, by decide +kernel⟩, by decide +kernel, by decide +kernel⟩, gb_t5 (List.mem_of_getElem? (i := 93) rfl) rfl, n_Re, gb_t5 (List.mem_of_getElem? (i := 92) rfl) rfl, gb_t0 (List.mem_of_getElem? (i := 42) rfl) rfl⟩
set_option maxRecDepth 20000 in
theorem s_yGb_game : gb_Mi yGb_game 1 := ⟨⟨⟨by decide +kernel, by decide +kernel⟩, by decide +kernel, by decide +kernel⟩, gb_t5 (List.mem_of_getElem? (i := 97) rfl) rfl, n_Gb, gb_t5 (List.mem_of_getElem? (i := 95) rfl) rfl, gb_t5 (List.mem_of_getElem? (i := 96) rfl) rfl⟩
set_option maxRecDepth 20000 in
theorem s_ySe_ladling : gb_Mi ySe_ladling 1 := ⟨⟨⟨by decide +kernel, by decide +kernel⟩, by decide +kernel, by decide +kernel⟩, gb_t5 (List.mem_of_getElem? (i := 101) rfl) rfl, n_Se, gb_t5 (List.mem_of_getElem? (i := 99) rfl) rfl, gb_t5 (List.mem_of_getElem? (i := 100) rfl) rfl⟩
set_option maxRecDepth 20000 in
theorem s_ySe_nimberOf : gb_Ms ySe_nimberOf 1 := ⟨⟨⟨by decide +kernel, by decide +kernel⟩, by decide +kernel, by decide +kernel⟩, gb_t5 (List.mem_of_getElem? (i := 104) rfl) rfl, n_Se, gb_t5 (List.mem_of_getElem? (i := 103) rfl) rfl⟩
set_option maxRecDepth 20000 in
theorem s_yGb_undo : gb_Mi yGb_undo 0 := ⟨⟨⟨by decide +kernel, by decide +kernel⟩, by decide +kernel, by decide +kernel⟩, gb_t5 (List.mem_of_getElem? (i := 108) rfl) rfl, n_Gb, gb_t5 (List.mem_of_getElem? (i := 106) rfl) rfl, gb_t5 (List.mem_of_getElem? (i := 107) rfl) rfl⟩
set_option maxRecDepth 20000 in
theorem s_yPa_goBack : gb_Mi yPa_goBack 1 := ⟨⟨⟨by decide +kernel, by decide +kernel⟩, by decide +kernel, by decide +kernel⟩, gb_t5 (List.mem_of_getElem? (i := 112) rfl) rfl, n_Pa, gb_t5 (List.mem_of_getElem? (i := 110) rfl) rfl, gb_t5 (List.mem_of_getElem? (i := 111) rfl) rfl⟩
set_option maxRecDepth 20000 in
theorem s_yGb_image : gb_Mi yGb_image 1 := ⟨⟨⟨by decide +kernel, by decide +kernel⟩, by decide +kernel, by decide +kernel⟩, gb_t5 (List.mem_of_getElem? (i := 116) rfl) rfl, n_Gb, gb_t5 (List.mem_of_getElem? (i := 114) rfl) rfl, gb_t5 (List.mem_of_getElem? (i := 115) rfl) rfl⟩
set_option maxRecDepth 20000 in
theorem s_yWo_copyFrom : gb_Mi yWo_copyFrom 1 := ⟨⟨⟨by decide +kernel, by decide +kernel⟩, by decide +kernel, by decide +kernel⟩, gb_t5 (List.mem_of_getElem? (i := 120) rfl) rfl, n_Wo, gb_t5 (List.mem_of_getElem? (i := 118) rfl) rfl, gb_t5 (List.mem_of_getElem? (i := 119) rfl) rfl⟩
set_option maxRecDepth 20000 in
theorem s_yGb_look : gb_Mi yGb_look 1 := ⟨⟨⟨by decide +kernel, by decide +kernel⟩, by decide +kernel, by decide +kernel⟩, gb_t5 (List.mem_of_getElem? (i := 127) rfl) rfl, n_Gb, gb_t5 (List.mem_of_getElem? (i := 125) rfl) rfl, gb_t5 (List.mem_of_getElem? (i := 126) rfl) rfl⟩
set_option maxRecDepth 20000 in
theorem s_yMo_init : gb_Mc yMo_init 0 := ⟨⟨⟨by decide +kernel, by decide +kernel⟩, by decide +kernel, by decide +kernel⟩, gb_t5 (List.mem_of_getElem? (i := 132) rfl) rfl, n_Mo, gb_t5 (List.mem_of_getElem? (i := 131) rfl) rfl, rfl, rfl⟩
set_option maxRecDepth 20000 in
theorem s_yMo_undo : gb_Mi yMo_undo 0 := ⟨⟨⟨by decide +kernel, by decide +kernel⟩, by decide +kernel, by decide +kernel⟩, gb_t6 (List.mem_of_getElem? (i := 111) rfl) rfl, n_Mo, gb_t6 (List.mem_of_getElem? (i := 109) rfl) rfl, gb_t6 (List.mem_of_getElem? (i := 110) rfl) rfl⟩
set_option maxRecDepth 20000 in
theorem s_yMo_state : gb_Mi yMo_state 1 := ⟨⟨⟨by decide +kernel, by decide +kernel⟩, by decide +kernel, by decide +kernel⟩, gb_t6 (List.mem_of_getElem? (i := 115) rfl) rfl, n_Mo, gb_t6 (List.mem_of_getElem? (i := 113) rfl) rfl, gb_t6 (List.mem_of_getElem? (i := 114) rfl) rfl⟩
set_option maxRecDepth 20000 in
theorem s_yMo_boat : gb_Mi yMo_boat 4 := ⟨⟨⟨by decide +kernel, by decide +kernel⟩, by decide +kernel, by decide +kernel⟩, gb_t6 (List.mem_of_getElem? (i := 119) rfl) rfl, n_Mo, gb_t6 (List.mem_of_getElem? (i := 117) rfl) rfl, gb_t6 (List.mem_of_getElem? (i := 118) rfl) rfl⟩
set_option maxRecDepth 20000 in
theorem s_yMo_isIn : gb_Mi yMo_isIn 3 := ⟨⟨⟨by decide +kernel, by decide +kernel⟩, by decide +kernel, by decide +kernel⟩, gb_t6 (List.mem_of_getElem? (i := 123) rfl) rfl, n_Mo, gb_t6 (List.mem_of_getElem? (i := 122) rfl) rfl, gb_t0 (List.mem_of_getElem? (i := 43) rfl) rfl⟩
set_option maxRecDepth 20000 in
theorem s_yMo_isSeat : gb_Mi yMo_isSeat 1 := ⟨⟨⟨by decide +kernel, by decide +kernel⟩, by decide +kernel, by decide +kernel⟩, gb_t6 (List.mem_of_getElem? (i := 127) rfl) rfl, n_Mo, gb_t6 (List.mem_of_getElem? (i := 126) rfl) rfl, gb_t0 (List.mem_of_getElem? (i := 44) rfl) rfl⟩
set_option maxRecDepth 20000 in
theorem s_yMo_shoreOf : gb_Mi yMo_shoreOf 1 := ⟨⟨⟨by decide +kernel, by decide +kernel⟩, by decide +kernel, by decide +kernel⟩, gb_t6 (List.mem_of_getElem? (i := 131) rfl) rfl, n_Mo, gb_t6 (List.mem_of_getElem? (i := 130) rfl) rfl, gb_t0 (List.mem_of_getElem? (i := 45) rfl) rfl⟩
set_option maxRecDepth 20000 in
theorem s_yMo_set : gb_Mi yMo_set 3 := ⟨⟨⟨by decide +kernel, by decide +kernel⟩, by decide +kernel, by decide +kernel⟩, gb_t6 (List.mem_of_getElem? (i := 135) rfl) rfl, n_Mo, gb_t6 (List.mem_of_getElem? (i := 133) rfl) rfl, gb_t6 (List.mem_of_getElem? (i := 134) rfl) rfl⟩
set_option maxRecDepth 20000 in
theorem s_yMo_canSet : gb_Mi yMo_canSet 3 := ⟨⟨⟨by decide +kernel, by decide +kernel⟩, by decide +kernel, by decide +kernel⟩, gb_t6 (List.mem_of_getElem? (i := 139) rfl) rfl, n_Mo, gb_t6 (List.mem_of_getElem? (i := 138) rfl) rfl, gb_t0 (List.mem_of_getElem? (i := 46) rfl) rfl⟩
set_option maxRecDepth 20000 in
theorem s_yMo_isBoat : gb_Mi yMo_isBoat 1 := ⟨⟨⟨by decide +kernel, by decide +kernel⟩, by decide +kernel, by decide +kernel⟩, gb_t6 (List.mem_of_getElem? (i := 143) rfl) rfl, n_Mo, gb_t6 (List.mem_of_getElem? (i := 142) rfl) rfl, gb_t0 (List.mem_of_getElem? (i := 47) rfl) rfl⟩
set_option maxRecDepth 20000 in
theorem s_yMo_feed : gb_Mi yMo_feed 5 := ⟨⟨⟨by decide +kernel, by decide +kernel⟩, by decide +kernel, by decide +kernel⟩, gb_t6 (List.mem_of_getElem? (i := 147) rfl) rfl, n_Mo, gb_t6 (List.mem_of_getElem? (i := 145) rfl) rfl, gb_t6 (List.mem_of_getElem? (i := 146) rfl) rfl⟩
set_option maxRecDepth 20000 in
theorem s_yMo_types : gb_Mi yMo_types 1 := ⟨⟨⟨by decide +kernel, by decide +kernel⟩, by decide +kernel, by decide +kernel⟩, gb_t6 (List.mem_of_getElem? (i := 151) rfl) rfl, n_Mo, gb_t6 (List.mem_of_getElem? (i := 150) rfl) rfl, gb_t0 (List.mem_of_getElem? (i := 48) rfl) rfl⟩
set_option maxRecDepth 20000 in
theorem s_yMo_end : gb_Mi yMo_end 1 := ⟨⟨⟨by decide +kernel, by decide +kernel⟩, by decide +kernel, by decide +kernel⟩, gb_t6 (List.mem_of_getElem? (i := 155) rfl) rfl, n_Mo, gb_t6 (List.mem_of_getElem? (i := 153) rfl) rfl, gb_t6 (List.mem_of_getElem? (i := 154) rfl) rfl⟩
set_option maxRecDepth 20000 in
theorem s_yMo_text : gb_Mi yMo_text 1 := ⟨⟨⟨by decide +kernel, by decide +kernel⟩, by decide +kernel, by decide +kernel⟩, gb_t6 (List.mem_of_getElem? (i := 159) rfl) rfl, n_Mo, gb_t6 (List.mem_of_getElem? (i := 157) rfl) rfl, gb_t6 (List.mem_of_getElem? (i := 158) rfl) rfl⟩
set_option maxRecDepth 20000 in
theorem s_yMo_readsText : gb_Mi yMo_readsText 1 := ⟨⟨⟨by decide +kernel, by decide +kernel⟩, by decide +kernel, by decide +kernel⟩, gb_t6 (List.mem_of_getElem? (i := 163) rfl) rfl, n_Mo, gb_t6 (List.mem_of_getElem? (i := 162) rfl) rfl, gb_t0 (List.mem_of_getElem? (i := 49) rfl) rfl⟩
set_option maxRecDepth 20000 in
theorem s_yMo_reads : gb_Mi yMo_reads 0 := ⟨⟨⟨by decide +kernel, by decide +kernel⟩, by decide +kernel, by decide +kernel⟩, gb_t6 (List.mem_of_getElem? (i := 167) rfl) rfl, n_Mo, gb_t6 (List.mem_of_getElem? (i := 166) rfl) rfl, gb_t0 (List.mem_of_getElem? (i := 50) rfl) rfl⟩
set_option maxRecDepth 20000 in
theorem s_yMo_raw : gb_Mi yMo_raw 1 := ⟨⟨⟨by decide +kernel, by decide +kernel⟩, by decide +kernel, by decide +kernel⟩, gb_t6 (List.mem_of_getElem? (i := 171) rfl) rfl, n_Mo, gb_t6 (List.mem_of_getElem? (i := 170) rfl) rfl, gb_t0 (List.mem_of_getElem? (i := 51) rfl) rfl⟩
set_option maxRecDepth 20000 in
theorem s_yMo_isLetter : gb_Mi yMo_isLetter 1 := ⟨⟨⟨by decide +kernel, by decide +kernel⟩, by decide +kernel, by decide +kernel⟩, gb_t6 (List.mem_of_getElem? (i := 175) rfl) rfl, n_Mo, gb_t6 (List.mem_of_getElem? (i := 174) rfl) rfl, gb_t0 (List.mem_of_getElem? (i := 52) rfl) rfl⟩
set_option maxRecDepth 20000 in
theorem s_yMo_wordAt : gb_Mi yMo_wordAt 2 := ⟨⟨⟨by decide +kernel, by decide +kernel⟩, by decide +kernel, by decide +kernel⟩, gb_t6 (List.mem_of_getElem? (i := 179) rfl) rfl, n_Mo, gb_t6 (List.mem_of_getElem? (i := 178) rfl) rfl, gb_t0 (List.mem_of_getElem? (i := 53) rfl) rfl⟩
set_option maxRecDepth 20000 in
theorem s_yMo_isDigit : gb_Mi yMo_isDigit 1 := ⟨⟨⟨by decide +kernel, by decide +kernel⟩, by decide +kernel, by decide +kernel⟩, gb_t6 (List.mem_of_getElem? (i := 183) rfl) rfl, n_Mo, gb_t6 (List.mem_of_getElem? (i := 182) rfl) rfl, gb_t0 (List.mem_of_getElem? (i := 54) rfl) rfl⟩
set_option maxRecDepth 20000 in
theorem s_yMo_isMarkSign : gb_Mi yMo_isMarkSign 1 := ⟨⟨⟨by decide +kernel, by decide +kernel⟩, by decide +kernel, by decide +kernel⟩, gb_t6 (List.mem_of_getElem? (i := 187) rfl) rfl, n_Mo, gb_t6 (List.mem_of_getElem? (i := 186) rfl) rfl, gb_t0 (List.mem_of_getElem? (i := 55) rfl) rfl⟩
set_option maxRecDepth 20000 in
theorem s_yMo_readVoyages : gb_Mi yMo_readVoyages 0 := ⟨⟨⟨by decide +kernel, by decide +kernel⟩, by decide +kernel, by decide +kernel⟩, gb_t6 (List.mem_of_getElem? (i := 191) rfl) rfl, n_Mo, gb_t6 (List.mem_of_getElem? (i := 190) rfl) rfl, gb_t0 (List.mem_of_getElem? (i := 56) rfl) rfl⟩
set_option maxRecDepth 20000 in
theorem s_yMo_isWord : gb_Mi yMo_isWord 1 := ⟨⟨⟨by decide +kernel, by decide +kernel⟩, by decide +kernel, by decide +kernel⟩, gb_t6 (List.mem_of_getElem? (i := 195) rfl) rfl, n_Mo, gb_t6 (List.mem_of_getElem? (i := 194) rfl) rfl, gb_t0 (List.mem_of_getElem? (i := 57) rfl) rfl⟩
set_option maxRecDepth 20000 in
theorem s_yMo_errs : gb_Mi yMo_errs 1 := ⟨⟨⟨by decide +kernel, by decide +kernel⟩, by decide +kernel, by decide +kernel⟩, gb_t6 (List.mem_of_getElem? (i := 199) rfl) rfl, n_Mo, gb_t6 (List.mem_of_getElem? (i := 198) rfl) rfl, gb_t0 (List.mem_of_getElem? (i := 58) rfl) rfl⟩
set_option maxRecDepth 20000 in
theorem s_yMo_readTold : gb_Mi yMo_readTold 3 := ⟨⟨⟨by decide +kernel, by decide +kernel⟩, by decide +kernel, by decide +kernel⟩, gb_t6 (List.mem_of_getElem? (i := 203) rfl) rfl, n_Mo, gb_t6 (List.mem_of_getElem? (i := 202) rfl) rfl, gb_t0 (List.mem_of_getElem? (i := 59) rfl) rfl⟩
set_option maxRecDepth 20000 in
theorem s_yMo_readNumber : gb_Mi yMo_readNumber 2 := ⟨⟨⟨by decide +kernel, by decide +kernel⟩, by decide +kernel, by decide +kernel⟩, gb_t6 (List.mem_of_getElem? (i := 207) rfl) rfl, n_Mo, gb_t6 (List.mem_of_getElem? (i := 206) rfl) rfl, gb_t0 (List.mem_of_getElem? (i := 60) rfl) rfl⟩
set_option maxRecDepth 20000 in
theorem s_yMo_readMark : gb_Mi yMo_readMark 1 := ⟨⟨⟨by decide +kernel, by decide +kernel⟩, by decide +kernel, by decide +kernel⟩, gb_t6 (List.mem_of_getElem? (i := 211) rfl) rfl, n_Mo, gb_t6 (List.mem_of_getElem? (i := 210) rfl) rfl, gb_t0 (List.mem_of_getElem? (i := 61) rfl) rfl⟩
set_option maxRecDepth 20000 in
theorem s_yMo_isSign : gb_Mi yMo_isSign 1 := ⟨⟨⟨by decide +kernel, by decide +kernel⟩, by decide +kernel, by decide +kernel⟩, gb_t6 (List.mem_of_getElem? (i := 215) rfl) rfl, n_Mo, gb_t6 (List.mem_of_getElem? (i := 214) rfl) rfl, gb_t0 (List.mem_of_getElem? (i := 62) rfl) rfl⟩
set_option maxRecDepth 20000 in
theorem s_yMo_readDinner : gb_Mi yMo_readDinner 0 := ⟨⟨⟨by decide +kernel, by decide +kernel⟩, by decide +kernel, by decide +kernel⟩, gb_t6 (List.mem_of_getElem? (i := 219) rfl) rfl, n_Mo, gb_t6 (List.mem_of_getElem? (i := 218) rfl) rfl, gb_t0 (List.mem_of_getElem? (i := 63) rfl) rfl⟩
set_option maxRecDepth 20000 in
theorem s_yMo_readDeed : gb_Mi yMo_readDeed 1 := ⟨⟨⟨by decide +kernel, by decide +kernel⟩, by decide +kernel, by decide +kernel⟩, gb_t6 (List.mem_of_getElem? (i := 223) rfl) rfl, n_Mo, gb_t6 (List.mem_of_getElem? (i := 222) rfl) rfl, gb_t0 (List.mem_of_getElem? (i := 64) rfl) rfl⟩
set_option maxRecDepth 20000 in
theorem s_yMo_kindOfDeed : gb_Mi yMo_kindOfDeed 0 := ⟨⟨⟨by decide +kernel, by decide +kernel⟩, by decide +kernel, by decide +kernel⟩, gb_t6 (List.mem_of_getElem? (i := 227) rfl) rfl, n_Mo, gb_t6 (List.mem_of_getElem? (i := 226) rfl) rfl, gb_t0 (List.mem_of_getElem? (i := 65) rfl) rfl⟩
set_option maxRecDepth 20000 in
theorem s_yMo_mostFor : gb_Mi yMo_mostFor 1 := ⟨⟨⟨by decide +kernel, by decide +kernel⟩, by decide +kernel, by decide +kernel⟩, gb_t6 (List.mem_of_getElem? (i := 231) rfl) rfl, n_Mo, gb_t6 (List.mem_of_getElem? (i := 230) rfl) rfl, gb_t0 (List.mem_of_getElem? (i := 66) rfl) rfl⟩
set_option maxRecDepth 20000 in
theorem s_yMo_readReaches : gb_Mi yMo_readReaches 0 := ⟨⟨⟨by decide +kernel, by decide +kernel⟩, by decide +kernel, by decide +kernel⟩, gb_t6 (List.mem_of_getElem? (i := 235) rfl) rfl, n_Mo, gb_t6 (List.mem_of_getElem? (i := 234) rfl) rfl, gb_t0 (List.mem_of_getElem? (i := 67) rfl) rfl⟩
set_option maxRecDepth 20000 in
theorem s_yMo_readReach : gb_Mi yMo_readReach 0 := ⟨⟨⟨by decide +kernel, by decide +kernel⟩, by decide +kernel, by decide +kernel⟩, gb_t6 (List.mem_of_getElem? (i := 239) rfl) rfl, n_Mo, gb_t6 (List.mem_of_getElem? (i := 238) rfl) rfl, gb_t0 (List.mem_of_getElem? (i := 68) rfl) rfl⟩
set_option maxRecDepth 20000 in
theorem s_yMo_readLaw : gb_Mi yMo_readLaw 0 := ⟨⟨⟨by decide +kernel, by decide +kernel⟩, by decide +kernel, by decide +kernel⟩, gb_t7 (List.mem_of_getElem? (i := 3) rfl) rfl, n_Mo, gb_t7 (List.mem_of_getElem? (i := 2) rfl) rfl, gb_t0 (List.mem_of_getElem? (i := 69) rfl) rfl⟩
set_option maxRecDepth 20000 in
theorem s_yMo_isLineWord : gb_Mi yMo_isLineWord 0 := ⟨⟨⟨by decide +kernel, by decide +kernel⟩, by decide +kernel, by decide +kernel⟩, gb_t7 (List.mem_of_getElem? (i := 7) rfl) rfl, n_Mo, gb_t7 (List.mem_of_getElem? (i := 6) rfl) rfl, gb_t0 (List.mem_of_getElem? (i := 70) rfl) rfl⟩
set_option maxRecDepth 20000 in
theorem s_yMo_readSum : gb_Mi yMo_readSum 0 := ⟨⟨⟨by decide +kernel, by decide +kernel⟩, by decide +kernel, by decide +kernel⟩, gb_t7 (List.mem_of_getElem? (i := 11) rfl) rfl, n_Mo, gb_t7 (List.mem_of_getElem? (i := 10) rfl) rfl, gb_t0 (List.mem_of_getElem? (i := 71) rfl) rfl⟩
set_option maxRecDepth 20000 in
theorem s_yMo_readProduct : gb_Mi yMo_readProduct 0 := ⟨⟨⟨by decide +kernel, by decide +kernel⟩, by decide +kernel, by decide +kernel⟩, gb_t7 (List.mem_of_getElem? (i := 15) rfl) rfl, n_Mo, gb_t7 (List.mem_of_getElem? (i := 14) rfl) rfl, gb_t0 (List.mem_of_getElem? (i := 72) rfl) rfl⟩
set_option maxRecDepth 20000 in
theorem s_yMo_readUnit : gb_Mi yMo_readUnit 0 := ⟨⟨⟨by decide +kernel, by decide +kernel⟩, by decide +kernel, by decide +kernel⟩, gb_t7 (List.mem_of_getElem? (i := 19) rfl) rfl, n_Mo, gb_t7 (List.mem_of_getElem? (i := 18) rfl) rfl, gb_t0 (List.mem_of_getElem? (i := 73) rfl) rfl⟩
set_option maxRecDepth 20000 in
theorem s_yMo_canAsk : gb_Mi yMo_canAsk 1 := ⟨⟨⟨by decide +kernel, by decide +kernel⟩, by decide +kernel, by decide +kernel⟩, gb_t7 (List.mem_of_getElem? (i := 23) rfl) rfl, n_Mo, gb_t7 (List.mem_of_getElem? (i := 22) rfl) rfl, gb_t0 (List.mem_of_getElem? (i := 74) rfl) rfl⟩
set_option maxRecDepth 20000 in
theorem s_yMo_emits : gb_Mi yMo_emits 2 := ⟨⟨⟨by decide +kernel, by decide +kernel⟩, by decide +kernel, by decide +kernel⟩, gb_t7 (List.mem_of_getElem? (i := 27) rfl) rfl, n_Mo, gb_t7 (List.mem_of_getElem? (i := 26) rfl) rfl, gb_t0 (List.mem_of_getElem? (i := 75) rfl) rfl⟩
set_option maxRecDepth 20000 in
theorem s_yMo_readAny : gb_Mi yMo_readAny 0 := ⟨⟨⟨by decide +kernel, by decide +kernel⟩, by decide +kernel, by decide +kernel⟩, gb_t7 (List.mem_of_getElem? (i := 31) rfl) rfl, n_Mo, gb_t7 (List.mem_of_getElem? (i := 30) rfl) rfl, gb_t0 (List.mem_of_getElem? (i := 76) rfl) rfl⟩
set_option maxRecDepth 20000 in
theorem s_yMo_waits : gb_Mi yMo_waits 1 := ⟨⟨⟨by decide +kernel, by decide +kernel⟩, by decide +kernel, by decide +kernel⟩, gb_t7 (List.mem_of_getElem? (i := 35) rfl) rfl, n_Mo, gb_t7 (List.mem_of_getElem? (i := 34) rfl) rfl, gb_t0 (List.mem_of_getElem? (i := 77) rfl) rfl⟩
set_option maxRecDepth 20000 in
theorem s_yMo_readCompared : gb_Mi yMo_readCompared 0 := ⟨⟨⟨by decide +kernel, by decide +kernel⟩, by decide +kernel, by decide +kernel⟩, gb_t7 (List.mem_of_getElem? (i := 39) rfl) rfl, n_Mo, gb_t7 (List.mem_of_getElem? (i := 38) rfl) rfl, gb_t0 (List.mem_of_getElem? (i := 78) rfl) rfl⟩
set_option maxRecDepth 20000 in
theorem s_yMo_settles : gb_Mi yMo_settles 1 := ⟨⟨⟨by decide +kernel, by decide +kernel⟩, by decide +kernel, by decide +kernel⟩, gb_t7 (List.mem_of_getElem? (i := 43) rfl) rfl, n_Mo, gb_t7 (List.mem_of_getElem? (i := 42) rfl) rfl, gb_t0 (List.mem_of_getElem? (i := 79) rfl) rfl⟩
set_option maxRecDepth 20000 in
theorem s_yMo_takesLaw : gb_Mi yMo_takesLaw 1 := ⟨⟨⟨by decide +kernel, by decide +kernel⟩, by decide +kernel, by decide +kernel⟩, gb_t7 (List.mem_of_getElem? (i := 47) rfl) rfl, n_Mo, gb_t7 (List.mem_of_getElem? (i := 46) rfl) rfl, gb_t0 (List.mem_of_getElem? (i := 80) rfl) rfl⟩
set_option maxRecDepth 20000 in
theorem s_yMo_takesOther : gb_Mi yMo_takesOther 2 := ⟨⟨⟨by decide +kernel, by decide +kernel⟩, by decide +kernel, by decide +kernel⟩, gb_t7 (List.mem_of_getElem? (i := 51) rfl) rfl, n_Mo, gb_t7 (List.mem_of_getElem? (i := 50) rfl) rfl, gb_t0 (List.mem_of_getElem? (i := 81) rfl) rfl⟩
set_option maxRecDepth 20000 in
theorem s_yMo_fault : gb_Mi yMo_fault 1 := ⟨⟨⟨by decide +kernel, by decide +kernel⟩, by decide +kernel, by decide +kernel⟩, gb_t7 (List.mem_of_getElem? (i := 55) rfl) rfl, n_Mo, gb_t7 (List.mem_of_getElem? (i := 53) rfl) rfl, gb_t7 (List.mem_of_getElem? (i := 54) rfl) rfl⟩
set_option maxRecDepth 20000 in
theorem s_yMo_act : gb_Mi yMo_act 3 := ⟨⟨⟨by decide +kernel, by decide +kernel⟩, by decide +kernel, by decide +kernel⟩, gb_t7 (List.mem_of_getElem? (i := 59) rfl) rfl, n_Mo, gb_t7 (List.mem_of_getElem? (i := 57) rfl) rfl, gb_t7 (List.mem_of_getElem? (i := 58) rfl) rfl⟩
set_option maxRecDepth 20000 in
theorem s_yMo_canAct : gb_Mi yMo_canAct 3 := ⟨⟨⟨by decide +kernel, by decide +kernel⟩, by decide +kernel, by decide +kernel⟩, gb_t7 (List.mem_of_getElem? (i := 63) rfl) rfl, n_Mo, gb_t7 (List.mem_of_getElem? (i := 62) rfl) rfl, gb_t0 (List.mem_of_getElem? (i := 82) rfl) rfl⟩
set_option maxRecDepth 20000 in
theorem s_yMo_reachOf : gb_Mi yMo_reachOf 1 := ⟨⟨⟨by decide +kernel, by decide +kernel⟩, by decide +kernel, by decide +kernel⟩, gb_t7 (List.mem_of_getElem? (i := 67) rfl) rfl, n_Mo, gb_t7 (List.mem_of_getElem? (i := 66) rfl) rfl, gb_t0 (List.mem_of_getElem? (i := 83) rfl) rfl⟩
set_option maxRecDepth 20000 in
theorem s_yMo_has : gb_Mi yMo_has 2 := ⟨⟨⟨by decide +kernel, by decide +kernel⟩, by decide +kernel, by decide +kernel⟩, gb_t7 (List.mem_of_getElem? (i := 71) rfl) rfl, n_Mo, gb_t7 (List.mem_of_getElem? (i := 70) rfl) rfl, gb_t0 (List.mem_of_getElem? (i := 84) rfl) rfl⟩
set_option maxRecDepth 20000 in
theorem s_yMo_keepsAhead : gb_Mi yMo_keepsAhead 0 := ⟨⟨⟨by decide +kernel, by decide +kernel⟩, by decide +kernel, by decide +kernel⟩, gb_t7 (List.mem_of_getElem? (i := 75) rfl) rfl, n_Mo, gb_t7 (List.mem_of_getElem? (i := 74) rfl) rfl, gb_t0 (List.mem_of_getElem? (i := 85) rfl) rfl⟩
set_option maxRecDepth 20000 in
theorem s_yMo_notes : gb_Mi yMo_notes 3 := ⟨⟨⟨by decide +kernel, by decide +kernel⟩, by decide +kernel, by decide +kernel⟩, gb_t7 (List.mem_of_getElem? (i := 79) rfl) rfl, n_Mo, gb_t7 (List.mem_of_getElem? (i := 78) rfl) rfl, gb_t0 (List.mem_of_getElem? (i := 86) rfl) rfl⟩
set_option maxRecDepth 20000 in
theorem s_yMo_lands : gb_Mi yMo_lands 1 := ⟨⟨⟨by decide +kernel, by decide +kernel⟩, by decide +kernel, by decide +kernel⟩, gb_t7 (List.mem_of_getElem? (i := 83) rfl) rfl, n_Mo, gb_t7 (List.mem_of_getElem? (i := 82) rfl) rfl, gb_t0 (List.mem_of_getElem? (i := 87) rfl) rfl⟩
set_option maxRecDepth 20000 in
theorem s_yMo_isAshore : gb_Mi yMo_isAshore 1 := ⟨⟨⟨by decide +kernel, by decide +kernel⟩, by decide +kernel, by decide +kernel⟩, gb_t7 (List.mem_of_getElem? (i := 87) rfl) rfl, n_Mo, gb_t7 (List.mem_of_getElem? (i := 86) rfl) rfl, gb_t0 (List.mem_of_getElem? (i := 88) rfl) rfl⟩
set_option maxRecDepth 20000 in
theorem s_yMo_greater : gb_Mi yMo_greater 2 := ⟨⟨⟨by decide +kernel, by decide +kernel⟩, by decide +kernel, by decide +kernel⟩, gb_t7 (List.mem_of_getElem? (i := 91) rfl) rfl, n_Mo, gb_t7 (List.mem_of_getElem? (i := 90) rfl) rfl, gb_t0 (List.mem_of_getElem? (i := 89) rfl) rfl⟩
set_option maxRecDepth 20000 in
theorem s_yMo_salts : gb_Mi yMo_salts 1 := ⟨⟨⟨by decide +kernel, by decide +kernel⟩, by decide +kernel, by decide +kernel⟩, gb_t7 (List.mem_of_getElem? (i := 95) rfl) rfl, n_Mo, gb_t7 (List.mem_of_getElem? (i := 94) rfl) rfl, gb_t0 (List.mem_of_getElem? (i := 90) rfl) rfl⟩
set_option maxRecDepth 20000 in
theorem s_yMo_minutes : gb_Mi yMo_minutes 1 := ⟨⟨⟨by decide +kernel, by decide +kernel⟩, by decide +kernel, by decide +kernel⟩, gb_t7 (List.mem_of_getElem? (i := 99) rfl) rfl, n_Mo, gb_t7 (List.mem_of_getElem? (i := 97) rfl) rfl, gb_t7 (List.mem_of_getElem? (i := 98) rfl) rfl⟩
set_option maxRecDepth 20000 in
theorem s_yMo_goesBy : gb_Mi yMo_goesBy 0 := ⟨⟨⟨by decide +kernel, by decide +kernel⟩, by decide +kernel, by decide +kernel⟩, gb_t7 (List.mem_of_getElem? (i := 103) rfl) rfl, n_Mo, gb_t7 (List.mem_of_getElem? (i := 102) rfl) rfl, gb_t0 (List.mem_of_getElem? (i := 91) rfl) rfl⟩
set_option maxRecDepth 20000 in
theorem s_yMo_does : gb_Mi yMo_does 1 := ⟨⟨⟨by decide +kernel, by decide +kernel⟩, by decide +kernel, by decide +kernel⟩, gb_t7 (List.mem_of_getElem? (i := 107) rfl) rfl, n_Mo, gb_t7 (List.mem_of_getElem? (i := 106) rfl) rfl, gb_t0 (List.mem_of_getElem? (i := 92) rfl) rfl⟩
set_option maxRecDepth 20000 in
theorem s_yMo_isSkinned : gb_Mi yMo_isSkinned 1 := ⟨⟨⟨by decide +kernel, by decide +kernel⟩, by decide +kernel, by decide +kernel⟩, gb_t7 (List.mem_of_getElem? (i := 111) rfl) rfl, n_Mo, gb_t7 (List.mem_of_getElem? (i := 110) rfl) rfl, gb_t0 (List.mem_of_getElem? (i := 93) rfl) rfl⟩
set_option maxRecDepth 20000 in
theorem s_yMo_lesser : gb_Mi yMo_lesser 2 := ⟨⟨⟨by decide +kernel, by decide +kernel⟩, by decide +kernel, by decide +kernel⟩, gb_t7 (List.mem_of_getElem? (i := 115) rfl) rfl, n_Mo, gb_t7 (List.mem_of_getElem? (i := 114) rfl) rfl, gb_t0 (List.mem_of_getElem? (i := 94) rfl) rfl⟩
set_option maxRecDepth 20000 in
theorem s_yMo_goesOn : gb_Mi yMo_goesOn 1 := ⟨⟨⟨by decide +kernel, by decide +kernel⟩, by decide +kernel, by decide +kernel⟩, gb_t7 (List.mem_of_getElem? (i := 119) rfl) rfl, n_Mo, gb_t7 (List.mem_of_getElem? (i := 118) rfl) rfl, gb_t0 (List.mem_of_getElem? (i := 95) rfl) rfl⟩
set_option maxRecDepth 20000 in
theorem s_yMo_pours : gb_Mi yMo_pours 1 := ⟨⟨⟨by decide +kernel, by decide +kernel⟩, by decide +kernel, by decide +kernel⟩, gb_t7 (List.mem_of_getElem? (i := 123) rfl) rfl, n_Mo, gb_t7 (List.mem_of_getElem? (i := 122) rfl) rfl, gb_t0 (List.mem_of_getElem? (i := 96) rfl) rfl⟩
set_option maxRecDepth 20000 in
theorem s_yMo_poursOf : gb_Mi yMo_poursOf 1 := ⟨⟨⟨by decide +kernel, by decide +kernel⟩, by decide +kernel, by decide +kernel⟩, gb_t7 (List.mem_of_getElem? (i := 127) rfl) rfl, n_Mo, gb_t7 (List.mem_of_getElem? (i := 126) rfl) rfl, gb_t0 (List.mem_of_getElem? (i := 97) rfl) rfl⟩
set_option maxRecDepth 20000 in
theorem s_yMo_asks : gb_Mi yMo_asks 1 := ⟨⟨⟨by decide +kernel, by decide +kernel⟩, by decide +kernel, by decide +kernel⟩, gb_t7 (List.mem_of_getElem? (i := 131) rfl) rfl, n_Mo, gb_t7 (List.mem_of_getElem? (i := 130) rfl) rfl, gb_t0 (List.mem_of_getElem? (i := 98) rfl) rfl⟩
set_option maxRecDepth 20000 in
theorem s_yMo_steady : gb_Mi yMo_steady 1 := ⟨⟨⟨by decide +kernel, by decide +kernel⟩, by decide +kernel, by decide +kernel⟩, gb_t7 (List.mem_of_getElem? (i := 135) rfl) rfl, n_Mo, gb_t7 (List.mem_of_getElem? (i := 134) rfl) rfl, gb_t0 (List.mem_of_getElem? (i := 99) rfl) rfl⟩
set_option maxRecDepth 20000 in
theorem s_yMo_lawTells : gb_Mi yMo_lawTells 3 := ⟨⟨⟨by decide +kernel, by decide +kernel⟩, by decide +kernel, by decide +kernel⟩, gb_t7 (List.mem_of_getElem? (i := 139) rfl) rfl, n_Mo, gb_t7 (List.mem_of_getElem? (i := 138) rfl) rfl, gb_t0 (List.mem_of_getElem? (i := 100) rfl) rfl⟩
set_option maxRecDepth 20000 in
theorem s_yMo_lineOf : gb_Mi yMo_lineOf 1 := ⟨⟨⟨by decide +kernel, by decide +kernel⟩, by decide +kernel, by decide +kernel⟩, gb_t7 (List.mem_of_getElem? (i := 143) rfl) rfl, n_Mo, gb_t7 (List.mem_of_getElem? (i := 142) rfl) rfl, gb_t0 (List.mem_of_getElem? (i := 101) rfl) rfl⟩
set_option maxRecDepth 20000 in
theorem s_yMo_runs : gb_Mi yMo_runs 3 := ⟨⟨⟨by decide +kernel, by decide +kernel⟩, by decide +kernel, by decide +kernel⟩, gb_t7 (List.mem_of_getElem? (i := 147) rfl) rfl, n_Mo, gb_t7 (List.mem_of_getElem? (i := 146) rfl) rfl, gb_t0 (List.mem_of_getElem? (i := 102) rfl) rfl⟩
set_option maxRecDepth 20000 in
theorem s_yMo_twoOf : gb_Mi yMo_twoOf 3 := ⟨⟨⟨by decide +kernel, by decide +kernel⟩, by decide +kernel, by decide +kernel⟩, gb_t7 (List.mem_of_getElem? (i := 151) rfl) rfl, n_Mo, gb_t7 (List.mem_of_getElem? (i := 150) rfl) rfl, gb_t0 (List.mem_of_getElem? (i := 103) rfl) rfl⟩
set_option maxRecDepth 20000 in
theorem s_yMo_held : gb_Mi yMo_held 3 := ⟨⟨⟨by decide +kernel, by decide +kernel⟩, by decide +kernel, by decide +kernel⟩, gb_t7 (List.mem_of_getElem? (i := 155) rfl) rfl, n_Mo, gb_t7 (List.mem_of_getElem? (i := 154) rfl) rfl, gb_t0 (List.mem_of_getElem? (i := 104) rfl) rfl⟩
set_option maxRecDepth 20000 in
theorem s_yMo_passesOf : gb_Mi yMo_passesOf 1 := ⟨⟨⟨by decide +kernel, by decide +kernel⟩, by decide +kernel, by decide +kernel⟩, gb_t7 (List.mem_of_getElem? (i := 159) rfl) rfl, n_Mo, gb_t7 (List.mem_of_getElem? (i := 158) rfl) rfl, gb_t0 (List.mem_of_getElem? (i := 105) rfl) rfl⟩
set_option maxRecDepth 20000 in
theorem s_yMo_comes : gb_Mi yMo_comes 1 := ⟨⟨⟨by decide +kernel, by decide +kernel⟩, by decide +kernel, by decide +kernel⟩, gb_t7 (List.mem_of_getElem? (i := 163) rfl) rfl, n_Mo, gb_t7 (List.mem_of_getElem? (i := 162) rfl) rfl, gb_t0 (List.mem_of_getElem? (i := 106) rfl) rfl⟩
set_option maxRecDepth 20000 in
theorem s_yMo_draw : gb_Mi yMo_draw 1 := ⟨⟨⟨by decide +kernel, by decide +kernel⟩, by decide +kernel, by decide +kernel⟩, gb_t7 (List.mem_of_getElem? (i := 167) rfl) rfl, n_Mo, gb_t7 (List.mem_of_getElem? (i := 166) rfl) rfl, gb_t0 (List.mem_of_getElem? (i := 107) rfl) rfl⟩
set_option maxRecDepth 20000 in
theorem s_yMo_mightSpill : gb_Mi yMo_mightSpill 1 := ⟨⟨⟨by decide +kernel, by decide +kernel⟩, by decide +kernel, by decide +kernel⟩, gb_t7 (List.mem_of_getElem? (i := 173) rfl) rfl, n_Mo, gb_t7 (List.mem_of_getElem? (i := 172) rfl) rfl, gb_t0 (List.mem_of_getElem? (i := 108) rfl) rfl⟩
set_option maxRecDepth 20000 in
theorem s_yMo_spillsOf : gb_Mi yMo_spillsOf 1 := ⟨⟨⟨by decide +kernel, by decide +kernel⟩, by decide +kernel, by decide +kernel⟩, gb_t7 (List.mem_of_getElem? (i := 177) rfl) rfl, n_Mo, gb_t7 (List.mem_of_getElem? (i := 176) rfl) rfl, gb_t0 (List.mem_of_getElem? (i := 109) rfl) rfl⟩
set_option maxRecDepth 20000 in
theorem s_yMo_of : gb_Mi yMo_of 2 := ⟨⟨⟨by decide +kernel, by decide +kernel⟩, by decide +kernel, by decide +kernel⟩, gb_t7 (List.mem_of_getElem? (i := 181) rfl) rfl, n_Mo, gb_t7 (List.mem_of_getElem? (i := 179) rfl) rfl, gb_t7 (List.mem_of_getElem? (i := 180) rfl) rfl⟩
set_option maxRecDepth 20000 in
theorem s_yMo_seat : gb_Mi yMo_seat 2 := ⟨⟨⟨by decide +kernel, by decide +kernel⟩, by decide +kernel, by decide +kernel⟩, gb_t7 (List.mem_of_getElem? (i := 185) rfl) rfl, n_Mo, gb_t7 (List.mem_of_getElem? (i := 183) rfl) rfl, gb_t7 (List.mem_of_getElem? (i := 184) rfl) rfl⟩
set_option maxRecDepth 20000 in
theorem s_yMo_got : gb_Mi yMo_got 2 := ⟨⟨⟨by decide +kernel, by decide +kernel⟩, by decide +kernel, by decide +kernel⟩, gb_t7 (List.mem_of_getElem? (i := 189) rfl) rfl, n_Mo, gb_t7 (List.mem_of_getElem? (i := 187) rfl) rfl, gb_t7 (List.mem_of_getElem? (i := 188) rfl) rfl⟩
set_option maxRecDepth 20000 in
theorem s_yMo_book : gb_Mi yMo_book 2 := ⟨⟨⟨by decide +kernel, by decide +kernel⟩, by decide +kernel, by decide +kernel⟩, gb_t7 (List.mem_of_getElem? (i := 193) rfl) rfl, n_Mo, gb_t7 (List.mem_of_getElem? (i := 191) rfl) rfl, gb_t7 (List.mem_of_getElem? (i := 192) rfl) rfl⟩
set_option maxRecDepth 20000 in
theorem s_yMo_goes : gb_Mi yMo_goes 2 := ⟨⟨⟨by decide +kernel, by decide +kernel⟩, by decide +kernel, by decide +kernel⟩, gb_t7 (List.mem_of_getElem? (i := 197) rfl) rfl, n_Mo, gb_t7 (List.mem_of_getElem? (i := 195) rfl) rfl, gb_t7 (List.mem_of_getElem? (i := 196) rfl) rfl⟩
set_option maxRecDepth 20000 in
theorem s_yMo_thinks : gb_Mi yMo_thinks 0 := ⟨⟨⟨by decide +kernel, by decide +kernel⟩, by decide +kernel, by decide +kernel⟩, gb_t7 (List.mem_of_getElem? (i := 201) rfl) rfl, n_Mo, gb_t7 (List.mem_of_getElem? (i := 200) rfl) rfl, gb_t0 (List.mem_of_getElem? (i := 110) rfl) rfl⟩
set_option maxRecDepth 20000 in
theorem s_yMo_sumOf : gb_Mi yMo_sumOf 2 := ⟨⟨⟨by decide +kernel, by decide +kernel⟩, by decide +kernel, by decide +kernel⟩, gb_t7 (List.mem_of_getElem? (i := 205) rfl) rfl, n_Mo, gb_t7 (List.mem_of_getElem? (i := 204) rfl) rfl, gb_t0 (List.mem_of_getElem? (i := 111) rfl) rfl⟩
set_option maxRecDepth 20000 in
theorem s_yMo_endsThought : gb_Mi yMo_endsThought 0 := ⟨⟨⟨by decide +kernel, by decide +kernel⟩, by decide +kernel, by decide +kernel⟩, gb_t7 (List.mem_of_getElem? (i := 209) rfl) rfl, n_Mo, gb_t7 (List.mem_of_getElem? (i := 208) rfl) rfl, gb_t0 (List.mem_of_getElem? (i := 112) rfl) rfl⟩
set_option maxRecDepth 20000 in
theorem s_yMo_brings : gb_Mi yMo_brings 2 := ⟨⟨⟨by decide +kernel, by decide +kernel⟩, by decide +kernel, by decide +kernel⟩, gb_t7 (List.mem_of_getElem? (i := 213) rfl) rfl, n_Mo, gb_t7 (List.mem_of_getElem? (i := 211) rfl) rfl, gb_t7 (List.mem_of_getElem? (i := 212) rfl) rfl⟩
set_option maxRecDepth 20000 in
theorem s_yMo_landsIn : gb_Mi yMo_landsIn 1 := ⟨⟨⟨by decide +kernel, by decide +kernel⟩, by decide +kernel, by decide +kernel⟩, gb_t7 (List.mem_of_getElem? (i := 217) rfl) rfl, n_Mo, gb_t7 (List.mem_of_getElem? (i := 216) rfl) rfl, gb_t0 (List.mem_of_getElem? (i := 113) rfl) rfl⟩
set_option maxRecDepth 20000 in
theorem s_yMo_hands : gb_Mi yMo_hands 3 := ⟨⟨⟨by decide +kernel, by decide +kernel⟩, by decide +kernel, by decide +kernel⟩, gb_t7 (List.mem_of_getElem? (i := 221) rfl) rfl, n_Mo, gb_t7 (List.mem_of_getElem? (i := 219) rfl) rfl, gb_t7 (List.mem_of_getElem? (i := 220) rfl) rfl⟩
set_option maxRecDepth 20000 in
theorem s_yMo_findsHands : gb_Mi yMo_findsHands 1 := ⟨⟨⟨by decide +kernel, by decide +kernel⟩, by decide +kernel, by decide +kernel⟩, gb_t7 (List.mem_of_getElem? (i := 225) rfl) rfl, n_Mo, gb_t7 (List.mem_of_getElem? (i := 224) rfl) rfl, gb_t0 (List.mem_of_getElem? (i := 114) rfl) rfl⟩
set_option maxRecDepth 20000 in
theorem s_yMo_letter : gb_Mi yMo_letter 2 := ⟨⟨⟨by decide +kernel, by decide +kernel⟩, by decide +kernel, by decide +kernel⟩, gb_t7 (List.mem_of_getElem? (i := 230) rfl) rfl, n_Mo, gb_t7 (List.mem_of_getElem? (i := 228) rfl) rfl, gb_t7 (List.mem_of_getElem? (i := 229) rfl) rfl⟩
set_option maxRecDepth 20000 in
theorem s_yMo_both : gb_Mi yMo_both 1 := ⟨⟨⟨by decide +kernel, by decide +kernel⟩, by decide +kernel, by decide +kernel⟩, gb_t7 (List.mem_of_getElem? (i := 234) rfl) rfl, n_Mo, gb_t7 (List.mem_of_getElem? (i := 232) rfl) rfl, gb_t7 (List.mem_of_getElem? (i := 233) rfl) rfl⟩
set_option maxRecDepth 20000 in
theorem s_yMo_findsBoth : gb_Mi yMo_findsBoth 0 := ⟨⟨⟨by decide +kernel, by decide +kernel⟩, by decide +kernel, by decide +kernel⟩, gb_t7 (List.mem_of_getElem? (i := 238) rfl) rfl, n_Mo, gb_t7 (List.mem_of_getElem? (i := 237) rfl) rfl, gb_t0 (List.mem_of_getElem? (i := 115) rfl) rfl⟩
set_option maxRecDepth 20000 in
theorem s_yMo_candles : gb_Mi yMo_candles 3 := ⟨⟨⟨by decide +kernel, by decide +kernel⟩, by decide +kernel, by decide +kernel⟩, gb_t8 (List.mem_of_getElem? (i := 2) rfl) rfl, n_Mo, gb_t8 (List.mem_of_getElem? (i := 0) rfl) rfl, gb_t8 (List.mem_of_getElem? (i := 1) rfl) rfl⟩
set_option maxRecDepth 20000 in
theorem s_yMo_litBy : gb_Mi yMo_litBy 2 := ⟨⟨⟨by decide +kernel, by decide +kernel⟩, by decide +kernel, by decide +kernel⟩, gb_t8 (List.mem_of_getElem? (i := 6) rfl) rfl, n_Mo, gb_t8 (List.mem_of_getElem? (i := 5) rfl) rfl, gb_t0 (List.mem_of_getElem? (i := 116) rfl) rfl⟩
set_option maxRecDepth 20000 in
theorem s_yMo_apart : gb_Mi yMo_apart 2 := ⟨⟨⟨by decide +kernel, by decide +kernel⟩, by decide +kernel, by decide +kernel⟩, gb_t8 (List.mem_of_getElem? (i := 10) rfl) rfl, n_Mo, gb_t8 (List.mem_of_getElem? (i := 9) rfl) rfl, gb_t0 (List.mem_of_getElem? (i := 117) rfl) rfl⟩
set_option maxRecDepth 20000 in
theorem s_yMo_onesOf : gb_Mi yMo_onesOf 1 := ⟨⟨⟨by decide +kernel, by decide +kernel⟩, by decide +kernel, by decide +kernel⟩, gb_t8 (List.mem_of_getElem? (i := 14) rfl) rfl, n_Mo, gb_t8 (List.mem_of_getElem? (i := 13) rfl) rfl, gb_t0 (List.mem_of_getElem? (i := 118) rfl) rfl⟩
set_option maxRecDepth 20000 in
theorem s_yMo_stained : gb_Mi yMo_stained 1 := ⟨⟨⟨by decide +kernel, by decide +kernel⟩, by decide +kernel, by decide +kernel⟩, gb_t8 (List.mem_of_getElem? (i := 18) rfl) rfl, n_Mo, gb_t8 (List.mem_of_getElem? (i := 16) rfl) rfl, gb_t8 (List.mem_of_getElem? (i := 17) rfl) rfl⟩
set_option maxRecDepth 20000 in
theorem s_yMo_convoy : gb_Mi yMo_convoy 2 := ⟨⟨⟨by decide +kernel, by decide +kernel⟩, by decide +kernel, by decide +kernel⟩, gb_t8 (List.mem_of_getElem? (i := 22) rfl) rfl, n_Mo, gb_t8 (List.mem_of_getElem? (i := 20) rfl) rfl, gb_t8 (List.mem_of_getElem? (i := 21) rfl) rfl⟩
set_option maxRecDepth 20000 in
theorem s_yMo_meets : gb_Mi yMo_meets 1 := ⟨⟨⟨by decide +kernel, by decide +kernel⟩, by decide +kernel, by decide +kernel⟩, gb_t8 (List.mem_of_getElem? (i := 26) rfl) rfl, n_Mo, gb_t8 (List.mem_of_getElem? (i := 24) rfl) rfl, gb_t8 (List.mem_of_getElem? (i := 25) rfl) rfl⟩
set_option maxRecDepth 20000 in
theorem s_yMo_flag : gb_Mi yMo_flag 1 := ⟨⟨⟨by decide +kernel, by decide +kernel⟩, by decide +kernel, by decide +kernel⟩, gb_t8 (List.mem_of_getElem? (i := 30) rfl) rfl, n_Mo, gb_t8 (List.mem_of_getElem? (i := 28) rfl) rfl, gb_t8 (List.mem_of_getElem? (i := 29) rfl) rfl⟩
set_option maxRecDepth 20000 in
theorem s_yMo_spoons : gb_Mi yMo_spoons 2 := ⟨⟨⟨by decide +kernel, by decide +kernel⟩, by decide +kernel, by decide +kernel⟩, gb_t8 (List.mem_of_getElem? (i := 34) rfl) rfl, n_Mo, gb_t8 (List.mem_of_getElem? (i := 32) rfl) rfl, gb_t8 (List.mem_of_getElem? (i := 33) rfl) rfl⟩
set_option maxRecDepth 20000 in
theorem s_yMo_saidBy : gb_Mi yMo_saidBy 1 := ⟨⟨⟨by decide +kernel, by decide +kernel⟩, by decide +kernel, by decide +kernel⟩, gb_t8 (List.mem_of_getElem? (i := 38) rfl) rfl, n_Mo, gb_t8 (List.mem_of_getElem? (i := 37) rfl) rfl, gb_t0 (List.mem_of_getElem? (i := 119) rfl) rfl⟩
set_option maxRecDepth 20000 in
theorem s_yMo_wrongIn : gb_Mi yMo_wrongIn 1 := ⟨⟨⟨by decide +kernel, by decide +kernel⟩, by decide +kernel, by decide +kernel⟩, gb_t8 (List.mem_of_getElem? (i := 42) rfl) rfl, n_Mo, gb_t8 (List.mem_of_getElem? (i := 41) rfl) rfl, gb_t0 (List.mem_of_getElem? (i := 120) rfl) rfl⟩
set_option maxRecDepth 20000 in
theorem s_yMo_treaty : gb_Mi yMo_treaty 3 := ⟨⟨⟨by decide +kernel, by decide +kernel⟩, by decide +kernel, by decide +kernel⟩, gb_t8 (List.mem_of_getElem? (i := 46) rfl) rfl, n_Mo, gb_t8 (List.mem_of_getElem? (i := 44) rfl) rfl, gb_t8 (List.mem_of_getElem? (i := 45) rfl) rfl⟩
set_option maxRecDepth 20000 in
theorem s_yMo_added : gb_Mi yMo_added 2 := ⟨⟨⟨by decide +kernel, by decide +kernel⟩, by decide +kernel, by decide +kernel⟩, gb_t8 (List.mem_of_getElem? (i := 50) rfl) rfl, n_Mo, gb_t8 (List.mem_of_getElem? (i := 49) rfl) rfl, gb_t0 (List.mem_of_getElem? (i := 121) rfl) rfl⟩
set_option maxRecDepth 20000 in
theorem s_yMo_gives : gb_Mi yMo_gives 2 := ⟨⟨⟨by decide +kernel, by decide +kernel⟩, by decide +kernel, by decide +kernel⟩, gb_t8 (List.mem_of_getElem? (i := 55) rfl) rfl, n_Mo, gb_t8 (List.mem_of_getElem? (i := 53) rfl) rfl, gb_t8 (List.mem_of_getElem? (i := 54) rfl) rfl⟩
set_option maxRecDepth 20000 in
theorem s_yMo_way : gb_Mi yMo_way 1 := ⟨⟨⟨by decide +kernel, by decide +kernel⟩, by decide +kernel, by decide +kernel⟩, gb_t8 (List.mem_of_getElem? (i := 59) rfl) rfl, n_Mo, gb_t8 (List.mem_of_getElem? (i := 57) rfl) rfl, gb_t8 (List.mem_of_getElem? (i := 58) rfl) rfl⟩
set_option maxRecDepth 20000 in
theorem s_yMo_givenBy : gb_Mi yMo_givenBy 1 := ⟨⟨⟨by decide +kernel, by decide +kernel⟩, by decide +kernel, by decide +kernel⟩, gb_t8 (List.mem_of_getElem? (i := 63) rfl) rfl, n_Mo, gb_t8 (List.mem_of_getElem? (i := 62) rfl) rfl, gb_t0 (List.mem_of_getElem? (i := 122) rfl) rfl⟩
set_option maxRecDepth 20000 in
theorem s_yMo_comesRound : gb_Mi yMo_comesRound 1 := ⟨⟨⟨by decide +kernel, by decide +kernel⟩, by decide +kernel, by decide +kernel⟩, gb_t8 (List.mem_of_getElem? (i := 67) rfl) rfl, n_Mo, gb_t8 (List.mem_of_getElem? (i := 66) rfl) rfl, gb_t0 (List.mem_of_getElem? (i := 123) rfl) rfl⟩
set_option maxRecDepth 20000 in
theorem s_yMo_cloth : gb_Mi yMo_cloth 2 := ⟨⟨⟨by decide +kernel, by decide +kernel⟩, by decide +kernel, by decide +kernel⟩, gb_t8 (List.mem_of_getElem? (i := 71) rfl) rfl, n_Mo, gb_t8 (List.mem_of_getElem? (i := 69) rfl) rfl, gb_t8 (List.mem_of_getElem? (i := 70) rfl) rfl⟩
set_option maxRecDepth 20000 in
theorem s_yMo_free : gb_Mi yMo_free 2 := ⟨⟨⟨by decide +kernel, by decide +kernel⟩, by decide +kernel, by decide +kernel⟩, gb_t8 (List.mem_of_getElem? (i := 75) rfl) rfl, n_Mo, gb_t8 (List.mem_of_getElem? (i := 73) rfl) rfl, gb_t8 (List.mem_of_getElem? (i := 74) rfl) rfl⟩
set_option maxRecDepth 20000 in
theorem s_yMo_spansOver : gb_Mi yMo_spansOver 2 := ⟨⟨⟨by decide +kernel, by decide +kernel⟩, by decide +kernel, by decide +kernel⟩, gb_t8 (List.mem_of_getElem? (i := 79) rfl) rfl, n_Mo, gb_t8 (List.mem_of_getElem? (i := 78) rfl) rfl, gb_t0 (List.mem_of_getElem? (i := 124) rfl) rfl⟩
set_option maxRecDepth 20000 in
theorem s_yMo_report : gb_Mi yMo_report 2 := ⟨⟨⟨by decide +kernel, by decide +kernel⟩, by decide +kernel, by decide +kernel⟩, gb_t8 (List.mem_of_getElem? (i := 83) rfl) rfl, n_Mo, gb_t8 (List.mem_of_getElem? (i := 81) rfl) rfl, gb_t8 (List.mem_of_getElem? (i := 82) rfl) rfl⟩
set_option maxRecDepth 20000 in
theorem s_yMo_sprouts : gb_Mi yMo_sprouts 1 := ⟨⟨⟨by decide +kernel, by decide +kernel⟩, by decide +kernel, by decide +kernel⟩, gb_t8 (List.mem_of_getElem? (i := 87) rfl) rfl, n_Mo, gb_t8 (List.mem_of_getElem? (i := 85) rfl) rfl, gb_t8 (List.mem_of_getElem? (i := 86) rfl) rfl⟩
set_option maxRecDepth 20000 in
theorem s_yMo_sayingOf : gb_Mi yMo_sayingOf 1 := ⟨⟨⟨by decide +kernel, by decide +kernel⟩, by decide +kernel, by decide +kernel⟩, gb_t8 (List.mem_of_getElem? (i := 91) rfl) rfl, n_Mo, gb_t8 (List.mem_of_getElem? (i := 90) rfl) rfl, gb_t0 (List.mem_of_getElem? (i := 125) rfl) rfl⟩
set_option maxRecDepth 20000 in
theorem s_yMo_jar : gb_Mi yMo_jar 2 := ⟨⟨⟨by decide +kernel, by decide +kernel⟩, by decide +kernel, by decide +kernel⟩, gb_t8 (List.mem_of_getElem? (i := 95) rfl) rfl, n_Mo, gb_t8 (List.mem_of_getElem? (i := 93) rfl) rfl, gb_t8 (List.mem_of_getElem? (i := 94) rfl) rfl⟩
set_option maxRecDepth 20000 in
theorem s_yMo_stowed : gb_Mi yMo_stowed 3 := ⟨⟨⟨by decide +kernel, by decide +kernel⟩, by decide +kernel, by decide +kernel⟩, gb_t8 (List.mem_of_getElem? (i := 99) rfl) rfl, n_Mo, gb_t8 (List.mem_of_getElem? (i := 97) rfl) rfl, gb_t8 (List.mem_of_getElem? (i := 98) rfl) rfl⟩
set_option maxRecDepth 20000 in
theorem s_yMo_jarsOf : gb_Mi yMo_jarsOf 2 := ⟨⟨⟨by decide +kernel, by decide +kernel⟩, by decide +kernel, by decide +kernel⟩, gb_t8 (List.mem_of_getElem? (i := 103) rfl) rfl, n_Mo, gb_t8 (List.mem_of_getElem? (i := 102) rfl) rfl, gb_t0 (List.mem_of_getElem? (i := 126) rfl) rfl⟩
set_option maxRecDepth 20000 in
theorem s_yMo_firstHold : gb_Mi yMo_firstHold 3 := ⟨⟨⟨by decide +kernel, by decide +kernel⟩, by decide +kernel, by decide +kernel⟩, gb_t8 (List.mem_of_getElem? (i := 107) rfl) rfl, n_Mo, gb_t8 (List.mem_of_getElem? (i := 106) rfl) rfl, gb_t0 (List.mem_of_getElem? (i := 127) rfl) rfl⟩
set_option maxRecDepth 20000 in
theorem s_yMo_game : gb_Mi yMo_game 1 := ⟨⟨⟨by decide +kernel, by decide +kernel⟩, by decide +kernel, by decide +kernel⟩, gb_t8 (List.mem_of_getElem? (i := 111) rfl) rfl, n_Mo, gb_t8 (List.mem_of_getElem? (i := 109) rfl) rfl, gb_t8 (List.mem_of_getElem? (i := 110) rfl) rfl⟩
set_option maxRecDepth 20000 in
theorem s_yMo_nimber : gb_Mi yMo_nimber 1 := ⟨⟨⟨by decide +kernel, by decide +kernel⟩, by decide +kernel, by decide +kernel⟩, gb_t8 (List.mem_of_getElem? (i := 115) rfl) rfl, n_Mo, gb_t8 (List.mem_of_getElem? (i := 114) rfl) rfl, gb_t0 (List.mem_of_getElem? (i := 128) rfl) rfl⟩
set_option maxRecDepth 20000 in
theorem s_yMo_image : gb_Mi yMo_image 1 := ⟨⟨⟨by decide +kernel, by decide +kernel⟩, by decide +kernel, by decide +kernel⟩, gb_t8 (List.mem_of_getElem? (i := 119) rfl) rfl, n_Mo, gb_t8 (List.mem_of_getElem? (i := 117) rfl) rfl, gb_t8 (List.mem_of_getElem? (i := 118) rfl) rfl⟩
set_option maxRecDepth 20000 in
theorem s_yMo_keeps : gb_Mi yMo_keeps 1 := ⟨⟨⟨by decide +kernel, by decide +kernel⟩, by decide +kernel, by decide +kernel⟩, gb_t8 (List.mem_of_getElem? (i := 123) rfl) rfl, n_Mo, gb_t8 (List.mem_of_getElem? (i := 122) rfl) rfl, gb_t0 (List.mem_of_getElem? (i := 129) rfl) rfl⟩
set_option maxRecDepth 20000 in
theorem s_yMo_keepsMany : gb_Mi yMo_keepsMany 0 := ⟨⟨⟨by decide +kernel, by decide +kernel⟩, by decide +kernel, by decide +kernel⟩, gb_t8 (List.mem_of_getElem? (i := 127) rfl) rfl, n_Mo, gb_t8 (List.mem_of_getElem? (i := 126) rfl) rfl, gb_t0 (List.mem_of_getElem? (i := 130) rfl) rfl⟩
set_option maxRecDepth 20000 in
theorem s_yMo_keepsTold : gb_Mi yMo_keepsTold 0 := ⟨⟨⟨by decide +kernel, by decide +kernel⟩, by decide +kernel, by decide +kernel⟩, gb_t8 (List.mem_of_getElem? (i := 131) rfl) rfl, n_Mo, gb_t8 (List.mem_of_getElem? (i := 130) rfl) rfl, gb_t0 (List.mem_of_getElem? (i := 131) rfl) rfl⟩
set_option maxRecDepth 20000 in
theorem s_yMo_keepsLaw : gb_Mi yMo_keepsLaw 0 := ⟨⟨⟨by decide +kernel, by decide +kernel⟩, by decide +kernel, by decide +kernel⟩, gb_t8 (List.mem_of_getElem? (i := 135) rfl) rfl, n_Mo, gb_t8 (List.mem_of_getElem? (i := 134) rfl) rfl, gb_t0 (List.mem_of_getElem? (i := 132) rfl) rfl⟩
set_option maxRecDepth 20000 in
theorem s_yMo_look : gb_Mi yMo_look 1 := ⟨⟨⟨by decide +kernel, by decide +kernel⟩, by decide +kernel, by decide +kernel⟩, gb_t8 (List.mem_of_getElem? (i := 139) rfl) rfl, n_Mo, gb_t8 (List.mem_of_getElem? (i := 137) rfl) rfl, gb_t8 (List.mem_of_getElem? (i := 138) rfl) rfl⟩
def fsXGb0 : List (Option (Option Nat)) := [some (some 1), some (some 35), none, some (some 69), some (some 96), some (some 100), some (some 102), some (some 104), some (some 106), some (some 110), none, some (some 111)]
def fsXWo1 : List (Option (Option Nat)) := [some (some 2), some (some 6), some (some 11), some (some 13), some (some 15), some (some 17), some (some 19), some (some 21), some (some 23), some (some 25), some (some 27), some (some 29), some (some 31), some (some 33)]
def fsXTa2 : List (Option (Option Nat)) := [none, none, none, none, none, none, some (some 3), some (some 4), some (some 5)]
def fsXLa6 : List (Option (Option Nat)) := [some (some 7), none, some (some 8), some (some 9), none, some (some 10), none]
def fsXRo11 : List (Option (Option Nat)) := [none, some (some 12), none]
def fsXRo13 : List (Option (Option Nat)) := [none, some (some 14), none]
def fsXRo15 : List (Option (Option Nat)) := [none, some (some 16), none]
def fsXRo17 : List (Option (Option Nat)) := [none, some (some 18), none]
def fsXRo19 : List (Option (Option Nat)) := [none, some (some 20), none]
def fsXRo21 : List (Option (Option Nat)) := [none, some (some 22), none]
def fsXRo23 : List (Option (Option Nat)) := [none, some (some 24), none]
def fsXRo25 : List (Option (Option Nat)) := [none, some (some 26), none]
def fsXRo27 : List (Option (Option Nat)) := [none, some (some 28), none]
def fsXRo29 : List (Option (Option Nat)) := [none, some (some 30), none]
def fsXRo31 : List (Option (Option Nat)) := [none, some (some 32), none]
def fsXRo33 : List (Option (Option Nat)) := [none, some (some 34), none]
def fsXWo35 : List (Option (Option Nat)) := [some (some 36), some (some 40), some (some 45), some (some 47), some (some 49), some (some 51), some (some 53), some (some 55), some (some 57), some (some 59), some (some 61), some (some 63), some (some 65), some (some 67)]
def fsXTa36 : List (Option (Option Nat)) := [none, none, none, none, none, none, some (some 37), some (some 38), some (some 39)]
def fsXLa40 : List (Option (Option Nat)) := [some (some 41), none, some (some 42), some (some 43), none, some (some 44), none]
def fsXRo45 : List (Option (Option Nat)) := [none, some (some 46), none]
def fsXRo47 : List (Option (Option Nat)) := [none, some (some 48), none]
def fsXRo49 : List (Option (Option Nat)) := [none, some (some 50), none]
def fsXRo51 : List (Option (Option Nat)) := [none, some (some 52), none]
def fsXRo53 : List (Option (Option Nat)) := [none, some (some 54), none]
def fsXRo55 : List (Option (Option Nat)) := [none, some (some 56), none]
def fsXRo57 : List (Option (Option Nat)) := [none, some (some 58), none]
def fsXRo59 : List (Option (Option Nat)) := [none, some (some 60), none]
def fsXRo61 : List (Option (Option Nat)) := [none, some (some 62), none]
def fsXRo63 : List (Option (Option Nat)) := [none, some (some 64), none]
def fsXRo65 : List (Option (Option Nat)) := [none, some (some 66), none]
def fsXRo67 : List (Option (Option Nat)) := [none, some (some 68), none]
def fsXPa69 : List (Option (Option Nat)) := [some (some 70), some (some 71), none, none]
def fsXTa72 : List (Option (Option Nat)) := [none, none, none, none, none, none, some (some 73), some (some 74), some (some 75)]
def fsXTa76 : List (Option (Option Nat)) := [none, none, none, none, none, none, some (some 77), some (some 78), some (some 79)]
def fsXTa80 : List (Option (Option Nat)) := [none, none, none, none, none, none, some (some 81), some (some 82), some (some 83)]
def fsXTa84 : List (Option (Option Nat)) := [none, none, none, none, none, none, some (some 85), some (some 86), some (some 87)]
def fsXTa88 : List (Option (Option Nat)) := [none, none, none, none, none, none, some (some 89), some (some 90), some (some 91)]
def fsXTa92 : List (Option (Option Nat)) := [none, none, none, none, none, none, some (some 93), some (some 94), some (some 95)]
def fsXTa96 : List (Option (Option Nat)) := [none, none, none, none, none, none, some (some 97), some (some 98), some (some 99)]
def fsXCo100 : List (Option (Option Nat)) := [some (some 1), some (some 2), none, some (some 101)]
def fsXCo102 : List (Option (Option Nat)) := [some (some 1), some (some 96), none, some (some 103)]
def fsXSe104 : List (Option (Option Nat)) := [some (some 1), some (some 105)]
def fsXRe106 : List (Option (Option Nat)) := [some (some 107), some (some 108), some (some 109)]
def fsXRd111 : List (Option (Option Nat)) := [some (some 110), none, none, some (some 112), some (some 113), none, none, none, none, some (some 114), some (some 119)]
def fsXLa114 : List (Option (Option Nat)) := [some (some 115), none, some (some 116), some (some 117), none, some (some 118), none]
def fsXRo119 : List (Option (Option Nat)) := [none, some (some 120), none]
def shX : List gb_Ce := [.inr (0, fsXGb0), .inr (1, fsXWo1), .inr (2, fsXTa2), .inl (.inl 60), .inl (.inl 48), .inl (.inl 10), .inr (3, fsXLa6), .inl (.inl 400), .inl (.inl 16), .inl (.inl 33), .inl (.inl 64), .inr (4, fsXRo11), .inl (.inl 64), .inr (4, fsXRo13), .inl (.inl 64), .inr (4, fsXRo15), .inl (.inl 64), .inr (4, fsXRo17), .inl (.inl 600), .inr (4, fsXRo19), .inl (.inl 48), .inr (4, fsXRo21), .inl (.inl 48), .inr (4, fsXRo23), .inl (.inl 32), .inr (4, fsXRo25), .inl (.inl 40), .inr (4, fsXRo27), .inl (.inl 64), .inr (4, fsXRo29), .inl (.inl 36), .inr (4, fsXRo31), .inl (.inl 32), .inr (4, fsXRo33), .inl (.inl 36), .inr (1, fsXWo35), .inr (2, fsXTa36), .inl (.inl 60), .inl (.inl 48), .inl (.inl 10), .inr (3, fsXLa40), .inl (.inl 400), .inl (.inl 16), .inl (.inl 33), .inl (.inl 64), .inr (4, fsXRo45), .inl (.inl 64), .inr (4, fsXRo47), .inl (.inl 64), .inr (4, fsXRo49), .inl (.inl 64), .inr (4, fsXRo51), .inl (.inl 600), .inr (4, fsXRo53), .inl (.inl 48), .inr (4, fsXRo55), .inl (.inl 48), .inr (4, fsXRo57), .inl (.inl 32), .inr (4, fsXRo59), .inl (.inl 40), .inr (4, fsXRo61), .inl (.inl 64), .inr (4, fsXRo63), .inl (.inl 36), .inr (4, fsXRo65), .inl (.inl 32), .inr (4, fsXRo67), .inl (.inl 36), .inr (5, fsXPa69), .inl (.inr [some 72, some 76, some 80, some 84, some 88, some 92]), .inl (.inl 6), .inr (2, fsXTa72), .inl (.inl 60), .inl (.inl 48), .inl (.inl 10), .inr (2, fsXTa76), .inl (.inl 60), .inl (.inl 48), .inl (.inl 10), .inr (2, fsXTa80), .inl (.inl 60), .inl (.inl 48), .inl (.inl 10), .inr (2, fsXTa84), .inl (.inl 60), .inl (.inl 48), .inl (.inl 10), .inr (2, fsXTa88), .inl (.inl 60), .inl (.inl 48), .inl (.inl 10), .inr (2, fsXTa92), .inl (.inl 60), .inl (.inl 48), .inl (.inl 10), .inr (2, fsXTa96), .inl (.inl 60), .inl (.inl 48), .inl (.inl 10), .inr (6, fsXCo100), .inl (.inl 8), .inr (6, fsXCo102), .inl (.inl 8), .inr (7, fsXSe104), .inl (.inl 12), .inr (8, fsXRe106), .inl (.inl 169), .inl (.inl 512), .inl (.inl 512), .inl (.inl 400), .inr (9, fsXRd111), .inl (.inl 401), .inl (.inl 401), .inr (3, fsXLa114), .inl (.inl 400), .inl (.inl 16), .inl (.inl 33), .inl (.inl 64), .inr (4, fsXRo119), .inl (.inl 64)]
theorem a_X_0 : shX[0]? = some (.inr (0, fsXGb0)) := rfl
theorem a_X_1 : shX[1]? = some (.inr (1, fsXWo1)) := rfl
theorem a_X_2 : shX[2]? = some (.inr (2, fsXTa2)) := rfl
theorem a_X_3 : shX[3]? = some (.inl (.inl 60)) := rfl
theorem a_X_4 : shX[4]? = some (.inl (.inl 48)) := rfl
theorem a_X_5 : shX[5]? = some (.inl (.inl 10)) := rfl
theorem a_X_6 : shX[6]? = some (.inr (3, fsXLa6)) := rfl
theorem a_X_7 : shX[7]? = some (.inl (.inl 400)) := rfl
theorem a_X_8 : shX[8]? = some (.inl (.inl 16)) := rfl
theorem a_X_9 : shX[9]? = some (.inl (.inl 33)) := rfl
theorem a_X_10 : shX[10]? = some (.inl (.inl 64)) := rfl
theorem a_X_11 : shX[11]? = some (.inr (4, fsXRo11)) := rfl
theorem a_X_12 : shX[12]? = some (.inl (.inl 64)) := rfl
theorem a_X_13 : shX[13]? = some (.inr (4, fsXRo13)) := rfl
theorem a_X_14 : shX[14]? = some (.inl (.inl 64)) := rfl
theorem a_X_15 : shX[15]? = some (.inr (4, fsXRo15)) := rfl
theorem a_X_16 : shX[16]? = some (.inl (.inl 64)) := rfl
theorem a_X_17 : shX[17]? = some (.inr (4, fsXRo17)) := rfl
theorem a_X_18 : shX[18]? = some (.inl (.inl 600)) := rfl
theorem a_X_19 : shX[19]? = some (.inr (4, fsXRo19)) := rfl
theorem a_X_20 : shX[20]? = some (.inl (.inl 48)) := rfl
theorem a_X_21 : shX[21]? = some (.inr (4, fsXRo21)) := rfl
theorem a_X_22 : shX[22]? = some (.inl (.inl 48)) := rfl
theorem a_X_23 : shX[23]? = some (.inr (4, fsXRo23)) := rfl
theorem a_X_24 : shX[24]? = some (.inl (.inl 32)) := rfl
theorem a_X_25 : shX[25]? = some (.inr (4, fsXRo25)) := rfl
theorem a_X_26 : shX[26]? = some (.inl (.inl 40)) := rfl
theorem a_X_27 : shX[27]? = some (.inr (4, fsXRo27)) := rfl
theorem a_X_28 : shX[28]? = some (.inl (.inl 64)) := rfl
theorem a_X_29 : shX[29]? = some (.inr (4, fsXRo29)) := rfl
theorem a_X_30 : shX[30]? = some (.inl (.inl 36)) := rfl
theorem a_X_31 : shX[31]? = some (.inr (4, fsXRo31)) := rfl
theorem a_X_32 : shX[32]? = some (.inl (.inl 32)) := rfl
theorem a_X_33 : shX[33]? = some (.inr (4, fsXRo33)) := rfl
theorem a_X_34 : shX[34]? = some (.inl (.inl 36)) := rfl
theorem a_X_35 : shX[35]? = some (.inr (1, fsXWo35)) := rfl
theorem a_X_36 : shX[36]? = some (.inr (2, fsXTa36)) := rfl
theorem a_X_37 : shX[37]? = some (.inl (.inl 60)) := rfl
theorem a_X_38 : shX[38]? = some (.inl (.inl 48)) := rfl
theorem a_X_39 : shX[39]? = some (.inl (.inl 10)) := rfl
theorem a_X_40 : shX[40]? = some (.inr (3, fsXLa40)) := rfl
theorem a_X_41 : shX[41]? = some (.inl (.inl 400)) := rfl
theorem a_X_42 : shX[42]? = some (.inl (.inl 16)) := rfl
theorem a_X_43 : shX[43]? = some (.inl (.inl 33)) := rfl
theorem a_X_44 : shX[44]? = some (.inl (.inl 64)) := rfl
theorem a_X_45 : shX[45]? = some (.inr (4, fsXRo45)) := rfl
theorem a_X_46 : shX[46]? = some (.inl (.inl 64)) := rfl
theorem a_X_47 : shX[47]? = some (.inr (4, fsXRo47)) := rfl
theorem a_X_48 : shX[48]? = some (.inl (.inl 64)) := rfl
theorem a_X_49 : shX[49]? = some (.inr (4, fsXRo49)) := rfl
theorem a_X_50 : shX[50]? = some (.inl (.inl 64)) := rfl
theorem a_X_51 : shX[51]? = some (.inr (4, fsXRo51)) := rfl
theorem a_X_52 : shX[52]? = some (.inl (.inl 600)) := rfl
theorem a_X_53 : shX[53]? = some (.inr (4, fsXRo53)) := rfl
theorem a_X_54 : shX[54]? = some (.inl (.inl 48)) := rfl
theorem a_X_55 : shX[55]? = some (.inr (4, fsXRo55)) := rfl
theorem a_X_56 : shX[56]? = some (.inl (.inl 48)) := rfl
theorem a_X_57 : shX[57]? = some (.inr (4, fsXRo57)) := rfl
theorem a_X_58 : shX[58]? = some (.inl (.inl 32)) := rfl
theorem a_X_59 : shX[59]? = some (.inr (4, fsXRo59)) := rfl
theorem a_X_60 : shX[60]? = some (.inl (.inl 40)) := rfl
theorem a_X_61 : shX[61]? = some (.inr (4, fsXRo61)) := rfl
theorem a_X_62 : shX[62]? = some (.inl (.inl 64)) := rfl
theorem a_X_63 : shX[63]? = some (.inr (4, fsXRo63)) := rfl
theorem a_X_64 : shX[64]? = some (.inl (.inl 36)) := rfl
theorem a_X_65 : shX[65]? = some (.inr (4, fsXRo65)) := rfl
theorem a_X_66 : shX[66]? = some (.inl (.inl 32)) := rfl
theorem a_X_67 : shX[67]? = some (.inr (4, fsXRo67)) := rfl
theorem a_X_68 : shX[68]? = some (.inl (.inl 36)) := rfl
theorem a_X_69 : shX[69]? = some (.inr (5, fsXPa69)) := rfl
theorem a_X_70 : shX[70]? = some (.inl (.inr [some 72, some 76, some 80, some 84, some 88, some 92])) := rfl
theorem a_X_71 : shX[71]? = some (.inl (.inl 6)) := rfl
theorem a_X_72 : shX[72]? = some (.inr (2, fsXTa72)) := rfl
theorem a_X_73 : shX[73]? = some (.inl (.inl 60)) := rfl
theorem a_X_74 : shX[74]? = some (.inl (.inl 48)) := rfl
theorem a_X_75 : shX[75]? = some (.inl (.inl 10)) := rfl
theorem a_X_76 : shX[76]? = some (.inr (2, fsXTa76)) := rfl
theorem a_X_77 : shX[77]? = some (.inl (.inl 60)) := rfl
theorem a_X_78 : shX[78]? = some (.inl (.inl 48)) := rfl
theorem a_X_79 : shX[79]? = some (.inl (.inl 10)) := rfl
theorem a_X_80 : shX[80]? = some (.inr (2, fsXTa80)) := rfl
theorem a_X_81 : shX[81]? = some (.inl (.inl 60)) := rfl
theorem a_X_82 : shX[82]? = some (.inl (.inl 48)) := rfl
theorem a_X_83 : shX[83]? = some (.inl (.inl 10)) := rfl
theorem a_X_84 : shX[84]? = some (.inr (2, fsXTa84)) := rfl
theorem a_X_85 : shX[85]? = some (.inl (.inl 60)) := rfl
theorem a_X_86 : shX[86]? = some (.inl (.inl 48)) := rfl
theorem a_X_87 : shX[87]? = some (.inl (.inl 10)) := rfl
theorem a_X_88 : shX[88]? = some (.inr (2, fsXTa88)) := rfl
theorem a_X_89 : shX[89]? = some (.inl (.inl 60)) := rfl
theorem a_X_90 : shX[90]? = some (.inl (.inl 48)) := rfl
theorem a_X_91 : shX[91]? = some (.inl (.inl 10)) := rfl
theorem a_X_92 : shX[92]? = some (.inr (2, fsXTa92)) := rfl
theorem a_X_93 : shX[93]? = some (.inl (.inl 60)) := rfl
theorem a_X_94 : shX[94]? = some (.inl (.inl 48)) := rfl
theorem a_X_95 : shX[95]? = some (.inl (.inl 10)) := rfl
theorem a_X_96 : shX[96]? = some (.inr (2, fsXTa96)) := rfl
theorem a_X_97 : shX[97]? = some (.inl (.inl 60)) := rfl
theorem a_X_98 : shX[98]? = some (.inl (.inl 48)) := rfl
theorem a_X_99 : shX[99]? = some (.inl (.inl 10)) := rfl
theorem a_X_100 : shX[100]? = some (.inr (6, fsXCo100)) := rfl
theorem a_X_101 : shX[101]? = some (.inl (.inl 8)) := rfl
theorem a_X_102 : shX[102]? = some (.inr (6, fsXCo102)) := rfl
theorem a_X_103 : shX[103]? = some (.inl (.inl 8)) := rfl
theorem a_X_104 : shX[104]? = some (.inr (7, fsXSe104)) := rfl
theorem a_X_105 : shX[105]? = some (.inl (.inl 12)) := rfl
theorem a_X_106 : shX[106]? = some (.inr (8, fsXRe106)) := rfl
theorem a_X_107 : shX[107]? = some (.inl (.inl 169)) := rfl
theorem a_X_108 : shX[108]? = some (.inl (.inl 512)) := rfl
theorem a_X_109 : shX[109]? = some (.inl (.inl 512)) := rfl
theorem a_X_110 : shX[110]? = some (.inl (.inl 400)) := rfl
theorem a_X_111 : shX[111]? = some (.inr (9, fsXRd111)) := rfl
theorem a_X_112 : shX[112]? = some (.inl (.inl 401)) := rfl
theorem a_X_113 : shX[113]? = some (.inl (.inl 401)) := rfl
theorem a_X_114 : shX[114]? = some (.inr (3, fsXLa114)) := rfl
theorem a_X_115 : shX[115]? = some (.inl (.inl 400)) := rfl
theorem a_X_116 : shX[116]? = some (.inl (.inl 16)) := rfl
theorem a_X_117 : shX[117]? = some (.inl (.inl 33)) := rfl
theorem a_X_118 : shX[118]? = some (.inl (.inl 64)) := rfl
theorem a_X_119 : shX[119]? = some (.inr (4, fsXRo119)) := rfl
theorem a_X_120 : shX[120]? = some (.inl (.inl 64)) := rfl
def fsMMo0 : List (Option (Option Nat)) := [none, some (some 1), some (some 2), none, some (some 3), none, none, some (some 4), some (some 5), some (some 6), some (some 7), some (some 8), some (some 9), none, none, none, none, none, some (some 10), some (some 11), some (some 12), some (some 13), some (some 14), some (some 15), some (some 16), some (some 17), none, none, none, some (some 18), none, none, none, none, none, none, some (some 19), none, some (some 20), none, some (some 21), some (some 22), some (some 23), none, some (some 24), some (some 25), some (some 26), some (some 27), some (some 28), some (some 29), none, some (some 30), some (some 31), none, some (some 32), some (some 33), none, some (some 34), none, some (some 35), some (some 36), none, some (some 37), some (some 38), none, some (some 39), some (some 40), none, none, none, some (some 41)]
def shM : List gb_Ce := [.inr (10, fsMMo0), .inl (.inl 80), .inl (.inl 480), .inl (.inl 80), .inl (.inl 12), .inl (.inl 12), .inl (.inl 12), .inl (.inl 8), .inl (.inl 600), .inl (.inl 400), .inl (.inl 142), .inl (.inl 2), .inl (.inl 48), .inl (.inl 48), .inl (.inl 48), .inl (.inl 48), .inl (.inl 1200), .inl (.inl 1200), .inl (.inl 40), .inl (.inl 16), .inl (.inl 128), .inl (.inl 24), .inl (.inl 12), .inl (.inl 420), .inl (.inl 12), .inl (.inl 12), .inl (.inl 2), .inl (.inl 24), .inl (.inl 169), .inl (.inl 169), .inl (.inl 8), .inl (.inl 8), .inl (.inl 10), .inl (.inl 41), .inl (.inl 8), .inl (.inl 9), .inl (.inl 9), .inl (.inl 8), .inl (.inl 8), .inl (.inl 9), .inl (.inl 9), .inl (.inl 2300)]
theorem a_M_0 : shM[0]? = some (.inr (10, fsMMo0)) := rfl
theorem a_M_1 : shM[1]? = some (.inl (.inl 80)) := rfl
theorem a_M_2 : shM[2]? = some (.inl (.inl 480)) := rfl
theorem a_M_3 : shM[3]? = some (.inl (.inl 80)) := rfl
theorem a_M_4 : shM[4]? = some (.inl (.inl 12)) := rfl
theorem a_M_5 : shM[5]? = some (.inl (.inl 12)) := rfl
theorem a_M_6 : shM[6]? = some (.inl (.inl 12)) := rfl
theorem a_M_7 : shM[7]? = some (.inl (.inl 8)) := rfl
theorem a_M_8 : shM[8]? = some (.inl (.inl 600)) := rfl
theorem a_M_9 : shM[9]? = some (.inl (.inl 400)) := rfl
theorem a_M_10 : shM[10]? = some (.inl (.inl 142)) := rfl
theorem a_M_11 : shM[11]? = some (.inl (.inl 2)) := rfl
theorem a_M_12 : shM[12]? = some (.inl (.inl 48)) := rfl
theorem a_M_13 : shM[13]? = some (.inl (.inl 48)) := rfl
theorem a_M_14 : shM[14]? = some (.inl (.inl 48)) := rfl
theorem a_M_15 : shM[15]? = some (.inl (.inl 48)) := rfl
theorem a_M_16 : shM[16]? = some (.inl (.inl 1200)) := rfl
theorem a_M_17 : shM[17]? = some (.inl (.inl 1200)) := rfl
theorem a_M_18 : shM[18]? = some (.inl (.inl 40)) := rfl
theorem a_M_19 : shM[19]? = some (.inl (.inl 16)) := rfl
theorem a_M_20 : shM[20]? = some (.inl (.inl 128)) := rfl
theorem a_M_21 : shM[21]? = some (.inl (.inl 24)) := rfl
theorem a_M_22 : shM[22]? = some (.inl (.inl 12)) := rfl
theorem a_M_23 : shM[23]? = some (.inl (.inl 420)) := rfl
theorem a_M_24 : shM[24]? = some (.inl (.inl 12)) := rfl
theorem a_M_25 : shM[25]? = some (.inl (.inl 12)) := rfl
theorem a_M_26 : shM[26]? = some (.inl (.inl 2)) := rfl
theorem a_M_27 : shM[27]? = some (.inl (.inl 24)) := rfl
theorem a_M_28 : shM[28]? = some (.inl (.inl 169)) := rfl
theorem a_M_29 : shM[29]? = some (.inl (.inl 169)) := rfl
theorem a_M_30 : shM[30]? = some (.inl (.inl 8)) := rfl
theorem a_M_31 : shM[31]? = some (.inl (.inl 8)) := rfl
theorem a_M_32 : shM[32]? = some (.inl (.inl 10)) := rfl
theorem a_M_33 : shM[33]? = some (.inl (.inl 41)) := rfl
theorem a_M_34 : shM[34]? = some (.inl (.inl 8)) := rfl
theorem a_M_35 : shM[35]? = some (.inl (.inl 9)) := rfl
theorem a_M_36 : shM[36]? = some (.inl (.inl 9)) := rfl
theorem a_M_37 : shM[37]? = some (.inl (.inl 8)) := rfl
theorem a_M_38 : shM[38]? = some (.inl (.inl 8)) := rfl
theorem a_M_39 : shM[39]? = some (.inl (.inl 9)) := rfl
theorem a_M_40 : shM[40]? = some (.inl (.inl 9)) := rfl
theorem a_M_41 : shM[41]? = some (.inl (.inl 2300)) := rfl
