/-! The JDK's texts: length, charAt of the words, indexOf of the signs; by hand. -/
section RulesT
variable {l : Launch} {M : gb_MI} {d kc ks pc : Nat} {lv : List (Nat × gb_AV)} {st : List gb_AV} {Sh : List gb_Ce} {I : gb_Mem} {post : Option gb_AV → List gb_Ce → gb_Mem → Prop}
set_option maxRecDepth 20000 in
theorem f_Js_38 : Cond.fieldLink "java/lang/String" 38 "java/lang/String" "COMPACT_STRINGS" "Z" ∈ gb_all := gb_t3 (List.mem_of_getElem? (i := 157) rfl) rfl
set_option maxRecDepth 20000 in
theorem f_Js_1053 : Cond.fieldLink "java/lang/String" 1053 "jdk/internal/util/Preconditions" "SIOOBE_FORMATTER" "Ljava/util/function/BiFunction;" ∈ gb_all := gb_t3 (List.mem_of_getElem? (i := 173) rfl) rfl
set_option maxRecDepth 20000 in
theorem f_Js_9 : Cond.fieldLink "java/lang/String" 9 "java/lang/String" "value" "[B" ∈ gb_all := gb_t8 (List.mem_of_getElem? (i := 140) rfl) rfl
set_option maxRecDepth 20000 in
theorem f_Js_15 : Cond.fieldLink "java/lang/String" 15 "java/lang/String" "coder" "B" ∈ gb_all := gb_t8 (List.mem_of_getElem? (i := 141) rfl) rfl
theorem go_getSv {a : Nat} (ha : a = 1001 ∨ a = 1003) (hM : M.1.cls = "java/lang/String") (hd : decode M.2.1 pc = .ok (.getfield 9, 3)) (K : gb_Go l M d kc ks (pc + 3) lv (.inr (some (a + 1)) :: st) Sh I post) : gb_Go l M d kc ks pc lv (.inr (some a) :: st) Sh I post := by
  intro p e R s m args below meth c D cI cR ad ad0 n0 A H locs cells slots mc ms ls hF h1 h2 h3 h4 h5 h6 hW hn hE hl
  have hlk := hF.2.2.2.2.2.2.2 _ f_Js_9
  rcases ha with rfl | rfl
  · exact vk_getf hF.1 hF.2.1 hW.2.2.2.2.2.2.1.2.1.2.2.2.1 hW.2.2.2.2.1 (hM ▸ hF.2.2.2.2.2.1) hlk (fun _ h9 => h9) hd (K p e R s m args below meth c D cI cR ad ad0 n0 A H locs cells slots mc ms ls hF h1 h2 h3 h4 h5 h6 hW hn hE hl)
  · exact vk_getf hF.1 hF.2.1 hW.2.2.2.2.2.2.1.2.2.1.2.2.2.1 hW.2.2.2.2.1 (hM ▸ hF.2.2.2.2.2.1) hlk (fun _ h9 => h9) hd (K p e R s m args below meth c D cI cR ad ad0 n0 A H locs cells slots mc ms ls hF h1 h2 h3 h4 h5 h6 hW hn hE hl)
theorem go_getSc {a : Nat} (ha : a = 1001 ∨ a = 1003) (hM : M.1.cls = "java/lang/String") (hd : decode M.2.1 pc = .ok (.getfield 15, 3)) (K : gb_Go l M d kc ks (pc + 3) lv (.inl 0 :: st) Sh I post) : gb_Go l M d kc ks pc lv (.inr (some a) :: st) Sh I post := by
  intro p e R s m args below meth c D cI cR ad ad0 n0 A H locs cells slots mc ms ls hF h1 h2 h3 h4 h5 h6 hW hn hE hl
  have hlk := hF.2.2.2.2.2.2.2 _ f_Js_15
  rcases ha with rfl | rfl
  · exact vk_getf hF.1 hF.2.1 hW.2.2.2.2.2.2.1.2.1.2.2.1 hW.2.2.2.2.1 (hM ▸ hF.2.2.2.2.2.1) hlk (fun _ h9 => h9) hd (K p e R s m args below meth c D cI cR ad ad0 n0 A H locs cells slots mc ms ls hF h1 h2 h3 h4 h5 h6 hW hn hE hl)
  · exact vk_getf hF.1 hF.2.1 hW.2.2.2.2.2.2.1.2.2.1.2.2.1 hW.2.2.2.2.1 (hM ▸ hF.2.2.2.2.2.1) hlk (fun _ h9 => h9) hd (K p e R s m args below meth c D cI cR ad ad0 n0 A H locs cells slots mc ms ls hF h1 h2 h3 h4 h5 h6 hW hn hE hl)
theorem go_getZ (hM : M.1.cls = "java/lang/String") (hd : decode M.2.1 pc = .ok (.getstatic 38, 3)) (K : gb_Go l M d kc ks (pc + 3) lv (.inl 1 :: st) Sh I post) : gb_Go l M d kc ks pc lv st Sh I post := by
  intro p e R s m args below meth c D cI cR ad ad0 n0 A H locs cells slots mc ms ls hF h1 h2 h3 h4 h5 h6 hW hn hE hl
  exact va_gets hF.1 hF.2.1 hW.2.2.2.2.2.2.1.2.2.2.1 hW.2.2.2.2.1 (hM ▸ hF.2.2.2.2.2.1) (hF.2.2.2.2.2.2.2 _ f_Js_38) (fun _ h9 => h9) hd (K p e R s m args below meth c D cI cR ad ad0 n0 A H locs cells slots mc ms ls hF h1 h2 h3 h4 h5 h6 hW hn hE hl)
theorem go_getFm (hM : M.1.cls = "java/lang/String") (hd : decode M.2.1 pc = .ok (.getstatic 1053, 3)) (K : ∀ x : Option Nat, gb_Go l M d kc ks (pc + 3) lv (.inr x :: st) Sh I post) : gb_Go l M d kc ks pc lv st Sh I post := by
  intro p e R s m args below meth c D cI cR ad ad0 n0 A H locs cells slots mc ms ls hF h1 h2 h3 h4 h5 h6 hW hn hE hl
  rcases hW.2.2.2.2.2.2.1.2.2.2.2.2 with hz | hz
  · exact va_gets hF.1 hF.2.1 hz hW.2.2.2.2.1 (hM ▸ hF.2.2.2.2.2.1) (hF.2.2.2.2.2.2.2 _ f_Js_1053) (fun _ h9 => h9) hd (K none p e R s m args below meth c D cI cR ad ad0 n0 A H locs cells slots mc ms ls hF h1 h2 h3 h4 h5 h6 hW hn hE hl)
  · exact va_gets hF.1 hF.2.1 hz hW.2.2.2.2.1 (hM ▸ hF.2.2.2.2.2.1) (hF.2.2.2.2.2.2.2 _ f_Js_1053) (fun _ h9 => h9) hd (K (some 1005) p e R s m args below meth c D cI cR ad ad0 n0 A H locs cells slots mc ms ls hF h1 h2 h3 h4 h5 h6 hW hn hE hl)
theorem go_alen0 (hd : decode M.2.1 pc = .ok (.arraylength, 1)) (K : gb_Go l M d kc ks (pc + 1) lv (.inl 141 :: st) Sh I post) : gb_Go l M d kc ks pc lv (.inr (some 1002) :: st) Sh I post := by
  intro p e R s m args below meth c D cI cR ad ad0 n0 A H locs cells slots mc ms ls hF h1 h2 h3 h4 h5 h6 hW hn hE hl
  exact va_tlen hF.1 hF.2.1 hW.2.2.2.2.2.2.1.2.1.2.2.2.2 hW.2.2.2.2.1 rfl hd (K p e R s m args below meth c D cI cR ad ad0 n0 A H locs cells slots mc ms ls hF h1 h2 h3 h4 h5 h6 hW hn hE hl)
theorem go_alen1 (hd : decode M.2.1 pc = .ok (.arraylength, 1)) (K : gb_Go l M d kc ks (pc + 1) lv (.inl 10 :: st) Sh I post) : gb_Go l M d kc ks pc lv (.inr (some 1004) :: st) Sh I post := by
  intro p e R s m args below meth c D cI cR ad ad0 n0 A H locs cells slots mc ms ls hF h1 h2 h3 h4 h5 h6 hW hn hE hl
  exact va_tlen hF.1 hF.2.1 hW.2.2.2.2.2.2.1.2.2.1.2.2.2.2 hW.2.2.2.2.1 rfl hd (K p e R s m args below meth c D cI cR ad ad0 n0 A H locs cells slots mc ms ls hF h1 h2 h3 h4 h5 h6 hW hn hE hl)
theorem go_bald0 {i : Int32} (hd : decode M.2.1 pc = .ok (.baload, 1)) (hi : vp_in i 141) (K : gb_Go l M d kc ks (pc + 1) lv (.inl (gb_by0 i.toNatClampNeg) :: st) Sh I post) : gb_Go l M d kc ks pc lv (.inl i :: .inr (some 1002) :: st) Sh I post := by
  intro p e R s m args below meth c D cI cR ad ad0 n0 A H locs cells slots mc ms ls hF h1 h2 h3 h4 h5 h6 hW hn hE hl
  exact va_tb hF.1 hF.2.1 hW.2.2.2.2.2.2.1.2.1.2.2.2.2 hW.2.2.2.2.1 hi rfl hd (K p e R s m args below meth c D cI cR ad ad0 n0 A H locs cells slots mc ms ls hF h1 h2 h3 h4 h5 h6 hW hn hE hl)
theorem go_bald1 {i : Int32} (hd : decode M.2.1 pc = .ok (.baload, 1)) (hi : vp_in i 10) (K : gb_Go l M d kc ks (pc + 1) lv (.inl (gb_by1 i.toNatClampNeg) :: st) Sh I post) : gb_Go l M d kc ks pc lv (.inl i :: .inr (some 1004) :: st) Sh I post := by
  intro p e R s m args below meth c D cI cR ad ad0 n0 A H locs cells slots mc ms ls hF h1 h2 h3 h4 h5 h6 hW hn hE hl
  exact va_tb hF.1 hF.2.1 hW.2.2.2.2.2.2.1.2.2.1.2.2.2.2 hW.2.2.2.2.1 hi rfl hd (K p e R s m args below meth c D cI cR ad ad0 n0 A H locs cells slots mc ms ls hF h1 h2 h3 h4 h5 h6 hW hn hE hl)
theorem go_treturn {v : Int32} {ty : FieldType} (hd : decode M.2.1 pc = .ok (.ireturn, 1)) (hr : M.2.2.2 = some ty) (hnr : narrow ty (.int v) = .int v) (hp : post (some (.inl v)) Sh I) : gb_Go l M d kc ks pc lv [.inl v] Sh I post := by
  intro p e R s m args below meth c D cI cR ad ad0 n0 A H locs cells slots mc ms ls hF h1 h2 h3 h4 h5 h6 hW hn hE hl
  refine W.widen (k := mc) (n := ms) (by omega) (by omega) ?_
  exact W.zret (v := v) (ty := ty) hF.1 hF.2.1 (hF.2.2.2.1.trans hr) hnr (fun t ht hw => gb_fin hW hn hE hp t ht hw) hW.2.2.2.2.1.2.2 hd hF.2.2.2.2.1
end RulesT
theorem d_Js_length_0 : decode yJs_length.2.1 0 = .ok (.aload_n 0, 1) := by decide +kernel
theorem d_Js_length_1 : decode yJs_length.2.1 1 = .ok (.getfield 9, 3) := by decide +kernel
theorem d_Js_length_4 : decode yJs_length.2.1 4 = .ok (.arraylength, 1) := by decide +kernel
theorem d_Js_length_5 : decode yJs_length.2.1 5 = .ok (.aload_n 0, 1) := by decide +kernel
theorem d_Js_length_6 : decode yJs_length.2.1 6 = .ok (.invokevirtual 335, 3) := by decide +kernel
theorem d_Js_length_9 : decode yJs_length.2.1 9 = .ok (.ishr, 1) := by decide +kernel
theorem d_Js_length_10 : decode yJs_length.2.1 10 = .ok (.ireturn, 1) := by decide +kernel
theorem d_Js_coder_0 : decode yJs_coder.2.1 0 = .ok (.getstatic 38, 3) := by decide +kernel
theorem d_Js_coder_3 : decode yJs_coder.2.1 3 = .ok (.ifCond .eq 10, 3) := by decide +kernel
theorem d_Js_coder_6 : decode yJs_coder.2.1 6 = .ok (.aload_n 0, 1) := by decide +kernel
theorem d_Js_coder_7 : decode yJs_coder.2.1 7 = .ok (.getfield 15, 3) := by decide +kernel
theorem d_Js_coder_10 : decode yJs_coder.2.1 10 = .ok (.goto 4, 3) := by decide +kernel
theorem d_Js_coder_13 : decode yJs_coder.2.1 13 = .ok (.iconst 1, 1) := by decide +kernel
theorem d_Js_coder_14 : decode yJs_coder.2.1 14 = .ok (.ireturn, 1) := by decide +kernel
theorem d_Js_charAt_0 : decode yJs_charAt.2.1 0 = .ok (.aload_n 0, 1) := by decide +kernel
theorem d_Js_charAt_1 : decode yJs_charAt.2.1 1 = .ok (.invokevirtual 492, 3) := by decide +kernel
theorem d_Js_charAt_4 : decode yJs_charAt.2.1 4 = .ok (.ifCond .eq 12, 3) := by decide +kernel
theorem d_Js_charAt_7 : decode yJs_charAt.2.1 7 = .ok (.aload_n 0, 1) := by decide +kernel
theorem d_Js_charAt_8 : decode yJs_charAt.2.1 8 = .ok (.getfield 9, 3) := by decide +kernel
theorem d_Js_charAt_11 : decode yJs_charAt.2.1 11 = .ok (.iload_n 1, 1) := by decide +kernel
theorem d_Js_charAt_12 : decode yJs_charAt.2.1 12 = .ok (.invokestatic 495, 3) := by decide +kernel
theorem d_Js_charAt_15 : decode yJs_charAt.2.1 15 = .ok (.ireturn, 1) := by decide +kernel
theorem d_Js_charAt_16 : decode yJs_charAt.2.1 16 = .ok (.aload_n 0, 1) := by decide +kernel
theorem d_Js_charAt_17 : decode yJs_charAt.2.1 17 = .ok (.getfield 9, 3) := by decide +kernel
theorem d_Js_charAt_20 : decode yJs_charAt.2.1 20 = .ok (.iload_n 1, 1) := by decide +kernel
theorem d_Js_charAt_21 : decode yJs_charAt.2.1 21 = .ok (.invokestatic 498, 3) := by decide +kernel
theorem d_Js_charAt_24 : decode yJs_charAt.2.1 24 = .ok (.ireturn, 1) := by decide +kernel
theorem d_Js_isLatin1_0 : decode yJs_isLatin1.2.1 0 = .ok (.getstatic 38, 3) := by decide +kernel
theorem d_Js_isLatin1_3 : decode yJs_isLatin1.2.1 3 = .ok (.ifCond .eq 14, 3) := by decide +kernel
theorem d_Js_isLatin1_6 : decode yJs_isLatin1.2.1 6 = .ok (.aload_n 0, 1) := by decide +kernel
theorem d_Js_isLatin1_7 : decode yJs_isLatin1.2.1 7 = .ok (.getfield 15, 3) := by decide +kernel
theorem d_Js_isLatin1_10 : decode yJs_isLatin1.2.1 10 = .ok (.ifCond .ne 7, 3) := by decide +kernel
theorem d_Js_isLatin1_13 : decode yJs_isLatin1.2.1 13 = .ok (.iconst 1, 1) := by decide +kernel
theorem d_Js_isLatin1_14 : decode yJs_isLatin1.2.1 14 = .ok (.goto 4, 3) := by decide +kernel
theorem d_Js_isLatin1_17 : decode yJs_isLatin1.2.1 17 = .ok (.iconst 0, 1) := by decide +kernel
theorem d_Js_isLatin1_18 : decode yJs_isLatin1.2.1 18 = .ok (.ireturn, 1) := by decide +kernel
theorem d_Jl_charAt_0 : decode yJl_charAt.2.1 0 = .ok (.iload_n 1, 1) := by decide +kernel
theorem d_Jl_charAt_1 : decode yJl_charAt.2.1 1 = .ok (.aload_n 0, 1) := by decide +kernel
theorem d_Jl_charAt_2 : decode yJl_charAt.2.1 2 = .ok (.arraylength, 1) := by decide +kernel
theorem d_Jl_charAt_3 : decode yJl_charAt.2.1 3 = .ok (.invokestatic 9, 3) := by decide +kernel
theorem d_Jl_charAt_6 : decode yJl_charAt.2.1 6 = .ok (.aload_n 0, 1) := by decide +kernel
theorem d_Jl_charAt_7 : decode yJl_charAt.2.1 7 = .ok (.iload_n 1, 1) := by decide +kernel
theorem d_Jl_charAt_8 : decode yJl_charAt.2.1 8 = .ok (.baload, 1) := by decide +kernel
theorem d_Jl_charAt_9 : decode yJl_charAt.2.1 9 = .ok (.sipush 255, 3) := by decide +kernel
theorem d_Jl_charAt_12 : decode yJl_charAt.2.1 12 = .ok (.iand, 1) := by decide +kernel
theorem d_Jl_charAt_13 : decode yJl_charAt.2.1 13 = .ok (.i2c, 1) := by decide +kernel
theorem d_Jl_charAt_14 : decode yJl_charAt.2.1 14 = .ok (.ireturn, 1) := by decide +kernel
theorem d_Js_checkIndex_0 : decode yJs_checkIndex.2.1 0 = .ok (.iload_n 0, 1) := by decide +kernel
theorem d_Js_checkIndex_1 : decode yJs_checkIndex.2.1 1 = .ok (.iload_n 1, 1) := by decide +kernel
theorem d_Js_checkIndex_2 : decode yJs_checkIndex.2.1 2 = .ok (.getstatic 1053, 3) := by decide +kernel
theorem d_Js_checkIndex_5 : decode yJs_checkIndex.2.1 5 = .ok (.invokestatic 1059, 3) := by decide +kernel
theorem d_Js_checkIndex_8 : decode yJs_checkIndex.2.1 8 = .ok (.pop, 1) := by decide +kernel
theorem d_Js_checkIndex_9 : decode yJs_checkIndex.2.1 9 = .ok (.return_, 1) := by decide +kernel
theorem d_Jp_checkIndex_0 : decode yJp_checkIndex.2.1 0 = .ok (.iload_n 0, 1) := by decide +kernel
theorem d_Jp_checkIndex_1 : decode yJp_checkIndex.2.1 1 = .ok (.ifCond .lt 8, 3) := by decide +kernel
theorem d_Jp_checkIndex_4 : decode yJp_checkIndex.2.1 4 = .ok (.iload_n 0, 1) := by decide +kernel
theorem d_Jp_checkIndex_5 : decode yJp_checkIndex.2.1 5 = .ok (.iload_n 1, 1) := by decide +kernel
theorem d_Jp_checkIndex_6 : decode yJp_checkIndex.2.1 6 = .ok (.if_icmp .lt 10, 3) := by decide +kernel
theorem d_Jp_checkIndex_9 : decode yJp_checkIndex.2.1 9 = .ok (.aload_n 2, 1) := by decide +kernel
theorem d_Jp_checkIndex_10 : decode yJp_checkIndex.2.1 10 = .ok (.iload_n 0, 1) := by decide +kernel
theorem d_Jp_checkIndex_11 : decode yJp_checkIndex.2.1 11 = .ok (.iload_n 1, 1) := by decide +kernel
theorem d_Jp_checkIndex_12 : decode yJp_checkIndex.2.1 12 = .ok (.invokestatic 95, 3) := by decide +kernel
theorem d_Jp_checkIndex_16 : decode yJp_checkIndex.2.1 16 = .ok (.iload_n 0, 1) := by decide +kernel
theorem d_Jp_checkIndex_17 : decode yJp_checkIndex.2.1 17 = .ok (.ireturn, 1) := by decide +kernel
theorem d_Js_indexOf_0 : decode yJs_indexOf.2.1 0 = .ok (.aload_n 0, 1) := by decide +kernel
theorem d_Js_indexOf_1 : decode yJs_indexOf.2.1 1 = .ok (.iload_n 1, 1) := by decide +kernel
theorem d_Js_indexOf_2 : decode yJs_indexOf.2.1 2 = .ok (.iconst 0, 1) := by decide +kernel
theorem d_Js_indexOf_3 : decode yJs_indexOf.2.1 3 = .ok (.invokevirtual 633, 3) := by decide +kernel
theorem d_Js_indexOf_6 : decode yJs_indexOf.2.1 6 = .ok (.ireturn, 1) := by decide +kernel
theorem d_Js_indexOf_III_0 : decode yJs_indexOf_III.2.1 0 = .ok (.aload_n 0, 1) := by decide +kernel
theorem d_Js_indexOf_III_1 : decode yJs_indexOf_III.2.1 1 = .ok (.invokevirtual 492, 3) := by decide +kernel
theorem d_Js_indexOf_III_4 : decode yJs_indexOf_III.2.1 4 = .ok (.ifCond .eq 19, 3) := by decide +kernel
theorem d_Js_indexOf_III_7 : decode yJs_indexOf_III.2.1 7 = .ok (.aload_n 0, 1) := by decide +kernel
theorem d_Js_indexOf_III_8 : decode yJs_indexOf_III.2.1 8 = .ok (.getfield 9, 3) := by decide +kernel
theorem d_Js_indexOf_III_11 : decode yJs_indexOf_III.2.1 11 = .ok (.iload_n 1, 1) := by decide +kernel
theorem d_Js_indexOf_III_12 : decode yJs_indexOf_III.2.1 12 = .ok (.iload_n 2, 1) := by decide +kernel
theorem d_Js_indexOf_III_13 : decode yJs_indexOf_III.2.1 13 = .ok (.aload_n 0, 1) := by decide +kernel
theorem d_Js_indexOf_III_14 : decode yJs_indexOf_III.2.1 14 = .ok (.invokevirtual 505, 3) := by decide +kernel
theorem d_Js_indexOf_III_17 : decode yJs_indexOf_III.2.1 17 = .ok (.invokestatic 637, 3) := by decide +kernel
theorem d_Js_indexOf_III_20 : decode yJs_indexOf_III.2.1 20 = .ok (.goto 16, 3) := by decide +kernel
theorem d_Js_indexOf_III_23 : decode yJs_indexOf_III.2.1 23 = .ok (.aload_n 0, 1) := by decide +kernel
theorem d_Js_indexOf_III_24 : decode yJs_indexOf_III.2.1 24 = .ok (.getfield 9, 3) := by decide +kernel
theorem d_Js_indexOf_III_27 : decode yJs_indexOf_III.2.1 27 = .ok (.iload_n 1, 1) := by decide +kernel
theorem d_Js_indexOf_III_28 : decode yJs_indexOf_III.2.1 28 = .ok (.iload_n 2, 1) := by decide +kernel
theorem d_Js_indexOf_III_29 : decode yJs_indexOf_III.2.1 29 = .ok (.aload_n 0, 1) := by decide +kernel
theorem d_Js_indexOf_III_30 : decode yJs_indexOf_III.2.1 30 = .ok (.invokevirtual 505, 3) := by decide +kernel
theorem d_Js_indexOf_III_33 : decode yJs_indexOf_III.2.1 33 = .ok (.invokestatic 640, 3) := by decide +kernel
theorem d_Js_indexOf_III_36 : decode yJs_indexOf_III.2.1 36 = .ok (.ireturn, 1) := by decide +kernel
theorem d_Jl_indexOf_0 : decode yJl_indexOf.2.1 0 = .ok (.iload_n 1, 1) := by decide +kernel
theorem d_Jl_indexOf_1 : decode yJl_indexOf.2.1 1 = .ok (.invokestatic 88, 3) := by decide +kernel
theorem d_Jl_indexOf_4 : decode yJl_indexOf.2.1 4 = .ok (.ifCond .ne 5, 3) := by decide +kernel
theorem d_Jl_indexOf_7 : decode yJl_indexOf.2.1 7 = .ok (.iconst (-1), 1) := by decide +kernel
theorem d_Jl_indexOf_8 : decode yJl_indexOf.2.1 8 = .ok (.ireturn, 1) := by decide +kernel
theorem d_Jl_indexOf_9 : decode yJl_indexOf.2.1 9 = .ok (.iload_n 2, 1) := by decide +kernel
theorem d_Jl_indexOf_10 : decode yJl_indexOf.2.1 10 = .ok (.iconst 0, 1) := by decide +kernel
theorem d_Jl_indexOf_11 : decode yJl_indexOf.2.1 11 = .ok (.invokestatic 92, 3) := by decide +kernel
theorem d_Jl_indexOf_14 : decode yJl_indexOf.2.1 14 = .ok (.istore_n 2, 1) := by decide +kernel
theorem d_Jl_indexOf_15 : decode yJl_indexOf.2.1 15 = .ok (.iload_n 3, 1) := by decide +kernel
theorem d_Jl_indexOf_16 : decode yJl_indexOf.2.1 16 = .ok (.aload_n 0, 1) := by decide +kernel
theorem d_Jl_indexOf_17 : decode yJl_indexOf.2.1 17 = .ok (.arraylength, 1) := by decide +kernel
theorem d_Jl_indexOf_18 : decode yJl_indexOf.2.1 18 = .ok (.invokestatic 38, 3) := by decide +kernel
theorem d_Jl_indexOf_21 : decode yJl_indexOf.2.1 21 = .ok (.istore_n 3, 1) := by decide +kernel
theorem d_Jl_indexOf_22 : decode yJl_indexOf.2.1 22 = .ok (.iload_n 2, 1) := by decide +kernel
theorem d_Jl_indexOf_23 : decode yJl_indexOf.2.1 23 = .ok (.iload_n 3, 1) := by decide +kernel
theorem d_Jl_indexOf_24 : decode yJl_indexOf.2.1 24 = .ok (.if_icmp .lt 5, 3) := by decide +kernel
theorem d_Jl_indexOf_27 : decode yJl_indexOf.2.1 27 = .ok (.iconst (-1), 1) := by decide +kernel
theorem d_Jl_indexOf_28 : decode yJl_indexOf.2.1 28 = .ok (.ireturn, 1) := by decide +kernel
theorem d_Jl_indexOf_29 : decode yJl_indexOf.2.1 29 = .ok (.aload_n 0, 1) := by decide +kernel
theorem d_Jl_indexOf_30 : decode yJl_indexOf.2.1 30 = .ok (.iload_n 1, 1) := by decide +kernel
theorem d_Jl_indexOf_31 : decode yJl_indexOf.2.1 31 = .ok (.iload_n 2, 1) := by decide +kernel
theorem d_Jl_indexOf_32 : decode yJl_indexOf.2.1 32 = .ok (.iload_n 3, 1) := by decide +kernel
theorem d_Jl_indexOf_33 : decode yJl_indexOf.2.1 33 = .ok (.invokestatic 95, 3) := by decide +kernel
theorem d_Jl_indexOf_36 : decode yJl_indexOf.2.1 36 = .ok (.ireturn, 1) := by decide +kernel
theorem d_Jl_canEncode_0 : decode yJl_canEncode.2.1 0 = .ok (.iload_n 0, 1) := by decide +kernel
theorem d_Jl_canEncode_1 : decode yJl_canEncode.2.1 1 = .ok (.ifCond .lt 14, 3) := by decide +kernel
theorem d_Jl_canEncode_4 : decode yJl_canEncode.2.1 4 = .ok (.iload_n 0, 1) := by decide +kernel
theorem d_Jl_canEncode_5 : decode yJl_canEncode.2.1 5 = .ok (.sipush 255, 3) := by decide +kernel
theorem d_Jl_canEncode_8 : decode yJl_canEncode.2.1 8 = .ok (.if_icmp .gt 7, 3) := by decide +kernel
theorem d_Jl_canEncode_11 : decode yJl_canEncode.2.1 11 = .ok (.iconst 1, 1) := by decide +kernel
theorem d_Jl_canEncode_12 : decode yJl_canEncode.2.1 12 = .ok (.goto 4, 3) := by decide +kernel
theorem d_Jl_canEncode_15 : decode yJl_canEncode.2.1 15 = .ok (.iconst 0, 1) := by decide +kernel
theorem d_Jl_canEncode_16 : decode yJl_canEncode.2.1 16 = .ok (.ireturn, 1) := by decide +kernel
theorem d_Jl_indexOfChar_0 : decode yJl_indexOfChar.2.1 0 = .ok (.iload_n 1, 1) := by decide +kernel
theorem d_Jl_indexOfChar_1 : decode yJl_indexOfChar.2.1 1 = .ok (.i2b, 1) := by decide +kernel
theorem d_Jl_indexOfChar_2 : decode yJl_indexOfChar.2.1 2 = .ok (.istore 4, 2) := by decide +kernel
theorem d_Jl_indexOfChar_4 : decode yJl_indexOfChar.2.1 4 = .ok (.iload_n 2, 1) := by decide +kernel
theorem d_Jl_indexOfChar_5 : decode yJl_indexOfChar.2.1 5 = .ok (.istore 5, 2) := by decide +kernel
theorem d_Jl_indexOfChar_7 : decode yJl_indexOfChar.2.1 7 = .ok (.iload 5, 2) := by decide +kernel
theorem d_Jl_indexOfChar_9 : decode yJl_indexOfChar.2.1 9 = .ok (.iload_n 3, 1) := by decide +kernel
theorem d_Jl_indexOfChar_10 : decode yJl_indexOfChar.2.1 10 = .ok (.if_icmp .ge 21, 3) := by decide +kernel
theorem d_Jl_indexOfChar_13 : decode yJl_indexOfChar.2.1 13 = .ok (.aload_n 0, 1) := by decide +kernel
theorem d_Jl_indexOfChar_14 : decode yJl_indexOfChar.2.1 14 = .ok (.iload 5, 2) := by decide +kernel
theorem d_Jl_indexOfChar_16 : decode yJl_indexOfChar.2.1 16 = .ok (.baload, 1) := by decide +kernel
theorem d_Jl_indexOfChar_17 : decode yJl_indexOfChar.2.1 17 = .ok (.iload 4, 2) := by decide +kernel
theorem d_Jl_indexOfChar_19 : decode yJl_indexOfChar.2.1 19 = .ok (.if_icmp .ne 6, 3) := by decide +kernel
theorem d_Jl_indexOfChar_22 : decode yJl_indexOfChar.2.1 22 = .ok (.iload 5, 2) := by decide +kernel
theorem d_Jl_indexOfChar_24 : decode yJl_indexOfChar.2.1 24 = .ok (.ireturn, 1) := by decide +kernel
theorem d_Jl_indexOfChar_25 : decode yJl_indexOfChar.2.1 25 = .ok (.iinc 5 1, 3) := by decide +kernel
theorem d_Jl_indexOfChar_28 : decode yJl_indexOfChar.2.1 28 = .ok (.goto (-21), 3) := by decide +kernel
theorem d_Jl_indexOfChar_31 : decode yJl_indexOfChar.2.1 31 = .ok (.iconst (-1), 1) := by decide +kernel
theorem d_Jl_indexOfChar_32 : decode yJl_indexOfChar.2.1 32 = .ok (.ireturn, 1) := by decide +kernel
theorem c_Js_coder (l : Launch) (d0 a : Nat) (ha : a = 1001 ∨ a = 1003) (I : gb_Mem) : gb_Cs l yJs_coder (d0 + 0) [.inr (some a)] shX I (some (.inl 0)) I := by
  refine gb_Ct.of (lv := [(0, .inr (some a))]) rfl (Nat.le_of_ble_eq_true rfl) rfl ?_
  refine go_getZ rfl d_Js_coder_0 ?_
  refine go_if_eq (tgt := 13) d_Js_coder_3 (by decide) (fun hc => absurd hc (by decide)) (fun hc => ?_)
  refine go_aload_n (k := 0) d_Js_coder_6 rfl rfl ?_
  refine go_getSc ha rfl d_Js_coder_7 ?_
  refine go_goto (tgt := 14) d_Js_coder_10 (by decide) ?_
  exact go_treturn (ty := .byte) d_Js_coder_14 rfl (by decide) gb_po_i
theorem c_Js_isLatin1 (l : Launch) (d0 a : Nat) (ha : a = 1001 ∨ a = 1003) (I : gb_Mem) : gb_Cs l yJs_isLatin1 (d0 + 0) [.inr (some a)] shX I (some (.inl 1)) I := by
  refine gb_Ct.of (lv := [(0, .inr (some a))]) rfl (Nat.le_of_ble_eq_true rfl) rfl ?_
  refine go_getZ rfl d_Js_isLatin1_0 ?_
  refine go_if_eq (tgt := 17) d_Js_isLatin1_3 (by decide) (fun hc => absurd hc (by decide)) (fun hc => ?_)
  refine go_aload_n (k := 0) d_Js_isLatin1_6 rfl rfl ?_
  refine go_getSc ha rfl d_Js_isLatin1_7 ?_
  refine go_if_ne (tgt := 17) d_Js_isLatin1_10 (by decide) (fun hc => absurd rfl hc) (fun hc => ?_)
  refine go_iconst (v := 1) d_Js_isLatin1_13 (by decide) ?_
  refine go_goto (tgt := 18) d_Js_isLatin1_14 (by decide) ?_
  exact go_zreturn d_Js_isLatin1_18 rfl (Or.inr rfl) gb_po_i
def gb_slen (a : Nat) : Int32 := if a = 1001 then 141 else 10
theorem c_Js_len (l : Launch) (d0 a : Nat) (ha : a = 1001 ∨ a = 1003) (I : gb_Mem) : gb_Cs l yJs_length (d0 + 1) [.inr (some a)] shX I (some (.inl (gb_slen a))) I := by
  refine gb_Ct.of (lv := [(0, .inr (some a))]) rfl (Nat.le_of_ble_eq_true rfl) rfl ?_
  refine go_aload_n (k := 0) d_Js_length_0 rfl rfl ?_
  refine go_getSv ha rfl d_Js_length_1 ?_
  have fin : ∀ n : Int32, n >>> ((0 : Int32) &&& 31) = gb_slen a → gb_Go l yJs_length (d0 + 1) 0 0 5 [(0, .inr (some a))] [.inl n] shX I (gb_po shX (some (.inl (gb_slen a))) I) := by
    intro n hn
    refine go_aload_n (k := 0) d_Js_length_5 rfl rfl ?_
    refine go_callT (a := a) (y := yJs_coder) (asr := []) (v := some (.inl 0)) (I' := I) (st1 := [.inl 0, .inl n]) ha d_Js_length_6 s_yJs_coder m_Js_335 rfl rfl (Nat.le_of_ble_eq_true rfl) rfl rfl (c_Js_coder l (d0 + 0) a ha I) ?_
    refine go_ishr d_Js_length_9 ?_
    rw [hn]
    exact go_ireturn d_Js_length_10 rfl gb_po_i
  rcases ha with rfl | rfl
  · exact go_alen0 d_Js_length_4 (fin 141 (by decide))
  · exact go_alen1 d_Js_length_4 (fin 10 (by decide))
def F_Js_length (_ : gb_Mem) : Int32 := 141
theorem c_Js_length (l : Launch) (d0 : Nat) (I : gb_Mem) : gb_Cs l yJs_length (d0 + 1) [.inr (some 1001)] shX I (some (.inl (F_Js_length I))) I := c_Js_len l d0 1001 (Or.inl rfl) I
theorem c_Jp_checkIndex (l : Launch) (d0 : Nat) (i n : Int32) (x : Option Nat) (h0 : ¬ i < 0) (hn : i < n) (I : gb_Mem) : gb_Cs l yJp_checkIndex (d0 + 0) [.inl i, .inl n, .inr x] shX I (some (.inl i)) I := by
  refine gb_Ct.of (lv := [(0, .inl i), (1, .inl n), (2, .inr x)]) rfl (Nat.le_of_ble_eq_true rfl) rfl ?_
  refine go_iload_n (k := 0) d_Jp_checkIndex_0 rfl rfl ?_
  refine go_if_lt (tgt := 9) d_Jp_checkIndex_1 (by decide) (fun hc => absurd hc h0) (fun hc => ?_)
  refine go_iload_n (k := 0) d_Jp_checkIndex_4 rfl rfl ?_
  refine go_iload_n (k := 1) d_Jp_checkIndex_5 rfl rfl ?_
  refine go_cmp_lt (tgt := 16) d_Jp_checkIndex_6 (by decide) (fun hc => ?_) (fun hc => absurd hn hc)
  refine go_iload_n (k := 0) d_Jp_checkIndex_16 rfl rfl ?_
  exact go_ireturn d_Jp_checkIndex_17 rfl gb_po_i
theorem c_Js_checkIndex (l : Launch) (d0 : Nat) (i n : Int32) (h0 : ¬ i < 0) (hn : i < n) (I : gb_Mem) : gb_Cs l yJs_checkIndex (d0 + 1) [.inl i, .inl n] shX I none I := by
  refine gb_Ct.of (lv := [(0, .inl i), (1, .inl n)]) rfl (Nat.le_of_ble_eq_true rfl) rfl ?_
  refine go_iload_n (k := 0) d_Js_checkIndex_0 rfl rfl ?_
  refine go_iload_n (k := 1) d_Js_checkIndex_1 rfl rfl ?_
  refine go_getFm rfl d_Js_checkIndex_2 (fun x => ?_)
  refine go_callS (y := yJp_checkIndex) (asr := [.inl i, .inl n, .inr x]) (v := some (.inl i)) (I' := I) (st1 := [.inl i]) d_Js_checkIndex_5 s_yJp_checkIndex m_Js_1059 rfl (Nat.le_of_ble_eq_true rfl) rfl rfl (c_Jp_checkIndex l (d0 + 0) i n x h0 hn I) ?_
  refine go_pop d_Js_checkIndex_8 ?_
  exact go_return d_Js_checkIndex_9 rfl gb_po_i
theorem gb_by0_ok : ∀ j, j < 141 → ((gb_by0 j &&& 255).toUInt32 % 65536).toInt32 = gb_by0 j := by decide +kernel
theorem c_Jl_charAt (l : Launch) (d0 : Nat) (i : Int32) (hi : vp_in i 141) (I : gb_Mem) : gb_Cs l yJl_charAt (d0 + 2) [.inr (some 1002), .inl i] shX I (some (.inl (gb_by0 i.toNatClampNeg))) I := by
  have h0 : ¬ i < 0 := fun q => hi (Or.inl q)
  obtain ⟨j, hj, rfl⟩ := vp_in_of hi (by decide)
  have hn : nI j < 141 := nI_lt (b := 141) hj (by decide)
  refine gb_Ct.of (lv := [(0, .inr (some 1002)), (1, .inl (nI j))]) rfl (Nat.le_of_ble_eq_true rfl) rfl ?_
  refine go_iload_n (k := 1) d_Jl_charAt_0 rfl rfl ?_
  refine go_aload_n (k := 0) d_Jl_charAt_1 rfl rfl ?_
  refine go_alen0 d_Jl_charAt_2 ?_
  refine go_callS (y := yJs_checkIndex) (asr := [.inl (nI j), .inl 141]) (v := none) (I' := I) (st1 := []) d_Jl_charAt_3 s_yJs_checkIndex m_Jl_9 rfl (Nat.le_of_ble_eq_true rfl) rfl rfl (c_Js_checkIndex l (d0 + 0) (nI j) 141 h0 hn I) ?_
  refine go_aload_n (k := 0) d_Jl_charAt_6 rfl rfl ?_
  refine go_iload_n (k := 1) d_Jl_charAt_7 rfl rfl ?_
  refine go_bald0 d_Jl_charAt_8 hi ?_
  refine go_sipush (v := 255) d_Jl_charAt_9 (by decide) ?_
  refine go_iand d_Jl_charAt_12 ?_
  refine go_i2c d_Jl_charAt_13 ?_
  have e1 : ((gb_by0 (nI j).toNatClampNeg &&& 255).toUInt32 % 65536).toInt32 = gb_by0 (nI j).toNatClampNeg := by rw [nI_clamp (by omega)]; exact gb_by0_ok j hj
  refine go_treturn (ty := .char) d_Jl_charAt_14 rfl (pk_nc _) ?_
  rw [e1]
  exact gb_po_i
def F_Js_charAt (x1 : Int32) (_ : gb_Mem) : Option Int32 := if inb x1 141 = true then some (gb_by0 x1.toNatClampNeg) else none
theorem c_Js_charAt (l : Launch) (d0 : Nat) (x1 : Int32) (I : gb_Mem) {rz : Int32} (h : F_Js_charAt x1 I = some rz) : gb_Cs l yJs_charAt (d0 + 3) [.inr (some 1001), .inl x1] shX I (some (.inl rz)) I := by
  unfold F_Js_charAt at h
  by_cases hc : inb x1 141 = true
  · rw [if_pos hc] at h
    have e := Option.some.inj h
    subst e
    have hi := inb_iff.mp hc
    refine gb_Ct.of (lv := [(0, .inr (some 1001)), (1, .inl x1)]) rfl (Nat.le_of_ble_eq_true rfl) rfl ?_
    refine go_aload_n (k := 0) d_Js_charAt_0 rfl rfl ?_
    refine go_callT (a := 1001) (y := yJs_isLatin1) (asr := []) (v := some (.inl 1)) (I' := I) (st1 := [.inl 1]) (Or.inl rfl) d_Js_charAt_1 s_yJs_isLatin1 m_Js_492 rfl rfl (Nat.le_of_ble_eq_true rfl) rfl rfl (c_Js_isLatin1 l (d0 + 2) 1001 (Or.inl rfl) I) ?_
    refine go_if_eq (tgt := 16) d_Js_charAt_4 (by decide) (fun hc => absurd hc (by decide)) (fun hc => ?_)
    refine go_aload_n (k := 0) d_Js_charAt_7 rfl rfl ?_
    refine go_getSv (Or.inl rfl) rfl d_Js_charAt_8 ?_
    refine go_iload_n (k := 1) d_Js_charAt_11 rfl rfl ?_
    refine go_callS (y := yJl_charAt) (asr := [.inr (some 1002), .inl x1]) (v := some (.inl (gb_by0 x1.toNatClampNeg))) (I' := I) (st1 := [.inl (gb_by0 x1.toNatClampNeg)]) d_Js_charAt_12 s_yJl_charAt m_Js_495 rfl (Nat.le_of_ble_eq_true rfl) rfl rfl (c_Jl_charAt l (d0 + 0) x1 hi I) ?_
    refine go_treturn (ty := .char) d_Js_charAt_15 rfl ?_ gb_po_i
    obtain ⟨j, hj, rfl⟩ := vp_in_of hi (by decide)
    rw [nI_clamp (by omega), ← gb_by0_ok j hj]
    exact pk_nc _
  · rw [if_neg hc] at h
    cases h
/-- where the sign x stands among the ten, from place k on -/
def gb_ixF (x : Int32) : Nat → Nat → Int32
  | 0, _ => -1
  | n + 1, k => if gb_by1 k = x then nI k else gb_ixF x n (k + 1)
def F_Js_indexOf (x1 : Int32) (_ : gb_Mem) : Int32 := if x1 < 0 then -1 else if 255 < x1 then -1 else gb_ixF (x1.toInt8.toInt32) 10 0
theorem c_Jl_canEncode (l : Launch) (d0 : Nat) (x : Int32) (I : gb_Mem) : gb_Cs l yJl_canEncode (d0 + 0) [.inl x] shX I (some (.inl (if x < 0 then 0 else if 255 < x then 0 else 1))) I := by
  refine gb_Ct.of (lv := [(0, .inl x)]) rfl (Nat.le_of_ble_eq_true rfl) rfl ?_
  refine go_iload_n (k := 0) d_Jl_canEncode_0 rfl rfl ?_
  refine go_if_lt (tgt := 15) d_Jl_canEncode_1 (by decide) (fun hc => ?_) (fun hc => ?_)
  · refine go_iconst (v := 0) d_Jl_canEncode_15 (by decide) ?_
    refine go_zreturn d_Jl_canEncode_16 rfl (Or.inl rfl) ?_
    rw [if_pos hc]; exact gb_po_i
  · rw [if_neg hc]
    refine go_iload_n (k := 0) d_Jl_canEncode_4 rfl rfl ?_
    refine go_sipush (v := 255) d_Jl_canEncode_5 (by decide) ?_
    refine go_cmp_gt (tgt := 15) d_Jl_canEncode_8 (by decide) (fun hg => ?_) (fun hg => ?_)
    · refine go_iconst (v := 0) d_Jl_canEncode_15 (by decide) ?_
      refine go_zreturn d_Jl_canEncode_16 rfl (Or.inl rfl) ?_
      rw [if_pos hg]; exact gb_po_i
    · rw [if_neg hg]
      refine go_iconst (v := 1) d_Jl_canEncode_11 (by decide) ?_
      refine go_goto (tgt := 16) d_Jl_canEncode_12 (by decide) ?_
      exact go_zreturn d_Jl_canEncode_16 rfl (Or.inr rfl) gb_po_i
theorem l_Jl_indexOfChar (l : Launch) (d0 : Nat) (x : Int32) (I : gb_Mem) : ∀ (n k : Nat), k + n = 10 → gb_Go l yJl_indexOfChar (d0 + 0) 0 0 7 [(0, .inr (some 1004)), (3, .inl 10), (4, .inl x), (5, .inl (nI k))] [] shX I (gb_po shX (some (.inl (gb_ixF x n k))) I) := by
  intro n
  induction n with
  | zero =>
    intro k hk
    have hk : k = 10 := by omega
    subst hk
    refine go_iload (k := 3) d_Jl_indexOfChar_7 rfl ?_
    refine go_iload_n (k := 1) d_Jl_indexOfChar_9 rfl rfl ?_
    refine go_cmp_ge (tgt := 31) d_Jl_indexOfChar_10 (by decide) (fun hc => ?_) (fun hc => absurd (by decide) hc)
    refine go_iconst (v := -1) d_Jl_indexOfChar_31 (by decide) ?_
    exact go_ireturn d_Jl_indexOfChar_32 rfl gb_po_i
  | succ n ih =>
    intro k hk
    refine go_iload (k := 3) d_Jl_indexOfChar_7 rfl ?_
    refine go_iload_n (k := 1) d_Jl_indexOfChar_9 rfl rfl ?_
    refine go_cmp_ge (tgt := 31) d_Jl_indexOfChar_10 (by decide) (fun hc => absurd hc (nI_ge (a := k) (b := 10) (by omega) (by decide))) (fun hc => ?_)
    refine go_aload_n (k := 0) d_Jl_indexOfChar_13 rfl rfl ?_
    refine go_iload (k := 3) d_Jl_indexOfChar_14 rfl ?_
    refine go_bald1 d_Jl_indexOfChar_16 (vp_in_nI (by omega) (by decide)) ?_
    rw [nI_clamp (by omega)]
    refine go_iload (k := 2) d_Jl_indexOfChar_17 rfl ?_
    refine go_cmp_ne (tgt := 25) d_Jl_indexOfChar_19 (by decide) (fun hq => ?_) (fun hq => ?_)
    · rw [gb_ixF, if_neg hq]
      refine go_iinc (k := 3) (v := nI (k + 1)) (lv' := [(5, .inl (nI (k + 1))), (0, .inr (some 1004)), (3, .inl 10), (4, .inl x)]) d_Jl_indexOfChar_25 rfl (by rw [nI_succ]; rfl) (by decide) rfl ?_
      refine go_goto (tgt := 7) d_Jl_indexOfChar_28 (by decide) ?_
      exact go_lv [1, 2, 3, 0] rfl (ih (k + 1) (by omega))
    · rw [gb_ixF, if_pos hq]
      refine go_iload (k := 3) d_Jl_indexOfChar_22 rfl ?_
      exact go_ireturn d_Jl_indexOfChar_24 rfl gb_po_i
theorem c_Jl_indexOfChar (l : Launch) (d0 : Nat) (x : Int32) (I : gb_Mem) : gb_Cs l yJl_indexOfChar (d0 + 0) [.inr (some 1004), .inl x, .inl 0, .inl 10] shX I (some (.inl (gb_ixF (x.toInt8.toInt32) 10 0))) I := by
  refine gb_Ct.of (lv := [(0, .inr (some 1004)), (1, .inl x), (2, .inl 0), (3, .inl 10)]) rfl (Nat.le_of_ble_eq_true rfl) rfl ?_
  refine go_iload_n (k := 1) d_Jl_indexOfChar_0 rfl rfl ?_
  refine go_i2b d_Jl_indexOfChar_1 ?_
  refine go_istore (lv' := [(4, .inl (x.toInt8.toInt32)), (0, .inr (some 1004)), (1, .inl x), (2, .inl 0), (3, .inl 10)]) d_Jl_indexOfChar_2 (by decide) rfl ?_
  refine go_iload_n (k := 3) d_Jl_indexOfChar_4 rfl rfl ?_
  refine go_istore (lv' := [(5, .inl 0), (4, .inl (x.toInt8.toInt32)), (0, .inr (some 1004)), (1, .inl x), (2, .inl 0), (3, .inl 10)]) d_Jl_indexOfChar_5 (by decide) rfl ?_
  exact go_lv [2, 5, 1, 0] rfl (l_Jl_indexOfChar l d0 (x.toInt8.toInt32) I 10 0 rfl)
theorem c_Jl_indexOf (l : Launch) (d0 : Nat) (x : Int32) (I : gb_Mem) : gb_Cs l yJl_indexOf (d0 + 1) [.inr (some 1004), .inl x, .inl 0, .inl 10] shX I (some (.inl (F_Js_indexOf x I))) I := by
  refine gb_Ct.of (lv := [(0, .inr (some 1004)), (1, .inl x), (2, .inl 0), (3, .inl 10)]) rfl (Nat.le_of_ble_eq_true rfl) rfl ?_
  refine go_iload_n (k := 1) d_Jl_indexOf_0 rfl rfl ?_
  refine go_callS (y := yJl_canEncode) (asr := [.inl x]) (v := some (.inl (if x < 0 then 0 else if 255 < x then 0 else 1))) (I' := I) (st1 := [.inl (if x < 0 then 0 else if 255 < x then 0 else 1)]) d_Jl_indexOf_1 s_yJl_canEncode m_Jl_88 rfl (Nat.le_of_ble_eq_true rfl) rfl rfl (c_Jl_canEncode l (d0 + 0) x I) ?_
  refine go_if_ne (tgt := 9) d_Jl_indexOf_4 (by decide) (fun hc => ?_) (fun hc => ?_)
  · have e1 : F_Js_indexOf x I = gb_ixF (x.toInt8.toInt32) 10 0 := by
      unfold F_Js_indexOf
      by_cases h1 : x < 0
      · rw [if_pos h1] at hc; exact absurd rfl hc
      · rw [if_neg h1] at hc ⊢
        by_cases h2 : 255 < x
        · rw [if_pos h2] at hc; exact absurd rfl hc
        · rw [if_neg h2]
    rw [e1]
    refine go_iload_n (k := 2) d_Jl_indexOf_9 rfl rfl ?_
    refine go_iconst (v := 0) d_Jl_indexOf_10 (by decide) ?_
    refine go_mmax d_Jl_indexOf_11 m_Jl_92 (Nat.le_of_ble_eq_true rfl) ?_
    refine go_top (v := 0) (by decide) ?_
    refine go_istore_n (lv' := [(2, .inl 0), (0, .inr (some 1004)), (1, .inl x), (3, .inl 10)]) d_Jl_indexOf_14 rfl (by decide) rfl ?_
    refine go_iload_n (k := 3) d_Jl_indexOf_15 rfl rfl ?_
    refine go_aload_n (k := 1) d_Jl_indexOf_16 rfl rfl ?_
    refine go_alen1 d_Jl_indexOf_17 ?_
    refine go_mmin d_Jl_indexOf_18 m_Jl_38 (Nat.le_of_ble_eq_true rfl) ?_
    refine go_top (v := 10) (by decide) ?_
    refine go_istore_n (lv' := [(3, .inl 10), (2, .inl 0), (0, .inr (some 1004)), (1, .inl x)]) d_Jl_indexOf_21 rfl (by decide) rfl ?_
    refine go_iload_n (k := 1) d_Jl_indexOf_22 rfl rfl ?_
    refine go_iload_n (k := 0) d_Jl_indexOf_23 rfl rfl ?_
    refine go_cmp_lt (tgt := 29) d_Jl_indexOf_24 (by decide) (fun hq => ?_) (fun hq => absurd (by decide) hq)
    refine go_aload_n (k := 2) d_Jl_indexOf_29 rfl rfl ?_
    refine go_iload_n (k := 3) d_Jl_indexOf_30 rfl rfl ?_
    refine go_iload_n (k := 1) d_Jl_indexOf_31 rfl rfl ?_
    refine go_iload_n (k := 0) d_Jl_indexOf_32 rfl rfl ?_
    refine go_callS (y := yJl_indexOfChar) (asr := [.inr (some 1004), .inl x, .inl 0, .inl 10]) (v := some (.inl (gb_ixF (x.toInt8.toInt32) 10 0))) (I' := I) (st1 := [.inl (gb_ixF (x.toInt8.toInt32) 10 0)]) d_Jl_indexOf_33 s_yJl_indexOfChar m_Jl_95 rfl (Nat.le_of_ble_eq_true rfl) rfl rfl (c_Jl_indexOfChar l (d0 + 0) x I) ?_
    exact go_ireturn d_Jl_indexOf_36 rfl gb_po_i
  · have e1 : F_Js_indexOf x I = -1 := by
      unfold F_Js_indexOf
      by_cases h1 : x < 0
      · rw [if_pos h1]
      · rw [if_neg h1] at hc ⊢
        by_cases h2 : 255 < x
        · rw [if_pos h2]
        · rw [if_neg h2] at hc; exact absurd hc (by decide)
    rw [e1]
    refine go_iconst (v := -1) d_Jl_indexOf_7 (by decide) ?_
    exact go_ireturn d_Jl_indexOf_8 rfl gb_po_i
theorem c_Js_indexOf_III (l : Launch) (d0 : Nat) (x : Int32) (I : gb_Mem) : gb_Cs l yJs_indexOf_III (d0 + 2) [.inr (some 1003), .inl x, .inl 0] shX I (some (.inl (F_Js_indexOf x I))) I := by
  refine gb_Ct.of (lv := [(0, .inr (some 1003)), (1, .inl x), (2, .inl 0)]) rfl (Nat.le_of_ble_eq_true rfl) rfl ?_
  refine go_aload_n (k := 0) d_Js_indexOf_III_0 rfl rfl ?_
  refine go_callT (a := 1003) (y := yJs_isLatin1) (asr := []) (v := some (.inl 1)) (I' := I) (st1 := [.inl 1]) (Or.inr rfl) d_Js_indexOf_III_1 s_yJs_isLatin1 m_Js_492 rfl rfl (Nat.le_of_ble_eq_true rfl) rfl rfl (c_Js_isLatin1 l (d0 + 1) 1003 (Or.inr rfl) I) ?_
  refine go_if_eq (tgt := 23) d_Js_indexOf_III_4 (by decide) (fun hc => absurd hc (by decide)) (fun hc => ?_)
  refine go_aload_n (k := 0) d_Js_indexOf_III_7 rfl rfl ?_
  refine go_getSv (Or.inr rfl) rfl d_Js_indexOf_III_8 ?_
  refine go_iload_n (k := 1) d_Js_indexOf_III_11 rfl rfl ?_
  refine go_iload_n (k := 2) d_Js_indexOf_III_12 rfl rfl ?_
  refine go_aload_n (k := 0) d_Js_indexOf_III_13 rfl rfl ?_
  refine go_callT (a := 1003) (y := yJs_length) (asr := []) (v := some (.inl 10)) (I' := I) (st1 := [.inl 10, .inl 0, .inl x, .inr (some 1004)]) (Or.inr rfl) d_Js_indexOf_III_14 s_yJs_length m_Js_505 rfl rfl (Nat.le_of_ble_eq_true rfl) rfl rfl (c_Js_len l (d0 + 0) 1003 (Or.inr rfl) I) ?_
  refine go_callS (y := yJl_indexOf) (asr := [.inr (some 1004), .inl x, .inl 0, .inl 10]) (v := some (.inl (F_Js_indexOf x I))) (I' := I) (st1 := [.inl (F_Js_indexOf x I)]) d_Js_indexOf_III_17 s_yJl_indexOf m_Js_637 rfl (Nat.le_of_ble_eq_true rfl) rfl rfl (c_Jl_indexOf l (d0 + 0) x I) ?_
  refine go_goto (tgt := 36) d_Js_indexOf_III_20 (by decide) ?_
  exact go_ireturn d_Js_indexOf_III_36 rfl gb_po_i

theorem c_Js_indexOf (l : Launch) (d0 : Nat) (x1 : Int32) (I : gb_Mem) : gb_Cs l yJs_indexOf (d0 + 3) [.inr (some 1003), .inl x1] shX I (some (.inl (F_Js_indexOf x1 I))) I := by
  refine gb_Ct.of (lv := [(0, .inr (some 1003)), (1, .inl x1)]) rfl (Nat.le_of_ble_eq_true rfl) rfl ?_
  refine go_aload_n (k := 0) d_Js_indexOf_0 rfl rfl ?_
  refine go_iload_n (k := 1) d_Js_indexOf_1 rfl rfl ?_
  refine go_iconst (v := 0) d_Js_indexOf_2 (by decide) ?_
  refine go_callT (a := 1003) (y := yJs_indexOf_III) (asr := [.inl x1, .inl 0]) (v := some (.inl (F_Js_indexOf x1 I))) (I' := I) (st1 := [.inl (F_Js_indexOf x1 I)]) (Or.inr rfl) d_Js_indexOf_3 s_yJs_indexOf_III m_Js_633 rfl rfl (Nat.le_of_ble_eq_true rfl) rfl rfl (c_Js_indexOf_III l (d0 + 0) x1 I) ?_
  exact go_ireturn d_Js_indexOf_6 rfl gb_po_i
