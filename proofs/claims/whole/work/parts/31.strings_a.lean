/-! The library's text members: names, words, decode rows (by program: wip/whole/gen5.py). -/
def RJ0 : String := "java/lang/String"
def RJ1 : String := "java/lang/StringLatin1"
def RJ3 : String := "jdk/internal/util/Preconditions"
abbrev bj_len : ByteArray := prog_13_method_54_code
def yj_len : MethodName := ⟨RJ0, "length", "()I"⟩
abbrev bj_chr : ByteArray := prog_13_method_56_code
def yj_chr : MethodName := ⟨RJ0, "charAt", "(I)C"⟩
abbrev bj_cod : ByteArray := prog_13_method_152_code
def yj_cod : MethodName := ⟨RJ0, "coder", "()B"⟩
abbrev bj_lat : ByteArray := prog_13_method_154_code
def yj_lat : MethodName := ⟨RJ0, "isLatin1", "()Z"⟩
abbrev bj_chk : ByteArray := prog_13_method_155_code
def yj_chk : MethodName := ⟨RJ0, "checkIndex", "(II)V"⟩
abbrev bj_lch : ByteArray := prog_14_method_2_code
def yj_lch : MethodName := ⟨RJ1, "charAt", "([BI)C"⟩
abbrev bj_prc : ByteArray := prog_17_method_11_code
def yj_prc : MethodName := ⟨RJ3, "checkIndex", "(IILjava/util/function/BiFunction;)I"⟩
theorem dj_len_0 : decode bj_len 0 = .ok (.aload_n 0, 1) := by decide +kernel
theorem dj_len_1 : decode bj_len 1 = .ok (.getfield 9, 3) := by decide +kernel
theorem dj_len_4 : decode bj_len 4 = .ok (.arraylength, 1) := by decide +kernel
theorem dj_len_5 : decode bj_len 5 = .ok (.aload_n 0, 1) := by decide +kernel
theorem dj_len_6 : decode bj_len 6 = .ok (.invokevirtual 335, 3) := by decide +kernel
theorem dj_len_9 : decode bj_len 9 = .ok (.ishr, 1) := by decide +kernel
theorem dj_len_10 : decode bj_len 10 = .ok (.ireturn, 1) := by decide +kernel
theorem dj_chr_0 : decode bj_chr 0 = .ok (.aload_n 0, 1) := by decide +kernel
theorem dj_chr_1 : decode bj_chr 1 = .ok (.invokevirtual 492, 3) := by decide +kernel
theorem dj_chr_4 : decode bj_chr 4 = .ok (.ifCond .eq 12, 3) := by decide +kernel
theorem dj_chr_7 : decode bj_chr 7 = .ok (.aload_n 0, 1) := by decide +kernel
theorem dj_chr_8 : decode bj_chr 8 = .ok (.getfield 9, 3) := by decide +kernel
theorem dj_chr_11 : decode bj_chr 11 = .ok (.iload_n 1, 1) := by decide +kernel
theorem dj_chr_12 : decode bj_chr 12 = .ok (.invokestatic 495, 3) := by decide +kernel
theorem dj_chr_15 : decode bj_chr 15 = .ok (.ireturn, 1) := by decide +kernel
theorem dj_chr_16 : decode bj_chr 16 = .ok (.aload_n 0, 1) := by decide +kernel
theorem dj_chr_17 : decode bj_chr 17 = .ok (.getfield 9, 3) := by decide +kernel
theorem dj_chr_20 : decode bj_chr 20 = .ok (.iload_n 1, 1) := by decide +kernel
theorem dj_chr_21 : decode bj_chr 21 = .ok (.invokestatic 498, 3) := by decide +kernel
theorem dj_chr_24 : decode bj_chr 24 = .ok (.ireturn, 1) := by decide +kernel
theorem dj_cod_0 : decode bj_cod 0 = .ok (.getstatic 38, 3) := by decide +kernel
theorem dj_cod_3 : decode bj_cod 3 = .ok (.ifCond .eq 10, 3) := by decide +kernel
theorem dj_cod_6 : decode bj_cod 6 = .ok (.aload_n 0, 1) := by decide +kernel
theorem dj_cod_7 : decode bj_cod 7 = .ok (.getfield 15, 3) := by decide +kernel
theorem dj_cod_10 : decode bj_cod 10 = .ok (.goto 4, 3) := by decide +kernel
theorem dj_cod_13 : decode bj_cod 13 = .ok (.iconst 1, 1) := by decide +kernel
theorem dj_cod_14 : decode bj_cod 14 = .ok (.ireturn, 1) := by decide +kernel
theorem dj_lat_0 : decode bj_lat 0 = .ok (.getstatic 38, 3) := by decide +kernel
theorem dj_lat_3 : decode bj_lat 3 = .ok (.ifCond .eq 14, 3) := by decide +kernel
theorem dj_lat_6 : decode bj_lat 6 = .ok (.aload_n 0, 1) := by decide +kernel
theorem dj_lat_7 : decode bj_lat 7 = .ok (.getfield 15, 3) := by decide +kernel
theorem dj_lat_10 : decode bj_lat 10 = .ok (.ifCond .ne 7, 3) := by decide +kernel
theorem dj_lat_13 : decode bj_lat 13 = .ok (.iconst 1, 1) := by decide +kernel
theorem dj_lat_14 : decode bj_lat 14 = .ok (.goto 4, 3) := by decide +kernel
theorem dj_lat_17 : decode bj_lat 17 = .ok (.iconst 0, 1) := by decide +kernel
theorem dj_lat_18 : decode bj_lat 18 = .ok (.ireturn, 1) := by decide +kernel
theorem dj_chk_0 : decode bj_chk 0 = .ok (.iload_n 0, 1) := by decide +kernel
theorem dj_chk_1 : decode bj_chk 1 = .ok (.iload_n 1, 1) := by decide +kernel
theorem dj_chk_2 : decode bj_chk 2 = .ok (.getstatic 1053, 3) := by decide +kernel
theorem dj_chk_5 : decode bj_chk 5 = .ok (.invokestatic 1059, 3) := by decide +kernel
theorem dj_chk_8 : decode bj_chk 8 = .ok (.pop, 1) := by decide +kernel
theorem dj_chk_9 : decode bj_chk 9 = .ok (.return_, 1) := by decide +kernel
theorem dj_lch_0 : decode bj_lch 0 = .ok (.iload_n 1, 1) := by decide +kernel
theorem dj_lch_1 : decode bj_lch 1 = .ok (.aload_n 0, 1) := by decide +kernel
theorem dj_lch_2 : decode bj_lch 2 = .ok (.arraylength, 1) := by decide +kernel
theorem dj_lch_3 : decode bj_lch 3 = .ok (.invokestatic 9, 3) := by decide +kernel
theorem dj_lch_6 : decode bj_lch 6 = .ok (.aload_n 0, 1) := by decide +kernel
theorem dj_lch_7 : decode bj_lch 7 = .ok (.iload_n 1, 1) := by decide +kernel
theorem dj_lch_8 : decode bj_lch 8 = .ok (.baload, 1) := by decide +kernel
theorem dj_lch_9 : decode bj_lch 9 = .ok (.sipush 255, 3) := by decide +kernel
theorem dj_lch_12 : decode bj_lch 12 = .ok (.iand, 1) := by decide +kernel
theorem dj_lch_13 : decode bj_lch 13 = .ok (.i2c, 1) := by decide +kernel
theorem dj_lch_14 : decode bj_lch 14 = .ok (.ireturn, 1) := by decide +kernel
theorem dj_prc_0 : decode bj_prc 0 = .ok (.iload_n 0, 1) := by decide +kernel
theorem dj_prc_1 : decode bj_prc 1 = .ok (.ifCond .lt 8, 3) := by decide +kernel
theorem dj_prc_4 : decode bj_prc 4 = .ok (.iload_n 0, 1) := by decide +kernel
theorem dj_prc_5 : decode bj_prc 5 = .ok (.iload_n 1, 1) := by decide +kernel
theorem dj_prc_6 : decode bj_prc 6 = .ok (.if_icmp .lt 10, 3) := by decide +kernel
theorem dj_prc_9 : decode bj_prc 9 = .ok (.aload_n 2, 1) := by decide +kernel
theorem dj_prc_10 : decode bj_prc 10 = .ok (.iload_n 0, 1) := by decide +kernel
theorem dj_prc_11 : decode bj_prc 11 = .ok (.iload_n 1, 1) := by decide +kernel
theorem dj_prc_12 : decode bj_prc 12 = .ok (.invokestatic 95, 3) := by decide +kernel
theorem dj_prc_15 : decode bj_prc 15 = .ok (.athrow, 1) := by decide +kernel
theorem dj_prc_16 : decode bj_prc 16 = .ok (.iload_n 0, 1) := by decide +kernel
theorem dj_prc_17 : decode bj_prc 17 = .ok (.ireturn, 1) := by decide +kernel
theorem jw_f38 : (.fieldLink RJ0 38 "java/lang/String" "COMPACT_STRINGS" "Z" : Jvm.Cond) ∈ WSg := List.mem_filter.mpr ⟨List.mem_of_getElem? (i := 664) (by decide +kernel), by decide +kernel⟩
theorem jw_f15 : (.fieldLink RJ0 15 "java/lang/String" "coder" "B" : Jvm.Cond) ∈ WSg := List.mem_filter.mpr ⟨List.mem_of_getElem? (i := 1812) (by decide +kernel), by decide +kernel⟩
theorem jw_f9 : (.fieldLink RJ0 9 "java/lang/String" "value" "[B" : Jvm.Cond) ∈ WSg := List.mem_filter.mpr ⟨List.mem_of_getElem? (i := 1811) (by decide +kernel), by decide +kernel⟩
theorem jw_f1053 : (.fieldLink RJ0 1053 "jdk/internal/util/Preconditions" "SIOOBE_FORMATTER" "Ljava/util/function/BiFunction;" : Jvm.Cond) ∈ WSg := List.mem_filter.mpr ⟨List.mem_of_getElem? (i := 680) (by decide +kernel), by decide +kernel⟩
theorem jw_m_cod : (.methodLink RJ0 335 yj_cod : Jvm.Cond) ∈ WSg := List.mem_filter.mpr ⟨List.mem_of_getElem? (i := 660) (by decide +kernel), by decide +kernel⟩
theorem jw_m_lat : (.methodLink RJ0 492 yj_lat : Jvm.Cond) ∈ WSg := List.mem_filter.mpr ⟨List.mem_of_getElem? (i := 670) (by decide +kernel), by decide +kernel⟩
theorem jw_m_lch : (.methodLink RJ0 495 yj_lch : Jvm.Cond) ∈ WSg := List.mem_filter.mpr ⟨List.mem_of_getElem? (i := 674) (by decide +kernel), by decide +kernel⟩
theorem jw_m_chk : (.methodLink RJ1 9 yj_chk : Jvm.Cond) ∈ WSg := List.mem_filter.mpr ⟨List.mem_of_getElem? (i := 677) (by decide +kernel), by decide +kernel⟩
theorem jw_m_prc : (.methodLink RJ0 1059 yj_prc : Jvm.Cond) ∈ WSg := List.mem_filter.mpr ⟨List.mem_of_getElem? (i := 682) (by decide +kernel), by decide +kernel⟩
theorem jw_i_cod : (.instanceMethod yj_cod : Jvm.Cond) ∈ WSg := List.mem_filter.mpr ⟨List.mem_of_getElem? (i := 661) (by decide +kernel), by decide +kernel⟩
theorem jw_s_cod : (.selects RJ0 yj_cod yj_cod : Jvm.Cond) ∈ WSg := List.mem_filter.mpr ⟨List.mem_of_getElem? (i := 662) (by decide +kernel), by decide +kernel⟩
theorem jw_i_lat : (.instanceMethod yj_lat : Jvm.Cond) ∈ WSg := List.mem_filter.mpr ⟨List.mem_of_getElem? (i := 671) (by decide +kernel), by decide +kernel⟩
theorem jw_s_lat : (.selects RJ0 yj_lat yj_lat : Jvm.Cond) ∈ WSg := List.mem_filter.mpr ⟨List.mem_of_getElem? (i := 672) (by decide +kernel), by decide +kernel⟩
theorem jw_i_len : (.instanceMethod yj_len : Jvm.Cond) ∈ WSg := List.mem_filter.mpr ⟨List.mem_of_getElem? (i := 657) (by decide +kernel), by decide +kernel⟩
theorem jw_s_len : (.selects RJ0 yj_len yj_len : Jvm.Cond) ∈ WSg := List.mem_filter.mpr ⟨List.mem_of_getElem? (i := 658) (by decide +kernel), by decide +kernel⟩
theorem jw_i_chr : (.instanceMethod yj_chr : Jvm.Cond) ∈ WSg := List.mem_filter.mpr ⟨List.mem_of_getElem? (i := 667) (by decide +kernel), by decide +kernel⟩
theorem jw_s_chr : (.selects RJ0 yj_chr yj_chr : Jvm.Cond) ∈ WSg := List.mem_filter.mpr ⟨List.mem_of_getElem? (i := 668) (by decide +kernel), by decide +kernel⟩
theorem jw_t_lch : (.static yj_lch : Jvm.Cond) ∈ WSg := List.mem_filter.mpr ⟨List.mem_of_getElem? (i := 675) (by decide +kernel), by decide +kernel⟩
theorem jw_t_chk : (.static yj_chk : Jvm.Cond) ∈ WSg := List.mem_filter.mpr ⟨List.mem_of_getElem? (i := 678) (by decide +kernel), by decide +kernel⟩
theorem jw_t_prc : (.static yj_prc : Jvm.Cond) ∈ WSg := List.mem_filter.mpr ⟨List.mem_of_getElem? (i := 683) (by decide +kernel), by decide +kernel⟩
theorem jw_n_0 : (.initialized RJ0 : Jvm.Cond) ∈ WSg := List.mem_filter.mpr ⟨List.mem_of_getElem? (i := 129) (by decide +kernel), by decide +kernel⟩
theorem jw_n_1 : (.initialized RJ1 : Jvm.Cond) ∈ WSg := List.mem_filter.mpr ⟨List.mem_of_getElem? (i := 130) (by decide +kernel), by decide +kernel⟩
theorem jw_n_3 : (.initialized RJ3 : Jvm.Cond) ∈ WSg := List.mem_filter.mpr ⟨List.mem_of_getElem? (i := 131) (by decide +kernel), by decide +kernel⟩
theorem jw_c_len : (.code yj_len bj_len 1 (some .int) : Jvm.Cond) ∈ WSg := List.mem_filter.mpr ⟨List.mem_of_getElem? (i := 659) (by decide +kernel), by decide +kernel⟩
theorem jw_c_chr : (.code yj_chr bj_chr 2 (some .char) : Jvm.Cond) ∈ WSg := List.mem_filter.mpr ⟨List.mem_of_getElem? (i := 669) (by decide +kernel), by decide +kernel⟩
theorem jw_c_cod : (.code yj_cod bj_cod 1 (some .byte) : Jvm.Cond) ∈ WSg := List.mem_filter.mpr ⟨List.mem_of_getElem? (i := 663) (by decide +kernel), by decide +kernel⟩
theorem jw_c_lat : (.code yj_lat bj_lat 1 (some .boolean) : Jvm.Cond) ∈ WSg := List.mem_filter.mpr ⟨List.mem_of_getElem? (i := 673) (by decide +kernel), by decide +kernel⟩
theorem jw_c_chk : (.code yj_chk bj_chk 2 (none) : Jvm.Cond) ∈ WSg := List.mem_filter.mpr ⟨List.mem_of_getElem? (i := 679) (by decide +kernel), by decide +kernel⟩
theorem jw_c_lch : (.code yj_lch bj_lch 2 (some .char) : Jvm.Cond) ∈ WSg := List.mem_filter.mpr ⟨List.mem_of_getElem? (i := 676) (by decide +kernel), by decide +kernel⟩
theorem jw_c_prc : (.code yj_prc bj_prc 3 (some .int) : Jvm.Cond) ∈ WSg := List.mem_filter.mpr ⟨List.mem_of_getElem? (i := 684) (by decide +kernel), by decide +kernel⟩
