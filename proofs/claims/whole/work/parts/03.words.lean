/-! The reference: names, fields, decode rows; then every word of the tables by its place (written by wip/whole/mkwords.py). -/
def RX1 : String := "RunSorterModel"
def TX1 : u_T := fun k => match k with
  | 0 => ("RunSorterModel", "failed", "I", false)
  | 1 => ("RunSorterModel", "size", "I", false)
  | 2 => ("RunSorterModel", "row", "[I", true)
  | _ => ("RunSorterModel", "tags", "[I", true)
def tyX1 : Nat → FieldType := fun k => match k with
  | 0 => .int
  | 1 => .int
  | 2 => .array .int
  | _ => .array .int
abbrev wsX10 : List Cond := u_ws RX1 TX1 4
theorem nmX1 : ∀ a, a < 4 → ∀ b, b < 4 → a ≠ b → (TX1 a).2.1 ≠ (TX1 b).2.1 := by decide +kernel
theorem tyX1_ok : ∀ k, k < 4 → parseFieldDescriptor (TX1 k).2.2.1 = some (tyX1 k) := by decide +kernel
abbrev cX1_init : ByteArray := prog_3_method_1_code
def yX1_init : MethodName := ⟨RX1, "<init>", "()V"⟩
abbrev cX1_thrown : ByteArray := prog_3_method_2_code
def yX1_thrown : MethodName := ⟨RX1, "thrown", "()I"⟩
abbrev cX1_fail : ByteArray := prog_3_method_3_code
def yX1_fail : MethodName := ⟨RX1, "fail", "(I)I"⟩
abbrev cX1_rank : ByteArray := prog_3_method_4_code
def yX1_rank : MethodName := ⟨RX1, "rank", "(II)I"⟩
abbrev cX1_append : ByteArray := prog_3_method_5_code
def yX1_append : MethodName := ⟨RX1, "append", "(I)V"⟩
abbrev cX1_fill : ByteArray := prog_3_method_6_code
def yX1_fill : MethodName := ⟨RX1, "fill", "(III)I"⟩
abbrev cX1_scatter : ByteArray := prog_3_method_7_code
def yX1_scatter : MethodName := ⟨RX1, "scatter", "(III)I"⟩
abbrev cX1_bad : ByteArray := prog_3_method_8_code
def yX1_bad : MethodName := ⟨RX1, "bad", "(II)Z"⟩
abbrev cX1_sort : ByteArray := prog_3_method_9_code
def yX1_sort : MethodName := ⟨RX1, "sort", "(III)I"⟩
abbrev cX1_get : ByteArray := prog_3_method_10_code
def yX1_get : MethodName := ⟨RX1, "get", "(I)I"⟩
abbrev cX1_tag : ByteArray := prog_3_method_11_code
def yX1_tag : MethodName := ⟨RX1, "tag", "(I)I"⟩
abbrev cX1_set : ByteArray := prog_3_method_12_code
def yX1_set : MethodName := ⟨RX1, "set", "(II)I"⟩
abbrev cX1_turn : ByteArray := prog_3_method_13_code
def yX1_turn : MethodName := ⟨RX1, "turn", "(II)I"⟩
abbrev cX1_upTo : ByteArray := prog_3_method_14_code
def yX1_upTo : MethodName := ⟨RX1, "upTo", "(IIZ)I"⟩
abbrev cX1_clear : ByteArray := prog_3_method_15_code
def yX1_clear : MethodName := ⟨RX1, "clear", "()I"⟩
abbrev cX1_hash : ByteArray := prog_3_method_16_code
def yX1_hash : MethodName := ⟨RX1, "hash", "()I"⟩
theorem dX1_init_0 : decode cX1_init 0 = .ok (.aload_n 0, 1) := by decide +kernel
theorem dX1_init_1 : decode cX1_init 1 = .ok (.invokespecial 1, 3) := by decide +kernel
theorem dX1_init_4 : decode cX1_init 4 = .ok (.aload_n 0, 1) := by decide +kernel
theorem dX1_init_5 : decode cX1_init 5 = .ok (.sipush 2000, 3) := by decide +kernel
theorem dX1_init_8 : decode cX1_init 8 = .ok (.newarray .int, 2) := by decide +kernel
theorem dX1_init_10 : decode cX1_init 10 = .ok (.putfield 7, 3) := by decide +kernel
theorem dX1_init_13 : decode cX1_init 13 = .ok (.aload_n 0, 1) := by decide +kernel
theorem dX1_init_14 : decode cX1_init 14 = .ok (.sipush 2000, 3) := by decide +kernel
theorem dX1_init_17 : decode cX1_init 17 = .ok (.newarray .int, 2) := by decide +kernel
theorem dX1_init_19 : decode cX1_init 19 = .ok (.putfield 13, 3) := by decide +kernel
theorem dX1_init_22 : decode cX1_init 22 = .ok (.return_, 1) := by decide +kernel
theorem dX1_thrown_0 : decode cX1_thrown 0 = .ok (.aload_n 0, 1) := by decide +kernel
theorem dX1_thrown_1 : decode cX1_thrown 1 = .ok (.getfield 16, 3) := by decide +kernel
theorem dX1_thrown_4 : decode cX1_thrown 4 = .ok (.ireturn, 1) := by decide +kernel
theorem dX1_fail_0 : decode cX1_fail 0 = .ok (.aload_n 0, 1) := by decide +kernel
theorem dX1_fail_1 : decode cX1_fail 1 = .ok (.iload_n 1, 1) := by decide +kernel
theorem dX1_fail_2 : decode cX1_fail 2 = .ok (.putfield 16, 3) := by decide +kernel
theorem dX1_fail_5 : decode cX1_fail 5 = .ok (.iconst 0, 1) := by decide +kernel
theorem dX1_fail_6 : decode cX1_fail 6 = .ok (.ireturn, 1) := by decide +kernel
theorem dX1_rank_0 : decode cX1_rank 0 = .ok (.iload_n 1, 1) := by decide +kernel
theorem dX1_rank_1 : decode cX1_rank 1 = .ok (.ifCond .ne 7, 3) := by decide +kernel
theorem dX1_rank_4 : decode cX1_rank 4 = .ok (.iload_n 2, 1) := by decide +kernel
theorem dX1_rank_5 : decode cX1_rank 5 = .ok (.goto 30, 3) := by decide +kernel
theorem dX1_rank_8 : decode cX1_rank 8 = .ok (.iload_n 1, 1) := by decide +kernel
theorem dX1_rank_9 : decode cX1_rank 9 = .ok (.iconst 1, 1) := by decide +kernel
theorem dX1_rank_10 : decode cX1_rank 10 = .ok (.if_icmp .ne 9, 3) := by decide +kernel
theorem dX1_rank_13 : decode cX1_rank 13 = .ok (.iload_n 2, 1) := by decide +kernel
theorem dX1_rank_14 : decode cX1_rank 14 = .ok (.iconst (-1), 1) := by decide +kernel
theorem dX1_rank_15 : decode cX1_rank 15 = .ok (.ixor, 1) := by decide +kernel
theorem dX1_rank_16 : decode cX1_rank 16 = .ok (.goto 19, 3) := by decide +kernel
theorem dX1_rank_19 : decode cX1_rank 19 = .ok (.iload_n 1, 1) := by decide +kernel
theorem dX1_rank_20 : decode cX1_rank 20 = .ok (.iconst 2, 1) := by decide +kernel
theorem dX1_rank_21 : decode cX1_rank 21 = .ok (.if_icmp .ne 10, 3) := by decide +kernel
theorem dX1_rank_24 : decode cX1_rank 24 = .ok (.iload_n 2, 1) := by decide +kernel
theorem dX1_rank_25 : decode cX1_rank 25 = .ok (.bipush 15, 2) := by decide +kernel
theorem dX1_rank_27 : decode cX1_rank 27 = .ok (.iand, 1) := by decide +kernel
theorem dX1_rank_28 : decode cX1_rank 28 = .ok (.goto 7, 3) := by decide +kernel
theorem dX1_rank_31 : decode cX1_rank 31 = .ok (.iload_n 2, 1) := by decide +kernel
theorem dX1_rank_32 : decode cX1_rank 32 = .ok (.ldc 20, 2) := by decide +kernel
theorem dX1_rank_34 : decode cX1_rank 34 = .ok (.ixor, 1) := by decide +kernel
theorem dX1_rank_35 : decode cX1_rank 35 = .ok (.ireturn, 1) := by decide +kernel
theorem dX1_append_0 : decode cX1_append 0 = .ok (.aload_n 0, 1) := by decide +kernel
theorem dX1_append_1 : decode cX1_append 1 = .ok (.getfield 7, 3) := by decide +kernel
theorem dX1_append_4 : decode cX1_append 4 = .ok (.aload_n 0, 1) := by decide +kernel
theorem dX1_append_5 : decode cX1_append 5 = .ok (.getfield 21, 3) := by decide +kernel
theorem dX1_append_8 : decode cX1_append 8 = .ok (.iload_n 1, 1) := by decide +kernel
theorem dX1_append_9 : decode cX1_append 9 = .ok (.iastore, 1) := by decide +kernel
theorem dX1_append_10 : decode cX1_append 10 = .ok (.aload_n 0, 1) := by decide +kernel
theorem dX1_append_11 : decode cX1_append 11 = .ok (.getfield 13, 3) := by decide +kernel
theorem dX1_append_14 : decode cX1_append 14 = .ok (.aload_n 0, 1) := by decide +kernel
theorem dX1_append_15 : decode cX1_append 15 = .ok (.getfield 21, 3) := by decide +kernel
theorem dX1_append_18 : decode cX1_append 18 = .ok (.aload_n 0, 1) := by decide +kernel
theorem dX1_append_19 : decode cX1_append 19 = .ok (.getfield 21, 3) := by decide +kernel
theorem dX1_append_22 : decode cX1_append 22 = .ok (.iastore, 1) := by decide +kernel
theorem dX1_append_23 : decode cX1_append 23 = .ok (.aload_n 0, 1) := by decide +kernel
theorem dX1_append_24 : decode cX1_append 24 = .ok (.dup, 1) := by decide +kernel
theorem dX1_append_25 : decode cX1_append 25 = .ok (.getfield 21, 3) := by decide +kernel
theorem dX1_append_28 : decode cX1_append 28 = .ok (.iconst 1, 1) := by decide +kernel
theorem dX1_append_29 : decode cX1_append 29 = .ok (.iadd, 1) := by decide +kernel
theorem dX1_append_30 : decode cX1_append 30 = .ok (.putfield 21, 3) := by decide +kernel
theorem dX1_append_33 : decode cX1_append 33 = .ok (.return_, 1) := by decide +kernel
theorem dX1_fill_0 : decode cX1_fill 0 = .ok (.aload_n 0, 1) := by decide +kernel
theorem dX1_fill_1 : decode cX1_fill 1 = .ok (.iconst 0, 1) := by decide +kernel
theorem dX1_fill_2 : decode cX1_fill 2 = .ok (.putfield 16, 3) := by decide +kernel
theorem dX1_fill_5 : decode cX1_fill 5 = .ok (.iload_n 3, 1) := by decide +kernel
theorem dX1_fill_6 : decode cX1_fill 6 = .ok (.ifCond .lt 10, 3) := by decide +kernel
theorem dX1_fill_9 : decode cX1_fill 9 = .ok (.iload_n 3, 1) := by decide +kernel
theorem dX1_fill_10 : decode cX1_fill 10 = .ok (.sipush 2000, 3) := by decide +kernel
theorem dX1_fill_13 : decode cX1_fill 13 = .ok (.if_icmp .le 9, 3) := by decide +kernel
theorem dX1_fill_16 : decode cX1_fill 16 = .ok (.aload_n 0, 1) := by decide +kernel
theorem dX1_fill_17 : decode cX1_fill 17 = .ok (.iconst 1, 1) := by decide +kernel
theorem dX1_fill_18 : decode cX1_fill 18 = .ok (.invokevirtual 24, 3) := by decide +kernel
theorem dX1_fill_21 : decode cX1_fill 21 = .ok (.ireturn, 1) := by decide +kernel
theorem dX1_fill_22 : decode cX1_fill 22 = .ok (.aload_n 0, 1) := by decide +kernel
theorem dX1_fill_23 : decode cX1_fill 23 = .ok (.getfield 21, 3) := by decide +kernel
theorem dX1_fill_26 : decode cX1_fill 26 = .ok (.iload_n 3, 1) := by decide +kernel
theorem dX1_fill_27 : decode cX1_fill 27 = .ok (.iadd, 1) := by decide +kernel
theorem dX1_fill_28 : decode cX1_fill 28 = .ok (.sipush 2000, 3) := by decide +kernel
theorem dX1_fill_31 : decode cX1_fill 31 = .ok (.if_icmp .le 9, 3) := by decide +kernel
theorem dX1_fill_34 : decode cX1_fill 34 = .ok (.aload_n 0, 1) := by decide +kernel
theorem dX1_fill_35 : decode cX1_fill 35 = .ok (.iconst 2, 1) := by decide +kernel
theorem dX1_fill_36 : decode cX1_fill 36 = .ok (.invokevirtual 24, 3) := by decide +kernel
theorem dX1_fill_39 : decode cX1_fill 39 = .ok (.ireturn, 1) := by decide +kernel
theorem dX1_fill_40 : decode cX1_fill 40 = .ok (.iconst 0, 1) := by decide +kernel
theorem dX1_fill_41 : decode cX1_fill 41 = .ok (.istore 4, 2) := by decide +kernel
theorem dX1_fill_43 : decode cX1_fill 43 = .ok (.iload 4, 2) := by decide +kernel
theorem dX1_fill_45 : decode cX1_fill 45 = .ok (.iload_n 3, 1) := by decide +kernel
theorem dX1_fill_46 : decode cX1_fill 46 = .ok (.if_icmp .ge 19, 3) := by decide +kernel
theorem dX1_fill_49 : decode cX1_fill 49 = .ok (.aload_n 0, 1) := by decide +kernel
theorem dX1_fill_50 : decode cX1_fill 50 = .ok (.iload_n 1, 1) := by decide +kernel
theorem dX1_fill_51 : decode cX1_fill 51 = .ok (.iload 4, 2) := by decide +kernel
theorem dX1_fill_53 : decode cX1_fill 53 = .ok (.iload_n 2, 1) := by decide +kernel
theorem dX1_fill_54 : decode cX1_fill 54 = .ok (.imul, 1) := by decide +kernel
theorem dX1_fill_55 : decode cX1_fill 55 = .ok (.iadd, 1) := by decide +kernel
theorem dX1_fill_56 : decode cX1_fill 56 = .ok (.invokevirtual 28, 3) := by decide +kernel
theorem dX1_fill_59 : decode cX1_fill 59 = .ok (.iinc 4 1, 3) := by decide +kernel
theorem dX1_fill_62 : decode cX1_fill 62 = .ok (.goto (-19), 3) := by decide +kernel
theorem dX1_fill_65 : decode cX1_fill 65 = .ok (.aload_n 0, 1) := by decide +kernel
theorem dX1_fill_66 : decode cX1_fill 66 = .ok (.getfield 21, 3) := by decide +kernel
theorem dX1_fill_69 : decode cX1_fill 69 = .ok (.ireturn, 1) := by decide +kernel
theorem dX1_scatter_0 : decode cX1_scatter 0 = .ok (.aload_n 0, 1) := by decide +kernel
theorem dX1_scatter_1 : decode cX1_scatter 1 = .ok (.iconst 0, 1) := by decide +kernel
theorem dX1_scatter_2 : decode cX1_scatter 2 = .ok (.putfield 16, 3) := by decide +kernel
theorem dX1_scatter_5 : decode cX1_scatter 5 = .ok (.iload_n 3, 1) := by decide +kernel
theorem dX1_scatter_6 : decode cX1_scatter 6 = .ok (.ifCond .lt 21, 3) := by decide +kernel
theorem dX1_scatter_9 : decode cX1_scatter 9 = .ok (.iload_n 3, 1) := by decide +kernel
theorem dX1_scatter_10 : decode cX1_scatter 10 = .ok (.sipush 2000, 3) := by decide +kernel
theorem dX1_scatter_13 : decode cX1_scatter 13 = .ok (.if_icmp .gt 14, 3) := by decide +kernel
theorem dX1_scatter_16 : decode cX1_scatter 16 = .ok (.iload_n 2, 1) := by decide +kernel
theorem dX1_scatter_17 : decode cX1_scatter 17 = .ok (.iconst 1, 1) := by decide +kernel
theorem dX1_scatter_18 : decode cX1_scatter 18 = .ok (.if_icmp .lt 9, 3) := by decide +kernel
theorem dX1_scatter_21 : decode cX1_scatter 21 = .ok (.iload_n 2, 1) := by decide +kernel
theorem dX1_scatter_22 : decode cX1_scatter 22 = .ok (.bipush 16, 2) := by decide +kernel
theorem dX1_scatter_24 : decode cX1_scatter 24 = .ok (.if_icmp .le 9, 3) := by decide +kernel
theorem dX1_scatter_27 : decode cX1_scatter 27 = .ok (.aload_n 0, 1) := by decide +kernel
theorem dX1_scatter_28 : decode cX1_scatter 28 = .ok (.iconst 1, 1) := by decide +kernel
theorem dX1_scatter_29 : decode cX1_scatter 29 = .ok (.invokevirtual 24, 3) := by decide +kernel
theorem dX1_scatter_32 : decode cX1_scatter 32 = .ok (.ireturn, 1) := by decide +kernel
theorem dX1_scatter_33 : decode cX1_scatter 33 = .ok (.aload_n 0, 1) := by decide +kernel
theorem dX1_scatter_34 : decode cX1_scatter 34 = .ok (.getfield 21, 3) := by decide +kernel
theorem dX1_scatter_37 : decode cX1_scatter 37 = .ok (.iload_n 3, 1) := by decide +kernel
theorem dX1_scatter_38 : decode cX1_scatter 38 = .ok (.iadd, 1) := by decide +kernel
theorem dX1_scatter_39 : decode cX1_scatter 39 = .ok (.sipush 2000, 3) := by decide +kernel
theorem dX1_scatter_42 : decode cX1_scatter 42 = .ok (.if_icmp .le 9, 3) := by decide +kernel
theorem dX1_scatter_45 : decode cX1_scatter 45 = .ok (.aload_n 0, 1) := by decide +kernel
theorem dX1_scatter_46 : decode cX1_scatter 46 = .ok (.iconst 2, 1) := by decide +kernel
theorem dX1_scatter_47 : decode cX1_scatter 47 = .ok (.invokevirtual 24, 3) := by decide +kernel
theorem dX1_scatter_50 : decode cX1_scatter 50 = .ok (.ireturn, 1) := by decide +kernel
theorem dX1_scatter_51 : decode cX1_scatter 51 = .ok (.iload_n 1, 1) := by decide +kernel
theorem dX1_scatter_52 : decode cX1_scatter 52 = .ok (.istore 4, 2) := by decide +kernel
theorem dX1_scatter_54 : decode cX1_scatter 54 = .ok (.iconst 0, 1) := by decide +kernel
theorem dX1_scatter_55 : decode cX1_scatter 55 = .ok (.istore 5, 2) := by decide +kernel
theorem dX1_scatter_57 : decode cX1_scatter 57 = .ok (.iload 5, 2) := by decide +kernel
theorem dX1_scatter_59 : decode cX1_scatter 59 = .ok (.iload_n 3, 1) := by decide +kernel
theorem dX1_scatter_60 : decode cX1_scatter 60 = .ok (.if_icmp .ge 34, 3) := by decide +kernel
theorem dX1_scatter_63 : decode cX1_scatter 63 = .ok (.ldc 32, 2) := by decide +kernel
theorem dX1_scatter_65 : decode cX1_scatter 65 = .ok (.iload 4, 2) := by decide +kernel
theorem dX1_scatter_67 : decode cX1_scatter 67 = .ok (.imul, 1) := by decide +kernel
theorem dX1_scatter_68 : decode cX1_scatter 68 = .ok (.ldc 33, 2) := by decide +kernel
theorem dX1_scatter_70 : decode cX1_scatter 70 = .ok (.iadd, 1) := by decide +kernel
theorem dX1_scatter_71 : decode cX1_scatter 71 = .ok (.istore 4, 2) := by decide +kernel
theorem dX1_scatter_73 : decode cX1_scatter 73 = .ok (.aload_n 0, 1) := by decide +kernel
theorem dX1_scatter_74 : decode cX1_scatter 74 = .ok (.iload 4, 2) := by decide +kernel
theorem dX1_scatter_76 : decode cX1_scatter 76 = .ok (.bipush 16, 2) := by decide +kernel
theorem dX1_scatter_78 : decode cX1_scatter 78 = .ok (.iushr, 1) := by decide +kernel
theorem dX1_scatter_79 : decode cX1_scatter 79 = .ok (.iconst 1, 1) := by decide +kernel
theorem dX1_scatter_80 : decode cX1_scatter 80 = .ok (.iload_n 2, 1) := by decide +kernel
theorem dX1_scatter_81 : decode cX1_scatter 81 = .ok (.ishl, 1) := by decide +kernel
theorem dX1_scatter_82 : decode cX1_scatter 82 = .ok (.iconst 1, 1) := by decide +kernel
theorem dX1_scatter_83 : decode cX1_scatter 83 = .ok (.isub, 1) := by decide +kernel
theorem dX1_scatter_84 : decode cX1_scatter 84 = .ok (.iand, 1) := by decide +kernel
theorem dX1_scatter_85 : decode cX1_scatter 85 = .ok (.invokevirtual 28, 3) := by decide +kernel
theorem dX1_scatter_88 : decode cX1_scatter 88 = .ok (.iinc 5 1, 3) := by decide +kernel
theorem dX1_scatter_91 : decode cX1_scatter 91 = .ok (.goto (-34), 3) := by decide +kernel
theorem dX1_scatter_94 : decode cX1_scatter 94 = .ok (.aload_n 0, 1) := by decide +kernel
theorem dX1_scatter_95 : decode cX1_scatter 95 = .ok (.getfield 21, 3) := by decide +kernel
theorem dX1_scatter_98 : decode cX1_scatter 98 = .ok (.ireturn, 1) := by decide +kernel
theorem dX1_bad_0 : decode cX1_bad 0 = .ok (.iload_n 1, 1) := by decide +kernel
theorem dX1_bad_1 : decode cX1_bad 1 = .ok (.ifCond .lt 16, 3) := by decide +kernel
theorem dX1_bad_4 : decode cX1_bad 4 = .ok (.iload_n 2, 1) := by decide +kernel
theorem dX1_bad_5 : decode cX1_bad 5 = .ok (.iload_n 1, 1) := by decide +kernel
theorem dX1_bad_6 : decode cX1_bad 6 = .ok (.if_icmp .lt 11, 3) := by decide +kernel
theorem dX1_bad_9 : decode cX1_bad 9 = .ok (.iload_n 2, 1) := by decide +kernel
theorem dX1_bad_10 : decode cX1_bad 10 = .ok (.aload_n 0, 1) := by decide +kernel
theorem dX1_bad_11 : decode cX1_bad 11 = .ok (.getfield 21, 3) := by decide +kernel
theorem dX1_bad_14 : decode cX1_bad 14 = .ok (.if_icmp .le 7, 3) := by decide +kernel
theorem dX1_bad_17 : decode cX1_bad 17 = .ok (.iconst 1, 1) := by decide +kernel
theorem dX1_bad_18 : decode cX1_bad 18 = .ok (.goto 4, 3) := by decide +kernel
theorem dX1_bad_21 : decode cX1_bad 21 = .ok (.iconst 0, 1) := by decide +kernel
theorem dX1_bad_22 : decode cX1_bad 22 = .ok (.ireturn, 1) := by decide +kernel
theorem dX1_sort_0 : decode cX1_sort 0 = .ok (.aload_n 0, 1) := by decide +kernel
theorem dX1_sort_1 : decode cX1_sort 1 = .ok (.iconst 0, 1) := by decide +kernel
theorem dX1_sort_2 : decode cX1_sort 2 = .ok (.putfield 16, 3) := by decide +kernel
theorem dX1_sort_5 : decode cX1_sort 5 = .ok (.iload_n 1, 1) := by decide +kernel
theorem dX1_sort_6 : decode cX1_sort 6 = .ok (.ifCond .lt 17, 3) := by decide +kernel
theorem dX1_sort_9 : decode cX1_sort 9 = .ok (.iload_n 1, 1) := by decide +kernel
theorem dX1_sort_10 : decode cX1_sort 10 = .ok (.iconst 3, 1) := by decide +kernel
theorem dX1_sort_11 : decode cX1_sort 11 = .ok (.if_icmp .gt 12, 3) := by decide +kernel
theorem dX1_sort_14 : decode cX1_sort 14 = .ok (.aload_n 0, 1) := by decide +kernel
theorem dX1_sort_15 : decode cX1_sort 15 = .ok (.iload_n 2, 1) := by decide +kernel
theorem dX1_sort_16 : decode cX1_sort 16 = .ok (.iload_n 3, 1) := by decide +kernel
theorem dX1_sort_17 : decode cX1_sort 17 = .ok (.invokevirtual 34, 3) := by decide +kernel
theorem dX1_sort_20 : decode cX1_sort 20 = .ok (.ifCond .eq 9, 3) := by decide +kernel
theorem dX1_sort_23 : decode cX1_sort 23 = .ok (.aload_n 0, 1) := by decide +kernel
theorem dX1_sort_24 : decode cX1_sort 24 = .ok (.iconst 1, 1) := by decide +kernel
theorem dX1_sort_25 : decode cX1_sort 25 = .ok (.invokevirtual 24, 3) := by decide +kernel
theorem dX1_sort_28 : decode cX1_sort 28 = .ok (.ireturn, 1) := by decide +kernel
theorem dX1_sort_29 : decode cX1_sort 29 = .ok (.iload_n 2, 1) := by decide +kernel
theorem dX1_sort_30 : decode cX1_sort 30 = .ok (.iconst 1, 1) := by decide +kernel
theorem dX1_sort_31 : decode cX1_sort 31 = .ok (.iadd, 1) := by decide +kernel
theorem dX1_sort_32 : decode cX1_sort 32 = .ok (.istore 4, 2) := by decide +kernel
theorem dX1_sort_34 : decode cX1_sort 34 = .ok (.iload 4, 2) := by decide +kernel
theorem dX1_sort_36 : decode cX1_sort 36 = .ok (.iload_n 3, 1) := by decide +kernel
theorem dX1_sort_37 : decode cX1_sort 37 = .ok (.if_icmp .ge 117, 3) := by decide +kernel
theorem dX1_sort_40 : decode cX1_sort 40 = .ok (.aload_n 0, 1) := by decide +kernel
theorem dX1_sort_41 : decode cX1_sort 41 = .ok (.getfield 7, 3) := by decide +kernel
theorem dX1_sort_44 : decode cX1_sort 44 = .ok (.iload 4, 2) := by decide +kernel
theorem dX1_sort_46 : decode cX1_sort 46 = .ok (.iaload, 1) := by decide +kernel
theorem dX1_sort_47 : decode cX1_sort 47 = .ok (.istore 5, 2) := by decide +kernel
theorem dX1_sort_49 : decode cX1_sort 49 = .ok (.aload_n 0, 1) := by decide +kernel
theorem dX1_sort_50 : decode cX1_sort 50 = .ok (.getfield 13, 3) := by decide +kernel
theorem dX1_sort_53 : decode cX1_sort 53 = .ok (.iload 4, 2) := by decide +kernel
theorem dX1_sort_55 : decode cX1_sort 55 = .ok (.iaload, 1) := by decide +kernel
theorem dX1_sort_56 : decode cX1_sort 56 = .ok (.istore 6, 2) := by decide +kernel
theorem dX1_sort_58 : decode cX1_sort 58 = .ok (.iload 4, 2) := by decide +kernel
theorem dX1_sort_60 : decode cX1_sort 60 = .ok (.istore 7, 2) := by decide +kernel
theorem dX1_sort_62 : decode cX1_sort 62 = .ok (.iload 7, 2) := by decide +kernel
theorem dX1_sort_64 : decode cX1_sort 64 = .ok (.iload_n 2, 1) := by decide +kernel
theorem dX1_sort_65 : decode cX1_sort 65 = .ok (.if_icmp .le 65, 3) := by decide +kernel
theorem dX1_sort_68 : decode cX1_sort 68 = .ok (.aload_n 0, 1) := by decide +kernel
theorem dX1_sort_69 : decode cX1_sort 69 = .ok (.iload_n 1, 1) := by decide +kernel
theorem dX1_sort_70 : decode cX1_sort 70 = .ok (.aload_n 0, 1) := by decide +kernel
theorem dX1_sort_71 : decode cX1_sort 71 = .ok (.getfield 7, 3) := by decide +kernel
theorem dX1_sort_74 : decode cX1_sort 74 = .ok (.iload 7, 2) := by decide +kernel
theorem dX1_sort_76 : decode cX1_sort 76 = .ok (.iconst 1, 1) := by decide +kernel
theorem dX1_sort_77 : decode cX1_sort 77 = .ok (.isub, 1) := by decide +kernel
theorem dX1_sort_78 : decode cX1_sort 78 = .ok (.iaload, 1) := by decide +kernel
theorem dX1_sort_79 : decode cX1_sort 79 = .ok (.invokevirtual 38, 3) := by decide +kernel
theorem dX1_sort_82 : decode cX1_sort 82 = .ok (.aload_n 0, 1) := by decide +kernel
theorem dX1_sort_83 : decode cX1_sort 83 = .ok (.iload_n 1, 1) := by decide +kernel
theorem dX1_sort_84 : decode cX1_sort 84 = .ok (.iload 5, 2) := by decide +kernel
theorem dX1_sort_86 : decode cX1_sort 86 = .ok (.invokevirtual 38, 3) := by decide +kernel
theorem dX1_sort_89 : decode cX1_sort 89 = .ok (.if_icmp .le 41, 3) := by decide +kernel
theorem dX1_sort_92 : decode cX1_sort 92 = .ok (.aload_n 0, 1) := by decide +kernel
theorem dX1_sort_93 : decode cX1_sort 93 = .ok (.getfield 7, 3) := by decide +kernel
theorem dX1_sort_96 : decode cX1_sort 96 = .ok (.iload 7, 2) := by decide +kernel
theorem dX1_sort_98 : decode cX1_sort 98 = .ok (.aload_n 0, 1) := by decide +kernel
theorem dX1_sort_99 : decode cX1_sort 99 = .ok (.getfield 7, 3) := by decide +kernel
theorem dX1_sort_102 : decode cX1_sort 102 = .ok (.iload 7, 2) := by decide +kernel
theorem dX1_sort_104 : decode cX1_sort 104 = .ok (.iconst 1, 1) := by decide +kernel
theorem dX1_sort_105 : decode cX1_sort 105 = .ok (.isub, 1) := by decide +kernel
theorem dX1_sort_106 : decode cX1_sort 106 = .ok (.iaload, 1) := by decide +kernel
theorem dX1_sort_107 : decode cX1_sort 107 = .ok (.iastore, 1) := by decide +kernel
theorem dX1_sort_108 : decode cX1_sort 108 = .ok (.aload_n 0, 1) := by decide +kernel
theorem dX1_sort_109 : decode cX1_sort 109 = .ok (.getfield 13, 3) := by decide +kernel
theorem dX1_sort_112 : decode cX1_sort 112 = .ok (.iload 7, 2) := by decide +kernel
theorem dX1_sort_114 : decode cX1_sort 114 = .ok (.aload_n 0, 1) := by decide +kernel
theorem dX1_sort_115 : decode cX1_sort 115 = .ok (.getfield 13, 3) := by decide +kernel
theorem dX1_sort_118 : decode cX1_sort 118 = .ok (.iload 7, 2) := by decide +kernel
theorem dX1_sort_120 : decode cX1_sort 120 = .ok (.iconst 1, 1) := by decide +kernel
theorem dX1_sort_121 : decode cX1_sort 121 = .ok (.isub, 1) := by decide +kernel
theorem dX1_sort_122 : decode cX1_sort 122 = .ok (.iaload, 1) := by decide +kernel
theorem dX1_sort_123 : decode cX1_sort 123 = .ok (.iastore, 1) := by decide +kernel
theorem dX1_sort_124 : decode cX1_sort 124 = .ok (.iinc 7 (-1), 3) := by decide +kernel
theorem dX1_sort_127 : decode cX1_sort 127 = .ok (.goto (-65), 3) := by decide +kernel
theorem dX1_sort_130 : decode cX1_sort 130 = .ok (.aload_n 0, 1) := by decide +kernel
theorem dX1_sort_131 : decode cX1_sort 131 = .ok (.getfield 7, 3) := by decide +kernel
theorem dX1_sort_134 : decode cX1_sort 134 = .ok (.iload 7, 2) := by decide +kernel
theorem dX1_sort_136 : decode cX1_sort 136 = .ok (.iload 5, 2) := by decide +kernel
theorem dX1_sort_138 : decode cX1_sort 138 = .ok (.iastore, 1) := by decide +kernel
theorem dX1_sort_139 : decode cX1_sort 139 = .ok (.aload_n 0, 1) := by decide +kernel
theorem dX1_sort_140 : decode cX1_sort 140 = .ok (.getfield 13, 3) := by decide +kernel
theorem dX1_sort_143 : decode cX1_sort 143 = .ok (.iload 7, 2) := by decide +kernel
theorem dX1_sort_145 : decode cX1_sort 145 = .ok (.iload 6, 2) := by decide +kernel
theorem dX1_sort_147 : decode cX1_sort 147 = .ok (.iastore, 1) := by decide +kernel
theorem dX1_sort_148 : decode cX1_sort 148 = .ok (.iinc 4 1, 3) := by decide +kernel
theorem dX1_sort_151 : decode cX1_sort 151 = .ok (.goto (-117), 3) := by decide +kernel
theorem dX1_sort_154 : decode cX1_sort 154 = .ok (.iload_n 3, 1) := by decide +kernel
theorem dX1_sort_155 : decode cX1_sort 155 = .ok (.iload_n 2, 1) := by decide +kernel
theorem dX1_sort_156 : decode cX1_sort 156 = .ok (.isub, 1) := by decide +kernel
theorem dX1_sort_157 : decode cX1_sort 157 = .ok (.ireturn, 1) := by decide +kernel
theorem dX1_get_0 : decode cX1_get 0 = .ok (.aload_n 0, 1) := by decide +kernel
theorem dX1_get_1 : decode cX1_get 1 = .ok (.iconst 0, 1) := by decide +kernel
theorem dX1_get_2 : decode cX1_get 2 = .ok (.putfield 16, 3) := by decide +kernel
theorem dX1_get_5 : decode cX1_get 5 = .ok (.iload_n 1, 1) := by decide +kernel
theorem dX1_get_6 : decode cX1_get 6 = .ok (.ifCond .lt 11, 3) := by decide +kernel
theorem dX1_get_9 : decode cX1_get 9 = .ok (.iload_n 1, 1) := by decide +kernel
theorem dX1_get_10 : decode cX1_get 10 = .ok (.aload_n 0, 1) := by decide +kernel
theorem dX1_get_11 : decode cX1_get 11 = .ok (.getfield 21, 3) := by decide +kernel
theorem dX1_get_14 : decode cX1_get 14 = .ok (.if_icmp .lt 11, 3) := by decide +kernel
theorem dX1_get_17 : decode cX1_get 17 = .ok (.aload_n 0, 1) := by decide +kernel
theorem dX1_get_18 : decode cX1_get 18 = .ok (.iconst 1, 1) := by decide +kernel
theorem dX1_get_19 : decode cX1_get 19 = .ok (.invokevirtual 24, 3) := by decide +kernel
theorem dX1_get_22 : decode cX1_get 22 = .ok (.goto 9, 3) := by decide +kernel
theorem dX1_get_25 : decode cX1_get 25 = .ok (.aload_n 0, 1) := by decide +kernel
theorem dX1_get_26 : decode cX1_get 26 = .ok (.getfield 7, 3) := by decide +kernel
theorem dX1_get_29 : decode cX1_get 29 = .ok (.iload_n 1, 1) := by decide +kernel
theorem dX1_get_30 : decode cX1_get 30 = .ok (.iaload, 1) := by decide +kernel
theorem dX1_get_31 : decode cX1_get 31 = .ok (.ireturn, 1) := by decide +kernel
theorem dX1_tag_0 : decode cX1_tag 0 = .ok (.aload_n 0, 1) := by decide +kernel
theorem dX1_tag_1 : decode cX1_tag 1 = .ok (.iconst 0, 1) := by decide +kernel
theorem dX1_tag_2 : decode cX1_tag 2 = .ok (.putfield 16, 3) := by decide +kernel
theorem dX1_tag_5 : decode cX1_tag 5 = .ok (.iload_n 1, 1) := by decide +kernel
theorem dX1_tag_6 : decode cX1_tag 6 = .ok (.ifCond .lt 11, 3) := by decide +kernel
theorem dX1_tag_9 : decode cX1_tag 9 = .ok (.iload_n 1, 1) := by decide +kernel
theorem dX1_tag_10 : decode cX1_tag 10 = .ok (.aload_n 0, 1) := by decide +kernel
theorem dX1_tag_11 : decode cX1_tag 11 = .ok (.getfield 21, 3) := by decide +kernel
theorem dX1_tag_14 : decode cX1_tag 14 = .ok (.if_icmp .lt 11, 3) := by decide +kernel
theorem dX1_tag_17 : decode cX1_tag 17 = .ok (.aload_n 0, 1) := by decide +kernel
theorem dX1_tag_18 : decode cX1_tag 18 = .ok (.iconst 1, 1) := by decide +kernel
theorem dX1_tag_19 : decode cX1_tag 19 = .ok (.invokevirtual 24, 3) := by decide +kernel
theorem dX1_tag_22 : decode cX1_tag 22 = .ok (.goto 9, 3) := by decide +kernel
theorem dX1_tag_25 : decode cX1_tag 25 = .ok (.aload_n 0, 1) := by decide +kernel
theorem dX1_tag_26 : decode cX1_tag 26 = .ok (.getfield 13, 3) := by decide +kernel
theorem dX1_tag_29 : decode cX1_tag 29 = .ok (.iload_n 1, 1) := by decide +kernel
theorem dX1_tag_30 : decode cX1_tag 30 = .ok (.iaload, 1) := by decide +kernel
theorem dX1_tag_31 : decode cX1_tag 31 = .ok (.ireturn, 1) := by decide +kernel
theorem dX1_set_0 : decode cX1_set 0 = .ok (.aload_n 0, 1) := by decide +kernel
theorem dX1_set_1 : decode cX1_set 1 = .ok (.iconst 0, 1) := by decide +kernel
theorem dX1_set_2 : decode cX1_set 2 = .ok (.putfield 16, 3) := by decide +kernel
theorem dX1_set_5 : decode cX1_set 5 = .ok (.iload_n 1, 1) := by decide +kernel
theorem dX1_set_6 : decode cX1_set 6 = .ok (.ifCond .lt 11, 3) := by decide +kernel
theorem dX1_set_9 : decode cX1_set 9 = .ok (.iload_n 1, 1) := by decide +kernel
theorem dX1_set_10 : decode cX1_set 10 = .ok (.aload_n 0, 1) := by decide +kernel
theorem dX1_set_11 : decode cX1_set 11 = .ok (.getfield 21, 3) := by decide +kernel
theorem dX1_set_14 : decode cX1_set 14 = .ok (.if_icmp .lt 9, 3) := by decide +kernel
theorem dX1_set_17 : decode cX1_set 17 = .ok (.aload_n 0, 1) := by decide +kernel
theorem dX1_set_18 : decode cX1_set 18 = .ok (.iconst 1, 1) := by decide +kernel
theorem dX1_set_19 : decode cX1_set 19 = .ok (.invokevirtual 24, 3) := by decide +kernel
theorem dX1_set_22 : decode cX1_set 22 = .ok (.ireturn, 1) := by decide +kernel
theorem dX1_set_23 : decode cX1_set 23 = .ok (.aload_n 0, 1) := by decide +kernel
theorem dX1_set_24 : decode cX1_set 24 = .ok (.getfield 7, 3) := by decide +kernel
theorem dX1_set_27 : decode cX1_set 27 = .ok (.iload_n 1, 1) := by decide +kernel
theorem dX1_set_28 : decode cX1_set 28 = .ok (.iaload, 1) := by decide +kernel
theorem dX1_set_29 : decode cX1_set 29 = .ok (.istore_n 3, 1) := by decide +kernel
theorem dX1_set_30 : decode cX1_set 30 = .ok (.aload_n 0, 1) := by decide +kernel
theorem dX1_set_31 : decode cX1_set 31 = .ok (.getfield 7, 3) := by decide +kernel
theorem dX1_set_34 : decode cX1_set 34 = .ok (.iload_n 1, 1) := by decide +kernel
theorem dX1_set_35 : decode cX1_set 35 = .ok (.iload_n 2, 1) := by decide +kernel
theorem dX1_set_36 : decode cX1_set 36 = .ok (.iastore, 1) := by decide +kernel
theorem dX1_set_37 : decode cX1_set 37 = .ok (.iload_n 3, 1) := by decide +kernel
theorem dX1_set_38 : decode cX1_set 38 = .ok (.ireturn, 1) := by decide +kernel
theorem dX1_turn_0 : decode cX1_turn 0 = .ok (.aload_n 0, 1) := by decide +kernel
theorem dX1_turn_1 : decode cX1_turn 1 = .ok (.iconst 0, 1) := by decide +kernel
theorem dX1_turn_2 : decode cX1_turn 2 = .ok (.putfield 16, 3) := by decide +kernel
theorem dX1_turn_5 : decode cX1_turn 5 = .ok (.aload_n 0, 1) := by decide +kernel
theorem dX1_turn_6 : decode cX1_turn 6 = .ok (.iload_n 1, 1) := by decide +kernel
theorem dX1_turn_7 : decode cX1_turn 7 = .ok (.iload_n 2, 1) := by decide +kernel
theorem dX1_turn_8 : decode cX1_turn 8 = .ok (.invokevirtual 34, 3) := by decide +kernel
theorem dX1_turn_11 : decode cX1_turn 11 = .ok (.ifCond .eq 9, 3) := by decide +kernel
theorem dX1_turn_14 : decode cX1_turn 14 = .ok (.aload_n 0, 1) := by decide +kernel
theorem dX1_turn_15 : decode cX1_turn 15 = .ok (.iconst 1, 1) := by decide +kernel
theorem dX1_turn_16 : decode cX1_turn 16 = .ok (.invokevirtual 24, 3) := by decide +kernel
theorem dX1_turn_19 : decode cX1_turn 19 = .ok (.ireturn, 1) := by decide +kernel
theorem dX1_turn_20 : decode cX1_turn 20 = .ok (.iload_n 1, 1) := by decide +kernel
theorem dX1_turn_21 : decode cX1_turn 21 = .ok (.istore_n 3, 1) := by decide +kernel
theorem dX1_turn_22 : decode cX1_turn 22 = .ok (.iload_n 2, 1) := by decide +kernel
theorem dX1_turn_23 : decode cX1_turn 23 = .ok (.iconst 1, 1) := by decide +kernel
theorem dX1_turn_24 : decode cX1_turn 24 = .ok (.isub, 1) := by decide +kernel
theorem dX1_turn_25 : decode cX1_turn 25 = .ok (.istore 4, 2) := by decide +kernel
theorem dX1_turn_27 : decode cX1_turn 27 = .ok (.iload_n 3, 1) := by decide +kernel
theorem dX1_turn_28 : decode cX1_turn 28 = .ok (.iload 4, 2) := by decide +kernel
theorem dX1_turn_30 : decode cX1_turn 30 = .ok (.if_icmp .ge 72, 3) := by decide +kernel
theorem dX1_turn_33 : decode cX1_turn 33 = .ok (.aload_n 0, 1) := by decide +kernel
theorem dX1_turn_34 : decode cX1_turn 34 = .ok (.getfield 7, 3) := by decide +kernel
theorem dX1_turn_37 : decode cX1_turn 37 = .ok (.iload_n 3, 1) := by decide +kernel
theorem dX1_turn_38 : decode cX1_turn 38 = .ok (.iaload, 1) := by decide +kernel
theorem dX1_turn_39 : decode cX1_turn 39 = .ok (.istore 5, 2) := by decide +kernel
theorem dX1_turn_41 : decode cX1_turn 41 = .ok (.aload_n 0, 1) := by decide +kernel
theorem dX1_turn_42 : decode cX1_turn 42 = .ok (.getfield 13, 3) := by decide +kernel
theorem dX1_turn_45 : decode cX1_turn 45 = .ok (.iload_n 3, 1) := by decide +kernel
theorem dX1_turn_46 : decode cX1_turn 46 = .ok (.iaload, 1) := by decide +kernel
theorem dX1_turn_47 : decode cX1_turn 47 = .ok (.istore 6, 2) := by decide +kernel
theorem dX1_turn_49 : decode cX1_turn 49 = .ok (.aload_n 0, 1) := by decide +kernel
theorem dX1_turn_50 : decode cX1_turn 50 = .ok (.getfield 7, 3) := by decide +kernel
theorem dX1_turn_53 : decode cX1_turn 53 = .ok (.iload_n 3, 1) := by decide +kernel
theorem dX1_turn_54 : decode cX1_turn 54 = .ok (.aload_n 0, 1) := by decide +kernel
theorem dX1_turn_55 : decode cX1_turn 55 = .ok (.getfield 7, 3) := by decide +kernel
theorem dX1_turn_58 : decode cX1_turn 58 = .ok (.iload 4, 2) := by decide +kernel
theorem dX1_turn_60 : decode cX1_turn 60 = .ok (.iaload, 1) := by decide +kernel
theorem dX1_turn_61 : decode cX1_turn 61 = .ok (.iastore, 1) := by decide +kernel
theorem dX1_turn_62 : decode cX1_turn 62 = .ok (.aload_n 0, 1) := by decide +kernel
theorem dX1_turn_63 : decode cX1_turn 63 = .ok (.getfield 13, 3) := by decide +kernel
theorem dX1_turn_66 : decode cX1_turn 66 = .ok (.iload_n 3, 1) := by decide +kernel
theorem dX1_turn_67 : decode cX1_turn 67 = .ok (.aload_n 0, 1) := by decide +kernel
theorem dX1_turn_68 : decode cX1_turn 68 = .ok (.getfield 13, 3) := by decide +kernel
theorem dX1_turn_71 : decode cX1_turn 71 = .ok (.iload 4, 2) := by decide +kernel
theorem dX1_turn_73 : decode cX1_turn 73 = .ok (.iaload, 1) := by decide +kernel
theorem dX1_turn_74 : decode cX1_turn 74 = .ok (.iastore, 1) := by decide +kernel
theorem dX1_turn_75 : decode cX1_turn 75 = .ok (.aload_n 0, 1) := by decide +kernel
theorem dX1_turn_76 : decode cX1_turn 76 = .ok (.getfield 7, 3) := by decide +kernel
theorem dX1_turn_79 : decode cX1_turn 79 = .ok (.iload 4, 2) := by decide +kernel
theorem dX1_turn_81 : decode cX1_turn 81 = .ok (.iload 5, 2) := by decide +kernel
theorem dX1_turn_83 : decode cX1_turn 83 = .ok (.iastore, 1) := by decide +kernel
theorem dX1_turn_84 : decode cX1_turn 84 = .ok (.aload_n 0, 1) := by decide +kernel
theorem dX1_turn_85 : decode cX1_turn 85 = .ok (.getfield 13, 3) := by decide +kernel
theorem dX1_turn_88 : decode cX1_turn 88 = .ok (.iload 4, 2) := by decide +kernel
theorem dX1_turn_90 : decode cX1_turn 90 = .ok (.iload 6, 2) := by decide +kernel
theorem dX1_turn_92 : decode cX1_turn 92 = .ok (.iastore, 1) := by decide +kernel
theorem dX1_turn_93 : decode cX1_turn 93 = .ok (.iinc 4 (-1), 3) := by decide +kernel
theorem dX1_turn_96 : decode cX1_turn 96 = .ok (.iinc 3 1, 3) := by decide +kernel
theorem dX1_turn_99 : decode cX1_turn 99 = .ok (.goto (-72), 3) := by decide +kernel
theorem dX1_turn_102 : decode cX1_turn 102 = .ok (.iload_n 2, 1) := by decide +kernel
theorem dX1_turn_103 : decode cX1_turn 103 = .ok (.iload_n 1, 1) := by decide +kernel
theorem dX1_turn_104 : decode cX1_turn 104 = .ok (.isub, 1) := by decide +kernel
theorem dX1_turn_105 : decode cX1_turn 105 = .ok (.ireturn, 1) := by decide +kernel
theorem dX1_upTo_0 : decode cX1_upTo 0 = .ok (.aload_n 0, 1) := by decide +kernel
theorem dX1_upTo_1 : decode cX1_upTo 1 = .ok (.iconst 0, 1) := by decide +kernel
theorem dX1_upTo_2 : decode cX1_upTo 2 = .ok (.putfield 16, 3) := by decide +kernel
theorem dX1_upTo_5 : decode cX1_upTo 5 = .ok (.iload_n 1, 1) := by decide +kernel
theorem dX1_upTo_6 : decode cX1_upTo 6 = .ok (.ifCond .lt 8, 3) := by decide +kernel
theorem dX1_upTo_9 : decode cX1_upTo 9 = .ok (.iload_n 1, 1) := by decide +kernel
theorem dX1_upTo_10 : decode cX1_upTo 10 = .ok (.iconst 3, 1) := by decide +kernel
theorem dX1_upTo_11 : decode cX1_upTo 11 = .ok (.if_icmp .le 9, 3) := by decide +kernel
theorem dX1_upTo_14 : decode cX1_upTo 14 = .ok (.aload_n 0, 1) := by decide +kernel
theorem dX1_upTo_15 : decode cX1_upTo 15 = .ok (.iconst 1, 1) := by decide +kernel
theorem dX1_upTo_16 : decode cX1_upTo 16 = .ok (.invokevirtual 24, 3) := by decide +kernel
theorem dX1_upTo_19 : decode cX1_upTo 19 = .ok (.ireturn, 1) := by decide +kernel
theorem dX1_upTo_20 : decode cX1_upTo 20 = .ok (.iconst 0, 1) := by decide +kernel
theorem dX1_upTo_21 : decode cX1_upTo 21 = .ok (.istore 4, 2) := by decide +kernel
theorem dX1_upTo_23 : decode cX1_upTo 23 = .ok (.iload 4, 2) := by decide +kernel
theorem dX1_upTo_25 : decode cX1_upTo 25 = .ok (.aload_n 0, 1) := by decide +kernel
theorem dX1_upTo_26 : decode cX1_upTo 26 = .ok (.getfield 21, 3) := by decide +kernel
theorem dX1_upTo_29 : decode cX1_upTo 29 = .ok (.if_icmp .ge 58, 3) := by decide +kernel
theorem dX1_upTo_32 : decode cX1_upTo 32 = .ok (.iload_n 3, 1) := by decide +kernel
theorem dX1_upTo_33 : decode cX1_upTo 33 = .ok (.ifCond .eq 27, 3) := by decide +kernel
theorem dX1_upTo_36 : decode cX1_upTo 36 = .ok (.aload_n 0, 1) := by decide +kernel
theorem dX1_upTo_37 : decode cX1_upTo 37 = .ok (.iload_n 1, 1) := by decide +kernel
theorem dX1_upTo_38 : decode cX1_upTo 38 = .ok (.aload_n 0, 1) := by decide +kernel
theorem dX1_upTo_39 : decode cX1_upTo 39 = .ok (.getfield 7, 3) := by decide +kernel
theorem dX1_upTo_42 : decode cX1_upTo 42 = .ok (.iload 4, 2) := by decide +kernel
theorem dX1_upTo_44 : decode cX1_upTo 44 = .ok (.iaload, 1) := by decide +kernel
theorem dX1_upTo_45 : decode cX1_upTo 45 = .ok (.invokevirtual 38, 3) := by decide +kernel
theorem dX1_upTo_48 : decode cX1_upTo 48 = .ok (.aload_n 0, 1) := by decide +kernel
theorem dX1_upTo_49 : decode cX1_upTo 49 = .ok (.iload_n 1, 1) := by decide +kernel
theorem dX1_upTo_50 : decode cX1_upTo 50 = .ok (.iload_n 2, 1) := by decide +kernel
theorem dX1_upTo_51 : decode cX1_upTo 51 = .ok (.invokevirtual 38, 3) := by decide +kernel
theorem dX1_upTo_54 : decode cX1_upTo 54 = .ok (.if_icmp .gt 33, 3) := by decide +kernel
theorem dX1_upTo_57 : decode cX1_upTo 57 = .ok (.goto 24, 3) := by decide +kernel
theorem dX1_upTo_60 : decode cX1_upTo 60 = .ok (.aload_n 0, 1) := by decide +kernel
theorem dX1_upTo_61 : decode cX1_upTo 61 = .ok (.iload_n 1, 1) := by decide +kernel
theorem dX1_upTo_62 : decode cX1_upTo 62 = .ok (.aload_n 0, 1) := by decide +kernel
theorem dX1_upTo_63 : decode cX1_upTo 63 = .ok (.getfield 7, 3) := by decide +kernel
theorem dX1_upTo_66 : decode cX1_upTo 66 = .ok (.iload 4, 2) := by decide +kernel
theorem dX1_upTo_68 : decode cX1_upTo 68 = .ok (.iaload, 1) := by decide +kernel
theorem dX1_upTo_69 : decode cX1_upTo 69 = .ok (.invokevirtual 38, 3) := by decide +kernel
theorem dX1_upTo_72 : decode cX1_upTo 72 = .ok (.aload_n 0, 1) := by decide +kernel
theorem dX1_upTo_73 : decode cX1_upTo 73 = .ok (.iload_n 1, 1) := by decide +kernel
theorem dX1_upTo_74 : decode cX1_upTo 74 = .ok (.iload_n 2, 1) := by decide +kernel
theorem dX1_upTo_75 : decode cX1_upTo 75 = .ok (.invokevirtual 38, 3) := by decide +kernel
theorem dX1_upTo_78 : decode cX1_upTo 78 = .ok (.if_icmp .ge 9, 3) := by decide +kernel
theorem dX1_upTo_81 : decode cX1_upTo 81 = .ok (.iinc 4 1, 3) := by decide +kernel
theorem dX1_upTo_84 : decode cX1_upTo 84 = .ok (.goto (-61), 3) := by decide +kernel
theorem dX1_upTo_87 : decode cX1_upTo 87 = .ok (.iload 4, 2) := by decide +kernel
theorem dX1_upTo_89 : decode cX1_upTo 89 = .ok (.ireturn, 1) := by decide +kernel
theorem dX1_clear_0 : decode cX1_clear 0 = .ok (.aload_n 0, 1) := by decide +kernel
theorem dX1_clear_1 : decode cX1_clear 1 = .ok (.iconst 0, 1) := by decide +kernel
theorem dX1_clear_2 : decode cX1_clear 2 = .ok (.putfield 16, 3) := by decide +kernel
theorem dX1_clear_5 : decode cX1_clear 5 = .ok (.aload_n 0, 1) := by decide +kernel
theorem dX1_clear_6 : decode cX1_clear 6 = .ok (.getfield 21, 3) := by decide +kernel
theorem dX1_clear_9 : decode cX1_clear 9 = .ok (.istore_n 1, 1) := by decide +kernel
theorem dX1_clear_10 : decode cX1_clear 10 = .ok (.aload_n 0, 1) := by decide +kernel
theorem dX1_clear_11 : decode cX1_clear 11 = .ok (.iconst 0, 1) := by decide +kernel
theorem dX1_clear_12 : decode cX1_clear 12 = .ok (.putfield 21, 3) := by decide +kernel
theorem dX1_clear_15 : decode cX1_clear 15 = .ok (.iload_n 1, 1) := by decide +kernel
theorem dX1_clear_16 : decode cX1_clear 16 = .ok (.ireturn, 1) := by decide +kernel
theorem dX1_hash_0 : decode cX1_hash 0 = .ok (.aload_n 0, 1) := by decide +kernel
theorem dX1_hash_1 : decode cX1_hash 1 = .ok (.iconst 0, 1) := by decide +kernel
theorem dX1_hash_2 : decode cX1_hash 2 = .ok (.putfield 16, 3) := by decide +kernel
theorem dX1_hash_5 : decode cX1_hash 5 = .ok (.iconst 1, 1) := by decide +kernel
theorem dX1_hash_6 : decode cX1_hash 6 = .ok (.istore_n 1, 1) := by decide +kernel
theorem dX1_hash_7 : decode cX1_hash 7 = .ok (.iconst 0, 1) := by decide +kernel
theorem dX1_hash_8 : decode cX1_hash 8 = .ok (.istore_n 2, 1) := by decide +kernel
theorem dX1_hash_9 : decode cX1_hash 9 = .ok (.iload_n 2, 1) := by decide +kernel
theorem dX1_hash_10 : decode cX1_hash 10 = .ok (.aload_n 0, 1) := by decide +kernel
theorem dX1_hash_11 : decode cX1_hash 11 = .ok (.getfield 21, 3) := by decide +kernel
theorem dX1_hash_14 : decode cX1_hash 14 = .ok (.if_icmp .ge 31, 3) := by decide +kernel
theorem dX1_hash_17 : decode cX1_hash 17 = .ok (.bipush 31, 2) := by decide +kernel
theorem dX1_hash_19 : decode cX1_hash 19 = .ok (.bipush 31, 2) := by decide +kernel
theorem dX1_hash_21 : decode cX1_hash 21 = .ok (.iload_n 1, 1) := by decide +kernel
theorem dX1_hash_22 : decode cX1_hash 22 = .ok (.imul, 1) := by decide +kernel
theorem dX1_hash_23 : decode cX1_hash 23 = .ok (.aload_n 0, 1) := by decide +kernel
theorem dX1_hash_24 : decode cX1_hash 24 = .ok (.getfield 7, 3) := by decide +kernel
theorem dX1_hash_27 : decode cX1_hash 27 = .ok (.iload_n 2, 1) := by decide +kernel
theorem dX1_hash_28 : decode cX1_hash 28 = .ok (.iaload, 1) := by decide +kernel
theorem dX1_hash_29 : decode cX1_hash 29 = .ok (.iadd, 1) := by decide +kernel
theorem dX1_hash_30 : decode cX1_hash 30 = .ok (.imul, 1) := by decide +kernel
theorem dX1_hash_31 : decode cX1_hash 31 = .ok (.aload_n 0, 1) := by decide +kernel
theorem dX1_hash_32 : decode cX1_hash 32 = .ok (.getfield 13, 3) := by decide +kernel
theorem dX1_hash_35 : decode cX1_hash 35 = .ok (.iload_n 2, 1) := by decide +kernel
theorem dX1_hash_36 : decode cX1_hash 36 = .ok (.iaload, 1) := by decide +kernel
theorem dX1_hash_37 : decode cX1_hash 37 = .ok (.iadd, 1) := by decide +kernel
theorem dX1_hash_38 : decode cX1_hash 38 = .ok (.istore_n 1, 1) := by decide +kernel
theorem dX1_hash_39 : decode cX1_hash 39 = .ok (.iinc 2 1, 3) := by decide +kernel
theorem dX1_hash_42 : decode cX1_hash 42 = .ok (.goto (-33), 3) := by decide +kernel
theorem dX1_hash_45 : decode cX1_hash 45 = .ok (.iload_n 1, 1) := by decide +kernel
theorem dX1_hash_46 : decode cX1_hash 46 = .ok (.ireturn, 1) := by decide +kernel
abbrev vwCl : List vw_C := [(RX0, TX0, 6), (RX1, TX1, 4)]
/-- the tables' good words: every method's own words behind its code -/
def lw_w : List Cond := lw_tbl.filter goodWord
theorem mW {w : Cond} (i : Nat) (h : lw_tbl[i]? = some w) (hg : goodWord w = true) : w ∈ lw_w := List.mem_filter.mpr ⟨List.mem_of_getElem? h, hg⟩
theorem mT {w : Cond} (i : Nat) (h : lw_tbl[i]? = some w) : w ∈ lw_tbl := List.mem_of_getElem? h
theorem lw_w_good : ∀ w ∈ lw_w, goodWord w = true := fun w h => (List.mem_filter.mp h).2
theorem lw_w_in : ∀ w ∈ lw_w, w ∈ lw_tbl := fun w h => (List.mem_filter.mp h).1
theorem wV_Throwable_Throwable_fillInStackTrace : (Jvm.Cond.selects "java/lang/Throwable" ({ cls := "java/lang/Throwable", name := "fillInStackTrace", desc := "(I)Ljava/lang/Throwable;" } : Jvm.MethodName) ({ cls := "java/lang/Throwable", name := "fillInStackTrace", desc := "(I)Ljava/lang/Throwable;" } : Jvm.MethodName)) ∈ lw_w := mW 0 (by decide +kernel) (by decide +kernel)
theorem wV_X0_X0_requireRoomFor : (Jvm.Cond.selects "RunSorter" ({ cls := "RunSorter", name := "requireRoomFor", desc := "(I)V" } : Jvm.MethodName) ({ cls := "RunSorter", name := "requireRoomFor", desc := "(I)V" } : Jvm.MethodName)) ∈ lw_w := mW 1 (by decide +kernel) (by decide +kernel)
theorem wV_X0_X0_append : (Jvm.Cond.selects "RunSorter" ({ cls := "RunSorter", name := "append", desc := "(I)V" } : Jvm.MethodName) ({ cls := "RunSorter", name := "append", desc := "(I)V" } : Jvm.MethodName)) ∈ lw_w := mW 2 (by decide +kernel) (by decide +kernel)
theorem wV_X0_X0_requirePart : (Jvm.Cond.selects "RunSorter" ({ cls := "RunSorter", name := "requirePart", desc := "(II)V" } : Jvm.MethodName) ({ cls := "RunSorter", name := "requirePart", desc := "(II)V" } : Jvm.MethodName)) ∈ lw_w := mW 3 (by decide +kernel) (by decide +kernel)
theorem wV_X0_X0_findRuns : (Jvm.Cond.selects "RunSorter" ({ cls := "RunSorter", name := "findRuns", desc := "(III)I" } : Jvm.MethodName) ({ cls := "RunSorter", name := "findRuns", desc := "(III)I" } : Jvm.MethodName)) ∈ lw_w := mW 4 (by decide +kernel) (by decide +kernel)
theorem wV_X0_X0_mergePairsOfRuns : (Jvm.Cond.selects "RunSorter" ({ cls := "RunSorter", name := "mergePairsOfRuns", desc := "(II)V" } : Jvm.MethodName) ({ cls := "RunSorter", name := "mergePairsOfRuns", desc := "(II)V" } : Jvm.MethodName)) ∈ lw_w := mW 5 (by decide +kernel) (by decide +kernel)
theorem wV_X0_X0_merge : (Jvm.Cond.selects "RunSorter" ({ cls := "RunSorter", name := "merge", desc := "(IIII)V" } : Jvm.MethodName) ({ cls := "RunSorter", name := "merge", desc := "(IIII)V" } : Jvm.MethodName)) ∈ lw_w := mW 6 (by decide +kernel) (by decide +kernel)
theorem wV_X0_X0_requireIndex : (Jvm.Cond.selects "RunSorter" ({ cls := "RunSorter", name := "requireIndex", desc := "(I)V" } : Jvm.MethodName) ({ cls := "RunSorter", name := "requireIndex", desc := "(I)V" } : Jvm.MethodName)) ∈ lw_w := mW 7 (by decide +kernel) (by decide +kernel)
theorem wV_X0_X0_swap : (Jvm.Cond.selects "RunSorter" ({ cls := "RunSorter", name := "swap", desc := "(II)V" } : Jvm.MethodName) ({ cls := "RunSorter", name := "swap", desc := "(II)V" } : Jvm.MethodName)) ∈ lw_w := mW 8 (by decide +kernel) (by decide +kernel)
theorem wV_X1_X1_fail : (Jvm.Cond.selects "RunSorterModel" ({ cls := "RunSorterModel", name := "fail", desc := "(I)I" } : Jvm.MethodName) ({ cls := "RunSorterModel", name := "fail", desc := "(I)I" } : Jvm.MethodName)) ∈ lw_w := mW 9 (by decide +kernel) (by decide +kernel)
theorem wV_X1_X1_append : (Jvm.Cond.selects "RunSorterModel" ({ cls := "RunSorterModel", name := "append", desc := "(I)V" } : Jvm.MethodName) ({ cls := "RunSorterModel", name := "append", desc := "(I)V" } : Jvm.MethodName)) ∈ lw_w := mW 10 (by decide +kernel) (by decide +kernel)
theorem wV_X1_X1_bad : (Jvm.Cond.selects "RunSorterModel" ({ cls := "RunSorterModel", name := "bad", desc := "(II)Z" } : Jvm.MethodName) ({ cls := "RunSorterModel", name := "bad", desc := "(II)Z" } : Jvm.MethodName)) ∈ lw_w := mW 11 (by decide +kernel) (by decide +kernel)
theorem wV_X1_X1_rank : (Jvm.Cond.selects "RunSorterModel" ({ cls := "RunSorterModel", name := "rank", desc := "(II)I" } : Jvm.MethodName) ({ cls := "RunSorterModel", name := "rank", desc := "(II)I" } : Jvm.MethodName)) ∈ lw_w := mW 12 (by decide +kernel) (by decide +kernel)
theorem wN_L : (Jvm.Cond.initialized "RunSorterLaw") ∈ lw_w := mW 13 (by decide +kernel) (by decide +kernel)
theorem wN_X0 : (Jvm.Cond.initialized "RunSorter") ∈ lw_w := mW 14 (by decide +kernel) (by decide +kernel)
theorem wN_X1 : (Jvm.Cond.initialized "RunSorterModel") ∈ lw_w := mW 15 (by decide +kernel) (by decide +kernel)
theorem wN_Throwable : (Jvm.Cond.initialized "java/lang/Throwable") ∈ lw_w := mW 16 (by decide +kernel) (by decide +kernel)
theorem wN_Exception : (Jvm.Cond.initialized "java/lang/Exception") ∈ lw_w := mW 17 (by decide +kernel) (by decide +kernel)
theorem wN_RuntimeException : (Jvm.Cond.initialized "java/lang/RuntimeException") ∈ lw_w := mW 18 (by decide +kernel) (by decide +kernel)
theorem wN_IllegalArgumentException : (Jvm.Cond.initialized "java/lang/IllegalArgumentException") ∈ lw_w := mW 19 (by decide +kernel) (by decide +kernel)
theorem wN_IndexOutOfBoundsException : (Jvm.Cond.initialized "java/lang/IndexOutOfBoundsException") ∈ lw_w := mW 20 (by decide +kernel) (by decide +kernel)
theorem wN_System : (Jvm.Cond.initialized "java/lang/System") ∈ lw_w := mW 21 (by decide +kernel) (by decide +kernel)
theorem wN_Math : (Jvm.Cond.initialized "java/lang/Math") ∈ lw_w := mW 22 (by decide +kernel) (by decide +kernel)
theorem wK_L_X0 : (Jvm.Cond.classLink "RunSorterLaw" (8 : Nat) "RunSorter") ∈ lw_w := mW 23 (by decide +kernel) (by decide +kernel)
theorem wB_X0 : (Jvm.Cond.instantiable "RunSorter" (6 : Nat)) ∈ lw_w := mW 24 (by decide +kernel) (by decide +kernel)
theorem wM_L_X0_init : (Jvm.Cond.methodLink "RunSorterLaw" (41 : Nat) ({ cls := "RunSorter", name := "<init>", desc := "()V" } : Jvm.MethodName)) ∈ lw_w := mW 25 (by decide +kernel) (by decide +kernel)
theorem wI_X0_init : (Jvm.Cond.instanceMethod ({ cls := "RunSorter", name := "<init>", desc := "()V" } : Jvm.MethodName)) ∈ lw_w := mW 26 (by decide +kernel) (by decide +kernel)
theorem wC_X0_init : (Jvm.Cond.code ({ cls := "RunSorter", name := "<init>", desc := "()V" } : Jvm.MethodName) prog_1_method_1_code (1 : Nat) (Option.none : Option Jvm.ClassFile.FieldType)) ∈ lw_w := mW 27 (by decide +kernel) (by decide +kernel)
theorem wM_X0_Object_init : (Jvm.Cond.methodLink "RunSorter" (1 : Nat) ({ cls := "java/lang/Object", name := "<init>", desc := "()V" } : Jvm.MethodName)) ∈ lw_w := mW 28 (by decide +kernel) (by decide +kernel)
theorem wI_Object_init : (Jvm.Cond.instanceMethod ({ cls := "java/lang/Object", name := "<init>", desc := "()V" } : Jvm.MethodName)) ∈ lw_w := mW 29 (by decide +kernel) (by decide +kernel)
theorem wC_Object_init : (Jvm.Cond.code ({ cls := "java/lang/Object", name := "<init>", desc := "()V" } : Jvm.MethodName) object_method_1_code (1 : Nat) (Option.none : Option Jvm.ClassFile.FieldType)) ∈ lw_w := mW 30 (by decide +kernel) (by decide +kernel)
theorem wF_X0_numbers : (Jvm.Cond.fieldLink "RunSorter" (9 : Nat) "RunSorter" "numbers" "[I") ∈ lw_w := mW 31 (by decide +kernel) (by decide +kernel)
theorem wF_X0_tags : (Jvm.Cond.fieldLink "RunSorter" (13 : Nat) "RunSorter" "tags" "[I") ∈ lw_w := mW 32 (by decide +kernel) (by decide +kernel)
theorem wF_X0_size : (Jvm.Cond.fieldLink "RunSorter" (16 : Nat) "RunSorter" "size" "I") ∈ lw_w := mW 33 (by decide +kernel) (by decide +kernel)
theorem wF_X0_spareNumbers : (Jvm.Cond.fieldLink "RunSorter" (20 : Nat) "RunSorter" "spareNumbers" "[I") ∈ lw_w := mW 34 (by decide +kernel) (by decide +kernel)
theorem wF_X0_spareTags : (Jvm.Cond.fieldLink "RunSorter" (23 : Nat) "RunSorter" "spareTags" "[I") ∈ lw_w := mW 35 (by decide +kernel) (by decide +kernel)
theorem wF_X0_runStarts : (Jvm.Cond.fieldLink "RunSorter" (26 : Nat) "RunSorter" "runStarts" "[I") ∈ lw_w := mW 36 (by decide +kernel) (by decide +kernel)
theorem wL_X0_X0_numbers : (Jvm.Cond.laysFinal "RunSorter" "RunSorter" "numbers" "[I") ∈ lw_w := mW 37 (by decide +kernel) (by decide +kernel)
theorem wsoleField_38 : (Jvm.Cond.soleField "RunSorter" "numbers") ∈ lw_w := mW 38 (by decide +kernel) (by decide +kernel)
theorem wL_X0_X0_tags : (Jvm.Cond.laysFinal "RunSorter" "RunSorter" "tags" "[I") ∈ lw_w := mW 39 (by decide +kernel) (by decide +kernel)
theorem wsoleField_40 : (Jvm.Cond.soleField "RunSorter" "tags") ∈ lw_w := mW 40 (by decide +kernel) (by decide +kernel)
theorem wL_X0_X0_size : (Jvm.Cond.lays "RunSorter" "RunSorter" "size" "I") ∈ lw_w := mW 41 (by decide +kernel) (by decide +kernel)
theorem wsoleField_42 : (Jvm.Cond.soleField "RunSorter" "size") ∈ lw_w := mW 42 (by decide +kernel) (by decide +kernel)
theorem wL_X0_X0_spareNumbers : (Jvm.Cond.laysFinal "RunSorter" "RunSorter" "spareNumbers" "[I") ∈ lw_w := mW 43 (by decide +kernel) (by decide +kernel)
theorem wsoleField_44 : (Jvm.Cond.soleField "RunSorter" "spareNumbers") ∈ lw_w := mW 44 (by decide +kernel) (by decide +kernel)
theorem wL_X0_X0_spareTags : (Jvm.Cond.laysFinal "RunSorter" "RunSorter" "spareTags" "[I") ∈ lw_w := mW 45 (by decide +kernel) (by decide +kernel)
theorem wsoleField_46 : (Jvm.Cond.soleField "RunSorter" "spareTags") ∈ lw_w := mW 46 (by decide +kernel) (by decide +kernel)
theorem wL_X0_X0_runStarts : (Jvm.Cond.laysFinal "RunSorter" "RunSorter" "runStarts" "[I") ∈ lw_w := mW 47 (by decide +kernel) (by decide +kernel)
theorem wsoleField_48 : (Jvm.Cond.soleField "RunSorter" "runStarts") ∈ lw_w := mW 48 (by decide +kernel) (by decide +kernel)
theorem wsuperclass_49 : (Jvm.Cond.superclass "RunSorter" "java/lang/Object") ∈ lw_w := mW 49 (by decide +kernel) (by decide +kernel)
theorem wA_int : (Jvm.Cond.arrayClass Jvm.ClassFile.FieldType.int) ∈ lw_w := mW 50 (by decide +kernel) (by decide +kernel)
theorem wM_L_X0_clear : (Jvm.Cond.methodLink "RunSorterLaw" (79 : Nat) ({ cls := "RunSorter", name := "clear", desc := "()I" } : Jvm.MethodName)) ∈ lw_w := mW 51 (by decide +kernel) (by decide +kernel)
theorem wI_X0_clear : (Jvm.Cond.instanceMethod ({ cls := "RunSorter", name := "clear", desc := "()I" } : Jvm.MethodName)) ∈ lw_w := mW 52 (by decide +kernel) (by decide +kernel)
theorem wV_X0_X0_clear : (Jvm.Cond.selects "RunSorter" ({ cls := "RunSorter", name := "clear", desc := "()I" } : Jvm.MethodName) ({ cls := "RunSorter", name := "clear", desc := "()I" } : Jvm.MethodName)) ∈ lw_w := mW 53 (by decide +kernel) (by decide +kernel)
theorem wC_X0_clear : (Jvm.Cond.code ({ cls := "RunSorter", name := "clear", desc := "()I" } : Jvm.MethodName) prog_1_method_10_code (2 : Nat) (Option.some Jvm.ClassFile.FieldType.int)) ∈ lw_w := mW 54 (by decide +kernel) (by decide +kernel)
theorem wM_L_X0_hash : (Jvm.Cond.methodLink "RunSorterLaw" (83 : Nat) ({ cls := "RunSorter", name := "hash", desc := "()I" } : Jvm.MethodName)) ∈ lw_w := mW 55 (by decide +kernel) (by decide +kernel)
theorem wI_X0_hash : (Jvm.Cond.instanceMethod ({ cls := "RunSorter", name := "hash", desc := "()I" } : Jvm.MethodName)) ∈ lw_w := mW 56 (by decide +kernel) (by decide +kernel)
theorem wV_X0_X0_hash : (Jvm.Cond.selects "RunSorter" ({ cls := "RunSorter", name := "hash", desc := "()I" } : Jvm.MethodName) ({ cls := "RunSorter", name := "hash", desc := "()I" } : Jvm.MethodName)) ∈ lw_w := mW 57 (by decide +kernel) (by decide +kernel)
theorem wC_X0_hash : (Jvm.Cond.code ({ cls := "RunSorter", name := "hash", desc := "()I" } : Jvm.MethodName) prog_1_method_11_code (3 : Nat) (Option.some Jvm.ClassFile.FieldType.int)) ∈ lw_w := mW 58 (by decide +kernel) (by decide +kernel)
theorem wM_L_L_fill : (Jvm.Cond.methodLink "RunSorterLaw" (45 : Nat) ({ cls := "RunSorterLaw", name := "fill", desc := "(LRunSorter;III[J)I" } : Jvm.MethodName)) ∈ lw_w := mW 59 (by decide +kernel) (by decide +kernel)
theorem wS_L_fill : (Jvm.Cond.static ({ cls := "RunSorterLaw", name := "fill", desc := "(LRunSorter;III[J)I" } : Jvm.MethodName)) ∈ lw_w := mW 60 (by decide +kernel) (by decide +kernel)
theorem wC_L_fill : (Jvm.Cond.codeWith ({ cls := "RunSorterLaw", name := "fill", desc := "(LRunSorter;III[J)I" } : Jvm.MethodName) method_3_code (6 : Nat) (Option.some Jvm.ClassFile.FieldType.int) [((0 : Nat), (12 : Nat), (15 : Nat), (13 : Nat)), ((0 : Nat), (12 : Nat), (19 : Nat), (15 : Nat))]) ∈ lw_w := mW 61 (by decide +kernel) (by decide +kernel)
theorem wK_L_IllegalArgumentException : (Jvm.Cond.classLink "RunSorterLaw" (13 : Nat) "java/lang/IllegalArgumentException") ∈ lw_w := mW 62 (by decide +kernel) (by decide +kernel)
theorem wK_L_IndexOutOfBoundsException : (Jvm.Cond.classLink "RunSorterLaw" (15 : Nat) "java/lang/IndexOutOfBoundsException") ∈ lw_w := mW 63 (by decide +kernel) (by decide +kernel)
theorem wM_L_X0_fill : (Jvm.Cond.methodLink "RunSorterLaw" (7 : Nat) ({ cls := "RunSorter", name := "fill", desc := "(III)I" } : Jvm.MethodName)) ∈ lw_w := mW 64 (by decide +kernel) (by decide +kernel)
theorem wI_X0_fill : (Jvm.Cond.instanceMethod ({ cls := "RunSorter", name := "fill", desc := "(III)I" } : Jvm.MethodName)) ∈ lw_w := mW 65 (by decide +kernel) (by decide +kernel)
theorem wV_X0_X0_fill : (Jvm.Cond.selects "RunSorter" ({ cls := "RunSorter", name := "fill", desc := "(III)I" } : Jvm.MethodName) ({ cls := "RunSorter", name := "fill", desc := "(III)I" } : Jvm.MethodName)) ∈ lw_w := mW 66 (by decide +kernel) (by decide +kernel)
theorem wC_X0_fill : (Jvm.Cond.code ({ cls := "RunSorter", name := "fill", desc := "(III)I" } : Jvm.MethodName) prog_1_method_2_code (5 : Nat) (Option.some Jvm.ClassFile.FieldType.int)) ∈ lw_w := mW 67 (by decide +kernel) (by decide +kernel)
theorem wM_X0_X0_requireWithin : (Jvm.Cond.methodLink "RunSorter" (29 : Nat) ({ cls := "RunSorter", name := "requireWithin", desc := "(III)V" } : Jvm.MethodName)) ∈ lw_w := mW 68 (by decide +kernel) (by decide +kernel)
theorem wS_X0_requireWithin : (Jvm.Cond.static ({ cls := "RunSorter", name := "requireWithin", desc := "(III)V" } : Jvm.MethodName)) ∈ lw_w := mW 69 (by decide +kernel) (by decide +kernel)
theorem wC_X0_requireWithin : (Jvm.Cond.code ({ cls := "RunSorter", name := "requireWithin", desc := "(III)V" } : Jvm.MethodName) prog_1_method_12_code (3 : Nat) (Option.none : Option Jvm.ClassFile.FieldType)) ∈ lw_w := mW 70 (by decide +kernel) (by decide +kernel)
theorem wK_X0_IllegalArgumentException : (Jvm.Cond.classLink "RunSorter" (66 : Nat) "java/lang/IllegalArgumentException") ∈ lw_w := mW 71 (by decide +kernel) (by decide +kernel)
theorem wB_IllegalArgumentException : (Jvm.Cond.instantiable "java/lang/IllegalArgumentException" (6 : Nat)) ∈ lw_w := mW 72 (by decide +kernel) (by decide +kernel)
theorem wcastable_73 : (Jvm.Cond.castable "java/lang/IllegalArgumentException" "java/lang/IllegalArgumentException") ∈ lw_tbl := mT 73 (by decide +kernel)
theorem wdeclares_74 : (Jvm.Cond.declares ({ cls := "java/lang/RuntimeException", name := "<init>", desc := "()V" } : Jvm.MethodName)) ∈ lw_tbl := mT 74 (by decide +kernel)
theorem wdeclares_75 : (Jvm.Cond.declares ({ cls := "java/lang/RuntimeException", name := "<init>", desc := "(Ljava/lang/String;)V" } : Jvm.MethodName)) ∈ lw_tbl := mT 75 (by decide +kernel)
theorem wdeclares_76 : (Jvm.Cond.declares ({ cls := "java/lang/Exception", name := "<init>", desc := "()V" } : Jvm.MethodName)) ∈ lw_tbl := mT 76 (by decide +kernel)
theorem wdeclares_77 : (Jvm.Cond.declares ({ cls := "java/lang/Exception", name := "<init>", desc := "(Ljava/lang/String;)V" } : Jvm.MethodName)) ∈ lw_tbl := mT 77 (by decide +kernel)
theorem wdeclares_78 : (Jvm.Cond.declares ({ cls := "java/lang/Throwable", name := "<init>", desc := "()V" } : Jvm.MethodName)) ∈ lw_tbl := mT 78 (by decide +kernel)
theorem wdeclares_79 : (Jvm.Cond.declares ({ cls := "java/lang/Throwable", name := "<init>", desc := "(Ljava/lang/String;)V" } : Jvm.MethodName)) ∈ lw_tbl := mT 79 (by decide +kernel)
theorem wV_IllegalArgumentException_Throwable_fillInStackTrace : (Jvm.Cond.selects "java/lang/IllegalArgumentException" ({ cls := "java/lang/Throwable", name := "fillInStackTrace", desc := "(I)Ljava/lang/Throwable;" } : Jvm.MethodName) ({ cls := "java/lang/Throwable", name := "fillInStackTrace", desc := "(I)Ljava/lang/Throwable;" } : Jvm.MethodName)) ∈ lw_w := mW 80 (by decide +kernel) (by decide +kernel)
theorem wV_IllegalArgumentException_Throwable_fillInStackTrace_81 : (Jvm.Cond.selects "java/lang/IllegalArgumentException" ({ cls := "java/lang/Throwable", name := "fillInStackTrace", desc := "()Ljava/lang/Throwable;" } : Jvm.MethodName) ({ cls := "java/lang/Throwable", name := "fillInStackTrace", desc := "()Ljava/lang/Throwable;" } : Jvm.MethodName)) ∈ lw_w := mW 81 (by decide +kernel) (by decide +kernel)
theorem wL_IllegalArgumentException_Throwable_cause : (Jvm.Cond.lays "java/lang/IllegalArgumentException" "java/lang/Throwable" "cause" "Ljava/lang/Throwable;") ∈ lw_w := mW 82 (by decide +kernel) (by decide +kernel)
theorem wL_Throwable_Throwable_cause : (Jvm.Cond.lays "java/lang/Throwable" "java/lang/Throwable" "cause" "Ljava/lang/Throwable;") ∈ lw_w := mW 83 (by decide +kernel) (by decide +kernel)
theorem wL_IllegalArgumentException_Throwable_stackTrace : (Jvm.Cond.lays "java/lang/IllegalArgumentException" "java/lang/Throwable" "stackTrace" "[Ljava/lang/StackTraceElement;") ∈ lw_w := mW 84 (by decide +kernel) (by decide +kernel)
theorem wL_Throwable_Throwable_stackTrace : (Jvm.Cond.lays "java/lang/Throwable" "java/lang/Throwable" "stackTrace" "[Ljava/lang/StackTraceElement;") ∈ lw_w := mW 85 (by decide +kernel) (by decide +kernel)
theorem wL_IllegalArgumentException_Throwable_suppressedExceptions : (Jvm.Cond.lays "java/lang/IllegalArgumentException" "java/lang/Throwable" "suppressedExceptions" "Ljava/util/List;") ∈ lw_w := mW 86 (by decide +kernel) (by decide +kernel)
theorem wL_Throwable_Throwable_suppressedExceptions : (Jvm.Cond.lays "java/lang/Throwable" "java/lang/Throwable" "suppressedExceptions" "Ljava/util/List;") ∈ lw_w := mW 87 (by decide +kernel) (by decide +kernel)
theorem wL_IllegalArgumentException_Throwable_detailMessage : (Jvm.Cond.lays "java/lang/IllegalArgumentException" "java/lang/Throwable" "detailMessage" "Ljava/lang/String;") ∈ lw_w := mW 88 (by decide +kernel) (by decide +kernel)
theorem wL_Throwable_Throwable_detailMessage : (Jvm.Cond.lays "java/lang/Throwable" "java/lang/Throwable" "detailMessage" "Ljava/lang/String;") ∈ lw_w := mW 89 (by decide +kernel) (by decide +kernel)
theorem wL_IllegalArgumentException_Throwable_backtrace : (Jvm.Cond.lays "java/lang/IllegalArgumentException" "java/lang/Throwable" "backtrace" "Ljava/lang/Object;") ∈ lw_w := mW 90 (by decide +kernel) (by decide +kernel)
theorem wL_Throwable_Throwable_backtrace : (Jvm.Cond.lays "java/lang/Throwable" "java/lang/Throwable" "backtrace" "Ljava/lang/Object;") ∈ lw_w := mW 91 (by decide +kernel) (by decide +kernel)
theorem wF_Throwable_backtrace : (Jvm.Cond.fieldLink "java/lang/Throwable" (198 : Nat) "java/lang/Throwable" "backtrace" "Ljava/lang/Object;") ∈ lw_w := mW 92 (by decide +kernel) (by decide +kernel)
theorem wsuperclass_93 : (Jvm.Cond.superclass "java/lang/Throwable" "java/lang/Object") ∈ lw_w := mW 93 (by decide +kernel) (by decide +kernel)
theorem wI_Throwable_init : (Jvm.Cond.instanceMethod ({ cls := "java/lang/Throwable", name := "<init>", desc := "()V" } : Jvm.MethodName)) ∈ lw_w := mW 94 (by decide +kernel) (by decide +kernel)
theorem wC_Throwable_init : (Jvm.Cond.code ({ cls := "java/lang/Throwable", name := "<init>", desc := "()V" } : Jvm.MethodName) prog_11_method_1_code (1 : Nat) (Option.none : Option Jvm.ClassFile.FieldType)) ∈ lw_w := mW 95 (by decide +kernel) (by decide +kernel)
theorem wM_Throwable_Object_init : (Jvm.Cond.methodLink "java/lang/Throwable" (1 : Nat) ({ cls := "java/lang/Object", name := "<init>", desc := "()V" } : Jvm.MethodName)) ∈ lw_w := mW 96 (by decide +kernel) (by decide +kernel)
theorem wF_Throwable_UNASSIGNED_STACK : (Jvm.Cond.fieldLink "java/lang/Throwable" (13 : Nat) "java/lang/Throwable" "UNASSIGNED_STACK" "[Ljava/lang/StackTraceElement;") ∈ lw_w := mW 97 (by decide +kernel) (by decide +kernel)
theorem wlaysStatic_98 : (Jvm.Cond.laysStatic "java/lang/Throwable" "UNASSIGNED_STACK" "[Ljava/lang/StackTraceElement;") ∈ lw_tbl := mT 98 (by decide +kernel)
theorem wF_Throwable_SUPPRESSED_SENTINEL : (Jvm.Cond.fieldLink "java/lang/Throwable" (20 : Nat) "java/lang/Throwable" "SUPPRESSED_SENTINEL" "Ljava/util/List;") ∈ lw_w := mW 99 (by decide +kernel) (by decide +kernel)
theorem wlaysStatic_100 : (Jvm.Cond.laysStatic "java/lang/Throwable" "SUPPRESSED_SENTINEL" "Ljava/util/List;") ∈ lw_tbl := mT 100 (by decide +kernel)
theorem wM_Throwable_Throwable_fillInStackTrace : (Jvm.Cond.methodLink "java/lang/Throwable" (27 : Nat) ({ cls := "java/lang/Throwable", name := "fillInStackTrace", desc := "()Ljava/lang/Throwable;" } : Jvm.MethodName)) ∈ lw_w := mW 101 (by decide +kernel) (by decide +kernel)
theorem wI_Throwable_fillInStackTrace : (Jvm.Cond.instanceMethod ({ cls := "java/lang/Throwable", name := "fillInStackTrace", desc := "()Ljava/lang/Throwable;" } : Jvm.MethodName)) ∈ lw_w := mW 102 (by decide +kernel) (by decide +kernel)
theorem wsameMethod_103 : (Jvm.Cond.sameMethod "java/lang/Throwable" "java/lang/Throwable" "fillInStackTrace" "()Ljava/lang/Throwable;") ∈ lw_w := mW 103 (by decide +kernel) (by decide +kernel)
theorem wV_IndexOutOfBoundsException_Throwable_fillInStackTrace : (Jvm.Cond.selects "java/lang/IndexOutOfBoundsException" ({ cls := "java/lang/Throwable", name := "fillInStackTrace", desc := "()Ljava/lang/Throwable;" } : Jvm.MethodName) ({ cls := "java/lang/Throwable", name := "fillInStackTrace", desc := "()Ljava/lang/Throwable;" } : Jvm.MethodName)) ∈ lw_w := mW 104 (by decide +kernel) (by decide +kernel)
theorem wC_Throwable_fillInStackTrace : (Jvm.Cond.codeSync ({ cls := "java/lang/Throwable", name := "fillInStackTrace", desc := "()Ljava/lang/Throwable;" } : Jvm.MethodName) prog_11_method_18_code (1 : Nat) (Option.some (Jvm.ClassFile.FieldType.object "java/lang/Throwable"))) ∈ lw_tbl := mT 105 (by decide +kernel)
theorem wM_Throwable_Throwable_fillInStackTrace_106 : (Jvm.Cond.methodLink "java/lang/Throwable" (202 : Nat) ({ cls := "java/lang/Throwable", name := "fillInStackTrace", desc := "(I)Ljava/lang/Throwable;" } : Jvm.MethodName)) ∈ lw_w := mW 106 (by decide +kernel) (by decide +kernel)
theorem wprivateMethod_107 : (Jvm.Cond.privateMethod ({ cls := "java/lang/Throwable", name := "fillInStackTrace", desc := "(I)Ljava/lang/Throwable;" } : Jvm.MethodName)) ∈ lw_tbl := mT 107 (by decide +kernel)
theorem wI_Throwable_fillInStackTrace_108 : (Jvm.Cond.instanceMethod ({ cls := "java/lang/Throwable", name := "fillInStackTrace", desc := "(I)Ljava/lang/Throwable;" } : Jvm.MethodName)) ∈ lw_w := mW 108 (by decide +kernel) (by decide +kernel)
theorem wB_Throwable : (Jvm.Cond.instantiable "java/lang/Throwable" (6 : Nat)) ∈ lw_w := mW 109 (by decide +kernel) (by decide +kernel)
theorem wT_Throwable_fillInStackTrace : (Jvm.Cond.native ({ cls := "java/lang/Throwable", name := "fillInStackTrace", desc := "(I)Ljava/lang/Throwable;" } : Jvm.MethodName)) ∈ lw_w := mW 110 (by decide +kernel) (by decide +kernel)
theorem wstringRef_111 : (Jvm.Cond.stringRef "RunSorter" (68 : Nat) "a number is out of range") ∈ lw_tbl := mT 111 (by decide +kernel)
theorem wM_X0_IllegalArgumentException_init : (Jvm.Cond.methodLink "RunSorter" (70 : Nat) ({ cls := "java/lang/IllegalArgumentException", name := "<init>", desc := "(Ljava/lang/String;)V" } : Jvm.MethodName)) ∈ lw_w := mW 112 (by decide +kernel) (by decide +kernel)
theorem wI_IllegalArgumentException_init : (Jvm.Cond.instanceMethod ({ cls := "java/lang/IllegalArgumentException", name := "<init>", desc := "(Ljava/lang/String;)V" } : Jvm.MethodName)) ∈ lw_w := mW 113 (by decide +kernel) (by decide +kernel)
theorem wC_IllegalArgumentException_init : (Jvm.Cond.code ({ cls := "java/lang/IllegalArgumentException", name := "<init>", desc := "(Ljava/lang/String;)V" } : Jvm.MethodName) prog_5_method_2_code (2 : Nat) (Option.none : Option Jvm.ClassFile.FieldType)) ∈ lw_w := mW 114 (by decide +kernel) (by decide +kernel)
theorem wM_IllegalArgumentException_RuntimeException_init : (Jvm.Cond.methodLink "java/lang/IllegalArgumentException" (7 : Nat) ({ cls := "java/lang/RuntimeException", name := "<init>", desc := "(Ljava/lang/String;)V" } : Jvm.MethodName)) ∈ lw_w := mW 115 (by decide +kernel) (by decide +kernel)
theorem wI_RuntimeException_init : (Jvm.Cond.instanceMethod ({ cls := "java/lang/RuntimeException", name := "<init>", desc := "(Ljava/lang/String;)V" } : Jvm.MethodName)) ∈ lw_w := mW 116 (by decide +kernel) (by decide +kernel)
theorem wC_RuntimeException_init : (Jvm.Cond.code ({ cls := "java/lang/RuntimeException", name := "<init>", desc := "(Ljava/lang/String;)V" } : Jvm.MethodName) prog_8_method_2_code (2 : Nat) (Option.none : Option Jvm.ClassFile.FieldType)) ∈ lw_w := mW 117 (by decide +kernel) (by decide +kernel)
theorem wM_RuntimeException_Exception_init : (Jvm.Cond.methodLink "java/lang/RuntimeException" (7 : Nat) ({ cls := "java/lang/Exception", name := "<init>", desc := "(Ljava/lang/String;)V" } : Jvm.MethodName)) ∈ lw_w := mW 118 (by decide +kernel) (by decide +kernel)
theorem wI_Exception_init : (Jvm.Cond.instanceMethod ({ cls := "java/lang/Exception", name := "<init>", desc := "(Ljava/lang/String;)V" } : Jvm.MethodName)) ∈ lw_w := mW 119 (by decide +kernel) (by decide +kernel)
theorem wC_Exception_init : (Jvm.Cond.code ({ cls := "java/lang/Exception", name := "<init>", desc := "(Ljava/lang/String;)V" } : Jvm.MethodName) prog_4_method_2_code (2 : Nat) (Option.none : Option Jvm.ClassFile.FieldType)) ∈ lw_w := mW 120 (by decide +kernel) (by decide +kernel)
theorem wM_Exception_Throwable_init : (Jvm.Cond.methodLink "java/lang/Exception" (7 : Nat) ({ cls := "java/lang/Throwable", name := "<init>", desc := "(Ljava/lang/String;)V" } : Jvm.MethodName)) ∈ lw_w := mW 121 (by decide +kernel) (by decide +kernel)
theorem wI_Throwable_init_122 : (Jvm.Cond.instanceMethod ({ cls := "java/lang/Throwable", name := "<init>", desc := "(Ljava/lang/String;)V" } : Jvm.MethodName)) ∈ lw_w := mW 122 (by decide +kernel) (by decide +kernel)
theorem wC_Throwable_init_123 : (Jvm.Cond.code ({ cls := "java/lang/Throwable", name := "<init>", desc := "(Ljava/lang/String;)V" } : Jvm.MethodName) prog_11_method_2_code (2 : Nat) (Option.none : Option Jvm.ClassFile.FieldType)) ∈ lw_w := mW 123 (by decide +kernel) (by decide +kernel)
theorem wF_Throwable_backtrace_124 : (Jvm.Cond.fieldLink "java/lang/Throwable" (198 : Nat) "java/lang/Throwable" "backtrace" "Ljava/lang/Object;") ∈ lw_w := mW 124 (by decide +kernel) (by decide +kernel)
theorem wF_Throwable_detailMessage : (Jvm.Cond.fieldLink "java/lang/Throwable" (31 : Nat) "java/lang/Throwable" "detailMessage" "Ljava/lang/String;") ∈ lw_w := mW 125 (by decide +kernel) (by decide +kernel)
theorem wF_Throwable_cause : (Jvm.Cond.fieldLink "java/lang/Throwable" (7 : Nat) "java/lang/Throwable" "cause" "Ljava/lang/Throwable;") ∈ lw_w := mW 126 (by decide +kernel) (by decide +kernel)
theorem wF_Throwable_stackTrace : (Jvm.Cond.fieldLink "java/lang/Throwable" (17 : Nat) "java/lang/Throwable" "stackTrace" "[Ljava/lang/StackTraceElement;") ∈ lw_w := mW 127 (by decide +kernel) (by decide +kernel)
theorem wF_Throwable_suppressedExceptions : (Jvm.Cond.fieldLink "java/lang/Throwable" (24 : Nat) "java/lang/Throwable" "suppressedExceptions" "Ljava/util/List;") ∈ lw_w := mW 128 (by decide +kernel) (by decide +kernel)
theorem wsoleField_129 : (Jvm.Cond.soleField "java/lang/Throwable" "backtrace") ∈ lw_w := mW 129 (by decide +kernel) (by decide +kernel)
theorem wsoleField_130 : (Jvm.Cond.soleField "java/lang/Throwable" "detailMessage") ∈ lw_w := mW 130 (by decide +kernel) (by decide +kernel)
theorem wsoleField_131 : (Jvm.Cond.soleField "java/lang/Throwable" "cause") ∈ lw_w := mW 131 (by decide +kernel) (by decide +kernel)
theorem wsoleField_132 : (Jvm.Cond.soleField "java/lang/Throwable" "stackTrace") ∈ lw_w := mW 132 (by decide +kernel) (by decide +kernel)
theorem wL_IllegalArgumentException_Throwable_depth : (Jvm.Cond.lays "java/lang/IllegalArgumentException" "java/lang/Throwable" "depth" "I") ∈ lw_w := mW 133 (by decide +kernel) (by decide +kernel)
theorem wsoleField_134 : (Jvm.Cond.soleField "java/lang/Throwable" "depth") ∈ lw_w := mW 134 (by decide +kernel) (by decide +kernel)
theorem wsoleField_135 : (Jvm.Cond.soleField "java/lang/Throwable" "suppressedExceptions") ∈ lw_w := mW 135 (by decide +kernel) (by decide +kernel)
theorem wsuperclass_136 : (Jvm.Cond.superclass "java/lang/IllegalArgumentException" "java/lang/RuntimeException") ∈ lw_w := mW 136 (by decide +kernel) (by decide +kernel)
theorem wA_byte : (Jvm.Cond.arrayClass Jvm.ClassFile.FieldType.byte) ∈ lw_w := mW 137 (by decide +kernel) (by decide +kernel)
theorem wM_X0_X0_requireRoomFor : (Jvm.Cond.methodLink "RunSorter" (33 : Nat) ({ cls := "RunSorter", name := "requireRoomFor", desc := "(I)V" } : Jvm.MethodName)) ∈ lw_w := mW 138 (by decide +kernel) (by decide +kernel)
theorem wprivateMethod_139 : (Jvm.Cond.privateMethod ({ cls := "RunSorter", name := "requireRoomFor", desc := "(I)V" } : Jvm.MethodName)) ∈ lw_tbl := mT 139 (by decide +kernel)
theorem wI_X0_requireRoomFor : (Jvm.Cond.instanceMethod ({ cls := "RunSorter", name := "requireRoomFor", desc := "(I)V" } : Jvm.MethodName)) ∈ lw_w := mW 140 (by decide +kernel) (by decide +kernel)
theorem wC_X0_requireRoomFor : (Jvm.Cond.code ({ cls := "RunSorter", name := "requireRoomFor", desc := "(I)V" } : Jvm.MethodName) prog_1_method_15_code (2 : Nat) (Option.none : Option Jvm.ClassFile.FieldType)) ∈ lw_w := mW 141 (by decide +kernel) (by decide +kernel)
theorem wK_X0_IndexOutOfBoundsException : (Jvm.Cond.classLink "RunSorter" (73 : Nat) "java/lang/IndexOutOfBoundsException") ∈ lw_w := mW 142 (by decide +kernel) (by decide +kernel)
theorem wB_IndexOutOfBoundsException : (Jvm.Cond.instantiable "java/lang/IndexOutOfBoundsException" (6 : Nat)) ∈ lw_w := mW 143 (by decide +kernel) (by decide +kernel)
theorem wcastable_144 : (Jvm.Cond.castable "java/lang/IndexOutOfBoundsException" "java/lang/IndexOutOfBoundsException") ∈ lw_tbl := mT 144 (by decide +kernel)
theorem wV_IndexOutOfBoundsException_Throwable_fillInStackTrace_145 : (Jvm.Cond.selects "java/lang/IndexOutOfBoundsException" ({ cls := "java/lang/Throwable", name := "fillInStackTrace", desc := "(I)Ljava/lang/Throwable;" } : Jvm.MethodName) ({ cls := "java/lang/Throwable", name := "fillInStackTrace", desc := "(I)Ljava/lang/Throwable;" } : Jvm.MethodName)) ∈ lw_w := mW 145 (by decide +kernel) (by decide +kernel)
theorem wL_IndexOutOfBoundsException_Throwable_cause : (Jvm.Cond.lays "java/lang/IndexOutOfBoundsException" "java/lang/Throwable" "cause" "Ljava/lang/Throwable;") ∈ lw_w := mW 146 (by decide +kernel) (by decide +kernel)
theorem wL_IndexOutOfBoundsException_Throwable_stackTrace : (Jvm.Cond.lays "java/lang/IndexOutOfBoundsException" "java/lang/Throwable" "stackTrace" "[Ljava/lang/StackTraceElement;") ∈ lw_w := mW 147 (by decide +kernel) (by decide +kernel)
theorem wL_IndexOutOfBoundsException_Throwable_suppressedExceptions : (Jvm.Cond.lays "java/lang/IndexOutOfBoundsException" "java/lang/Throwable" "suppressedExceptions" "Ljava/util/List;") ∈ lw_w := mW 148 (by decide +kernel) (by decide +kernel)
theorem wL_IndexOutOfBoundsException_Throwable_detailMessage : (Jvm.Cond.lays "java/lang/IndexOutOfBoundsException" "java/lang/Throwable" "detailMessage" "Ljava/lang/String;") ∈ lw_w := mW 149 (by decide +kernel) (by decide +kernel)
theorem wL_IndexOutOfBoundsException_Throwable_backtrace : (Jvm.Cond.lays "java/lang/IndexOutOfBoundsException" "java/lang/Throwable" "backtrace" "Ljava/lang/Object;") ∈ lw_w := mW 150 (by decide +kernel) (by decide +kernel)
theorem wstringRef_151 : (Jvm.Cond.stringRef "RunSorter" (75 : Nat) "the row would be too long") ∈ lw_tbl := mT 151 (by decide +kernel)
theorem wM_X0_IndexOutOfBoundsException_init : (Jvm.Cond.methodLink "RunSorter" (77 : Nat) ({ cls := "java/lang/IndexOutOfBoundsException", name := "<init>", desc := "(Ljava/lang/String;)V" } : Jvm.MethodName)) ∈ lw_w := mW 152 (by decide +kernel) (by decide +kernel)
theorem wI_IndexOutOfBoundsException_init : (Jvm.Cond.instanceMethod ({ cls := "java/lang/IndexOutOfBoundsException", name := "<init>", desc := "(Ljava/lang/String;)V" } : Jvm.MethodName)) ∈ lw_w := mW 153 (by decide +kernel) (by decide +kernel)
theorem wC_IndexOutOfBoundsException_init : (Jvm.Cond.code ({ cls := "java/lang/IndexOutOfBoundsException", name := "<init>", desc := "(Ljava/lang/String;)V" } : Jvm.MethodName) prog_6_method_2_code (2 : Nat) (Option.none : Option Jvm.ClassFile.FieldType)) ∈ lw_w := mW 154 (by decide +kernel) (by decide +kernel)
theorem wM_IndexOutOfBoundsException_RuntimeException_init : (Jvm.Cond.methodLink "java/lang/IndexOutOfBoundsException" (7 : Nat) ({ cls := "java/lang/RuntimeException", name := "<init>", desc := "(Ljava/lang/String;)V" } : Jvm.MethodName)) ∈ lw_w := mW 155 (by decide +kernel) (by decide +kernel)
theorem wL_IndexOutOfBoundsException_Throwable_depth : (Jvm.Cond.lays "java/lang/IndexOutOfBoundsException" "java/lang/Throwable" "depth" "I") ∈ lw_w := mW 156 (by decide +kernel) (by decide +kernel)
theorem wsuperclass_157 : (Jvm.Cond.superclass "java/lang/IndexOutOfBoundsException" "java/lang/RuntimeException") ∈ lw_w := mW 157 (by decide +kernel) (by decide +kernel)
theorem wM_X0_X0_append : (Jvm.Cond.methodLink "RunSorter" (37 : Nat) ({ cls := "RunSorter", name := "append", desc := "(I)V" } : Jvm.MethodName)) ∈ lw_w := mW 158 (by decide +kernel) (by decide +kernel)
theorem wprivateMethod_159 : (Jvm.Cond.privateMethod ({ cls := "RunSorter", name := "append", desc := "(I)V" } : Jvm.MethodName)) ∈ lw_tbl := mT 159 (by decide +kernel)
theorem wI_X0_append : (Jvm.Cond.instanceMethod ({ cls := "RunSorter", name := "append", desc := "(I)V" } : Jvm.MethodName)) ∈ lw_w := mW 160 (by decide +kernel) (by decide +kernel)
theorem wC_X0_append : (Jvm.Cond.code ({ cls := "RunSorter", name := "append", desc := "(I)V" } : Jvm.MethodName) prog_1_method_17_code (2 : Nat) (Option.none : Option Jvm.ClassFile.FieldType)) ∈ lw_w := mW 161 (by decide +kernel) (by decide +kernel)
theorem wM_L_L_scatter : (Jvm.Cond.methodLink "RunSorterLaw" (55 : Nat) ({ cls := "RunSorterLaw", name := "scatter", desc := "(LRunSorter;III[J)I" } : Jvm.MethodName)) ∈ lw_w := mW 162 (by decide +kernel) (by decide +kernel)
theorem wS_L_scatter : (Jvm.Cond.static ({ cls := "RunSorterLaw", name := "scatter", desc := "(LRunSorter;III[J)I" } : Jvm.MethodName)) ∈ lw_w := mW 163 (by decide +kernel) (by decide +kernel)
theorem wC_L_scatter : (Jvm.Cond.codeWith ({ cls := "RunSorterLaw", name := "scatter", desc := "(LRunSorter;III[J)I" } : Jvm.MethodName) method_4_code (6 : Nat) (Option.some Jvm.ClassFile.FieldType.int) [((0 : Nat), (12 : Nat), (15 : Nat), (13 : Nat)), ((0 : Nat), (12 : Nat), (19 : Nat), (15 : Nat))]) ∈ lw_w := mW 164 (by decide +kernel) (by decide +kernel)
theorem wM_L_X0_scatter : (Jvm.Cond.methodLink "RunSorterLaw" (17 : Nat) ({ cls := "RunSorter", name := "scatter", desc := "(III)I" } : Jvm.MethodName)) ∈ lw_w := mW 165 (by decide +kernel) (by decide +kernel)
theorem wI_X0_scatter : (Jvm.Cond.instanceMethod ({ cls := "RunSorter", name := "scatter", desc := "(III)I" } : Jvm.MethodName)) ∈ lw_w := mW 166 (by decide +kernel) (by decide +kernel)
theorem wV_X0_X0_scatter : (Jvm.Cond.selects "RunSorter" ({ cls := "RunSorter", name := "scatter", desc := "(III)I" } : Jvm.MethodName) ({ cls := "RunSorter", name := "scatter", desc := "(III)I" } : Jvm.MethodName)) ∈ lw_w := mW 167 (by decide +kernel) (by decide +kernel)
theorem wC_X0_scatter : (Jvm.Cond.code ({ cls := "RunSorter", name := "scatter", desc := "(III)I" } : Jvm.MethodName) prog_1_method_3_code (7 : Nat) (Option.some Jvm.ClassFile.FieldType.int)) ∈ lw_w := mW 168 (by decide +kernel) (by decide +kernel)
theorem wQ_X0_40 : (Jvm.Cond.constant "RunSorter" (40 : Nat) (1664525 : Int32)) ∈ lw_w := mW 169 (by decide +kernel) (by decide +kernel)
theorem wQ_X0_41 : (Jvm.Cond.constant "RunSorter" (41 : Nat) (1013904223 : Int32)) ∈ lw_w := mW 170 (by decide +kernel) (by decide +kernel)
theorem wM_L_L_sort : (Jvm.Cond.methodLink "RunSorterLaw" (58 : Nat) ({ cls := "RunSorterLaw", name := "sort", desc := "(LRunSorter;III[J)I" } : Jvm.MethodName)) ∈ lw_w := mW 171 (by decide +kernel) (by decide +kernel)
theorem wS_L_sort : (Jvm.Cond.static ({ cls := "RunSorterLaw", name := "sort", desc := "(LRunSorter;III[J)I" } : Jvm.MethodName)) ∈ lw_w := mW 172 (by decide +kernel) (by decide +kernel)
theorem wC_L_sort : (Jvm.Cond.codeWith ({ cls := "RunSorterLaw", name := "sort", desc := "(LRunSorter;III[J)I" } : Jvm.MethodName) method_5_code (6 : Nat) (Option.some Jvm.ClassFile.FieldType.int) [((0 : Nat), (12 : Nat), (15 : Nat), (13 : Nat))]) ∈ lw_w := mW 173 (by decide +kernel) (by decide +kernel)
theorem wM_L_X0_sort : (Jvm.Cond.methodLink "RunSorterLaw" (20 : Nat) ({ cls := "RunSorter", name := "sort", desc := "(III)I" } : Jvm.MethodName)) ∈ lw_w := mW 174 (by decide +kernel) (by decide +kernel)
theorem wI_X0_sort : (Jvm.Cond.instanceMethod ({ cls := "RunSorter", name := "sort", desc := "(III)I" } : Jvm.MethodName)) ∈ lw_w := mW 175 (by decide +kernel) (by decide +kernel)
theorem wV_X0_X0_sort : (Jvm.Cond.selects "RunSorter" ({ cls := "RunSorter", name := "sort", desc := "(III)I" } : Jvm.MethodName) ({ cls := "RunSorter", name := "sort", desc := "(III)I" } : Jvm.MethodName)) ∈ lw_w := mW 176 (by decide +kernel) (by decide +kernel)
theorem wC_X0_sort : (Jvm.Cond.code ({ cls := "RunSorter", name := "sort", desc := "(III)I" } : Jvm.MethodName) prog_1_method_4_code (5 : Nat) (Option.some Jvm.ClassFile.FieldType.int)) ∈ lw_w := mW 177 (by decide +kernel) (by decide +kernel)
theorem wM_X0_X0_requireOrder : (Jvm.Cond.methodLink "RunSorter" (42 : Nat) ({ cls := "RunSorter", name := "requireOrder", desc := "(I)V" } : Jvm.MethodName)) ∈ lw_w := mW 178 (by decide +kernel) (by decide +kernel)
theorem wS_X0_requireOrder : (Jvm.Cond.static ({ cls := "RunSorter", name := "requireOrder", desc := "(I)V" } : Jvm.MethodName)) ∈ lw_w := mW 179 (by decide +kernel) (by decide +kernel)
theorem wC_X0_requireOrder : (Jvm.Cond.code ({ cls := "RunSorter", name := "requireOrder", desc := "(I)V" } : Jvm.MethodName) prog_1_method_13_code (1 : Nat) (Option.none : Option Jvm.ClassFile.FieldType)) ∈ lw_w := mW 180 (by decide +kernel) (by decide +kernel)
theorem wM_X0_X0_requirePart : (Jvm.Cond.methodLink "RunSorter" (45 : Nat) ({ cls := "RunSorter", name := "requirePart", desc := "(II)V" } : Jvm.MethodName)) ∈ lw_w := mW 181 (by decide +kernel) (by decide +kernel)
theorem wprivateMethod_182 : (Jvm.Cond.privateMethod ({ cls := "RunSorter", name := "requirePart", desc := "(II)V" } : Jvm.MethodName)) ∈ lw_tbl := mT 182 (by decide +kernel)
theorem wI_X0_requirePart : (Jvm.Cond.instanceMethod ({ cls := "RunSorter", name := "requirePart", desc := "(II)V" } : Jvm.MethodName)) ∈ lw_w := mW 183 (by decide +kernel) (by decide +kernel)
theorem wC_X0_requirePart : (Jvm.Cond.code ({ cls := "RunSorter", name := "requirePart", desc := "(II)V" } : Jvm.MethodName) prog_1_method_14_code (3 : Nat) (Option.none : Option Jvm.ClassFile.FieldType)) ∈ lw_w := mW 184 (by decide +kernel) (by decide +kernel)
theorem wM_X0_X0_findRuns : (Jvm.Cond.methodLink "RunSorter" (49 : Nat) ({ cls := "RunSorter", name := "findRuns", desc := "(III)I" } : Jvm.MethodName)) ∈ lw_w := mW 185 (by decide +kernel) (by decide +kernel)
theorem wprivateMethod_186 : (Jvm.Cond.privateMethod ({ cls := "RunSorter", name := "findRuns", desc := "(III)I" } : Jvm.MethodName)) ∈ lw_tbl := mT 186 (by decide +kernel)
theorem wI_X0_findRuns : (Jvm.Cond.instanceMethod ({ cls := "RunSorter", name := "findRuns", desc := "(III)I" } : Jvm.MethodName)) ∈ lw_w := mW 187 (by decide +kernel) (by decide +kernel)
theorem wC_X0_findRuns : (Jvm.Cond.code ({ cls := "RunSorter", name := "findRuns", desc := "(III)I" } : Jvm.MethodName) prog_1_method_20_code (6 : Nat) (Option.some Jvm.ClassFile.FieldType.int)) ∈ lw_w := mW 188 (by decide +kernel) (by decide +kernel)
theorem wM_X0_X0_rank : (Jvm.Cond.methodLink "RunSorter" (62 : Nat) ({ cls := "RunSorter", name := "rank", desc := "(II)I" } : Jvm.MethodName)) ∈ lw_w := mW 189 (by decide +kernel) (by decide +kernel)
theorem wS_X0_rank : (Jvm.Cond.static ({ cls := "RunSorter", name := "rank", desc := "(II)I" } : Jvm.MethodName)) ∈ lw_w := mW 190 (by decide +kernel) (by decide +kernel)
theorem wC_X0_rank : (Jvm.Cond.code ({ cls := "RunSorter", name := "rank", desc := "(II)I" } : Jvm.MethodName) prog_1_method_19_code (2 : Nat) (Option.some Jvm.ClassFile.FieldType.int)) ∈ lw_w := mW 191 (by decide +kernel) (by decide +kernel)
theorem wQ_X0_80 : (Jvm.Cond.constant "RunSorter" (80 : Nat) (-2147483648 : Int32)) ∈ lw_w := mW 192 (by decide +kernel) (by decide +kernel)
theorem wM_X0_X0_mergePairsOfRuns : (Jvm.Cond.methodLink "RunSorter" (53 : Nat) ({ cls := "RunSorter", name := "mergePairsOfRuns", desc := "(II)V" } : Jvm.MethodName)) ∈ lw_w := mW 193 (by decide +kernel) (by decide +kernel)
theorem wprivateMethod_194 : (Jvm.Cond.privateMethod ({ cls := "RunSorter", name := "mergePairsOfRuns", desc := "(II)V" } : Jvm.MethodName)) ∈ lw_tbl := mT 194 (by decide +kernel)
theorem wI_X0_mergePairsOfRuns : (Jvm.Cond.instanceMethod ({ cls := "RunSorter", name := "mergePairsOfRuns", desc := "(II)V" } : Jvm.MethodName)) ∈ lw_w := mW 195 (by decide +kernel) (by decide +kernel)
theorem wC_X0_mergePairsOfRuns : (Jvm.Cond.code ({ cls := "RunSorter", name := "mergePairsOfRuns", desc := "(II)V" } : Jvm.MethodName) prog_1_method_21_code (5 : Nat) (Option.none : Option Jvm.ClassFile.FieldType)) ∈ lw_w := mW 196 (by decide +kernel) (by decide +kernel)
theorem wM_X0_X0_merge : (Jvm.Cond.methodLink "RunSorter" (81 : Nat) ({ cls := "RunSorter", name := "merge", desc := "(IIII)V" } : Jvm.MethodName)) ∈ lw_w := mW 197 (by decide +kernel) (by decide +kernel)
theorem wprivateMethod_198 : (Jvm.Cond.privateMethod ({ cls := "RunSorter", name := "merge", desc := "(IIII)V" } : Jvm.MethodName)) ∈ lw_tbl := mT 198 (by decide +kernel)
theorem wI_X0_merge : (Jvm.Cond.instanceMethod ({ cls := "RunSorter", name := "merge", desc := "(IIII)V" } : Jvm.MethodName)) ∈ lw_w := mW 199 (by decide +kernel) (by decide +kernel)
theorem wC_X0_merge : (Jvm.Cond.code ({ cls := "RunSorter", name := "merge", desc := "(IIII)V" } : Jvm.MethodName) prog_1_method_22_code (9 : Nat) (Option.none : Option Jvm.ClassFile.FieldType)) ∈ lw_w := mW 200 (by decide +kernel) (by decide +kernel)
theorem wM_X0_System_arraycopy : (Jvm.Cond.methodLink "RunSorter" (90 : Nat) ({ cls := "java/lang/System", name := "arraycopy", desc := "(Ljava/lang/Object;ILjava/lang/Object;II)V" } : Jvm.MethodName)) ∈ lw_w := mW 201 (by decide +kernel) (by decide +kernel)
theorem wS_System_arraycopy : (Jvm.Cond.static ({ cls := "java/lang/System", name := "arraycopy", desc := "(Ljava/lang/Object;ILjava/lang/Object;II)V" } : Jvm.MethodName)) ∈ lw_w := mW 202 (by decide +kernel) (by decide +kernel)
theorem wT_System_arraycopy : (Jvm.Cond.native ({ cls := "java/lang/System", name := "arraycopy", desc := "(Ljava/lang/Object;ILjava/lang/Object;II)V" } : Jvm.MethodName)) ∈ lw_w := mW 203 (by decide +kernel) (by decide +kernel)
theorem wM_X0_Math_min : (Jvm.Cond.methodLink "RunSorter" (85 : Nat) ({ cls := "java/lang/Math", name := "min", desc := "(II)I" } : Jvm.MethodName)) ∈ lw_w := mW 204 (by decide +kernel) (by decide +kernel)
theorem wS_Math_min : (Jvm.Cond.static ({ cls := "java/lang/Math", name := "min", desc := "(II)I" } : Jvm.MethodName)) ∈ lw_w := mW 205 (by decide +kernel) (by decide +kernel)
theorem wC_Math_min : (Jvm.Cond.code ({ cls := "java/lang/Math", name := "min", desc := "(II)I" } : Jvm.MethodName) prog_7_method_69_code (2 : Nat) (Option.some Jvm.ClassFile.FieldType.int)) ∈ lw_w := mW 206 (by decide +kernel) (by decide +kernel)
theorem wM_L_L_get : (Jvm.Cond.methodLink "RunSorterLaw" (61 : Nat) ({ cls := "RunSorterLaw", name := "get", desc := "(LRunSorter;I[J)I" } : Jvm.MethodName)) ∈ lw_w := mW 207 (by decide +kernel) (by decide +kernel)
theorem wS_L_get : (Jvm.Cond.static ({ cls := "RunSorterLaw", name := "get", desc := "(LRunSorter;I[J)I" } : Jvm.MethodName)) ∈ lw_w := mW 208 (by decide +kernel) (by decide +kernel)
theorem wC_L_get : (Jvm.Cond.codeWith ({ cls := "RunSorterLaw", name := "get", desc := "(LRunSorter;I[J)I" } : Jvm.MethodName) method_6_code (4 : Nat) (Option.some Jvm.ClassFile.FieldType.int) [((0 : Nat), (9 : Nat), (12 : Nat), (15 : Nat))]) ∈ lw_w := mW 209 (by decide +kernel) (by decide +kernel)
theorem wM_L_X0_get : (Jvm.Cond.methodLink "RunSorterLaw" (23 : Nat) ({ cls := "RunSorter", name := "get", desc := "(I)I" } : Jvm.MethodName)) ∈ lw_w := mW 210 (by decide +kernel) (by decide +kernel)
theorem wI_X0_get : (Jvm.Cond.instanceMethod ({ cls := "RunSorter", name := "get", desc := "(I)I" } : Jvm.MethodName)) ∈ lw_w := mW 211 (by decide +kernel) (by decide +kernel)
theorem wV_X0_X0_get : (Jvm.Cond.selects "RunSorter" ({ cls := "RunSorter", name := "get", desc := "(I)I" } : Jvm.MethodName) ({ cls := "RunSorter", name := "get", desc := "(I)I" } : Jvm.MethodName)) ∈ lw_w := mW 212 (by decide +kernel) (by decide +kernel)
theorem wC_X0_get : (Jvm.Cond.code ({ cls := "RunSorter", name := "get", desc := "(I)I" } : Jvm.MethodName) prog_1_method_5_code (2 : Nat) (Option.some Jvm.ClassFile.FieldType.int)) ∈ lw_w := mW 213 (by decide +kernel) (by decide +kernel)
theorem wM_X0_X0_requireIndex : (Jvm.Cond.methodLink "RunSorter" (56 : Nat) ({ cls := "RunSorter", name := "requireIndex", desc := "(I)V" } : Jvm.MethodName)) ∈ lw_w := mW 214 (by decide +kernel) (by decide +kernel)
theorem wprivateMethod_215 : (Jvm.Cond.privateMethod ({ cls := "RunSorter", name := "requireIndex", desc := "(I)V" } : Jvm.MethodName)) ∈ lw_tbl := mT 215 (by decide +kernel)
theorem wI_X0_requireIndex : (Jvm.Cond.instanceMethod ({ cls := "RunSorter", name := "requireIndex", desc := "(I)V" } : Jvm.MethodName)) ∈ lw_w := mW 216 (by decide +kernel) (by decide +kernel)
theorem wC_X0_requireIndex : (Jvm.Cond.code ({ cls := "RunSorter", name := "requireIndex", desc := "(I)V" } : Jvm.MethodName) prog_1_method_16_code (2 : Nat) (Option.none : Option Jvm.ClassFile.FieldType)) ∈ lw_w := mW 217 (by decide +kernel) (by decide +kernel)
theorem wstringRef_218 : (Jvm.Cond.stringRef "RunSorter" (78 : Nat) "there is no number at that index") ∈ lw_tbl := mT 218 (by decide +kernel)
theorem wM_L_L_tag : (Jvm.Cond.methodLink "RunSorterLaw" (65 : Nat) ({ cls := "RunSorterLaw", name := "tag", desc := "(LRunSorter;I[J)I" } : Jvm.MethodName)) ∈ lw_w := mW 219 (by decide +kernel) (by decide +kernel)
theorem wS_L_tag : (Jvm.Cond.static ({ cls := "RunSorterLaw", name := "tag", desc := "(LRunSorter;I[J)I" } : Jvm.MethodName)) ∈ lw_w := mW 220 (by decide +kernel) (by decide +kernel)
theorem wC_L_tag : (Jvm.Cond.codeWith ({ cls := "RunSorterLaw", name := "tag", desc := "(LRunSorter;I[J)I" } : Jvm.MethodName) method_7_code (4 : Nat) (Option.some Jvm.ClassFile.FieldType.int) [((0 : Nat), (9 : Nat), (12 : Nat), (15 : Nat))]) ∈ lw_w := mW 221 (by decide +kernel) (by decide +kernel)
theorem wM_L_X0_tag : (Jvm.Cond.methodLink "RunSorterLaw" (27 : Nat) ({ cls := "RunSorter", name := "tag", desc := "(I)I" } : Jvm.MethodName)) ∈ lw_w := mW 222 (by decide +kernel) (by decide +kernel)
theorem wI_X0_tag : (Jvm.Cond.instanceMethod ({ cls := "RunSorter", name := "tag", desc := "(I)I" } : Jvm.MethodName)) ∈ lw_w := mW 223 (by decide +kernel) (by decide +kernel)
theorem wV_X0_X0_tag : (Jvm.Cond.selects "RunSorter" ({ cls := "RunSorter", name := "tag", desc := "(I)I" } : Jvm.MethodName) ({ cls := "RunSorter", name := "tag", desc := "(I)I" } : Jvm.MethodName)) ∈ lw_w := mW 224 (by decide +kernel) (by decide +kernel)
theorem wC_X0_tag : (Jvm.Cond.code ({ cls := "RunSorter", name := "tag", desc := "(I)I" } : Jvm.MethodName) prog_1_method_6_code (2 : Nat) (Option.some Jvm.ClassFile.FieldType.int)) ∈ lw_w := mW 225 (by decide +kernel) (by decide +kernel)
theorem wM_L_L_set : (Jvm.Cond.methodLink "RunSorterLaw" (68 : Nat) ({ cls := "RunSorterLaw", name := "set", desc := "(LRunSorter;II[J)I" } : Jvm.MethodName)) ∈ lw_w := mW 226 (by decide +kernel) (by decide +kernel)
theorem wS_L_set : (Jvm.Cond.static ({ cls := "RunSorterLaw", name := "set", desc := "(LRunSorter;II[J)I" } : Jvm.MethodName)) ∈ lw_w := mW 227 (by decide +kernel) (by decide +kernel)
theorem wC_L_set : (Jvm.Cond.codeWith ({ cls := "RunSorterLaw", name := "set", desc := "(LRunSorter;II[J)I" } : Jvm.MethodName) method_8_code (5 : Nat) (Option.some Jvm.ClassFile.FieldType.int) [((0 : Nat), (10 : Nat), (13 : Nat), (15 : Nat))]) ∈ lw_w := mW 228 (by decide +kernel) (by decide +kernel)
theorem wM_L_X0_set : (Jvm.Cond.methodLink "RunSorterLaw" (30 : Nat) ({ cls := "RunSorter", name := "set", desc := "(II)I" } : Jvm.MethodName)) ∈ lw_w := mW 229 (by decide +kernel) (by decide +kernel)
theorem wI_X0_set : (Jvm.Cond.instanceMethod ({ cls := "RunSorter", name := "set", desc := "(II)I" } : Jvm.MethodName)) ∈ lw_w := mW 230 (by decide +kernel) (by decide +kernel)
theorem wV_X0_X0_set : (Jvm.Cond.selects "RunSorter" ({ cls := "RunSorter", name := "set", desc := "(II)I" } : Jvm.MethodName) ({ cls := "RunSorter", name := "set", desc := "(II)I" } : Jvm.MethodName)) ∈ lw_w := mW 231 (by decide +kernel) (by decide +kernel)
theorem wC_X0_set : (Jvm.Cond.code ({ cls := "RunSorter", name := "set", desc := "(II)I" } : Jvm.MethodName) prog_1_method_7_code (4 : Nat) (Option.some Jvm.ClassFile.FieldType.int)) ∈ lw_w := mW 232 (by decide +kernel) (by decide +kernel)
theorem wM_L_L_turn : (Jvm.Cond.methodLink "RunSorterLaw" (72 : Nat) ({ cls := "RunSorterLaw", name := "turn", desc := "(LRunSorter;II[J)I" } : Jvm.MethodName)) ∈ lw_w := mW 233 (by decide +kernel) (by decide +kernel)
theorem wS_L_turn : (Jvm.Cond.static ({ cls := "RunSorterLaw", name := "turn", desc := "(LRunSorter;II[J)I" } : Jvm.MethodName)) ∈ lw_w := mW 234 (by decide +kernel) (by decide +kernel)
theorem wC_L_turn : (Jvm.Cond.codeWith ({ cls := "RunSorterLaw", name := "turn", desc := "(LRunSorter;II[J)I" } : Jvm.MethodName) method_9_code (5 : Nat) (Option.some Jvm.ClassFile.FieldType.int) [((0 : Nat), (10 : Nat), (13 : Nat), (13 : Nat))]) ∈ lw_w := mW 235 (by decide +kernel) (by decide +kernel)
theorem wM_L_X0_turn : (Jvm.Cond.methodLink "RunSorterLaw" (34 : Nat) ({ cls := "RunSorter", name := "turn", desc := "(II)I" } : Jvm.MethodName)) ∈ lw_w := mW 236 (by decide +kernel) (by decide +kernel)
theorem wI_X0_turn : (Jvm.Cond.instanceMethod ({ cls := "RunSorter", name := "turn", desc := "(II)I" } : Jvm.MethodName)) ∈ lw_w := mW 237 (by decide +kernel) (by decide +kernel)
theorem wV_X0_X0_turn : (Jvm.Cond.selects "RunSorter" ({ cls := "RunSorter", name := "turn", desc := "(II)I" } : Jvm.MethodName) ({ cls := "RunSorter", name := "turn", desc := "(II)I" } : Jvm.MethodName)) ∈ lw_w := mW 238 (by decide +kernel) (by decide +kernel)
theorem wC_X0_turn : (Jvm.Cond.code ({ cls := "RunSorter", name := "turn", desc := "(II)I" } : Jvm.MethodName) prog_1_method_8_code (5 : Nat) (Option.some Jvm.ClassFile.FieldType.int)) ∈ lw_w := mW 239 (by decide +kernel) (by decide +kernel)
theorem wM_X0_X0_swap : (Jvm.Cond.methodLink "RunSorter" (59 : Nat) ({ cls := "RunSorter", name := "swap", desc := "(II)V" } : Jvm.MethodName)) ∈ lw_w := mW 240 (by decide +kernel) (by decide +kernel)
theorem wprivateMethod_241 : (Jvm.Cond.privateMethod ({ cls := "RunSorter", name := "swap", desc := "(II)V" } : Jvm.MethodName)) ∈ lw_tbl := mT 241 (by decide +kernel)
theorem wI_X0_swap : (Jvm.Cond.instanceMethod ({ cls := "RunSorter", name := "swap", desc := "(II)V" } : Jvm.MethodName)) ∈ lw_w := mW 242 (by decide +kernel) (by decide +kernel)
theorem wC_X0_swap : (Jvm.Cond.code ({ cls := "RunSorter", name := "swap", desc := "(II)V" } : Jvm.MethodName) prog_1_method_18_code (5 : Nat) (Option.none : Option Jvm.ClassFile.FieldType)) ∈ lw_w := mW 243 (by decide +kernel) (by decide +kernel)
theorem wM_L_L_upTo : (Jvm.Cond.methodLink "RunSorterLaw" (75 : Nat) ({ cls := "RunSorterLaw", name := "upTo", desc := "(LRunSorter;IIZ[J)I" } : Jvm.MethodName)) ∈ lw_w := mW 244 (by decide +kernel) (by decide +kernel)
theorem wS_L_upTo : (Jvm.Cond.static ({ cls := "RunSorterLaw", name := "upTo", desc := "(LRunSorter;IIZ[J)I" } : Jvm.MethodName)) ∈ lw_w := mW 245 (by decide +kernel) (by decide +kernel)
theorem wC_L_upTo : (Jvm.Cond.codeWith ({ cls := "RunSorterLaw", name := "upTo", desc := "(LRunSorter;IIZ[J)I" } : Jvm.MethodName) method_10_code (6 : Nat) (Option.some Jvm.ClassFile.FieldType.int) [((0 : Nat), (12 : Nat), (15 : Nat), (13 : Nat))]) ∈ lw_w := mW 246 (by decide +kernel) (by decide +kernel)
theorem wM_L_X0_upTo : (Jvm.Cond.methodLink "RunSorterLaw" (37 : Nat) ({ cls := "RunSorter", name := "upTo", desc := "(IIZ)I" } : Jvm.MethodName)) ∈ lw_w := mW 247 (by decide +kernel) (by decide +kernel)
theorem wI_X0_upTo : (Jvm.Cond.instanceMethod ({ cls := "RunSorter", name := "upTo", desc := "(IIZ)I" } : Jvm.MethodName)) ∈ lw_w := mW 248 (by decide +kernel) (by decide +kernel)
theorem wV_X0_X0_upTo : (Jvm.Cond.selects "RunSorter" ({ cls := "RunSorter", name := "upTo", desc := "(IIZ)I" } : Jvm.MethodName) ({ cls := "RunSorter", name := "upTo", desc := "(IIZ)I" } : Jvm.MethodName)) ∈ lw_w := mW 249 (by decide +kernel) (by decide +kernel)
theorem wC_X0_upTo : (Jvm.Cond.code ({ cls := "RunSorter", name := "upTo", desc := "(IIZ)I" } : Jvm.MethodName) prog_1_method_9_code (7 : Nat) (Option.some Jvm.ClassFile.FieldType.int)) ∈ lw_w := mW 250 (by decide +kernel) (by decide +kernel)
theorem wK_L_X1 : (Jvm.Cond.classLink "RunSorterLaw" (42 : Nat) "RunSorterModel") ∈ lw_w := mW 251 (by decide +kernel) (by decide +kernel)
theorem wB_X1 : (Jvm.Cond.instantiable "RunSorterModel" (4 : Nat)) ∈ lw_w := mW 252 (by decide +kernel) (by decide +kernel)
theorem wM_L_X1_init : (Jvm.Cond.methodLink "RunSorterLaw" (44 : Nat) ({ cls := "RunSorterModel", name := "<init>", desc := "()V" } : Jvm.MethodName)) ∈ lw_w := mW 253 (by decide +kernel) (by decide +kernel)
theorem wI_X1_init : (Jvm.Cond.instanceMethod ({ cls := "RunSorterModel", name := "<init>", desc := "()V" } : Jvm.MethodName)) ∈ lw_w := mW 254 (by decide +kernel) (by decide +kernel)
theorem wC_X1_init : (Jvm.Cond.code ({ cls := "RunSorterModel", name := "<init>", desc := "()V" } : Jvm.MethodName) prog_3_method_1_code (1 : Nat) (Option.none : Option Jvm.ClassFile.FieldType)) ∈ lw_w := mW 255 (by decide +kernel) (by decide +kernel)
theorem wM_X1_Object_init : (Jvm.Cond.methodLink "RunSorterModel" (1 : Nat) ({ cls := "java/lang/Object", name := "<init>", desc := "()V" } : Jvm.MethodName)) ∈ lw_w := mW 256 (by decide +kernel) (by decide +kernel)
theorem wF_X1_failed : (Jvm.Cond.fieldLink "RunSorterModel" (16 : Nat) "RunSorterModel" "failed" "I") ∈ lw_w := mW 257 (by decide +kernel) (by decide +kernel)
theorem wF_X1_size : (Jvm.Cond.fieldLink "RunSorterModel" (21 : Nat) "RunSorterModel" "size" "I") ∈ lw_w := mW 258 (by decide +kernel) (by decide +kernel)
theorem wF_X1_row : (Jvm.Cond.fieldLink "RunSorterModel" (7 : Nat) "RunSorterModel" "row" "[I") ∈ lw_w := mW 259 (by decide +kernel) (by decide +kernel)
theorem wF_X1_tags : (Jvm.Cond.fieldLink "RunSorterModel" (13 : Nat) "RunSorterModel" "tags" "[I") ∈ lw_w := mW 260 (by decide +kernel) (by decide +kernel)
theorem wL_X1_X1_failed : (Jvm.Cond.lays "RunSorterModel" "RunSorterModel" "failed" "I") ∈ lw_w := mW 261 (by decide +kernel) (by decide +kernel)
theorem wsoleField_262 : (Jvm.Cond.soleField "RunSorterModel" "failed") ∈ lw_w := mW 262 (by decide +kernel) (by decide +kernel)
theorem wL_X1_X1_size : (Jvm.Cond.lays "RunSorterModel" "RunSorterModel" "size" "I") ∈ lw_w := mW 263 (by decide +kernel) (by decide +kernel)
theorem wsoleField_264 : (Jvm.Cond.soleField "RunSorterModel" "size") ∈ lw_w := mW 264 (by decide +kernel) (by decide +kernel)
theorem wL_X1_X1_row : (Jvm.Cond.laysFinal "RunSorterModel" "RunSorterModel" "row" "[I") ∈ lw_w := mW 265 (by decide +kernel) (by decide +kernel)
theorem wsoleField_266 : (Jvm.Cond.soleField "RunSorterModel" "row") ∈ lw_w := mW 266 (by decide +kernel) (by decide +kernel)
theorem wL_X1_X1_tags : (Jvm.Cond.laysFinal "RunSorterModel" "RunSorterModel" "tags" "[I") ∈ lw_w := mW 267 (by decide +kernel) (by decide +kernel)
theorem wsoleField_268 : (Jvm.Cond.soleField "RunSorterModel" "tags") ∈ lw_w := mW 268 (by decide +kernel) (by decide +kernel)
theorem wsuperclass_269 : (Jvm.Cond.superclass "RunSorterModel" "java/lang/Object") ∈ lw_w := mW 269 (by decide +kernel) (by decide +kernel)
theorem wM_L_X1_thrown : (Jvm.Cond.methodLink "RunSorterLaw" (51 : Nat) ({ cls := "RunSorterModel", name := "thrown", desc := "()I" } : Jvm.MethodName)) ∈ lw_w := mW 270 (by decide +kernel) (by decide +kernel)
theorem wI_X1_thrown : (Jvm.Cond.instanceMethod ({ cls := "RunSorterModel", name := "thrown", desc := "()I" } : Jvm.MethodName)) ∈ lw_w := mW 271 (by decide +kernel) (by decide +kernel)
theorem wV_X1_X1_thrown : (Jvm.Cond.selects "RunSorterModel" ({ cls := "RunSorterModel", name := "thrown", desc := "()I" } : Jvm.MethodName) ({ cls := "RunSorterModel", name := "thrown", desc := "()I" } : Jvm.MethodName)) ∈ lw_w := mW 272 (by decide +kernel) (by decide +kernel)
theorem wC_X1_thrown : (Jvm.Cond.code ({ cls := "RunSorterModel", name := "thrown", desc := "()I" } : Jvm.MethodName) prog_3_method_2_code (1 : Nat) (Option.some Jvm.ClassFile.FieldType.int)) ∈ lw_w := mW 273 (by decide +kernel) (by decide +kernel)
theorem wM_L_X1_fill : (Jvm.Cond.methodLink "RunSorterLaw" (50 : Nat) ({ cls := "RunSorterModel", name := "fill", desc := "(III)I" } : Jvm.MethodName)) ∈ lw_w := mW 274 (by decide +kernel) (by decide +kernel)
theorem wI_X1_fill : (Jvm.Cond.instanceMethod ({ cls := "RunSorterModel", name := "fill", desc := "(III)I" } : Jvm.MethodName)) ∈ lw_w := mW 275 (by decide +kernel) (by decide +kernel)
theorem wV_X1_X1_fill : (Jvm.Cond.selects "RunSorterModel" ({ cls := "RunSorterModel", name := "fill", desc := "(III)I" } : Jvm.MethodName) ({ cls := "RunSorterModel", name := "fill", desc := "(III)I" } : Jvm.MethodName)) ∈ lw_w := mW 276 (by decide +kernel) (by decide +kernel)
theorem wC_X1_fill : (Jvm.Cond.code ({ cls := "RunSorterModel", name := "fill", desc := "(III)I" } : Jvm.MethodName) prog_3_method_6_code (5 : Nat) (Option.some Jvm.ClassFile.FieldType.int)) ∈ lw_w := mW 277 (by decide +kernel) (by decide +kernel)
theorem wM_X1_X1_fail : (Jvm.Cond.methodLink "RunSorterModel" (24 : Nat) ({ cls := "RunSorterModel", name := "fail", desc := "(I)I" } : Jvm.MethodName)) ∈ lw_w := mW 278 (by decide +kernel) (by decide +kernel)
theorem wprivateMethod_279 : (Jvm.Cond.privateMethod ({ cls := "RunSorterModel", name := "fail", desc := "(I)I" } : Jvm.MethodName)) ∈ lw_tbl := mT 279 (by decide +kernel)
theorem wI_X1_fail : (Jvm.Cond.instanceMethod ({ cls := "RunSorterModel", name := "fail", desc := "(I)I" } : Jvm.MethodName)) ∈ lw_w := mW 280 (by decide +kernel) (by decide +kernel)
theorem wC_X1_fail : (Jvm.Cond.code ({ cls := "RunSorterModel", name := "fail", desc := "(I)I" } : Jvm.MethodName) prog_3_method_3_code (2 : Nat) (Option.some Jvm.ClassFile.FieldType.int)) ∈ lw_w := mW 281 (by decide +kernel) (by decide +kernel)
theorem wM_X1_X1_append : (Jvm.Cond.methodLink "RunSorterModel" (28 : Nat) ({ cls := "RunSorterModel", name := "append", desc := "(I)V" } : Jvm.MethodName)) ∈ lw_w := mW 282 (by decide +kernel) (by decide +kernel)
theorem wprivateMethod_283 : (Jvm.Cond.privateMethod ({ cls := "RunSorterModel", name := "append", desc := "(I)V" } : Jvm.MethodName)) ∈ lw_tbl := mT 283 (by decide +kernel)
theorem wI_X1_append : (Jvm.Cond.instanceMethod ({ cls := "RunSorterModel", name := "append", desc := "(I)V" } : Jvm.MethodName)) ∈ lw_w := mW 284 (by decide +kernel) (by decide +kernel)
theorem wC_X1_append : (Jvm.Cond.code ({ cls := "RunSorterModel", name := "append", desc := "(I)V" } : Jvm.MethodName) prog_3_method_5_code (2 : Nat) (Option.none : Option Jvm.ClassFile.FieldType)) ∈ lw_w := mW 285 (by decide +kernel) (by decide +kernel)
theorem wM_L_X1_scatter : (Jvm.Cond.methodLink "RunSorterLaw" (57 : Nat) ({ cls := "RunSorterModel", name := "scatter", desc := "(III)I" } : Jvm.MethodName)) ∈ lw_w := mW 286 (by decide +kernel) (by decide +kernel)
theorem wI_X1_scatter : (Jvm.Cond.instanceMethod ({ cls := "RunSorterModel", name := "scatter", desc := "(III)I" } : Jvm.MethodName)) ∈ lw_w := mW 287 (by decide +kernel) (by decide +kernel)
theorem wV_X1_X1_scatter : (Jvm.Cond.selects "RunSorterModel" ({ cls := "RunSorterModel", name := "scatter", desc := "(III)I" } : Jvm.MethodName) ({ cls := "RunSorterModel", name := "scatter", desc := "(III)I" } : Jvm.MethodName)) ∈ lw_w := mW 288 (by decide +kernel) (by decide +kernel)
theorem wC_X1_scatter : (Jvm.Cond.code ({ cls := "RunSorterModel", name := "scatter", desc := "(III)I" } : Jvm.MethodName) prog_3_method_7_code (6 : Nat) (Option.some Jvm.ClassFile.FieldType.int)) ∈ lw_w := mW 289 (by decide +kernel) (by decide +kernel)
theorem wQ_X1_32 : (Jvm.Cond.constant "RunSorterModel" (32 : Nat) (1664525 : Int32)) ∈ lw_w := mW 290 (by decide +kernel) (by decide +kernel)
theorem wQ_X1_33 : (Jvm.Cond.constant "RunSorterModel" (33 : Nat) (1013904223 : Int32)) ∈ lw_w := mW 291 (by decide +kernel) (by decide +kernel)
theorem wM_L_X1_sort : (Jvm.Cond.methodLink "RunSorterLaw" (60 : Nat) ({ cls := "RunSorterModel", name := "sort", desc := "(III)I" } : Jvm.MethodName)) ∈ lw_w := mW 292 (by decide +kernel) (by decide +kernel)
theorem wI_X1_sort : (Jvm.Cond.instanceMethod ({ cls := "RunSorterModel", name := "sort", desc := "(III)I" } : Jvm.MethodName)) ∈ lw_w := mW 293 (by decide +kernel) (by decide +kernel)
theorem wV_X1_X1_sort : (Jvm.Cond.selects "RunSorterModel" ({ cls := "RunSorterModel", name := "sort", desc := "(III)I" } : Jvm.MethodName) ({ cls := "RunSorterModel", name := "sort", desc := "(III)I" } : Jvm.MethodName)) ∈ lw_w := mW 294 (by decide +kernel) (by decide +kernel)
theorem wC_X1_sort : (Jvm.Cond.code ({ cls := "RunSorterModel", name := "sort", desc := "(III)I" } : Jvm.MethodName) prog_3_method_9_code (8 : Nat) (Option.some Jvm.ClassFile.FieldType.int)) ∈ lw_w := mW 295 (by decide +kernel) (by decide +kernel)
theorem wM_X1_X1_bad : (Jvm.Cond.methodLink "RunSorterModel" (34 : Nat) ({ cls := "RunSorterModel", name := "bad", desc := "(II)Z" } : Jvm.MethodName)) ∈ lw_w := mW 296 (by decide +kernel) (by decide +kernel)
theorem wprivateMethod_297 : (Jvm.Cond.privateMethod ({ cls := "RunSorterModel", name := "bad", desc := "(II)Z" } : Jvm.MethodName)) ∈ lw_tbl := mT 297 (by decide +kernel)
theorem wI_X1_bad : (Jvm.Cond.instanceMethod ({ cls := "RunSorterModel", name := "bad", desc := "(II)Z" } : Jvm.MethodName)) ∈ lw_w := mW 298 (by decide +kernel) (by decide +kernel)
theorem wC_X1_bad : (Jvm.Cond.code ({ cls := "RunSorterModel", name := "bad", desc := "(II)Z" } : Jvm.MethodName) prog_3_method_8_code (3 : Nat) (Option.some Jvm.ClassFile.FieldType.boolean)) ∈ lw_w := mW 299 (by decide +kernel) (by decide +kernel)
theorem wM_X1_X1_rank : (Jvm.Cond.methodLink "RunSorterModel" (38 : Nat) ({ cls := "RunSorterModel", name := "rank", desc := "(II)I" } : Jvm.MethodName)) ∈ lw_w := mW 300 (by decide +kernel) (by decide +kernel)
theorem wprivateMethod_301 : (Jvm.Cond.privateMethod ({ cls := "RunSorterModel", name := "rank", desc := "(II)I" } : Jvm.MethodName)) ∈ lw_tbl := mT 301 (by decide +kernel)
theorem wI_X1_rank : (Jvm.Cond.instanceMethod ({ cls := "RunSorterModel", name := "rank", desc := "(II)I" } : Jvm.MethodName)) ∈ lw_w := mW 302 (by decide +kernel) (by decide +kernel)
theorem wC_X1_rank : (Jvm.Cond.code ({ cls := "RunSorterModel", name := "rank", desc := "(II)I" } : Jvm.MethodName) prog_3_method_4_code (3 : Nat) (Option.some Jvm.ClassFile.FieldType.int)) ∈ lw_w := mW 303 (by decide +kernel) (by decide +kernel)
theorem wQ_X1_20 : (Jvm.Cond.constant "RunSorterModel" (20 : Nat) (-2147483648 : Int32)) ∈ lw_w := mW 304 (by decide +kernel) (by decide +kernel)
theorem wM_L_X1_get : (Jvm.Cond.methodLink "RunSorterLaw" (64 : Nat) ({ cls := "RunSorterModel", name := "get", desc := "(I)I" } : Jvm.MethodName)) ∈ lw_w := mW 305 (by decide +kernel) (by decide +kernel)
theorem wI_X1_get : (Jvm.Cond.instanceMethod ({ cls := "RunSorterModel", name := "get", desc := "(I)I" } : Jvm.MethodName)) ∈ lw_w := mW 306 (by decide +kernel) (by decide +kernel)
theorem wV_X1_X1_get : (Jvm.Cond.selects "RunSorterModel" ({ cls := "RunSorterModel", name := "get", desc := "(I)I" } : Jvm.MethodName) ({ cls := "RunSorterModel", name := "get", desc := "(I)I" } : Jvm.MethodName)) ∈ lw_w := mW 307 (by decide +kernel) (by decide +kernel)
theorem wC_X1_get : (Jvm.Cond.code ({ cls := "RunSorterModel", name := "get", desc := "(I)I" } : Jvm.MethodName) prog_3_method_10_code (2 : Nat) (Option.some Jvm.ClassFile.FieldType.int)) ∈ lw_w := mW 308 (by decide +kernel) (by decide +kernel)
theorem wM_L_X1_tag : (Jvm.Cond.methodLink "RunSorterLaw" (67 : Nat) ({ cls := "RunSorterModel", name := "tag", desc := "(I)I" } : Jvm.MethodName)) ∈ lw_w := mW 309 (by decide +kernel) (by decide +kernel)
theorem wI_X1_tag : (Jvm.Cond.instanceMethod ({ cls := "RunSorterModel", name := "tag", desc := "(I)I" } : Jvm.MethodName)) ∈ lw_w := mW 310 (by decide +kernel) (by decide +kernel)
theorem wV_X1_X1_tag : (Jvm.Cond.selects "RunSorterModel" ({ cls := "RunSorterModel", name := "tag", desc := "(I)I" } : Jvm.MethodName) ({ cls := "RunSorterModel", name := "tag", desc := "(I)I" } : Jvm.MethodName)) ∈ lw_w := mW 311 (by decide +kernel) (by decide +kernel)
theorem wC_X1_tag : (Jvm.Cond.code ({ cls := "RunSorterModel", name := "tag", desc := "(I)I" } : Jvm.MethodName) prog_3_method_11_code (2 : Nat) (Option.some Jvm.ClassFile.FieldType.int)) ∈ lw_w := mW 312 (by decide +kernel) (by decide +kernel)
theorem wM_L_X1_set : (Jvm.Cond.methodLink "RunSorterLaw" (71 : Nat) ({ cls := "RunSorterModel", name := "set", desc := "(II)I" } : Jvm.MethodName)) ∈ lw_w := mW 313 (by decide +kernel) (by decide +kernel)
theorem wI_X1_set : (Jvm.Cond.instanceMethod ({ cls := "RunSorterModel", name := "set", desc := "(II)I" } : Jvm.MethodName)) ∈ lw_w := mW 314 (by decide +kernel) (by decide +kernel)
theorem wV_X1_X1_set : (Jvm.Cond.selects "RunSorterModel" ({ cls := "RunSorterModel", name := "set", desc := "(II)I" } : Jvm.MethodName) ({ cls := "RunSorterModel", name := "set", desc := "(II)I" } : Jvm.MethodName)) ∈ lw_w := mW 315 (by decide +kernel) (by decide +kernel)
theorem wC_X1_set : (Jvm.Cond.code ({ cls := "RunSorterModel", name := "set", desc := "(II)I" } : Jvm.MethodName) prog_3_method_12_code (4 : Nat) (Option.some Jvm.ClassFile.FieldType.int)) ∈ lw_w := mW 316 (by decide +kernel) (by decide +kernel)
theorem wM_L_X1_turn : (Jvm.Cond.methodLink "RunSorterLaw" (74 : Nat) ({ cls := "RunSorterModel", name := "turn", desc := "(II)I" } : Jvm.MethodName)) ∈ lw_w := mW 317 (by decide +kernel) (by decide +kernel)
theorem wI_X1_turn : (Jvm.Cond.instanceMethod ({ cls := "RunSorterModel", name := "turn", desc := "(II)I" } : Jvm.MethodName)) ∈ lw_w := mW 318 (by decide +kernel) (by decide +kernel)
theorem wV_X1_X1_turn : (Jvm.Cond.selects "RunSorterModel" ({ cls := "RunSorterModel", name := "turn", desc := "(II)I" } : Jvm.MethodName) ({ cls := "RunSorterModel", name := "turn", desc := "(II)I" } : Jvm.MethodName)) ∈ lw_w := mW 319 (by decide +kernel) (by decide +kernel)
theorem wC_X1_turn : (Jvm.Cond.code ({ cls := "RunSorterModel", name := "turn", desc := "(II)I" } : Jvm.MethodName) prog_3_method_13_code (7 : Nat) (Option.some Jvm.ClassFile.FieldType.int)) ∈ lw_w := mW 320 (by decide +kernel) (by decide +kernel)
theorem wM_L_X1_upTo : (Jvm.Cond.methodLink "RunSorterLaw" (78 : Nat) ({ cls := "RunSorterModel", name := "upTo", desc := "(IIZ)I" } : Jvm.MethodName)) ∈ lw_w := mW 321 (by decide +kernel) (by decide +kernel)
theorem wI_X1_upTo : (Jvm.Cond.instanceMethod ({ cls := "RunSorterModel", name := "upTo", desc := "(IIZ)I" } : Jvm.MethodName)) ∈ lw_w := mW 322 (by decide +kernel) (by decide +kernel)
theorem wV_X1_X1_upTo : (Jvm.Cond.selects "RunSorterModel" ({ cls := "RunSorterModel", name := "upTo", desc := "(IIZ)I" } : Jvm.MethodName) ({ cls := "RunSorterModel", name := "upTo", desc := "(IIZ)I" } : Jvm.MethodName)) ∈ lw_w := mW 323 (by decide +kernel) (by decide +kernel)
theorem wC_X1_upTo : (Jvm.Cond.code ({ cls := "RunSorterModel", name := "upTo", desc := "(IIZ)I" } : Jvm.MethodName) prog_3_method_14_code (5 : Nat) (Option.some Jvm.ClassFile.FieldType.int)) ∈ lw_w := mW 324 (by decide +kernel) (by decide +kernel)
theorem wM_L_X1_clear : (Jvm.Cond.methodLink "RunSorterLaw" (82 : Nat) ({ cls := "RunSorterModel", name := "clear", desc := "()I" } : Jvm.MethodName)) ∈ lw_w := mW 325 (by decide +kernel) (by decide +kernel)
theorem wI_X1_clear : (Jvm.Cond.instanceMethod ({ cls := "RunSorterModel", name := "clear", desc := "()I" } : Jvm.MethodName)) ∈ lw_w := mW 326 (by decide +kernel) (by decide +kernel)
theorem wV_X1_X1_clear : (Jvm.Cond.selects "RunSorterModel" ({ cls := "RunSorterModel", name := "clear", desc := "()I" } : Jvm.MethodName) ({ cls := "RunSorterModel", name := "clear", desc := "()I" } : Jvm.MethodName)) ∈ lw_w := mW 327 (by decide +kernel) (by decide +kernel)
theorem wC_X1_clear : (Jvm.Cond.code ({ cls := "RunSorterModel", name := "clear", desc := "()I" } : Jvm.MethodName) prog_3_method_15_code (2 : Nat) (Option.some Jvm.ClassFile.FieldType.int)) ∈ lw_w := mW 328 (by decide +kernel) (by decide +kernel)
theorem wM_L_X1_hash : (Jvm.Cond.methodLink "RunSorterLaw" (86 : Nat) ({ cls := "RunSorterModel", name := "hash", desc := "()I" } : Jvm.MethodName)) ∈ lw_w := mW 329 (by decide +kernel) (by decide +kernel)
theorem wI_X1_hash : (Jvm.Cond.instanceMethod ({ cls := "RunSorterModel", name := "hash", desc := "()I" } : Jvm.MethodName)) ∈ lw_w := mW 330 (by decide +kernel) (by decide +kernel)
theorem wV_X1_X1_hash : (Jvm.Cond.selects "RunSorterModel" ({ cls := "RunSorterModel", name := "hash", desc := "()I" } : Jvm.MethodName) ({ cls := "RunSorterModel", name := "hash", desc := "()I" } : Jvm.MethodName)) ∈ lw_w := mW 331 (by decide +kernel) (by decide +kernel)
theorem wC_X1_hash : (Jvm.Cond.code ({ cls := "RunSorterModel", name := "hash", desc := "()I" } : Jvm.MethodName) prog_3_method_16_code (3 : Nat) (Option.some Jvm.ClassFile.FieldType.int)) ∈ lw_w := mW 332 (by decide +kernel) (by decide +kernel)
theorem wA_long : (Jvm.Cond.arrayClass Jvm.ClassFile.FieldType.long) ∈ lw_w := mW 333 (by decide +kernel) (by decide +kernel)
theorem wsameMethod_334 : (Jvm.Cond.sameMethod "java/lang/Throwable" "java/lang/Throwable" "fillInStackTrace" "(I)Ljava/lang/Throwable;") ∈ lw_w := mW 334 (by decide +kernel) (by decide +kernel)
theorem in_X0 : ∀ w ∈ wsX00, w ∈ lw_w := fun w h => List.mem_filter.mpr ⟨(by decide +kernel : ∀ w ∈ wsX00, w ∈ lw_tbl) w h, (by decide +kernel : ∀ w ∈ wsX00, goodWord w = true) w h⟩
theorem in_X1 : ∀ w ∈ wsX10, w ∈ lw_w := fun w h => List.mem_filter.mpr ⟨(by decide +kernel : ∀ w ∈ wsX10, w ∈ lw_tbl) w h, (by decide +kernel : ∀ w ∈ wsX10, goodWord w = true) w h⟩
