theorem ac_I : Cond.arrayClass .int ∈ ALL := by decide +kernel
theorem ac_J : Cond.arrayClass .long ∈ ALL := by decide +kernel
theorem ac_Z : Cond.arrayClass .boolean ∈ ALL := by decide +kernel
theorem oi_1 : Cond.instanceMethod Lib.objectInit ∈ ALL := by decide +kernel
theorem oi_2 : Cond.code Lib.objectInit ⟨#[0xb1]⟩ 1 none ∈ ALL := by decide +kernel
def k_J7_fill_d0a16_0 : List En := [(.iconst 0, 1, 0, 0, 0, 0, .int), (.istore_n 3, 1, 0, 0, 0, 3, .int), (.aload_n 0, 1, 0, 0, 0, 0, .int), (.arraylength, 1, 0, 0, 0, 0, .int), (.istore 4, 2, 0, 0, 0, 4, .int)]
theorem b_J7_fill_d0a16_0 : isAt "java/util/Arrays" 5 false cJ7_fill_d0a16 0 k_J7_fill_d0a16_0 = true := by decide +kernel
def k_J7_fill_d0a16_6 : List En := [(.iload_n 3, 1, 0, 0, 0, 3, .int), (.iload 4, 2, 0, 0, 0, 4, .int), (.if_icmp .ge 13, 3, 22, 0, 0, 0, .int), (.aload_n 0, 1, 0, 0, 0, 0, .int), (.iload_n 3, 1, 0, 0, 0, 3, .int), (.lload_n 1, 1, 0, 0, 0, 1, .int), (.lastore, 1, 0, 0, 0, 0, .int), (.iinc 3 1, 3, 0, 1, 0, 3, .int), (.goto (-13), 3, 6, 0, 0, 0, .int)]
theorem b_J7_fill_d0a16_6 : isAt "java/util/Arrays" 5 false cJ7_fill_d0a16 6 k_J7_fill_d0a16_6 = true := by decide +kernel
def k_J9_abs_0f7a4_0 : List En := [(.iload_n 0, 1, 0, 0, 0, 0, .int), (.ifCond .ge 8, 3, 9, 0, 0, 0, .int), (.iload_n 0, 1, 0, 0, 0, 0, .int), (.ineg, 1, 0, 0, 0, 0, .int), (.goto 4, 3, 10, 0, 0, 0, .int)]
theorem b_J9_abs_0f7a4_0 : isAt "java/lang/Math" 1 false cJ9_abs_0f7a4 0 k_J9_abs_0f7a4_0 = true := by decide +kernel
def k_J9_abs_0f7a4_9 : List En := [(.iload_n 0, 1, 0, 0, 0, 0, .int)]
theorem b_J9_abs_0f7a4_9 : isAt "java/lang/Math" 1 false cJ9_abs_0f7a4 9 k_J9_abs_0f7a4_9 = true := by decide +kernel
def k_J9_floorDiv_f86c9_0 : List En := [(.lload_n 0, 1, 0, 0, 0, 0, .int), (.lload_n 2, 1, 0, 0, 0, 2, .int), (.ldiv, 1, 0, 0, 0, 0, .int), (.lstore 4, 2, 0, 0, 0, 4, .int), (.lload_n 0, 1, 0, 0, 0, 0, .int), (.lload_n 2, 1, 0, 0, 0, 2, .int), (.lxor, 1, 0, 0, 0, 0, .int), (.lconst 0, 1, 0, 0, 0, 0, .int), (.lcmp, 1, 0, 0, 0, 0, .int), (.ifCond .ge 17, 3, 27, 0, 0, 0, .int), (.lload 4, 2, 0, 0, 0, 4, .int), (.lload_n 2, 1, 0, 0, 0, 2, .int), (.lmul, 1, 0, 0, 0, 0, .int), (.lload_n 0, 1, 0, 0, 0, 0, .int), (.lcmp, 1, 0, 0, 0, 0, .int), (.ifCond .eq 8, 3, 27, 0, 0, 0, .int), (.lload 4, 2, 0, 0, 0, 4, .int), (.lconst 1, 1, 0, 0, 0, 0, .int), (.lsub, 1, 0, 0, 0, 0, .int)]
theorem b_J9_floorDiv_f86c9_0 : isAt "java/lang/Math" 6 false cJ9_floorDiv_f86c9 0 k_J9_floorDiv_f86c9_0 = true := by decide +kernel
def k_J9_floorDiv_f86c9_27 : List En := [(.lload 4, 2, 0, 0, 0, 4, .int)]
theorem b_J9_floorDiv_f86c9_27 : isAt "java/lang/Math" 6 false cJ9_floorDiv_f86c9 27 k_J9_floorDiv_f86c9_27 = true := by decide +kernel
def k_J9_max_7cf53_0 : List En := [(.iload_n 0, 1, 0, 0, 0, 0, .int), (.iload_n 1, 1, 0, 0, 0, 1, .int), (.if_icmp .lt 7, 3, 9, 0, 0, 0, .int), (.iload_n 0, 1, 0, 0, 0, 0, .int), (.goto 4, 3, 10, 0, 0, 0, .int)]
theorem b_J9_max_7cf53_0 : isAt "java/lang/Math" 2 false cJ9_max_7cf53 0 k_J9_max_7cf53_0 = true := by decide +kernel
def k_J9_max_7cf53_9 : List En := [(.iload_n 1, 1, 0, 0, 0, 1, .int)]
theorem b_J9_max_7cf53_9 : isAt "java/lang/Math" 2 false cJ9_max_7cf53 9 k_J9_max_7cf53_9 = true := by decide +kernel
def k_J9_min_7cf53_0 : List En := [(.iload_n 0, 1, 0, 0, 0, 0, .int), (.iload_n 1, 1, 0, 0, 0, 1, .int), (.if_icmp .gt 7, 3, 9, 0, 0, 0, .int), (.iload_n 0, 1, 0, 0, 0, 0, .int), (.goto 4, 3, 10, 0, 0, 0, .int)]
theorem b_J9_min_7cf53_0 : isAt "java/lang/Math" 2 false cJ9_min_7cf53 0 k_J9_min_7cf53_0 = true := by decide +kernel
def k_J9_min_7cf53_9 : List En := [(.iload_n 1, 1, 0, 0, 0, 1, .int)]
theorem b_J9_min_7cf53_9 : isAt "java/lang/Math" 2 false cJ9_min_7cf53 9 k_J9_min_7cf53_9 = true := by decide +kernel
def k_J9_min_f86c9_0 : List En := [(.lload_n 0, 1, 0, 0, 0, 0, .int), (.lload_n 2, 1, 0, 0, 0, 2, .int), (.lcmp, 1, 0, 0, 0, 0, .int), (.ifCond .gt 7, 3, 10, 0, 0, 0, .int), (.lload_n 0, 1, 0, 0, 0, 0, .int), (.goto 4, 3, 11, 0, 0, 0, .int)]
theorem b_J9_min_f86c9_0 : isAt "java/lang/Math" 4 false cJ9_min_f86c9 0 k_J9_min_f86c9_0 = true := by decide +kernel
def k_J9_min_f86c9_10 : List En := [(.lload_n 2, 1, 0, 0, 0, 2, .int)]
theorem b_J9_min_f86c9_10 : isAt "java/lang/Math" 4 false cJ9_min_f86c9 10 k_J9_min_f86c9_10 = true := by decide +kernel
def k_X0_at_0 : List En := [(.aload_n 0, 1, 0, 0, 0, 0, .int), (.iload_n 1, 1, 0, 0, 0, 1, .int), (.iload_n 2, 1, 0, 0, 0, 2, .int)]
theorem b_X0_at_0 : isAt "GridStore$Cells" 4 false cX0_at 0 k_X0_at_0 = true := by decide +kernel
def k_X0_at_6 : List En := [(.istore_n 3, 1, 0, 0, 0, 3, .int), (.iload_n 3, 1, 0, 0, 0, 3, .int), (.ifCond .lt 21, 3, 29, 0, 0, 0, .int), (.iload_n 3, 1, 0, 0, 0, 3, .int), (.aload_n 0, 1, 0, 0, 0, 0, .int), (.getfield 26, 3, 0, 0, 0, 2, (.array .long)), (.arraylength, 1, 0, 0, 0, 0, .int), (.if_icmp .ge 12, 3, 29, 0, 0, 0, .int), (.aload_n 0, 1, 0, 0, 0, 0, .int), (.getfield 26, 3, 0, 0, 0, 2, (.array .long)), (.iload_n 3, 1, 0, 0, 0, 3, .int), (.laload, 1, 0, 0, 0, 0, .int), (.goto 6, 3, 32, 0, 0, 0, .int)]
theorem b_X0_at_6 : isAt "GridStore$Cells" 4 false cX0_at 6 k_X0_at_6 = true := by decide +kernel
def k_X0_at_29 : List En := [(.ldc2_w 18, 3, 0, 0, 0, 0, .int)]
theorem b_X0_at_29 : isAt "GridStore$Cells" 4 false cX0_at 29 k_X0_at_29 = true := by decide +kernel
def k_X0_indexOf_0 : List En := [(.aload_n 0, 1, 0, 0, 0, 0, .int), (.iload_n 1, 1, 0, 0, 0, 1, .int), (.iload_n 2, 1, 0, 0, 0, 2, .int)]
theorem b_X0_indexOf_0 : isAt "GridStore$Cells" 3 false cX0_indexOf 0 k_X0_indexOf_0 = true := by decide +kernel
def k_X0_indexOf_6 : List En := [(.ifCond .eq 14, 3, 20, 0, 0, 0, .int), (.iload_n 2, 1, 0, 0, 0, 2, .int), (.aload_n 0, 1, 0, 0, 0, 0, .int), (.getfield 9, 3, 0, 0, 0, 0, .int), (.imul, 1, 0, 0, 0, 0, .int), (.iload_n 1, 1, 0, 0, 0, 1, .int), (.iadd, 1, 0, 0, 0, 0, .int), (.goto 4, 3, 21, 0, 0, 0, .int)]
theorem b_X0_indexOf_6 : isAt "GridStore$Cells" 3 false cX0_indexOf 6 k_X0_indexOf_6 = true := by decide +kernel
def k_X0_indexOf_20 : List En := [(.iconst (-1), 1, 0, (-1), 0, 0, .int)]
theorem b_X0_indexOf_20 : isAt "GridStore$Cells" 3 false cX0_indexOf 20 k_X0_indexOf_20 = true := by decide +kernel
def k_X0_init_0 : List En := [(.aload_n 0, 1, 0, 0, 0, 0, .int)]
theorem b_X0_init_0 : isAt "GridStore$Cells" 4 true cX0_init 0 k_X0_init_0 = true := by decide +kernel
def k_X0_init_4 : List En := [(.aload_n 0, 1, 0, 0, 0, 0, .int), (.iload_n 1, 1, 0, 0, 0, 1, .int), (.putfield 9, 3, 0, 0, 0, 0, .int), (.aload_n 0, 1, 0, 0, 0, 0, .int), (.iload_n 2, 1, 0, 0, 0, 2, .int), (.putfield 15, 3, 0, 0, 0, 1, .int), (.iload_n 1, 1, 0, 0, 0, 1, .int), (.iload_n 2, 1, 0, 0, 0, 2, .int), (.imul, 1, 0, 0, 0, 0, .int)]
theorem b_X0_init_4 : isAt "GridStore$Cells" 4 true cX0_init 4 k_X0_init_4 = true := by decide +kernel
def k_X0_init_19 : List En := [(.astore_n 3, 1, 0, 0, 0, 3, .int), (.aload_n 3, 1, 0, 0, 0, 3, .int), (.ldc2_w 18, 3, 0, 0, 0, 0, .int)]
theorem b_X0_init_19 : isAt "GridStore$Cells" 4 true cX0_init 19 k_X0_init_19 = true := by decide +kernel
def k_X0_init_27 : List En := [(.aload_n 0, 1, 0, 0, 0, 0, .int), (.aload_n 3, 1, 0, 0, 0, 3, .int), (.putfield 26, 3, 0, 0, 0, 2, (.array .long))]
theorem b_X0_init_27 : isAt "GridStore$Cells" 4 true cX0_init 27 k_X0_init_27 = true := by decide +kernel
def k_X0_init__0 : List En := [(.aload_n 0, 1, 0, 0, 0, 0, .int)]
theorem b_X0_init__0 : isAt "GridStore$Cells" 2 true cX0_init_ 0 k_X0_init__0 = true := by decide +kernel
def k_X0_init__4 : List En := [(.aload_n 0, 1, 0, 0, 0, 0, .int), (.aload_n 1, 1, 0, 0, 0, 1, .int), (.getfield 9, 3, 0, 0, 0, 0, .int), (.putfield 9, 3, 0, 0, 0, 0, .int), (.aload_n 0, 1, 0, 0, 0, 0, .int), (.aload_n 1, 1, 0, 0, 0, 1, .int), (.getfield 15, 3, 0, 0, 0, 1, .int), (.putfield 15, 3, 0, 0, 0, 1, .int), (.aload_n 0, 1, 0, 0, 0, 0, .int), (.aload_n 1, 1, 0, 0, 0, 1, .int), (.getfield 26, 3, 0, 0, 0, 2, (.array .long))]
theorem b_X0_init__4 : isAt "GridStore$Cells" 2 true cX0_init_ 4 k_X0_init__4 = true := by decide +kernel
def k_X0_init__31 : List En := [(.putfield 26, 3, 0, 0, 0, 2, (.array .long))]
theorem b_X0_init__31 : isAt "GridStore$Cells" 2 true cX0_init_ 31 k_X0_init__31 = true := by decide +kernel
def k_X0_inside_0 : List En := [(.iload_n 1, 1, 0, 0, 0, 1, .int), (.ifCond .lt 27, 3, 28, 0, 0, 0, .int), (.iload_n 1, 1, 0, 0, 0, 1, .int), (.aload_n 0, 1, 0, 0, 0, 0, .int), (.getfield 9, 3, 0, 0, 0, 0, .int), (.if_icmp .ge 19, 3, 28, 0, 0, 0, .int), (.iload_n 2, 1, 0, 0, 0, 2, .int), (.ifCond .lt 15, 3, 28, 0, 0, 0, .int), (.iload_n 2, 1, 0, 0, 0, 2, .int), (.aload_n 0, 1, 0, 0, 0, 0, .int), (.getfield 15, 3, 0, 0, 0, 1, .int), (.if_icmp .ge 7, 3, 28, 0, 0, 0, .int), (.iconst 1, 1, 0, 1, 0, 0, .int), (.goto 4, 3, 29, 0, 0, 0, .int)]
theorem b_X0_inside_0 : isAt "GridStore$Cells" 3 false cX0_inside 0 k_X0_inside_0 = true := by decide +kernel
def k_X0_inside_28 : List En := [(.iconst 0, 1, 0, 0, 0, 0, .int)]
theorem b_X0_inside_28 : isAt "GridStore$Cells" 3 false cX0_inside 28 k_X0_inside_28 = true := by decide +kernel
def k_X0_numbers_0 : List En := [(.iconst 0, 1, 0, 0, 0, 0, .int), (.istore_n 1, 1, 0, 0, 0, 1, .int), (.iconst 0, 1, 0, 0, 0, 0, .int), (.istore_n 2, 1, 0, 0, 0, 2, .int)]
theorem b_X0_numbers_0 : isAt "GridStore$Cells" 3 false cX0_numbers 0 k_X0_numbers_0 = true := by decide +kernel
def k_X0_numbers_4 : List En := [(.iload_n 2, 1, 0, 0, 0, 2, .int), (.aload_n 0, 1, 0, 0, 0, 0, .int), (.getfield 26, 3, 0, 0, 0, 2, (.array .long)), (.arraylength, 1, 0, 0, 0, 0, .int), (.if_icmp .ge 30, 3, 40, 0, 0, 0, .int), (.iload_n 1, 1, 0, 0, 0, 1, .int), (.aload_n 0, 1, 0, 0, 0, 0, .int), (.getfield 26, 3, 0, 0, 0, 2, (.array .long)), (.iload_n 2, 1, 0, 0, 0, 2, .int), (.laload, 1, 0, 0, 0, 0, .int), (.ldc2_w 18, 3, 0, 0, 0, 0, .int), (.lcmp, 1, 0, 0, 0, 0, .int), (.ifCond .ne 7, 3, 31, 0, 0, 0, .int), (.iconst 0, 1, 0, 0, 0, 0, .int), (.goto 4, 3, 32, 0, 0, 0, .int)]
theorem b_X0_numbers_4 : isAt "GridStore$Cells" 3 false cX0_numbers 4 k_X0_numbers_4 = true := by decide +kernel
def k_X0_numbers_31 : List En := [(.iconst 1, 1, 0, 1, 0, 0, .int)]
theorem b_X0_numbers_31 : isAt "GridStore$Cells" 3 false cX0_numbers 31 k_X0_numbers_31 = true := by decide +kernel
def k_X0_numbers_32 : List En := [(.iadd, 1, 0, 0, 0, 0, .int), (.istore_n 1, 1, 0, 0, 0, 1, .int), (.iinc 2 1, 3, 0, 1, 0, 2, .int), (.goto (-33), 3, 4, 0, 0, 0, .int)]
theorem b_X0_numbers_32 : isAt "GridStore$Cells" 3 false cX0_numbers 32 k_X0_numbers_32 = true := by decide +kernel
def k_X0_numbers_40 : List En := [(.iload_n 1, 1, 0, 0, 0, 1, .int)]
theorem b_X0_numbers_40 : isAt "GridStore$Cells" 3 false cX0_numbers 40 k_X0_numbers_40 = true := by decide +kernel
def k_X0_put_0 : List En := [(.aload_n 0, 1, 0, 0, 0, 0, .int), (.iload_n 1, 1, 0, 0, 0, 1, .int), (.iload_n 2, 1, 0, 0, 0, 2, .int)]
theorem b_X0_put_0 : isAt "GridStore$Cells" 6 false cX0_put 0 k_X0_put_0 = true := by decide +kernel
def k_X0_put_6 : List En := [(.istore 5, 2, 0, 0, 0, 5, .int), (.iload 5, 2, 0, 0, 0, 5, .int), (.ifCond .lt 25, 3, 35, 0, 0, 0, .int), (.iload 5, 2, 0, 0, 0, 5, .int), (.aload_n 0, 1, 0, 0, 0, 0, .int), (.getfield 26, 3, 0, 0, 0, 2, (.array .long)), (.arraylength, 1, 0, 0, 0, 0, .int), (.if_icmp .ge 15, 3, 35, 0, 0, 0, .int), (.aload_n 0, 1, 0, 0, 0, 0, .int), (.getfield 26, 3, 0, 0, 0, 2, (.array .long)), (.iload 5, 2, 0, 0, 0, 5, .int), (.laload, 1, 0, 0, 0, 0, .int), (.lload_n 3, 1, 0, 0, 0, 3, .int), (.lcmp, 1, 0, 0, 0, 0, .int), (.ifCond .ne 5, 3, 37, 0, 0, 0, .int)]
theorem b_X0_put_6 : isAt "GridStore$Cells" 6 false cX0_put 6 k_X0_put_6 = true := by decide +kernel
def k_X0_put_35 : List En := [(.iconst 0, 1, 0, 0, 0, 0, .int)]
theorem b_X0_put_35 : isAt "GridStore$Cells" 6 false cX0_put 35 k_X0_put_35 = true := by decide +kernel
def k_X0_put_37 : List En := [(.aload_n 0, 1, 0, 0, 0, 0, .int), (.getfield 26, 3, 0, 0, 0, 2, (.array .long)), (.iload 5, 2, 0, 0, 0, 5, .int), (.lload_n 3, 1, 0, 0, 0, 3, .int), (.lastore, 1, 0, 0, 0, 0, .int), (.iconst 1, 1, 0, 1, 0, 0, .int)]
theorem b_X0_put_37 : isAt "GridStore$Cells" 6 false cX0_put 37 k_X0_put_37 = true := by decide +kernel
def k_X1_addLayer_0 : List En := [(.aload_n 0, 1, 0, 0, 0, 0, .int), (.getfield 17, 3, 0, 0, 1, 5, .int), (.istore_n 1, 1, 0, 0, 0, 1, .int), (.iload_n 1, 1, 0, 0, 0, 1, .int), (.ifCond .lt 12, 3, 18, 0, 0, 0, .int), (.iload_n 1, 1, 0, 0, 0, 1, .int), (.aload_n 0, 1, 0, 0, 0, 0, .int), (.getfield 11, 3, 0, 0, 1, 4, (.array (.object "GridStore$Cells"))), (.arraylength, 1, 0, 0, 0, 0, .int), (.if_icmp .lt 5, 3, 20, 0, 0, 0, .int)]
theorem b_X1_addLayer_0 : isAt "GridStore$Grid" 2 false cX1_addLayer 0 k_X1_addLayer_0 = true := by decide +kernel
def k_X1_addLayer_18 : List En := [(.iconst (-1), 1, 0, (-1), 0, 0, .int)]
theorem b_X1_addLayer_18 : isAt "GridStore$Grid" 2 false cX1_addLayer 18 k_X1_addLayer_18 = true := by decide +kernel
def k_X1_addLayer_20 : List En := [(.aload_n 0, 1, 0, 0, 0, 0, .int), (.getfield 11, 3, 0, 0, 1, 4, (.array (.object "GridStore$Cells"))), (.iload_n 1, 1, 0, 0, 0, 1, .int)]
theorem b_X1_addLayer_20 : isAt "GridStore$Grid" 2 false cX1_addLayer 20 k_X1_addLayer_20 = true := by decide +kernel
def k_X1_addLayer_28 : List En := [(.dup, 1, 0, 0, 0, 0, .int), (.aload_n 0, 1, 0, 0, 0, 0, .int), (.getfield 34, 3, 0, 0, 1, 3, (.object "GridStore$Cells"))]
theorem b_X1_addLayer_28 : isAt "GridStore$Grid" 2 false cX1_addLayer 28 k_X1_addLayer_28 = true := by decide +kernel
def k_X1_addLayer_36 : List En := [(.aastore, 1, 0, 0, 3, 0, .int), (.aload_n 0, 1, 0, 0, 0, 0, .int), (.dup, 1, 0, 0, 0, 0, .int), (.getfield 17, 3, 0, 0, 1, 5, .int), (.iconst 1, 1, 0, 1, 0, 0, .int), (.iadd, 1, 0, 0, 0, 0, .int), (.putfield 17, 3, 0, 0, 1, 5, .int), (.iload_n 1, 1, 0, 0, 0, 1, .int)]
theorem b_X1_addLayer_36 : isAt "GridStore$Grid" 2 false cX1_addLayer 36 k_X1_addLayer_36 = true := by decide +kernel
def k_X1_bareLostPieces_0 : List En := [(.iconst 0, 1, 0, 0, 0, 0, .int), (.istore_n 1, 1, 0, 0, 0, 1, .int)]
theorem b_X1_bareLostPieces_0 : isAt "GridStore$Grid" 3 false cX1_bareLostPieces 0 k_X1_bareLostPieces_0 = true := by decide +kernel
def k_X1_bareLostPieces_2 : List En := [(.iload_n 1, 1, 0, 0, 0, 1, .int), (.aload_n 0, 1, 0, 0, 0, 0, .int), (.getfield 24, 3, 0, 0, 1, 1, .int), (.if_icmp .ge 47, 3, 54, 0, 0, 0, .int), (.iconst 0, 1, 0, 0, 0, 0, .int), (.istore_n 2, 1, 0, 0, 0, 2, .int)]
theorem b_X1_bareLostPieces_2 : isAt "GridStore$Grid" 3 false cX1_bareLostPieces 2 k_X1_bareLostPieces_2 = true := by decide +kernel
def k_X1_bareLostPieces_12 : List En := [(.iload_n 2, 1, 0, 0, 0, 2, .int), (.aload_n 0, 1, 0, 0, 0, 0, .int), (.getfield 21, 3, 0, 0, 1, 0, .int), (.if_icmp .ge 31, 3, 48, 0, 0, 0, .int), (.aload_n 0, 1, 0, 0, 0, 0, .int), (.iload_n 2, 1, 0, 0, 0, 2, .int), (.iload_n 1, 1, 0, 0, 0, 1, .int)]
theorem b_X1_bareLostPieces_12 : isAt "GridStore$Grid" 3 false cX1_bareLostPieces 12 k_X1_bareLostPieces_12 = true := by decide +kernel
def k_X1_bareLostPieces_26 : List En := [(.ifCond .ne 16, 3, 42, 0, 0, 0, .int), (.aload_n 0, 1, 0, 0, 0, 0, .int), (.getfield 34, 3, 0, 0, 1, 3, (.object "GridStore$Cells")), (.iload_n 2, 1, 0, 0, 0, 2, .int), (.iload_n 1, 1, 0, 0, 0, 1, .int), (.ldc2_w 62, 3, 0, 0, 0, 0, .int)]
theorem b_X1_bareLostPieces_26 : isAt "GridStore$Grid" 3 false cX1_bareLostPieces 26 k_X1_bareLostPieces_26 = true := by decide +kernel
def k_X1_bareLostPieces_41 : List En := [(.pop, 1, 0, 0, 0, 0, .int)]
theorem b_X1_bareLostPieces_41 : isAt "GridStore$Grid" 3 false cX1_bareLostPieces 41 k_X1_bareLostPieces_41 = true := by decide +kernel
def k_X1_bareLostPieces_42 : List En := [(.iinc 2 1, 3, 0, 1, 0, 2, .int), (.goto (-33), 3, 12, 0, 0, 0, .int)]
theorem b_X1_bareLostPieces_42 : isAt "GridStore$Grid" 3 false cX1_bareLostPieces 42 k_X1_bareLostPieces_42 = true := by decide +kernel
def k_X1_bareLostPieces_48 : List En := [(.iinc 1 1, 3, 0, 1, 0, 1, .int), (.goto (-49), 3, 2, 0, 0, 0, .int)]
theorem b_X1_bareLostPieces_48 : isAt "GridStore$Grid" 3 false cX1_bareLostPieces 48 k_X1_bareLostPieces_48 = true := by decide +kernel
def k_X1_init_0 : List En := [(.aload_n 0, 1, 0, 0, 0, 0, .int)]
theorem b_X1_init_0 : isAt "GridStore$Grid" 4 true cX1_init 0 k_X1_init_0 = true := by decide +kernel
def k_X1_init_4 : List En := [(.aload_n 0, 1, 0, 0, 0, 0, .int), (.bipush 20, 2, 0, 20, 0, 0, .int)]
theorem b_X1_init_4 : isAt "GridStore$Grid" 4 true cX1_init 4 k_X1_init_4 = true := by decide +kernel
def k_X1_init_10 : List En := [(.putfield 11, 3, 0, 0, 1, 4, (.array (.object "GridStore$Cells"))), (.aload_n 0, 1, 0, 0, 0, 0, .int), (.iconst 0, 1, 0, 0, 0, 0, .int), (.putfield 17, 3, 0, 0, 1, 5, .int), (.aload_n 0, 1, 0, 0, 0, 0, .int), (.iload_n 1, 1, 0, 0, 0, 1, .int), (.putfield 21, 3, 0, 0, 1, 0, .int), (.aload_n 0, 1, 0, 0, 0, 0, .int), (.iload_n 2, 1, 0, 0, 0, 2, .int), (.putfield 24, 3, 0, 0, 1, 1, .int), (.aload_n 0, 1, 0, 0, 0, 0, .int), (.aload_n 3, 1, 0, 0, 0, 3, .int), (.putfield 27, 3, 0, 0, 1, 2, (.object "GridStore$Hosts")), (.aload_n 0, 1, 0, 0, 0, 0, .int)]
theorem b_X1_init_10 : isAt "GridStore$Grid" 4 true cX1_init 10 k_X1_init_10 = true := by decide +kernel
def k_X1_init_37 : List En := [(.dup, 1, 0, 0, 0, 0, .int), (.iload_n 1, 1, 0, 0, 0, 1, .int), (.iload_n 2, 1, 0, 0, 0, 2, .int)]
theorem b_X1_init_37 : isAt "GridStore$Grid" 4 true cX1_init 37 k_X1_init_37 = true := by decide +kernel
def k_X1_init_43 : List En := [(.putfield 34, 3, 0, 0, 1, 3, (.object "GridStore$Cells"))]
theorem b_X1_init_43 : isAt "GridStore$Grid" 4 true cX1_init 43 k_X1_init_43 = true := by decide +kernel
def k_X1_layer_0 : List En := [(.iload_n 1, 1, 0, 0, 0, 1, .int), (.ifCond .lt 21, 3, 22, 0, 0, 0, .int), (.iload_n 1, 1, 0, 0, 0, 1, .int), (.aload_n 0, 1, 0, 0, 0, 0, .int), (.getfield 11, 3, 0, 0, 1, 4, (.array (.object "GridStore$Cells"))), (.arraylength, 1, 0, 0, 0, 0, .int), (.if_icmp .ge 12, 3, 22, 0, 0, 0, .int), (.aload_n 0, 1, 0, 0, 0, 0, .int), (.getfield 11, 3, 0, 0, 1, 4, (.array (.object "GridStore$Cells"))), (.iload_n 1, 1, 0, 0, 0, 1, .int), (.aaload, 1, 0, 0, 3, 0, .int), (.goto 4, 3, 23, 0, 0, 0, .int)]
theorem b_X1_layer_0 : isAt "GridStore$Grid" 2 false cX1_layer 0 k_X1_layer_0 = true := by decide +kernel
def k_X1_layer_22 : List En := [(.aconst_null, 1, 0, 0, 0, 0, .int)]
theorem b_X1_layer_22 : isAt "GridStore$Grid" 2 false cX1_layer 22 k_X1_layer_22 = true := by decide +kernel
def k_X1_pieceBottom_0 : List En := [(.aload_n 0, 1, 0, 0, 0, 0, .int), (.getfield 24, 3, 0, 0, 1, 1, .int), (.iload_n 1, 1, 0, 0, 0, 1, .int), (.iconst 1, 1, 0, 1, 0, 0, .int), (.iadd, 1, 0, 0, 0, 0, .int), (.bipush 8, 2, 0, 8, 0, 0, .int), (.imul, 1, 0, 0, 0, 0, .int)]
theorem b_X1_pieceBottom_0 : isAt "GridStore$Grid" 2 false cX1_pieceBottom 0 k_X1_pieceBottom_0 = true := by decide +kernel
def k_X1_pieceKind_0 : List En := [(.aload_n 0, 1, 0, 0, 0, 0, .int), (.getfield 34, 3, 0, 0, 1, 3, (.object "GridStore$Cells")), (.iload_n 1, 1, 0, 0, 0, 1, .int), (.bipush 8, 2, 0, 8, 0, 0, .int), (.imul, 1, 0, 0, 0, 0, .int), (.iload_n 2, 1, 0, 0, 0, 2, .int), (.bipush 8, 2, 0, 8, 0, 0, .int), (.imul, 1, 0, 0, 0, 0, .int)]
theorem b_X1_pieceKind_0 : isAt "GridStore$Grid" 11 false cX1_pieceKind 0 k_X1_pieceKind_0 = true := by decide +kernel
def k_X1_pieceKind_15 : List En := [(.lstore_n 3, 1, 0, 0, 0, 3, .int), (.iconst 1, 1, 0, 1, 0, 0, .int), (.istore 5, 2, 0, 0, 0, 5, .int), (.iconst 0, 1, 0, 0, 0, 0, .int), (.istore 6, 2, 0, 0, 0, 6, .int), (.iload_n 2, 1, 0, 0, 0, 2, .int), (.bipush 8, 2, 0, 8, 0, 0, .int), (.imul, 1, 0, 0, 0, 0, .int), (.istore 7, 2, 0, 0, 0, 7, .int)]
theorem b_X1_pieceKind_15 : isAt "GridStore$Grid" 11 false cX1_pieceKind 15 k_X1_pieceKind_15 = true := by decide +kernel
def k_X1_pieceKind_28 : List En := [(.iload 7, 2, 0, 0, 0, 7, .int), (.aload_n 0, 1, 0, 0, 0, 0, .int), (.iload_n 2, 1, 0, 0, 0, 2, .int)]
theorem b_X1_pieceKind_28 : isAt "GridStore$Grid" 11 false cX1_pieceKind 28 k_X1_pieceKind_28 = true := by decide +kernel
def k_X1_pieceKind_35 : List En := [(.if_icmp .ge 82, 3, 117, 0, 0, 0, .int), (.iload_n 1, 1, 0, 0, 0, 1, .int), (.bipush 8, 2, 0, 8, 0, 0, .int), (.imul, 1, 0, 0, 0, 0, .int), (.istore 8, 2, 0, 0, 0, 8, .int)]
theorem b_X1_pieceKind_35 : isAt "GridStore$Grid" 11 false cX1_pieceKind 35 k_X1_pieceKind_35 = true := by decide +kernel
def k_X1_pieceKind_44 : List En := [(.iload 8, 2, 0, 0, 0, 8, .int), (.aload_n 0, 1, 0, 0, 0, 0, .int), (.iload_n 1, 1, 0, 0, 0, 1, .int)]
theorem b_X1_pieceKind_44 : isAt "GridStore$Grid" 11 false cX1_pieceKind 44 k_X1_pieceKind_44 = true := by decide +kernel
def k_X1_pieceKind_51 : List En := [(.if_icmp .ge 60, 3, 111, 0, 0, 0, .int), (.aload_n 0, 1, 0, 0, 0, 0, .int), (.getfield 34, 3, 0, 0, 1, 3, (.object "GridStore$Cells")), (.iload 8, 2, 0, 0, 0, 8, .int), (.iload 7, 2, 0, 0, 0, 7, .int)]
theorem b_X1_pieceKind_51 : isAt "GridStore$Grid" 11 false cX1_pieceKind 51 k_X1_pieceKind_51 = true := by decide +kernel
def k_X1_pieceKind_65 : List En := [(.lstore 9, 2, 0, 0, 0, 9, .int), (.iload 5, 2, 0, 0, 0, 5, .int), (.ifCond .eq 14, 3, 83, 0, 0, 0, .int), (.lload 9, 2, 0, 0, 0, 9, .int), (.lload_n 3, 1, 0, 0, 0, 3, .int), (.lcmp, 1, 0, 0, 0, 0, .int), (.ifCond .ne 7, 3, 83, 0, 0, 0, .int), (.iconst 1, 1, 0, 1, 0, 0, .int), (.goto 4, 3, 84, 0, 0, 0, .int)]
theorem b_X1_pieceKind_65 : isAt "GridStore$Grid" 11 false cX1_pieceKind 65 k_X1_pieceKind_65 = true := by decide +kernel
def k_X1_pieceKind_83 : List En := [(.iconst 0, 1, 0, 0, 0, 0, .int)]
theorem b_X1_pieceKind_83 : isAt "GridStore$Grid" 11 false cX1_pieceKind 83 k_X1_pieceKind_83 = true := by decide +kernel
def k_X1_pieceKind_84 : List En := [(.istore 5, 2, 0, 0, 0, 5, .int), (.iload 6, 2, 0, 0, 0, 6, .int), (.lload 9, 2, 0, 0, 0, 9, .int), (.ldc2_w 62, 3, 0, 0, 0, 0, .int), (.lcmp, 1, 0, 0, 0, 0, .int), (.ifCond .ne 7, 3, 101, 0, 0, 0, .int), (.iconst 0, 1, 0, 0, 0, 0, .int), (.goto 4, 3, 102, 0, 0, 0, .int)]
theorem b_X1_pieceKind_84 : isAt "GridStore$Grid" 11 false cX1_pieceKind 84 k_X1_pieceKind_84 = true := by decide +kernel
def k_X1_pieceKind_101 : List En := [(.iconst 1, 1, 0, 1, 0, 0, .int)]
theorem b_X1_pieceKind_101 : isAt "GridStore$Grid" 11 false cX1_pieceKind 101 k_X1_pieceKind_101 = true := by decide +kernel
def k_X1_pieceKind_102 : List En := [(.iadd, 1, 0, 0, 0, 0, .int), (.istore 6, 2, 0, 0, 0, 6, .int), (.iinc 8 1, 3, 0, 1, 0, 8, .int), (.goto (-64), 3, 44, 0, 0, 0, .int)]
theorem b_X1_pieceKind_102 : isAt "GridStore$Grid" 11 false cX1_pieceKind 102 k_X1_pieceKind_102 = true := by decide +kernel
def k_X1_pieceKind_111 : List En := [(.iinc 7 1, 3, 0, 1, 0, 7, .int), (.goto (-86), 3, 28, 0, 0, 0, .int)]
theorem b_X1_pieceKind_111 : isAt "GridStore$Grid" 11 false cX1_pieceKind 111 k_X1_pieceKind_111 = true := by decide +kernel
def k_X1_pieceKind_117 : List En := [(.iload 6, 2, 0, 0, 0, 6, .int), (.ifCond .ne 5, 3, 124, 0, 0, 0, .int), (.iconst 0, 1, 0, 0, 0, 0, .int)]
theorem b_X1_pieceKind_117 : isAt "GridStore$Grid" 11 false cX1_pieceKind 117 k_X1_pieceKind_117 = true := by decide +kernel
def k_X1_pieceKind_124 : List En := [(.iload 5, 2, 0, 0, 0, 5, .int), (.ifCond .eq 5, 3, 131, 0, 0, 0, .int), (.iconst 1, 1, 0, 1, 0, 0, .int)]
theorem b_X1_pieceKind_124 : isAt "GridStore$Grid" 11 false cX1_pieceKind 124 k_X1_pieceKind_124 = true := by decide +kernel
def k_X1_pieceKind_131 : List En := [(.iload 6, 2, 0, 0, 0, 6, .int), (.bipush 12, 2, 0, 12, 0, 0, .int), (.if_icmp .gt 7, 3, 142, 0, 0, 0, .int), (.iconst 2, 1, 0, 2, 0, 0, .int), (.goto 4, 3, 143, 0, 0, 0, .int)]
theorem b_X1_pieceKind_131 : isAt "GridStore$Grid" 11 false cX1_pieceKind 131 k_X1_pieceKind_131 = true := by decide +kernel
def k_X1_pieceKind_142 : List En := [(.iconst 3, 1, 0, 3, 0, 0, .int)]
theorem b_X1_pieceKind_142 : isAt "GridStore$Grid" 11 false cX1_pieceKind 142 k_X1_pieceKind_142 = true := by decide +kernel
def k_X1_pieceRight_0 : List En := [(.aload_n 0, 1, 0, 0, 0, 0, .int), (.getfield 21, 3, 0, 0, 1, 0, .int), (.iload_n 1, 1, 0, 0, 0, 1, .int), (.iconst 1, 1, 0, 1, 0, 0, .int), (.iadd, 1, 0, 0, 0, 0, .int), (.bipush 8, 2, 0, 8, 0, 0, .int), (.imul, 1, 0, 0, 0, 0, .int)]
theorem b_X1_pieceRight_0 : isAt "GridStore$Grid" 2 false cX1_pieceRight 0 k_X1_pieceRight_0 = true := by decide +kernel
def k_X1_piecesHigh_0 : List En := [(.aload_n 0, 1, 0, 0, 0, 0, .int), (.getfield 24, 3, 0, 0, 1, 1, .int), (.bipush 8, 2, 0, 8, 0, 0, .int), (.iadd, 1, 0, 0, 0, 0, .int), (.iconst 1, 1, 0, 1, 0, 0, .int), (.isub, 1, 0, 0, 0, 0, .int), (.bipush 8, 2, 0, 8, 0, 0, .int), (.idiv, 1, 0, 0, 0, 0, .int)]
theorem b_X1_piecesHigh_0 : isAt "GridStore$Grid" 1 false cX1_piecesHigh 0 k_X1_piecesHigh_0 = true := by decide +kernel
def k_X1_piecesOfKind_0 : List En := [(.iconst 0, 1, 0, 0, 0, 0, .int), (.istore_n 2, 1, 0, 0, 0, 2, .int), (.iconst 0, 1, 0, 0, 0, 0, .int), (.istore_n 3, 1, 0, 0, 0, 3, .int)]
theorem b_X1_piecesOfKind_0 : isAt "GridStore$Grid" 5 false cX1_piecesOfKind 0 k_X1_piecesOfKind_0 = true := by decide +kernel
def k_X1_piecesOfKind_4 : List En := [(.iload_n 3, 1, 0, 0, 0, 3, .int), (.aload_n 0, 1, 0, 0, 0, 0, .int)]
theorem b_X1_piecesOfKind_4 : isAt "GridStore$Grid" 5 false cX1_piecesOfKind 4 k_X1_piecesOfKind_4 = true := by decide +kernel
def k_X1_piecesOfKind_9 : List En := [(.if_icmp .ge 46, 3, 55, 0, 0, 0, .int), (.iconst 0, 1, 0, 0, 0, 0, .int), (.istore 4, 2, 0, 0, 0, 4, .int)]
theorem b_X1_piecesOfKind_9 : isAt "GridStore$Grid" 5 false cX1_piecesOfKind 9 k_X1_piecesOfKind_9 = true := by decide +kernel
def k_X1_piecesOfKind_15 : List En := [(.iload 4, 2, 0, 0, 0, 4, .int), (.aload_n 0, 1, 0, 0, 0, 0, .int)]
theorem b_X1_piecesOfKind_15 : isAt "GridStore$Grid" 5 false cX1_piecesOfKind 15 k_X1_piecesOfKind_15 = true := by decide +kernel
def k_X1_piecesOfKind_21 : List En := [(.if_icmp .ge 28, 3, 49, 0, 0, 0, .int), (.iload_n 2, 1, 0, 0, 0, 2, .int), (.aload_n 0, 1, 0, 0, 0, 0, .int), (.iload 4, 2, 0, 0, 0, 4, .int), (.iload_n 3, 1, 0, 0, 0, 3, .int)]
theorem b_X1_piecesOfKind_21 : isAt "GridStore$Grid" 5 false cX1_piecesOfKind 21 k_X1_piecesOfKind_21 = true := by decide +kernel
def k_X1_piecesOfKind_32 : List En := [(.iload_n 1, 1, 0, 0, 0, 1, .int), (.if_icmp .ne 7, 3, 40, 0, 0, 0, .int), (.iconst 1, 1, 0, 1, 0, 0, .int), (.goto 4, 3, 41, 0, 0, 0, .int)]
theorem b_X1_piecesOfKind_32 : isAt "GridStore$Grid" 5 false cX1_piecesOfKind 32 k_X1_piecesOfKind_32 = true := by decide +kernel
def k_X1_piecesOfKind_40 : List En := [(.iconst 0, 1, 0, 0, 0, 0, .int)]
theorem b_X1_piecesOfKind_40 : isAt "GridStore$Grid" 5 false cX1_piecesOfKind 40 k_X1_piecesOfKind_40 = true := by decide +kernel
def k_X1_piecesOfKind_41 : List En := [(.iadd, 1, 0, 0, 0, 0, .int), (.istore_n 2, 1, 0, 0, 0, 2, .int), (.iinc 4 1, 3, 0, 1, 0, 4, .int), (.goto (-31), 3, 15, 0, 0, 0, .int)]
theorem b_X1_piecesOfKind_41 : isAt "GridStore$Grid" 5 false cX1_piecesOfKind 41 k_X1_piecesOfKind_41 = true := by decide +kernel
def k_X1_piecesOfKind_49 : List En := [(.iinc 3 1, 3, 0, 1, 0, 3, .int), (.goto (-48), 3, 4, 0, 0, 0, .int)]
theorem b_X1_piecesOfKind_49 : isAt "GridStore$Grid" 5 false cX1_piecesOfKind 49 k_X1_piecesOfKind_49 = true := by decide +kernel
def k_X1_piecesOfKind_55 : List En := [(.iload_n 2, 1, 0, 0, 0, 2, .int)]
theorem b_X1_piecesOfKind_55 : isAt "GridStore$Grid" 5 false cX1_piecesOfKind 55 k_X1_piecesOfKind_55 = true := by decide +kernel
def k_X1_piecesWide_0 : List En := [(.aload_n 0, 1, 0, 0, 0, 0, .int), (.getfield 21, 3, 0, 0, 1, 0, .int), (.bipush 8, 2, 0, 8, 0, 0, .int), (.iadd, 1, 0, 0, 0, 0, .int), (.iconst 1, 1, 0, 1, 0, 0, .int), (.isub, 1, 0, 0, 0, 0, .int), (.bipush 8, 2, 0, 8, 0, 0, .int), (.idiv, 1, 0, 0, 0, 0, .int)]
theorem b_X1_piecesWide_0 : isAt "GridStore$Grid" 1 false cX1_piecesWide 0 k_X1_piecesWide_0 = true := by decide +kernel
def k_X1_restore_0 : List En := [(.iconst 0, 1, 0, 0, 0, 0, .int), (.istore_n 2, 1, 0, 0, 0, 2, .int), (.iconst 0, 1, 0, 0, 0, 0, .int), (.istore_n 3, 1, 0, 0, 0, 3, .int)]
theorem b_X1_restore_0 : isAt "GridStore$Grid" 5 false cX1_restore 0 k_X1_restore_0 = true := by decide +kernel
def k_X1_restore_4 : List En := [(.iload_n 3, 1, 0, 0, 0, 3, .int), (.aload_n 0, 1, 0, 0, 0, 0, .int), (.getfield 24, 3, 0, 0, 1, 1, .int), (.if_icmp .ge 44, 3, 53, 0, 0, 0, .int), (.iconst 0, 1, 0, 0, 0, 0, .int), (.istore 4, 2, 0, 0, 0, 4, .int)]
theorem b_X1_restore_4 : isAt "GridStore$Grid" 5 false cX1_restore 4 k_X1_restore_4 = true := by decide +kernel
def k_X1_restore_15 : List En := [(.iload 4, 2, 0, 0, 0, 4, .int), (.aload_n 0, 1, 0, 0, 0, 0, .int), (.getfield 21, 3, 0, 0, 1, 0, .int), (.if_icmp .ge 26, 3, 47, 0, 0, 0, .int), (.iload_n 2, 1, 0, 0, 0, 2, .int), (.aload_n 0, 1, 0, 0, 0, 0, .int), (.iload 4, 2, 0, 0, 0, 4, .int), (.iload_n 3, 1, 0, 0, 0, 3, .int), (.aload_n 1, 1, 0, 0, 0, 1, .int), (.iload 4, 2, 0, 0, 0, 4, .int), (.iload_n 3, 1, 0, 0, 0, 3, .int)]
theorem b_X1_restore_15 : isAt "GridStore$Grid" 5 false cX1_restore 15 k_X1_restore_15 = true := by decide +kernel
def k_X1_restore_39 : List En := [(.iadd, 1, 0, 0, 0, 0, .int), (.istore_n 2, 1, 0, 0, 0, 2, .int), (.iinc 4 1, 3, 0, 1, 0, 4, .int), (.goto (-29), 3, 15, 0, 0, 0, .int)]
theorem b_X1_restore_39 : isAt "GridStore$Grid" 5 false cX1_restore 39 k_X1_restore_39 = true := by decide +kernel
def k_X1_restore_47 : List En := [(.iinc 3 1, 3, 0, 1, 0, 3, .int), (.goto (-46), 3, 4, 0, 0, 0, .int)]
theorem b_X1_restore_47 : isAt "GridStore$Grid" 5 false cX1_restore 47 k_X1_restore_47 = true := by decide +kernel
def k_X1_restore_53 : List En := [(.iload_n 2, 1, 0, 0, 0, 2, .int)]
theorem b_X1_restore_53 : isAt "GridStore$Grid" 5 false cX1_restore 53 k_X1_restore_53 = true := by decide +kernel
def k_X1_unlike_0 : List En := [(.iload 4, 2, 0, 0, 0, 4, .int), (.bipush 8, 2, 0, 8, 0, 0, .int), (.imul, 1, 0, 0, 0, 0, .int), (.istore 5, 2, 0, 0, 0, 5, .int)]
theorem b_X1_unlike_0 : isAt "GridStore$Grid" 7 false cX1_unlike 0 k_X1_unlike_0 = true := by decide +kernel
def k_X1_unlike_7 : List En := [(.iload 5, 2, 0, 0, 0, 5, .int), (.aload_n 0, 1, 0, 0, 0, 0, .int), (.iload 4, 2, 0, 0, 0, 4, .int)]
theorem b_X1_unlike_7 : isAt "GridStore$Grid" 7 false cX1_unlike 7 k_X1_unlike_7 = true := by decide +kernel
def k_X1_unlike_15 : List En := [(.if_icmp .ge 53, 3, 68, 0, 0, 0, .int), (.iload_n 3, 1, 0, 0, 0, 3, .int), (.bipush 8, 2, 0, 8, 0, 0, .int), (.imul, 1, 0, 0, 0, 0, .int), (.istore 6, 2, 0, 0, 0, 6, .int)]
theorem b_X1_unlike_15 : isAt "GridStore$Grid" 7 false cX1_unlike 15 k_X1_unlike_15 = true := by decide +kernel
def k_X1_unlike_24 : List En := [(.iload 6, 2, 0, 0, 0, 6, .int), (.aload_n 0, 1, 0, 0, 0, 0, .int), (.iload_n 3, 1, 0, 0, 0, 3, .int)]
theorem b_X1_unlike_24 : isAt "GridStore$Grid" 7 false cX1_unlike 24 k_X1_unlike_24 = true := by decide +kernel
def k_X1_unlike_31 : List En := [(.if_icmp .ge 31, 3, 62, 0, 0, 0, .int), (.aload_n 1, 1, 0, 0, 0, 1, .int), (.iload 6, 2, 0, 0, 0, 6, .int), (.iload 5, 2, 0, 0, 0, 5, .int)]
theorem b_X1_unlike_31 : isAt "GridStore$Grid" 7 false cX1_unlike 31 k_X1_unlike_31 = true := by decide +kernel
def k_X1_unlike_42 : List En := [(.aload_n 2, 1, 0, 0, 0, 2, .int), (.iload 6, 2, 0, 0, 0, 6, .int), (.iload 5, 2, 0, 0, 0, 5, .int)]
theorem b_X1_unlike_42 : isAt "GridStore$Grid" 7 false cX1_unlike 42 k_X1_unlike_42 = true := by decide +kernel
def k_X1_unlike_50 : List En := [(.lcmp, 1, 0, 0, 0, 0, .int), (.ifCond .eq 5, 3, 56, 0, 0, 0, .int), (.iconst 1, 1, 0, 1, 0, 0, .int)]
theorem b_X1_unlike_50 : isAt "GridStore$Grid" 7 false cX1_unlike 50 k_X1_unlike_50 = true := by decide +kernel
def k_X1_unlike_56 : List En := [(.iinc 6 1, 3, 0, 1, 0, 6, .int), (.goto (-35), 3, 24, 0, 0, 0, .int)]
theorem b_X1_unlike_56 : isAt "GridStore$Grid" 7 false cX1_unlike 56 k_X1_unlike_56 = true := by decide +kernel
def k_X1_unlike_62 : List En := [(.iinc 5 1, 3, 0, 1, 0, 5, .int), (.goto (-58), 3, 7, 0, 0, 0, .int)]
theorem b_X1_unlike_62 : isAt "GridStore$Grid" 7 false cX1_unlike 62 k_X1_unlike_62 = true := by decide +kernel
def k_X1_unlike_68 : List En := [(.iconst 0, 1, 0, 0, 0, 0, .int)]
theorem b_X1_unlike_68 : isAt "GridStore$Grid" 7 false cX1_unlike 68 k_X1_unlike_68 = true := by decide +kernel
def k_X1_unlikePieces_0 : List En := [(.iconst 0, 1, 0, 0, 0, 0, .int), (.istore_n 3, 1, 0, 0, 0, 3, .int), (.iconst 0, 1, 0, 0, 0, 0, .int), (.istore 4, 2, 0, 0, 0, 4, .int)]
theorem b_X1_unlikePieces_0 : isAt "GridStore$Grid" 6 false cX1_unlikePieces 0 k_X1_unlikePieces_0 = true := by decide +kernel
def k_X1_unlikePieces_5 : List En := [(.iload 4, 2, 0, 0, 0, 4, .int), (.aload_n 0, 1, 0, 0, 0, 0, .int)]
theorem b_X1_unlikePieces_5 : isAt "GridStore$Grid" 6 false cX1_unlikePieces 5 k_X1_unlikePieces_5 = true := by decide +kernel
def k_X1_unlikePieces_11 : List En := [(.if_icmp .ge 48, 3, 59, 0, 0, 0, .int), (.iconst 0, 1, 0, 0, 0, 0, .int), (.istore 5, 2, 0, 0, 0, 5, .int)]
theorem b_X1_unlikePieces_11 : isAt "GridStore$Grid" 6 false cX1_unlikePieces 11 k_X1_unlikePieces_11 = true := by decide +kernel
def k_X1_unlikePieces_17 : List En := [(.iload 5, 2, 0, 0, 0, 5, .int), (.aload_n 0, 1, 0, 0, 0, 0, .int)]
theorem b_X1_unlikePieces_17 : isAt "GridStore$Grid" 6 false cX1_unlikePieces 17 k_X1_unlikePieces_17 = true := by decide +kernel
def k_X1_unlikePieces_23 : List En := [(.if_icmp .ge 30, 3, 53, 0, 0, 0, .int), (.iload_n 3, 1, 0, 0, 0, 3, .int), (.aload_n 0, 1, 0, 0, 0, 0, .int), (.aload_n 1, 1, 0, 0, 0, 1, .int), (.aload_n 2, 1, 0, 0, 0, 2, .int), (.iload 5, 2, 0, 0, 0, 5, .int), (.iload 4, 2, 0, 0, 0, 4, .int)]
theorem b_X1_unlikePieces_23 : isAt "GridStore$Grid" 6 false cX1_unlikePieces 23 k_X1_unlikePieces_23 = true := by decide +kernel
def k_X1_unlikePieces_37 : List En := [(.ifCond .eq 7, 3, 44, 0, 0, 0, .int), (.iconst 1, 1, 0, 1, 0, 0, .int), (.goto 4, 3, 45, 0, 0, 0, .int)]
theorem b_X1_unlikePieces_37 : isAt "GridStore$Grid" 6 false cX1_unlikePieces 37 k_X1_unlikePieces_37 = true := by decide +kernel
def k_X1_unlikePieces_44 : List En := [(.iconst 0, 1, 0, 0, 0, 0, .int)]
theorem b_X1_unlikePieces_44 : isAt "GridStore$Grid" 6 false cX1_unlikePieces 44 k_X1_unlikePieces_44 = true := by decide +kernel
def k_X1_unlikePieces_45 : List En := [(.iadd, 1, 0, 0, 0, 0, .int), (.istore_n 3, 1, 0, 0, 0, 3, .int), (.iinc 5 1, 3, 0, 1, 0, 5, .int), (.goto (-33), 3, 17, 0, 0, 0, .int)]
theorem b_X1_unlikePieces_45 : isAt "GridStore$Grid" 6 false cX1_unlikePieces 45 k_X1_unlikePieces_45 = true := by decide +kernel
def k_X1_unlikePieces_53 : List En := [(.iinc 4 1, 3, 0, 1, 0, 4, .int), (.goto (-51), 3, 5, 0, 0, 0, .int)]
theorem b_X1_unlikePieces_53 : isAt "GridStore$Grid" 6 false cX1_unlikePieces 53 k_X1_unlikePieces_53 = true := by decide +kernel
def k_X1_unlikePieces_59 : List En := [(.iload_n 3, 1, 0, 0, 0, 3, .int)]
theorem b_X1_unlikePieces_59 : isAt "GridStore$Grid" 6 false cX1_unlikePieces 59 k_X1_unlikePieces_59 = true := by decide +kernel
def k_X1_writable_0 : List En := [(.aload_n 0, 1, 0, 0, 0, 0, .int), (.getfield 27, 3, 0, 0, 1, 2, (.object "GridStore$Hosts")), (.iload_n 1, 1, 0, 0, 0, 1, .int), (.bipush 8, 2, 0, 8, 0, 0, .int), (.idiv, 1, 0, 0, 0, 0, .int), (.iload_n 2, 1, 0, 0, 0, 2, .int), (.bipush 8, 2, 0, 8, 0, 0, .int), (.idiv, 1, 0, 0, 0, 0, .int)]
theorem b_X1_writable_0 : isAt "GridStore$Grid" 3 false cX1_writable 0 k_X1_writable_0 = true := by decide +kernel
def k_X1_writable_15 : List En := [(.ifCond .ne 7, 3, 22, 0, 0, 0, .int), (.iconst 1, 1, 0, 1, 0, 0, .int), (.goto 4, 3, 23, 0, 0, 0, .int)]
theorem b_X1_writable_15 : isAt "GridStore$Grid" 3 false cX1_writable 15 k_X1_writable_15 = true := by decide +kernel
def k_X1_writable_22 : List En := [(.iconst 0, 1, 0, 0, 0, 0, .int)]
theorem b_X1_writable_22 : isAt "GridStore$Grid" 3 false cX1_writable 22 k_X1_writable_22 = true := by decide +kernel
def k_X1_write_0 : List En := [(.aload_n 0, 1, 0, 0, 0, 0, .int), (.iload_n 1, 1, 0, 0, 0, 1, .int), (.iload_n 2, 1, 0, 0, 0, 2, .int)]
theorem b_X1_write_0 : isAt "GridStore$Grid" 5 false cX1_write 0 k_X1_write_0 = true := by decide +kernel
def k_X1_write_6 : List En := [(.ifCond .eq 20, 3, 26, 0, 0, 0, .int), (.aload_n 0, 1, 0, 0, 0, 0, .int), (.getfield 34, 3, 0, 0, 1, 3, (.object "GridStore$Cells")), (.iload_n 1, 1, 0, 0, 0, 1, .int), (.iload_n 2, 1, 0, 0, 0, 2, .int), (.lload_n 3, 1, 0, 0, 0, 3, .int)]
theorem b_X1_write_6 : isAt "GridStore$Grid" 5 false cX1_write 6 k_X1_write_6 = true := by decide +kernel
def k_X1_write_19 : List En := [(.ifCond .eq 7, 3, 26, 0, 0, 0, .int), (.iconst 1, 1, 0, 1, 0, 0, .int), (.goto 4, 3, 27, 0, 0, 0, .int)]
theorem b_X1_write_19 : isAt "GridStore$Grid" 5 false cX1_write 19 k_X1_write_19 = true := by decide +kernel
def k_X1_write_26 : List En := [(.iconst 0, 1, 0, 0, 0, 0, .int)]
theorem b_X1_write_26 : isAt "GridStore$Grid" 5 false cX1_write 26 k_X1_write_26 = true := by decide +kernel
def k_X2_bothLost_0 : List En := [(.iload_n 1, 1, 0, 0, 0, 1, .int), (.iload_n 2, 1, 0, 0, 0, 2, .int), (.iadd, 1, 0, 0, 0, 0, .int), (.iconst 5, 1, 0, 5, 0, 0, .int), (.irem, 1, 0, 0, 0, 0, .int), (.istore_n 3, 1, 0, 0, 0, 3, .int), (.aload_n 0, 1, 0, 0, 0, 0, .int), (.iload_n 3, 1, 0, 0, 0, 3, .int)]
theorem b_X2_bothLost_0 : isAt "GridStore$Hosts" 4 false cX2_bothLost 0 k_X2_bothLost_0 = true := by decide +kernel
def k_X2_bothLost_11 : List En := [(.ifCond .eq 19, 3, 30, 0, 0, 0, .int), (.aload_n 0, 1, 0, 0, 0, 0, .int), (.iload_n 3, 1, 0, 0, 0, 3, .int), (.iconst 1, 1, 0, 1, 0, 0, .int), (.iadd, 1, 0, 0, 0, 0, .int), (.iconst 5, 1, 0, 5, 0, 0, .int), (.irem, 1, 0, 0, 0, 0, .int)]
theorem b_X2_bothLost_11 : isAt "GridStore$Hosts" 4 false cX2_bothLost 11 k_X2_bothLost_11 = true := by decide +kernel
def k_X2_bothLost_23 : List En := [(.ifCond .eq 7, 3, 30, 0, 0, 0, .int), (.iconst 1, 1, 0, 1, 0, 0, .int), (.goto 4, 3, 31, 0, 0, 0, .int)]
theorem b_X2_bothLost_23 : isAt "GridStore$Hosts" 4 false cX2_bothLost 23 k_X2_bothLost_23 = true := by decide +kernel
def k_X2_bothLost_30 : List En := [(.iconst 0, 1, 0, 0, 0, 0, .int)]
theorem b_X2_bothLost_30 : isAt "GridStore$Hosts" 4 false cX2_bothLost 30 k_X2_bothLost_30 = true := by decide +kernel
def k_X2_init_0 : List En := [(.aload_n 0, 1, 0, 0, 0, 0, .int)]
theorem b_X2_init_0 : isAt "GridStore$Hosts" 1 true cX2_init 0 k_X2_init_0 = true := by decide +kernel
def k_X2_init_4 : List En := [(.aload_n 0, 1, 0, 0, 0, 0, .int), (.iconst 5, 1, 0, 5, 0, 0, .int)]
theorem b_X2_init_4 : isAt "GridStore$Hosts" 1 true cX2_init 4 k_X2_init_4 = true := by decide +kernel
def k_X2_init_8 : List En := [(.putfield 9, 3, 0, 0, 2, 0, (.array .boolean))]
theorem b_X2_init_8 : isAt "GridStore$Hosts" 1 true cX2_init 8 k_X2_init_8 = true := by decide +kernel
def k_X2_isLost_0 : List En := [(.iload_n 1, 1, 0, 0, 0, 1, .int), (.ifCond .lt 25, 3, 26, 0, 0, 0, .int), (.iload_n 1, 1, 0, 0, 0, 1, .int), (.aload_n 0, 1, 0, 0, 0, 0, .int), (.getfield 9, 3, 0, 0, 2, 0, (.array .boolean)), (.arraylength, 1, 0, 0, 0, 0, .int), (.if_icmp .ge 16, 3, 26, 0, 0, 0, .int), (.aload_n 0, 1, 0, 0, 0, 0, .int), (.getfield 9, 3, 0, 0, 2, 0, (.array .boolean)), (.iload_n 1, 1, 0, 0, 0, 1, .int), (.baload, 1, 0, 0, 0, 0, .int), (.ifCond .eq 7, 3, 26, 0, 0, 0, .int), (.iconst 1, 1, 0, 1, 0, 0, .int), (.goto 4, 3, 27, 0, 0, 0, .int)]
theorem b_X2_isLost_0 : isAt "GridStore$Hosts" 2 false cX2_isLost 0 k_X2_isLost_0 = true := by decide +kernel
def k_X2_isLost_26 : List En := [(.iconst 0, 1, 0, 0, 0, 0, .int)]
theorem b_X2_isLost_26 : isAt "GridStore$Hosts" 2 false cX2_isLost 26 k_X2_isLost_26 = true := by decide +kernel
def k_X2_lostOnes_0 : List En := [(.iconst 0, 1, 0, 0, 0, 0, .int), (.istore_n 1, 1, 0, 0, 0, 1, .int), (.iconst 0, 1, 0, 0, 0, 0, .int), (.istore_n 2, 1, 0, 0, 0, 2, .int)]
theorem b_X2_lostOnes_0 : isAt "GridStore$Hosts" 3 false cX2_lostOnes 0 k_X2_lostOnes_0 = true := by decide +kernel
def k_X2_lostOnes_4 : List En := [(.iload_n 2, 1, 0, 0, 0, 2, .int), (.aload_n 0, 1, 0, 0, 0, 0, .int), (.getfield 9, 3, 0, 0, 2, 0, (.array .boolean)), (.arraylength, 1, 0, 0, 0, 0, .int), (.if_icmp .ge 21, 3, 31, 0, 0, 0, .int), (.aload_n 0, 1, 0, 0, 0, 0, .int), (.getfield 9, 3, 0, 0, 2, 0, (.array .boolean)), (.iload_n 2, 1, 0, 0, 0, 2, .int), (.baload, 1, 0, 0, 0, 0, .int), (.ifCond .eq 6, 3, 25, 0, 0, 0, .int), (.iinc 1 1, 3, 0, 1, 0, 1, .int)]
theorem b_X2_lostOnes_4 : isAt "GridStore$Hosts" 3 false cX2_lostOnes 4 k_X2_lostOnes_4 = true := by decide +kernel
def k_X2_lostOnes_25 : List En := [(.iinc 2 1, 3, 0, 1, 0, 2, .int), (.goto (-24), 3, 4, 0, 0, 0, .int)]
theorem b_X2_lostOnes_25 : isAt "GridStore$Hosts" 3 false cX2_lostOnes 25 k_X2_lostOnes_25 = true := by decide +kernel
def k_X2_lostOnes_31 : List En := [(.iload_n 1, 1, 0, 0, 0, 1, .int)]
theorem b_X2_lostOnes_31 : isAt "GridStore$Hosts" 3 false cX2_lostOnes 31 k_X2_lostOnes_31 = true := by decide +kernel
def k_X2_mark_0 : List En := [(.iload_n 1, 1, 0, 0, 0, 1, .int), (.ifCond .lt 22, 3, 23, 0, 0, 0, .int), (.iload_n 1, 1, 0, 0, 0, 1, .int), (.aload_n 0, 1, 0, 0, 0, 0, .int), (.getfield 9, 3, 0, 0, 2, 0, (.array .boolean)), (.arraylength, 1, 0, 0, 0, 0, .int), (.if_icmp .ge 13, 3, 23, 0, 0, 0, .int), (.aload_n 0, 1, 0, 0, 0, 0, .int), (.getfield 9, 3, 0, 0, 2, 0, (.array .boolean)), (.iload_n 1, 1, 0, 0, 0, 1, .int), (.baload, 1, 0, 0, 0, 0, .int), (.iload_n 2, 1, 0, 0, 0, 2, .int), (.if_icmp .ne 5, 3, 25, 0, 0, 0, .int)]
theorem b_X2_mark_0 : isAt "GridStore$Hosts" 3 false cX2_mark 0 k_X2_mark_0 = true := by decide +kernel
def k_X2_mark_23 : List En := [(.iconst 0, 1, 0, 0, 0, 0, .int)]
theorem b_X2_mark_23 : isAt "GridStore$Hosts" 3 false cX2_mark 23 k_X2_mark_23 = true := by decide +kernel
def k_X2_mark_25 : List En := [(.aload_n 0, 1, 0, 0, 0, 0, .int), (.getfield 9, 3, 0, 0, 2, 0, (.array .boolean)), (.iload_n 1, 1, 0, 0, 0, 1, .int), (.iload_n 2, 1, 0, 0, 0, 2, .int), (.bastore, 1, 0, 0, 0, 0, .int), (.iconst 1, 1, 0, 1, 0, 0, .int)]
theorem b_X2_mark_25 : isAt "GridStore$Hosts" 3 false cX2_mark 25 k_X2_mark_25 = true := by decide +kernel
def k_X3_gather_0 : List En := [(.aload_n 0, 1, 0, 0, 0, 0, .int), (.aload_n 1, 1, 0, 0, 0, 1, .int), (.getfield 26, 3, 0, 0, 4, 1, .int), (.putfield 19, 3, 0, 0, 3, 2, .int), (.aload_n 0, 1, 0, 0, 0, 0, .int), (.aload_n 1, 1, 0, 0, 0, 1, .int), (.getfield 29, 3, 0, 0, 4, 2, .int), (.putfield 23, 3, 0, 0, 3, 3, .int), (.iconst 1, 1, 0, 1, 0, 0, .int), (.istore_n 2, 1, 0, 0, 0, 2, .int)]
theorem b_X3_gather_0 : isAt "GridStore$Totals" 3 false cX3_gather 0 k_X3_gather_0 = true := by decide +kernel
def k_X3_gather_18 : List En := [(.iload_n 2, 1, 0, 0, 0, 2, .int), (.aload_n 0, 1, 0, 0, 0, 0, .int), (.getfield 23, 3, 0, 0, 3, 3, .int), (.if_icmp .gt 15, 3, 38, 0, 0, 0, .int), (.aload_n 0, 1, 0, 0, 0, 0, .int), (.aload_n 1, 1, 0, 0, 0, 1, .int), (.iload_n 2, 1, 0, 0, 0, 2, .int)]
theorem b_X3_gather_18 : isAt "GridStore$Totals" 3 false cX3_gather 18 k_X3_gather_18 = true := by decide +kernel
def k_X3_gather_32 : List En := [(.iinc 2 1, 3, 0, 1, 0, 2, .int), (.goto (-17), 3, 18, 0, 0, 0, .int)]
theorem b_X3_gather_32 : isAt "GridStore$Totals" 3 false cX3_gather 32 k_X3_gather_32 = true := by decide +kernel
def k_X3_gatherRow_0 : List En := [(.lconst 0, 1, 0, 0, 0, 0, .int), (.lstore_n 3, 1, 0, 0, 0, 3, .int), (.iconst 0, 1, 0, 0, 0, 0, .int), (.istore 5, 2, 0, 0, 0, 5, .int), (.iconst 1, 1, 0, 1, 0, 0, .int), (.istore 6, 2, 0, 0, 0, 6, .int)]
theorem b_X3_gatherRow_0 : isAt "GridStore$Totals" 9 false cX3_gatherRow 0 k_X3_gatherRow_0 = true := by decide +kernel
def k_X3_gatherRow_8 : List En := [(.iload 6, 2, 0, 0, 0, 6, .int), (.aload_n 0, 1, 0, 0, 0, 0, .int), (.getfield 19, 3, 0, 0, 3, 2, .int), (.if_icmp .gt 69, 3, 83, 0, 0, 0, .int), (.aload_n 1, 1, 0, 0, 0, 1, .int), (.iload 6, 2, 0, 0, 0, 6, .int), (.iconst 1, 1, 0, 1, 0, 0, .int), (.isub, 1, 0, 0, 0, 0, .int), (.iload_n 2, 1, 0, 0, 0, 2, .int), (.iconst 1, 1, 0, 1, 0, 0, .int), (.isub, 1, 0, 0, 0, 0, .int)]
theorem b_X3_gatherRow_8 : isAt "GridStore$Totals" 9 false cX3_gatherRow 8 k_X3_gatherRow_8 = true := by decide +kernel
def k_X3_gatherRow_28 : List En := [(.lstore 7, 2, 0, 0, 0, 7, .int), (.lload 7, 2, 0, 0, 0, 7, .int), (.ldc2_w 38, 3, 0, 0, 0, 0, .int), (.lcmp, 1, 0, 0, 0, 0, .int), (.ifCond .eq 11, 3, 47, 0, 0, 0, .int), (.lload_n 3, 1, 0, 0, 0, 3, .int), (.lload 7, 2, 0, 0, 0, 7, .int), (.ladd, 1, 0, 0, 0, 0, .int), (.lstore_n 3, 1, 0, 0, 0, 3, .int), (.iinc 5 1, 3, 0, 1, 0, 5, .int)]
theorem b_X3_gatherRow_28 : isAt "GridStore$Totals" 9 false cX3_gatherRow 28 k_X3_gatherRow_28 = true := by decide +kernel
def k_X3_gatherRow_47 : List En := [(.aload_n 0, 1, 0, 0, 0, 0, .int), (.iload 6, 2, 0, 0, 0, 6, .int), (.iload_n 2, 1, 0, 0, 0, 2, .int), (.aload_n 0, 1, 0, 0, 0, 0, .int), (.iload 6, 2, 0, 0, 0, 6, .int), (.iload_n 2, 1, 0, 0, 0, 2, .int), (.iconst 1, 1, 0, 1, 0, 0, .int), (.isub, 1, 0, 0, 0, 0, .int)]
theorem b_X3_gatherRow_47 : isAt "GridStore$Totals" 9 false cX3_gatherRow 47 k_X3_gatherRow_47 = true := by decide +kernel
def k_X3_gatherRow_60 : List En := [(.lload_n 3, 1, 0, 0, 0, 3, .int), (.ladd, 1, 0, 0, 0, 0, .int), (.aload_n 0, 1, 0, 0, 0, 0, .int), (.iload 6, 2, 0, 0, 0, 6, .int), (.iload_n 2, 1, 0, 0, 0, 2, .int), (.iconst 1, 1, 0, 1, 0, 0, .int), (.isub, 1, 0, 0, 0, 0, .int)]
theorem b_X3_gatherRow_60 : isAt "GridStore$Totals" 9 false cX3_gatherRow 60 k_X3_gatherRow_60 = true := by decide +kernel
def k_X3_gatherRow_71 : List En := [(.iload 5, 2, 0, 0, 0, 5, .int), (.iadd, 1, 0, 0, 0, 0, .int)]
theorem b_X3_gatherRow_71 : isAt "GridStore$Totals" 9 false cX3_gatherRow 71 k_X3_gatherRow_71 = true := by decide +kernel
def k_X3_gatherRow_77 : List En := [(.iinc 6 1, 3, 0, 1, 0, 6, .int), (.goto (-72), 3, 8, 0, 0, 0, .int)]
theorem b_X3_gatherRow_77 : isAt "GridStore$Totals" 9 false cX3_gatherRow 77 k_X3_gatherRow_77 = true := by decide +kernel
def k_X3_indexOf_0 : List En := [(.iload_n 1, 1, 0, 0, 0, 1, .int), (.iconst 1, 1, 0, 1, 0, 0, .int), (.if_icmp .lt 39, 3, 41, 0, 0, 0, .int), (.iload_n 1, 1, 0, 0, 0, 1, .int), (.aload_n 0, 1, 0, 0, 0, 0, .int), (.getfield 19, 3, 0, 0, 3, 2, .int), (.if_icmp .gt 31, 3, 41, 0, 0, 0, .int), (.iload_n 2, 1, 0, 0, 0, 2, .int), (.iconst 1, 1, 0, 1, 0, 0, .int), (.if_icmp .lt 26, 3, 41, 0, 0, 0, .int), (.iload_n 2, 1, 0, 0, 0, 2, .int), (.aload_n 0, 1, 0, 0, 0, 0, .int), (.getfield 23, 3, 0, 0, 3, 3, .int), (.if_icmp .gt 18, 3, 41, 0, 0, 0, .int), (.iload_n 2, 1, 0, 0, 0, 2, .int), (.iconst 1, 1, 0, 1, 0, 0, .int), (.isub, 1, 0, 0, 0, 0, .int), (.aload_n 0, 1, 0, 0, 0, 0, .int), (.getfield 19, 3, 0, 0, 3, 2, .int), (.imul, 1, 0, 0, 0, 0, .int), (.iload_n 1, 1, 0, 0, 0, 1, .int), (.iadd, 1, 0, 0, 0, 0, .int), (.iconst 1, 1, 0, 1, 0, 0, .int), (.isub, 1, 0, 0, 0, 0, .int), (.goto 4, 3, 42, 0, 0, 0, .int)]
theorem b_X3_indexOf_0 : isAt "GridStore$Totals" 3 false cX3_indexOf 0 k_X3_indexOf_0 = true := by decide +kernel
def k_X3_indexOf_41 : List En := [(.iconst (-1), 1, 0, (-1), 0, 0, .int)]
theorem b_X3_indexOf_41 : isAt "GridStore$Totals" 3 false cX3_indexOf 41 k_X3_indexOf_41 = true := by decide +kernel
def k_X3_init_0 : List En := [(.aload_n 0, 1, 0, 0, 0, 0, .int)]
theorem b_X3_init_0 : isAt "GridStore$Totals" 1 true cX3_init 0 k_X3_init_0 = true := by decide +kernel
def k_X3_init_4 : List En := [(.aload_n 0, 1, 0, 0, 0, 0, .int), (.sipush 1920, 3, 0, 1920, 0, 0, .int)]
theorem b_X3_init_4 : isAt "GridStore$Totals" 1 true cX3_init 4 k_X3_init_4 = true := by decide +kernel
def k_X3_init_10 : List En := [(.putfield 9, 3, 0, 0, 3, 0, (.array .long)), (.aload_n 0, 1, 0, 0, 0, 0, .int), (.sipush 1920, 3, 0, 1920, 0, 0, .int)]
theorem b_X3_init_10 : isAt "GridStore$Totals" 1 true cX3_init 10 k_X3_init_10 = true := by decide +kernel
def k_X3_init_19 : List En := [(.putfield 15, 3, 0, 0, 3, 1, (.array .int)), (.aload_n 0, 1, 0, 0, 0, 0, .int), (.iconst 0, 1, 0, 0, 0, 0, .int), (.putfield 19, 3, 0, 0, 3, 2, .int), (.aload_n 0, 1, 0, 0, 0, 0, .int), (.iconst 0, 1, 0, 0, 0, 0, .int), (.putfield 23, 3, 0, 0, 3, 3, .int)]
theorem b_X3_init_19 : isAt "GridStore$Totals" 1 true cX3_init 19 k_X3_init_19 = true := by decide +kernel
def k_X3_meanCell_0 : List En := [(.aload_n 0, 1, 0, 0, 0, 0, .int), (.iload_n 1, 1, 0, 0, 0, 1, .int), (.iload_n 2, 1, 0, 0, 0, 2, .int), (.iload_n 3, 1, 0, 0, 0, 3, .int), (.iload 4, 2, 0, 0, 0, 4, .int)]
theorem b_X3_meanCell_0 : isAt "GridStore$Totals" 6 false cX3_meanCell 0 k_X3_meanCell_0 = true := by decide +kernel
def k_X3_meanCell_9 : List En := [(.istore 5, 2, 0, 0, 0, 5, .int), (.iload 5, 2, 0, 0, 0, 5, .int), (.ifCond .ne 9, 3, 22, 0, 0, 0, .int), (.ldc2_w 38, 3, 0, 0, 0, 0, .int), (.goto 18, 3, 37, 0, 0, 0, .int)]
theorem b_X3_meanCell_9 : isAt "GridStore$Totals" 6 false cX3_meanCell 9 k_X3_meanCell_9 = true := by decide +kernel
def k_X3_meanCell_22 : List En := [(.aload_n 0, 1, 0, 0, 0, 0, .int), (.iload_n 1, 1, 0, 0, 0, 1, .int), (.iload_n 2, 1, 0, 0, 0, 2, .int), (.iload_n 3, 1, 0, 0, 0, 3, .int), (.iload 4, 2, 0, 0, 0, 4, .int)]
theorem b_X3_meanCell_22 : isAt "GridStore$Totals" 6 false cX3_meanCell 22 k_X3_meanCell_22 = true := by decide +kernel
def k_X3_meanCell_31 : List En := [(.iload 5, 2, 0, 0, 0, 5, .int), (.i2l, 1, 0, 0, 0, 0, .int)]
theorem b_X3_meanCell_31 : isAt "GridStore$Totals" 6 false cX3_meanCell 31 k_X3_meanCell_31 = true := by decide +kernel
def k_X3_numbersIn_0 : List En := [(.iload_n 1, 1, 0, 0, 0, 1, .int), (.iconst 0, 1, 0, 0, 0, 0, .int)]
theorem b_X3_numbersIn_0 : isAt "GridStore$Totals" 9 false cX3_numbersIn 0 k_X3_numbersIn_0 = true := by decide +kernel
def k_X3_numbersIn_5 : List En := [(.istore 5, 2, 0, 0, 0, 5, .int), (.iload_n 2, 1, 0, 0, 0, 2, .int), (.iconst 0, 1, 0, 0, 0, 0, .int)]
theorem b_X3_numbersIn_5 : isAt "GridStore$Totals" 9 false cX3_numbersIn 5 k_X3_numbersIn_5 = true := by decide +kernel
def k_X3_numbersIn_12 : List En := [(.istore 6, 2, 0, 0, 0, 6, .int), (.iload_n 3, 1, 0, 0, 0, 3, .int), (.iconst 1, 1, 0, 1, 0, 0, .int), (.iadd, 1, 0, 0, 0, 0, .int), (.aload_n 0, 1, 0, 0, 0, 0, .int), (.getfield 19, 3, 0, 0, 3, 2, .int)]
theorem b_X3_numbersIn_12 : isAt "GridStore$Totals" 9 false cX3_numbersIn 12 k_X3_numbersIn_12 = true := by decide +kernel
def k_X3_numbersIn_24 : List En := [(.istore 7, 2, 0, 0, 0, 7, .int), (.iload 4, 2, 0, 0, 0, 4, .int), (.iconst 1, 1, 0, 1, 0, 0, .int), (.iadd, 1, 0, 0, 0, 0, .int), (.aload_n 0, 1, 0, 0, 0, 0, .int), (.getfield 23, 3, 0, 0, 3, 3, .int)]
theorem b_X3_numbersIn_24 : isAt "GridStore$Totals" 9 false cX3_numbersIn 24 k_X3_numbersIn_24 = true := by decide +kernel
def k_X3_numbersIn_37 : List En := [(.istore 8, 2, 0, 0, 0, 8, .int), (.aload_n 0, 1, 0, 0, 0, 0, .int), (.iload 7, 2, 0, 0, 0, 7, .int), (.iload 8, 2, 0, 0, 0, 8, .int)]
theorem b_X3_numbersIn_37 : isAt "GridStore$Totals" 9 false cX3_numbersIn 37 k_X3_numbersIn_37 = true := by decide +kernel
def k_X3_numbersIn_47 : List En := [(.aload_n 0, 1, 0, 0, 0, 0, .int), (.iload 5, 2, 0, 0, 0, 5, .int), (.iload 8, 2, 0, 0, 0, 8, .int)]
theorem b_X3_numbersIn_47 : isAt "GridStore$Totals" 9 false cX3_numbersIn 47 k_X3_numbersIn_47 = true := by decide +kernel
def k_X3_numbersIn_55 : List En := [(.isub, 1, 0, 0, 0, 0, .int), (.aload_n 0, 1, 0, 0, 0, 0, .int), (.iload 7, 2, 0, 0, 0, 7, .int), (.iload 6, 2, 0, 0, 0, 6, .int)]
theorem b_X3_numbersIn_55 : isAt "GridStore$Totals" 9 false cX3_numbersIn 55 k_X3_numbersIn_55 = true := by decide +kernel
def k_X3_numbersIn_64 : List En := [(.isub, 1, 0, 0, 0, 0, .int), (.aload_n 0, 1, 0, 0, 0, 0, .int), (.iload 5, 2, 0, 0, 0, 5, .int), (.iload 6, 2, 0, 0, 0, 6, .int)]
theorem b_X3_numbersIn_64 : isAt "GridStore$Totals" 9 false cX3_numbersIn 64 k_X3_numbersIn_64 = true := by decide +kernel
def k_X3_numbersIn_73 : List En := [(.iadd, 1, 0, 0, 0, 0, .int)]
theorem b_X3_numbersIn_73 : isAt "GridStore$Totals" 9 false cX3_numbersIn 73 k_X3_numbersIn_73 = true := by decide +kernel
def k_X3_numbersTo_0 : List En := [(.aload_n 0, 1, 0, 0, 0, 0, .int), (.iload_n 1, 1, 0, 0, 0, 1, .int), (.iload_n 2, 1, 0, 0, 0, 2, .int)]
theorem b_X3_numbersTo_0 : isAt "GridStore$Totals" 4 false cX3_numbersTo 0 k_X3_numbersTo_0 = true := by decide +kernel
def k_X3_numbersTo_6 : List En := [(.istore_n 3, 1, 0, 0, 0, 3, .int), (.iload_n 3, 1, 0, 0, 0, 3, .int), (.ifCond .lt 21, 3, 29, 0, 0, 0, .int), (.iload_n 3, 1, 0, 0, 0, 3, .int), (.aload_n 0, 1, 0, 0, 0, 0, .int), (.getfield 15, 3, 0, 0, 3, 1, (.array .int)), (.arraylength, 1, 0, 0, 0, 0, .int), (.if_icmp .ge 12, 3, 29, 0, 0, 0, .int), (.aload_n 0, 1, 0, 0, 0, 0, .int), (.getfield 15, 3, 0, 0, 3, 1, (.array .int)), (.iload_n 3, 1, 0, 0, 0, 3, .int), (.iaload, 1, 0, 0, 0, 0, .int), (.goto 4, 3, 30, 0, 0, 0, .int)]
theorem b_X3_numbersTo_6 : isAt "GridStore$Totals" 4 false cX3_numbersTo 6 k_X3_numbersTo_6 = true := by decide +kernel
def k_X3_numbersTo_29 : List En := [(.iconst 0, 1, 0, 0, 0, 0, .int)]
theorem b_X3_numbersTo_29 : isAt "GridStore$Totals" 4 false cX3_numbersTo 29 k_X3_numbersTo_29 = true := by decide +kernel
def k_X3_put_0 : List En := [(.aload_n 0, 1, 0, 0, 0, 0, .int), (.iload_n 1, 1, 0, 0, 0, 1, .int), (.iload_n 2, 1, 0, 0, 0, 2, .int)]
theorem b_X3_put_0 : isAt "GridStore$Totals" 7 false cX3_put 0 k_X3_put_0 = true := by decide +kernel
def k_X3_put_6 : List En := [(.istore 6, 2, 0, 0, 0, 6, .int), (.iload 6, 2, 0, 0, 0, 6, .int), (.ifCond .lt 40, 3, 50, 0, 0, 0, .int), (.iload 6, 2, 0, 0, 0, 6, .int), (.aload_n 0, 1, 0, 0, 0, 0, .int), (.getfield 9, 3, 0, 0, 3, 0, (.array .long)), (.arraylength, 1, 0, 0, 0, 0, .int), (.if_icmp .ge 30, 3, 50, 0, 0, 0, .int), (.iload 6, 2, 0, 0, 0, 6, .int), (.aload_n 0, 1, 0, 0, 0, 0, .int), (.getfield 15, 3, 0, 0, 3, 1, (.array .int)), (.arraylength, 1, 0, 0, 0, 0, .int), (.if_icmp .ge 20, 3, 50, 0, 0, 0, .int), (.aload_n 0, 1, 0, 0, 0, 0, .int), (.getfield 9, 3, 0, 0, 3, 0, (.array .long)), (.iload 6, 2, 0, 0, 0, 6, .int), (.lload_n 3, 1, 0, 0, 0, 3, .int), (.lastore, 1, 0, 0, 0, 0, .int), (.aload_n 0, 1, 0, 0, 0, 0, .int), (.getfield 15, 3, 0, 0, 3, 1, (.array .int)), (.iload 6, 2, 0, 0, 0, 6, .int), (.iload 5, 2, 0, 0, 0, 5, .int), (.iastore, 1, 0, 0, 0, 0, .int)]
theorem b_X3_put_6 : isAt "GridStore$Totals" 7 false cX3_put 6 k_X3_put_6 = true := by decide +kernel
def k_X3_sumCell_0 : List En := [(.aload_n 0, 1, 0, 0, 0, 0, .int), (.iload_n 1, 1, 0, 0, 0, 1, .int), (.iload_n 2, 1, 0, 0, 0, 2, .int), (.iload_n 3, 1, 0, 0, 0, 3, .int), (.iload 4, 2, 0, 0, 0, 4, .int)]
theorem b_X3_sumCell_0 : isAt "GridStore$Totals" 6 false cX3_sumCell 0 k_X3_sumCell_0 = true := by decide +kernel
def k_X3_sumCell_9 : List En := [(.istore 5, 2, 0, 0, 0, 5, .int), (.iload 5, 2, 0, 0, 0, 5, .int), (.ifCond .ne 9, 3, 22, 0, 0, 0, .int), (.ldc2_w 38, 3, 0, 0, 0, 0, .int), (.goto 14, 3, 33, 0, 0, 0, .int)]
theorem b_X3_sumCell_9 : isAt "GridStore$Totals" 6 false cX3_sumCell 9 k_X3_sumCell_9 = true := by decide +kernel
def k_X3_sumCell_22 : List En := [(.aload_n 0, 1, 0, 0, 0, 0, .int), (.iload_n 1, 1, 0, 0, 0, 1, .int), (.iload_n 2, 1, 0, 0, 0, 2, .int), (.iload_n 3, 1, 0, 0, 0, 3, .int), (.iload 4, 2, 0, 0, 0, 4, .int)]
theorem b_X3_sumCell_22 : isAt "GridStore$Totals" 6 false cX3_sumCell 22 k_X3_sumCell_22 = true := by decide +kernel
def k_X3_sumCell_31 : List En := [(.l2i, 1, 0, 0, 0, 0, .int), (.i2l, 1, 0, 0, 0, 0, .int)]
theorem b_X3_sumCell_31 : isAt "GridStore$Totals" 6 false cX3_sumCell 31 k_X3_sumCell_31 = true := by decide +kernel
def k_X3_sumOf_0 : List En := [(.iload_n 1, 1, 0, 0, 0, 1, .int), (.iconst 0, 1, 0, 0, 0, 0, .int)]
theorem b_X3_sumOf_0 : isAt "GridStore$Totals" 9 false cX3_sumOf 0 k_X3_sumOf_0 = true := by decide +kernel
def k_X3_sumOf_5 : List En := [(.istore 5, 2, 0, 0, 0, 5, .int), (.iload_n 2, 1, 0, 0, 0, 2, .int), (.iconst 0, 1, 0, 0, 0, 0, .int)]
theorem b_X3_sumOf_5 : isAt "GridStore$Totals" 9 false cX3_sumOf 5 k_X3_sumOf_5 = true := by decide +kernel
def k_X3_sumOf_12 : List En := [(.istore 6, 2, 0, 0, 0, 6, .int), (.iload_n 3, 1, 0, 0, 0, 3, .int), (.iconst 1, 1, 0, 1, 0, 0, .int), (.iadd, 1, 0, 0, 0, 0, .int), (.aload_n 0, 1, 0, 0, 0, 0, .int), (.getfield 19, 3, 0, 0, 3, 2, .int)]
theorem b_X3_sumOf_12 : isAt "GridStore$Totals" 9 false cX3_sumOf 12 k_X3_sumOf_12 = true := by decide +kernel
def k_X3_sumOf_24 : List En := [(.istore 7, 2, 0, 0, 0, 7, .int), (.iload 4, 2, 0, 0, 0, 4, .int), (.iconst 1, 1, 0, 1, 0, 0, .int), (.iadd, 1, 0, 0, 0, 0, .int), (.aload_n 0, 1, 0, 0, 0, 0, .int), (.getfield 23, 3, 0, 0, 3, 3, .int)]
theorem b_X3_sumOf_24 : isAt "GridStore$Totals" 9 false cX3_sumOf 24 k_X3_sumOf_24 = true := by decide +kernel
def k_X3_sumOf_37 : List En := [(.istore 8, 2, 0, 0, 0, 8, .int), (.aload_n 0, 1, 0, 0, 0, 0, .int), (.iload 7, 2, 0, 0, 0, 7, .int), (.iload 8, 2, 0, 0, 0, 8, .int)]
theorem b_X3_sumOf_37 : isAt "GridStore$Totals" 9 false cX3_sumOf 37 k_X3_sumOf_37 = true := by decide +kernel
def k_X3_sumOf_47 : List En := [(.aload_n 0, 1, 0, 0, 0, 0, .int), (.iload 5, 2, 0, 0, 0, 5, .int), (.iload 8, 2, 0, 0, 0, 8, .int)]
theorem b_X3_sumOf_47 : isAt "GridStore$Totals" 9 false cX3_sumOf 47 k_X3_sumOf_47 = true := by decide +kernel
def k_X3_sumOf_55 : List En := [(.lsub, 1, 0, 0, 0, 0, .int), (.aload_n 0, 1, 0, 0, 0, 0, .int), (.iload 7, 2, 0, 0, 0, 7, .int), (.iload 6, 2, 0, 0, 0, 6, .int)]
theorem b_X3_sumOf_55 : isAt "GridStore$Totals" 9 false cX3_sumOf 55 k_X3_sumOf_55 = true := by decide +kernel
def k_X3_sumOf_64 : List En := [(.lsub, 1, 0, 0, 0, 0, .int), (.aload_n 0, 1, 0, 0, 0, 0, .int), (.iload 5, 2, 0, 0, 0, 5, .int), (.iload 6, 2, 0, 0, 0, 6, .int)]
theorem b_X3_sumOf_64 : isAt "GridStore$Totals" 9 false cX3_sumOf 64 k_X3_sumOf_64 = true := by decide +kernel
def k_X3_sumOf_73 : List En := [(.ladd, 1, 0, 0, 0, 0, .int)]
theorem b_X3_sumOf_73 : isAt "GridStore$Totals" 9 false cX3_sumOf 73 k_X3_sumOf_73 = true := by decide +kernel
def k_X3_sumTo_0 : List En := [(.aload_n 0, 1, 0, 0, 0, 0, .int), (.iload_n 1, 1, 0, 0, 0, 1, .int), (.iload_n 2, 1, 0, 0, 0, 2, .int)]
theorem b_X3_sumTo_0 : isAt "GridStore$Totals" 4 false cX3_sumTo 0 k_X3_sumTo_0 = true := by decide +kernel
def k_X3_sumTo_6 : List En := [(.istore_n 3, 1, 0, 0, 0, 3, .int), (.iload_n 3, 1, 0, 0, 0, 3, .int), (.ifCond .lt 21, 3, 29, 0, 0, 0, .int), (.iload_n 3, 1, 0, 0, 0, 3, .int), (.aload_n 0, 1, 0, 0, 0, 0, .int), (.getfield 9, 3, 0, 0, 3, 0, (.array .long)), (.arraylength, 1, 0, 0, 0, 0, .int), (.if_icmp .ge 12, 3, 29, 0, 0, 0, .int), (.aload_n 0, 1, 0, 0, 0, 0, .int), (.getfield 9, 3, 0, 0, 3, 0, (.array .long)), (.iload_n 3, 1, 0, 0, 0, 3, .int), (.laload, 1, 0, 0, 0, 0, .int), (.goto 4, 3, 30, 0, 0, 0, .int)]
theorem b_X3_sumTo_6 : isAt "GridStore$Totals" 4 false cX3_sumTo 6 k_X3_sumTo_6 = true := by decide +kernel
def k_X3_sumTo_29 : List En := [(.lconst 0, 1, 0, 0, 0, 0, .int)]
theorem b_X3_sumTo_29 : isAt "GridStore$Totals" 4 false cX3_sumTo 29 k_X3_sumTo_29 = true := by decide +kernel
def k_X4_cell_0 : List En := [(.aload_n 0, 1, 0, 0, 0, 0, .int), (.getfield 34, 3, 0, 0, 4, 0, (.object "GridStore$Grid")), (.getfield 58, 3, 0, 0, 1, 3, (.object "GridStore$Cells")), (.aload_n 0, 1, 0, 0, 0, 0, .int), (.iload_n 1, 1, 0, 0, 0, 1, .int), (.iload_n 2, 1, 0, 0, 0, 2, .int)]
theorem b_X4_cell_0 : isAt "GridStore$Window" 3 false cX4_cell 0 k_X4_cell_0 = true := by decide +kernel
def k_X4_cell_13 : List En := [(.aload_n 0, 1, 0, 0, 0, 0, .int), (.iload_n 1, 1, 0, 0, 0, 1, .int), (.iload_n 2, 1, 0, 0, 0, 2, .int)]
theorem b_X4_cell_13 : isAt "GridStore$Window" 3 false cX4_cell 13 k_X4_cell_13 = true := by decide +kernel
def k_X4_flip_0 : List En := [(.aload_n 0, 1, 0, 0, 0, 0, .int), (.dup, 1, 0, 0, 0, 0, .int), (.getfield 9, 3, 0, 0, 4, 3, .int), (.aload_n 0, 1, 0, 0, 0, 0, .int), (.getfield 43, 3, 0, 0, 4, 1, .int), (.iconst 1, 1, 0, 1, 0, 0, .int), (.isub, 1, 0, 0, 0, 0, .int), (.aload_n 0, 1, 0, 0, 0, 0, .int), (.getfield 18, 3, 0, 0, 4, 5, .int), (.imul, 1, 0, 0, 0, 0, .int), (.iadd, 1, 0, 0, 0, 0, .int), (.putfield 9, 3, 0, 0, 4, 3, .int), (.aload_n 0, 1, 0, 0, 0, 0, .int), (.dup, 1, 0, 0, 0, 0, .int), (.getfield 15, 3, 0, 0, 4, 4, .int), (.aload_n 0, 1, 0, 0, 0, 0, .int), (.getfield 43, 3, 0, 0, 4, 1, .int), (.iconst 1, 1, 0, 1, 0, 0, .int), (.isub, 1, 0, 0, 0, 0, .int), (.aload_n 0, 1, 0, 0, 0, 0, .int), (.getfield 21, 3, 0, 0, 4, 6, .int), (.imul, 1, 0, 0, 0, 0, .int), (.iadd, 1, 0, 0, 0, 0, .int), (.putfield 15, 3, 0, 0, 4, 4, .int), (.aload_n 0, 1, 0, 0, 0, 0, .int), (.aload_n 0, 1, 0, 0, 0, 0, .int), (.getfield 18, 3, 0, 0, 4, 5, .int), (.ineg, 1, 0, 0, 0, 0, .int), (.putfield 18, 3, 0, 0, 4, 5, .int), (.aload_n 0, 1, 0, 0, 0, 0, .int), (.aload_n 0, 1, 0, 0, 0, 0, .int), (.getfield 21, 3, 0, 0, 4, 6, .int), (.ineg, 1, 0, 0, 0, 0, .int), (.putfield 21, 3, 0, 0, 4, 6, .int)]
theorem b_X4_flip_0 : isAt "GridStore$Window" 1 false cX4_flip 0 k_X4_flip_0 = true := by decide +kernel
def k_X4_gridX_0 : List En := [(.aload_n 0, 1, 0, 0, 0, 0, .int), (.getfield 9, 3, 0, 0, 4, 3, .int), (.iload_n 1, 1, 0, 0, 0, 1, .int), (.aload_n 0, 1, 0, 0, 0, 0, .int), (.getfield 18, 3, 0, 0, 4, 5, .int), (.imul, 1, 0, 0, 0, 0, .int), (.iadd, 1, 0, 0, 0, 0, .int), (.iload_n 2, 1, 0, 0, 0, 2, .int), (.aload_n 0, 1, 0, 0, 0, 0, .int), (.getfield 24, 3, 0, 0, 4, 7, .int), (.imul, 1, 0, 0, 0, 0, .int), (.iadd, 1, 0, 0, 0, 0, .int)]
theorem b_X4_gridX_0 : isAt "GridStore$Window" 3 false cX4_gridX 0 k_X4_gridX_0 = true := by decide +kernel
def k_X4_gridY_0 : List En := [(.aload_n 0, 1, 0, 0, 0, 0, .int), (.getfield 15, 3, 0, 0, 4, 4, .int), (.iload_n 1, 1, 0, 0, 0, 1, .int), (.aload_n 0, 1, 0, 0, 0, 0, .int), (.getfield 21, 3, 0, 0, 4, 6, .int), (.imul, 1, 0, 0, 0, 0, .int), (.iadd, 1, 0, 0, 0, 0, .int), (.iload_n 2, 1, 0, 0, 0, 2, .int), (.aload_n 0, 1, 0, 0, 0, 0, .int), (.getfield 27, 3, 0, 0, 4, 8, .int), (.imul, 1, 0, 0, 0, 0, .int), (.iadd, 1, 0, 0, 0, 0, .int)]
theorem b_X4_gridY_0 : isAt "GridStore$Window" 3 false cX4_gridY 0 k_X4_gridY_0 = true := by decide +kernel
def k_X4_init_0 : List En := [(.aload_n 0, 1, 0, 0, 0, 0, .int)]
theorem b_X4_init_0 : isAt "GridStore$Window" 2 true cX4_init 0 k_X4_init_0 = true := by decide +kernel
def k_X4_init_4 : List En := [(.aload_n 0, 1, 0, 0, 0, 0, .int), (.iconst 0, 1, 0, 0, 0, 0, .int), (.putfield 9, 3, 0, 0, 4, 3, .int), (.aload_n 0, 1, 0, 0, 0, 0, .int), (.iconst 0, 1, 0, 0, 0, 0, .int), (.putfield 15, 3, 0, 0, 4, 4, .int), (.aload_n 0, 1, 0, 0, 0, 0, .int), (.iconst 1, 1, 0, 1, 0, 0, .int), (.putfield 18, 3, 0, 0, 4, 5, .int), (.aload_n 0, 1, 0, 0, 0, 0, .int), (.iconst 0, 1, 0, 0, 0, 0, .int), (.putfield 21, 3, 0, 0, 4, 6, .int), (.aload_n 0, 1, 0, 0, 0, 0, .int), (.iconst 0, 1, 0, 0, 0, 0, .int), (.putfield 24, 3, 0, 0, 4, 7, .int), (.aload_n 0, 1, 0, 0, 0, 0, .int), (.iconst 1, 1, 0, 1, 0, 0, .int), (.putfield 27, 3, 0, 0, 4, 8, .int), (.aload_n 0, 1, 0, 0, 0, 0, .int), (.iconst 0, 1, 0, 0, 0, 0, .int), (.putfield 30, 3, 0, 0, 4, 9, .boolean), (.aload_n 0, 1, 0, 0, 0, 0, .int), (.aload_n 1, 1, 0, 0, 0, 1, .int), (.putfield 34, 3, 0, 0, 4, 0, (.object "GridStore$Grid")), (.aload_n 0, 1, 0, 0, 0, 0, .int), (.aload_n 1, 1, 0, 0, 0, 1, .int), (.getfield 38, 3, 0, 0, 1, 0, .int), (.putfield 43, 3, 0, 0, 4, 1, .int), (.aload_n 0, 1, 0, 0, 0, 0, .int), (.aload_n 1, 1, 0, 0, 0, 1, .int), (.getfield 44, 3, 0, 0, 1, 1, .int), (.putfield 47, 3, 0, 0, 4, 2, .int)]
theorem b_X4_init_4 : isAt "GridStore$Window" 2 true cX4_init 4 k_X4_init_4 = true := by decide +kernel
def k_X4_part_3 : List En := [(.dup, 1, 0, 0, 0, 0, .int), (.aload_n 0, 1, 0, 0, 0, 0, .int), (.getfield 34, 3, 0, 0, 4, 0, (.object "GridStore$Grid"))]
theorem b_X4_part_3 : isAt "GridStore$Window" 6 false cX4_part 3 k_X4_part_3 = true := by decide +kernel
def k_X4_part_11 : List En := [(.astore 5, 2, 0, 0, 0, 5, .int), (.aload 5, 2, 0, 0, 0, 5, .int), (.iload_n 3, 1, 0, 0, 0, 3, .int), (.putfield 43, 3, 0, 0, 4, 1, .int), (.aload 5, 2, 0, 0, 0, 5, .int), (.iload 4, 2, 0, 0, 0, 4, .int), (.putfield 47, 3, 0, 0, 4, 2, .int), (.aload 5, 2, 0, 0, 0, 5, .int), (.aload_n 0, 1, 0, 0, 0, 0, .int), (.iload_n 1, 1, 0, 0, 0, 1, .int), (.iload_n 2, 1, 0, 0, 0, 2, .int)]
theorem b_X4_part_11 : isAt "GridStore$Window" 6 false cX4_part 11 k_X4_part_11 = true := by decide +kernel
def k_X4_part_34 : List En := [(.putfield 9, 3, 0, 0, 4, 3, .int), (.aload 5, 2, 0, 0, 0, 5, .int), (.aload_n 0, 1, 0, 0, 0, 0, .int), (.iload_n 1, 1, 0, 0, 0, 1, .int), (.iload_n 2, 1, 0, 0, 0, 2, .int)]
theorem b_X4_part_34 : isAt "GridStore$Window" 6 false cX4_part 34 k_X4_part_34 = true := by decide +kernel
def k_X4_part_45 : List En := [(.putfield 15, 3, 0, 0, 4, 4, .int), (.aload 5, 2, 0, 0, 0, 5, .int), (.aload_n 0, 1, 0, 0, 0, 0, .int), (.getfield 18, 3, 0, 0, 4, 5, .int), (.putfield 18, 3, 0, 0, 4, 5, .int), (.aload 5, 2, 0, 0, 0, 5, .int), (.aload_n 0, 1, 0, 0, 0, 0, .int), (.getfield 21, 3, 0, 0, 4, 6, .int), (.putfield 21, 3, 0, 0, 4, 6, .int), (.aload 5, 2, 0, 0, 0, 5, .int), (.aload_n 0, 1, 0, 0, 0, 0, .int), (.getfield 24, 3, 0, 0, 4, 7, .int), (.putfield 24, 3, 0, 0, 4, 7, .int), (.aload 5, 2, 0, 0, 0, 5, .int), (.aload_n 0, 1, 0, 0, 0, 0, .int), (.getfield 27, 3, 0, 0, 4, 8, .int), (.putfield 27, 3, 0, 0, 4, 8, .int), (.aload 5, 2, 0, 0, 0, 5, .int)]
theorem b_X4_part_45 : isAt "GridStore$Window" 6 false cX4_part 45 k_X4_part_45 = true := by decide +kernel
def k_X4_piecesUnder_0 : List En := [(.iload_n 1, 1, 0, 0, 0, 1, .int), (.iload_n 3, 1, 0, 0, 0, 3, .int), (.iadd, 1, 0, 0, 0, 0, .int), (.iconst 1, 1, 0, 1, 0, 0, .int), (.isub, 1, 0, 0, 0, 0, .int), (.istore 5, 2, 0, 0, 0, 5, .int), (.iload_n 2, 1, 0, 0, 0, 2, .int), (.iload 4, 2, 0, 0, 0, 4, .int), (.iadd, 1, 0, 0, 0, 0, .int), (.iconst 1, 1, 0, 1, 0, 0, .int), (.isub, 1, 0, 0, 0, 0, .int), (.istore 6, 2, 0, 0, 0, 6, .int), (.aload_n 0, 1, 0, 0, 0, 0, .int), (.iload 5, 2, 0, 0, 0, 5, .int), (.iload 6, 2, 0, 0, 0, 6, .int)]
theorem b_X4_piecesUnder_0 : isAt "GridStore$Window" 9 false cX4_piecesUnder 0 k_X4_piecesUnder_0 = true := by decide +kernel
def k_X4_piecesUnder_23 : List En := [(.bipush 8, 2, 0, 8, 0, 0, .int), (.idiv, 1, 0, 0, 0, 0, .int), (.aload_n 0, 1, 0, 0, 0, 0, .int), (.iload_n 1, 1, 0, 0, 0, 1, .int), (.iload_n 2, 1, 0, 0, 0, 2, .int)]
theorem b_X4_piecesUnder_23 : isAt "GridStore$Window" 9 false cX4_piecesUnder 23 k_X4_piecesUnder_23 = true := by decide +kernel
def k_X4_piecesUnder_32 : List En := [(.bipush 8, 2, 0, 8, 0, 0, .int), (.idiv, 1, 0, 0, 0, 0, .int), (.isub, 1, 0, 0, 0, 0, .int), (.istore 7, 2, 0, 0, 0, 7, .int), (.aload_n 0, 1, 0, 0, 0, 0, .int), (.iload 5, 2, 0, 0, 0, 5, .int), (.iload 6, 2, 0, 0, 0, 6, .int)]
theorem b_X4_piecesUnder_32 : isAt "GridStore$Window" 9 false cX4_piecesUnder 32 k_X4_piecesUnder_32 = true := by decide +kernel
def k_X4_piecesUnder_46 : List En := [(.bipush 8, 2, 0, 8, 0, 0, .int), (.idiv, 1, 0, 0, 0, 0, .int), (.aload_n 0, 1, 0, 0, 0, 0, .int), (.iload_n 1, 1, 0, 0, 0, 1, .int), (.iload_n 2, 1, 0, 0, 0, 2, .int)]
theorem b_X4_piecesUnder_46 : isAt "GridStore$Window" 9 false cX4_piecesUnder 46 k_X4_piecesUnder_46 = true := by decide +kernel
def k_X4_piecesUnder_55 : List En := [(.bipush 8, 2, 0, 8, 0, 0, .int), (.idiv, 1, 0, 0, 0, 0, .int), (.isub, 1, 0, 0, 0, 0, .int), (.istore 8, 2, 0, 0, 0, 8, .int), (.iload 7, 2, 0, 0, 0, 7, .int)]
theorem b_X4_piecesUnder_55 : isAt "GridStore$Window" 9 false cX4_piecesUnder 55 k_X4_piecesUnder_55 = true := by decide +kernel
def k_X4_piecesUnder_66 : List En := [(.iconst 1, 1, 0, 1, 0, 0, .int), (.iadd, 1, 0, 0, 0, 0, .int), (.iload 8, 2, 0, 0, 0, 8, .int)]
theorem b_X4_piecesUnder_66 : isAt "GridStore$Window" 9 false cX4_piecesUnder 66 k_X4_piecesUnder_66 = true := by decide +kernel
def k_X4_piecesUnder_73 : List En := [(.iconst 1, 1, 0, 1, 0, 0, .int), (.iadd, 1, 0, 0, 0, 0, .int), (.imul, 1, 0, 0, 0, 0, .int)]
theorem b_X4_piecesUnder_73 : isAt "GridStore$Window" 9 false cX4_piecesUnder 73 k_X4_piecesUnder_73 = true := by decide +kernel
def k_X4_turn_0 : List En := [(.aload_n 0, 1, 0, 0, 0, 0, .int), (.dup, 1, 0, 0, 0, 0, .int), (.getfield 9, 3, 0, 0, 4, 3, .int), (.aload_n 0, 1, 0, 0, 0, 0, .int), (.getfield 47, 3, 0, 0, 4, 2, .int), (.iconst 1, 1, 0, 1, 0, 0, .int), (.isub, 1, 0, 0, 0, 0, .int), (.aload_n 0, 1, 0, 0, 0, 0, .int), (.getfield 24, 3, 0, 0, 4, 7, .int), (.imul, 1, 0, 0, 0, 0, .int), (.iadd, 1, 0, 0, 0, 0, .int), (.putfield 9, 3, 0, 0, 4, 3, .int), (.aload_n 0, 1, 0, 0, 0, 0, .int), (.dup, 1, 0, 0, 0, 0, .int), (.getfield 15, 3, 0, 0, 4, 4, .int), (.aload_n 0, 1, 0, 0, 0, 0, .int), (.getfield 47, 3, 0, 0, 4, 2, .int), (.iconst 1, 1, 0, 1, 0, 0, .int), (.isub, 1, 0, 0, 0, 0, .int), (.aload_n 0, 1, 0, 0, 0, 0, .int), (.getfield 27, 3, 0, 0, 4, 8, .int), (.imul, 1, 0, 0, 0, 0, .int), (.iadd, 1, 0, 0, 0, 0, .int), (.putfield 15, 3, 0, 0, 4, 4, .int), (.aload_n 0, 1, 0, 0, 0, 0, .int), (.getfield 18, 3, 0, 0, 4, 5, .int), (.istore_n 1, 1, 0, 0, 0, 1, .int), (.aload_n 0, 1, 0, 0, 0, 0, .int), (.getfield 21, 3, 0, 0, 4, 6, .int), (.istore_n 2, 1, 0, 0, 0, 2, .int), (.aload_n 0, 1, 0, 0, 0, 0, .int), (.aload_n 0, 1, 0, 0, 0, 0, .int), (.getfield 24, 3, 0, 0, 4, 7, .int), (.ineg, 1, 0, 0, 0, 0, .int), (.putfield 18, 3, 0, 0, 4, 5, .int), (.aload_n 0, 1, 0, 0, 0, 0, .int), (.aload_n 0, 1, 0, 0, 0, 0, .int), (.getfield 27, 3, 0, 0, 4, 8, .int), (.ineg, 1, 0, 0, 0, 0, .int), (.putfield 21, 3, 0, 0, 4, 6, .int), (.aload_n 0, 1, 0, 0, 0, 0, .int), (.iload_n 1, 1, 0, 0, 0, 1, .int), (.putfield 24, 3, 0, 0, 4, 7, .int), (.aload_n 0, 1, 0, 0, 0, 0, .int), (.iload_n 2, 1, 0, 0, 0, 2, .int), (.putfield 27, 3, 0, 0, 4, 8, .int), (.aload_n 0, 1, 0, 0, 0, 0, .int), (.getfield 43, 3, 0, 0, 4, 1, .int), (.istore_n 3, 1, 0, 0, 0, 3, .int), (.aload_n 0, 1, 0, 0, 0, 0, .int), (.aload_n 0, 1, 0, 0, 0, 0, .int), (.getfield 47, 3, 0, 0, 4, 2, .int), (.putfield 43, 3, 0, 0, 4, 1, .int), (.aload_n 0, 1, 0, 0, 0, 0, .int), (.iload_n 3, 1, 0, 0, 0, 3, .int), (.putfield 47, 3, 0, 0, 4, 2, .int)]
theorem b_X4_turn_0 : isAt "GridStore$Window" 4 false cX4_turn 0 k_X4_turn_0 = true := by decide +kernel
def k_X4_writable_0 : List En := [(.aload_n 0, 1, 0, 0, 0, 0, .int), (.getfield 30, 3, 0, 0, 4, 9, .boolean), (.ifCond .ne 29, 3, 33, 0, 0, 0, .int), (.aload_n 0, 1, 0, 0, 0, 0, .int), (.getfield 34, 3, 0, 0, 4, 0, (.object "GridStore$Grid")), (.aload_n 0, 1, 0, 0, 0, 0, .int), (.iload_n 1, 1, 0, 0, 0, 1, .int), (.iload_n 2, 1, 0, 0, 0, 2, .int)]
theorem b_X4_writable_0 : isAt "GridStore$Window" 3 false cX4_writable 0 k_X4_writable_0 = true := by decide +kernel
def k_X4_writable_17 : List En := [(.aload_n 0, 1, 0, 0, 0, 0, .int), (.iload_n 1, 1, 0, 0, 0, 1, .int), (.iload_n 2, 1, 0, 0, 0, 2, .int)]
theorem b_X4_writable_17 : isAt "GridStore$Window" 3 false cX4_writable 17 k_X4_writable_17 = true := by decide +kernel
def k_X4_writable_26 : List En := [(.ifCond .eq 7, 3, 33, 0, 0, 0, .int), (.iconst 1, 1, 0, 1, 0, 0, .int), (.goto 4, 3, 34, 0, 0, 0, .int)]
theorem b_X4_writable_26 : isAt "GridStore$Window" 3 false cX4_writable 26 k_X4_writable_26 = true := by decide +kernel
def k_X4_writable_33 : List En := [(.iconst 0, 1, 0, 0, 0, 0, .int)]
theorem b_X4_writable_33 : isAt "GridStore$Window" 3 false cX4_writable 33 k_X4_writable_33 = true := by decide +kernel
def k_X4_write_0 : List En := [(.aload_n 0, 1, 0, 0, 0, 0, .int), (.getfield 30, 3, 0, 0, 4, 9, .boolean), (.ifCond .eq 7, 3, 11, 0, 0, 0, .int), (.iconst 0, 1, 0, 0, 0, 0, .int), (.goto 23, 3, 31, 0, 0, 0, .int)]
theorem b_X4_write_0 : isAt "GridStore$Window" 5 false cX4_write 0 k_X4_write_0 = true := by decide +kernel
def k_X4_write_11 : List En := [(.aload_n 0, 1, 0, 0, 0, 0, .int), (.getfield 34, 3, 0, 0, 4, 0, (.object "GridStore$Grid")), (.aload_n 0, 1, 0, 0, 0, 0, .int), (.iload_n 1, 1, 0, 0, 0, 1, .int), (.iload_n 2, 1, 0, 0, 0, 2, .int)]
theorem b_X4_write_11 : isAt "GridStore$Window" 5 false cX4_write 11 k_X4_write_11 = true := by decide +kernel
def k_X4_write_21 : List En := [(.aload_n 0, 1, 0, 0, 0, 0, .int), (.iload_n 1, 1, 0, 0, 0, 1, .int), (.iload_n 2, 1, 0, 0, 0, 2, .int)]
theorem b_X4_write_21 : isAt "GridStore$Window" 5 false cX4_write 21 k_X4_write_21 = true := by decide +kernel
def k_X4_write_27 : List En := [(.lload_n 3, 1, 0, 0, 0, 3, .int)]
theorem b_X4_write_27 : isAt "GridStore$Window" 5 false cX4_write 27 k_X4_write_27 = true := by decide +kernel
theorem d_J7_fill_d0a16_22 : decode cJ7_fill_d0a16 22 = .ok (.return_, 1) := by decide +kernel
theorem d_J9_abs_0f7a4_10 : decode cJ9_abs_0f7a4 10 = .ok (.ireturn, 1) := by decide +kernel
theorem d_J9_floorDiv_f86c9_26 : decode cJ9_floorDiv_f86c9 26 = .ok (.lreturn, 1) := by decide +kernel
theorem d_J9_floorDiv_f86c9_29 : decode cJ9_floorDiv_f86c9 29 = .ok (.lreturn, 1) := by decide +kernel
theorem d_J9_max_7cf53_10 : decode cJ9_max_7cf53 10 = .ok (.ireturn, 1) := by decide +kernel
theorem d_J9_min_7cf53_10 : decode cJ9_min_7cf53 10 = .ok (.ireturn, 1) := by decide +kernel
theorem d_J9_min_f86c9_11 : decode cJ9_min_f86c9 11 = .ok (.lreturn, 1) := by decide +kernel
theorem d_X0_at_3 : decode cX0_at 3 = .ok (.invokevirtual 35, 3) := by decide +kernel
theorem c_X0_35 : ckV "GridStore$Cells" 35 2 mX0_indexOf = true := by decide +kernel
theorem d_X0_at_32 : decode cX0_at 32 = .ok (.lreturn, 1) := by decide +kernel
theorem d_X0_indexOf_3 : decode cX0_indexOf 3 = .ok (.invokevirtual 39, 3) := by decide +kernel
theorem c_X0_39 : ckV "GridStore$Cells" 39 2 mX0_inside = true := by decide +kernel
theorem d_X0_indexOf_21 : decode cX0_indexOf 21 = .ok (.ireturn, 1) := by decide +kernel
theorem d_X0_init_1 : decode cX0_init 1 = .ok (.invokespecial 3, 3) := by decide +kernel
theorem o_X0_3 : Cond.methodLink "GridStore$Cells" 3 Lib.objectInit ∈ ALL := by decide +kernel
theorem d_X0_init_17 : decode cX0_init 17 = .ok (.newarray .long, 2) := by decide +kernel
theorem d_X0_init_24 : decode cX0_init 24 = .ok (.invokestatic 20, 3) := by decide +kernel
theorem c_X0_20 : ckS "GridStore$Cells" 20 2 mJ7_fill_d0a16 = true := by decide +kernel
theorem d_X0_init_32 : decode cX0_init 32 = .ok (.return_, 1) := by decide +kernel
theorem d_X0_init__1 : decode cX0_init_ 1 = .ok (.invokespecial 3, 3) := by decide +kernel
theorem d_X0_init__25 : decode cX0_init_ 25 = .ok (.invokevirtual 30, 3) := by decide +kernel
-- call of [J.clone()Ljava/lang/Object; at X0_init_ 25
theorem d_X0_init__28 : decode cX0_init_ 28 = .ok (.checkcast 31, 3) := by decide +kernel
theorem d_X0_init__34 : decode cX0_init_ 34 = .ok (.return_, 1) := by decide +kernel
theorem d_X0_inside_29 : decode cX0_inside 29 = .ok (.ireturn, 1) := by decide +kernel
theorem d_X0_numbers_41 : decode cX0_numbers 41 = .ok (.ireturn, 1) := by decide +kernel
theorem d_X0_put_3 : decode cX0_put 3 = .ok (.invokevirtual 35, 3) := by decide +kernel
theorem d_X0_put_36 : decode cX0_put 36 = .ok (.ireturn, 1) := by decide +kernel
theorem d_X0_put_46 : decode cX0_put 46 = .ok (.ireturn, 1) := by decide +kernel
theorem d_X1_addLayer_19 : decode cX1_addLayer 19 = .ok (.ireturn, 1) := by decide +kernel
theorem d_X1_addLayer_25 : decode cX1_addLayer 25 = .ok (.new 9, 3) := by decide +kernel
theorem d_X1_addLayer_28 : decode cX1_addLayer 28 = .ok (.dup, 1) := by decide +kernel
theorem n_X1_9 : ckN "GridStore$Grid" 9 0 [.int 0, .int 0, .null] = true := by decide +kernel
theorem d_X1_addLayer_33 : decode cX1_addLayer 33 = .ok (.invokespecial 51, 3) := by decide +kernel
theorem c_X1_51 : ckI "GridStore$Grid" 51 1 mX0_init_ = true := by decide +kernel
theorem d_X1_addLayer_48 : decode cX1_addLayer 48 = .ok (.ireturn, 1) := by decide +kernel
theorem d_X1_bareLostPieces_23 : decode cX1_bareLostPieces 23 = .ok (.invokevirtual 44, 3) := by decide +kernel
theorem c_X1_44 : ckV "GridStore$Grid" 44 2 mX1_writable = true := by decide +kernel
theorem d_X1_bareLostPieces_38 : decode cX1_bareLostPieces 38 = .ok (.invokevirtual 47, 3) := by decide +kernel
theorem c_X1_47 : ckV "GridStore$Grid" 47 3 mX0_put = true := by decide +kernel
theorem d_X1_bareLostPieces_54 : decode cX1_bareLostPieces 54 = .ok (.return_, 1) := by decide +kernel
theorem d_X1_init_1 : decode cX1_init 1 = .ok (.invokespecial 3, 3) := by decide +kernel
theorem o_X1_3 : Cond.methodLink "GridStore$Grid" 3 Lib.objectInit ∈ ALL := by decide +kernel
theorem d_X1_init_7 : decode cX1_init 7 = .ok (.anewarray 9, 3) := by decide +kernel
theorem a_X1_9 : Cond.classLink "GridStore$Grid" 9 "GridStore$Cells" ∈ ALL := by decide +kernel
theorem d_X1_init_34 : decode cX1_init 34 = .ok (.new 9, 3) := by decide +kernel
theorem d_X1_init_37 : decode cX1_init 37 = .ok (.dup, 1) := by decide +kernel
theorem d_X1_init_40 : decode cX1_init 40 = .ok (.invokespecial 31, 3) := by decide +kernel
theorem c_X1_31 : ckI "GridStore$Grid" 31 2 mX0_init = true := by decide +kernel
theorem d_X1_init_46 : decode cX1_init 46 = .ok (.return_, 1) := by decide +kernel
theorem d_X1_layer_23 : decode cX1_layer 23 = .ok (.areturn, 1) := by decide +kernel
theorem d_X1_pieceBottom_10 : decode cX1_pieceBottom 10 = .ok (.invokestatic 64, 3) := by decide +kernel
theorem c_X1_64 : ckS "GridStore$Grid" 64 2 mJ9_min_7cf53 = true := by decide +kernel
theorem d_X1_pieceBottom_13 : decode cX1_pieceBottom 13 = .ok (.ireturn, 1) := by decide +kernel
theorem d_X1_pieceKind_12 : decode cX1_pieceKind 12 = .ok (.invokevirtual 54, 3) := by decide +kernel
theorem c_X1_54 : ckV "GridStore$Grid" 54 2 mX0_at = true := by decide +kernel
theorem d_X1_pieceKind_32 : decode cX1_pieceKind 32 = .ok (.invokevirtual 70, 3) := by decide +kernel
theorem c_X1_70 : ckV "GridStore$Grid" 70 1 mX1_pieceBottom = true := by decide +kernel
theorem d_X1_pieceKind_48 : decode cX1_pieceKind 48 = .ok (.invokevirtual 74, 3) := by decide +kernel
theorem c_X1_74 : ckV "GridStore$Grid" 74 1 mX1_pieceRight = true := by decide +kernel
theorem d_X1_pieceKind_62 : decode cX1_pieceKind 62 = .ok (.invokevirtual 54, 3) := by decide +kernel
theorem d_X1_pieceKind_123 : decode cX1_pieceKind 123 = .ok (.ireturn, 1) := by decide +kernel
theorem d_X1_pieceKind_130 : decode cX1_pieceKind 130 = .ok (.ireturn, 1) := by decide +kernel
theorem d_X1_pieceKind_143 : decode cX1_pieceKind 143 = .ok (.ireturn, 1) := by decide +kernel
theorem d_X1_pieceRight_10 : decode cX1_pieceRight 10 = .ok (.invokestatic 64, 3) := by decide +kernel
theorem d_X1_pieceRight_13 : decode cX1_pieceRight 13 = .ok (.ireturn, 1) := by decide +kernel
theorem d_X1_piecesHigh_12 : decode cX1_piecesHigh 12 = .ok (.ireturn, 1) := by decide +kernel
theorem d_X1_piecesOfKind_6 : decode cX1_piecesOfKind 6 = .ok (.invokevirtual 77, 3) := by decide +kernel
theorem c_X1_77 : ckV "GridStore$Grid" 77 0 mX1_piecesHigh = true := by decide +kernel
theorem d_X1_piecesOfKind_18 : decode cX1_piecesOfKind 18 = .ok (.invokevirtual 81, 3) := by decide +kernel
theorem c_X1_81 : ckV "GridStore$Grid" 81 0 mX1_piecesWide = true := by decide +kernel
theorem d_X1_piecesOfKind_29 : decode cX1_piecesOfKind 29 = .ok (.invokevirtual 84, 3) := by decide +kernel
theorem c_X1_84 : ckV "GridStore$Grid" 84 2 mX1_pieceKind = true := by decide +kernel
theorem d_X1_piecesOfKind_56 : decode cX1_piecesOfKind 56 = .ok (.ireturn, 1) := by decide +kernel
theorem d_X1_piecesWide_12 : decode cX1_piecesWide 12 = .ok (.ireturn, 1) := by decide +kernel
theorem d_X1_restore_33 : decode cX1_restore 33 = .ok (.invokevirtual 54, 3) := by decide +kernel
theorem d_X1_restore_36 : decode cX1_restore 36 = .ok (.invokevirtual 58, 3) := by decide +kernel
theorem c_X1_58 : ckV "GridStore$Grid" 58 3 mX1_write = true := by decide +kernel
theorem d_X1_restore_54 : decode cX1_restore 54 = .ok (.ireturn, 1) := by decide +kernel
theorem d_X1_unlike_12 : decode cX1_unlike 12 = .ok (.invokevirtual 70, 3) := by decide +kernel
theorem d_X1_unlike_28 : decode cX1_unlike 28 = .ok (.invokevirtual 74, 3) := by decide +kernel
theorem d_X1_unlike_39 : decode cX1_unlike 39 = .ok (.invokevirtual 54, 3) := by decide +kernel
theorem d_X1_unlike_47 : decode cX1_unlike 47 = .ok (.invokevirtual 54, 3) := by decide +kernel
theorem d_X1_unlike_55 : decode cX1_unlike 55 = .ok (.ireturn, 1) := by decide +kernel
theorem d_X1_unlike_69 : decode cX1_unlike 69 = .ok (.ireturn, 1) := by decide +kernel
theorem d_X1_unlikePieces_8 : decode cX1_unlikePieces 8 = .ok (.invokevirtual 77, 3) := by decide +kernel
theorem d_X1_unlikePieces_20 : decode cX1_unlikePieces 20 = .ok (.invokevirtual 81, 3) := by decide +kernel
theorem d_X1_unlikePieces_34 : decode cX1_unlikePieces 34 = .ok (.invokevirtual 87, 3) := by decide +kernel
theorem c_X1_87 : ckV "GridStore$Grid" 87 4 mX1_unlike = true := by decide +kernel
theorem d_X1_unlikePieces_60 : decode cX1_unlikePieces 60 = .ok (.ireturn, 1) := by decide +kernel
theorem d_X1_writable_12 : decode cX1_writable 12 = .ok (.invokevirtual 38, 3) := by decide +kernel
theorem c_X1_38 : ckV "GridStore$Grid" 38 2 mX2_bothLost = true := by decide +kernel
theorem d_X1_writable_23 : decode cX1_writable 23 = .ok (.ireturn, 1) := by decide +kernel
theorem d_X1_write_3 : decode cX1_write 3 = .ok (.invokevirtual 44, 3) := by decide +kernel
theorem d_X1_write_16 : decode cX1_write 16 = .ok (.invokevirtual 47, 3) := by decide +kernel
theorem d_X1_write_27 : decode cX1_write 27 = .ok (.ireturn, 1) := by decide +kernel
theorem d_X2_bothLost_8 : decode cX2_bothLost 8 = .ok (.invokevirtual 15, 3) := by decide +kernel
theorem c_X2_15 : ckV "GridStore$Hosts" 15 1 mX2_isLost = true := by decide +kernel
theorem d_X2_bothLost_20 : decode cX2_bothLost 20 = .ok (.invokevirtual 15, 3) := by decide +kernel
theorem d_X2_bothLost_31 : decode cX2_bothLost 31 = .ok (.ireturn, 1) := by decide +kernel
theorem d_X2_init_1 : decode cX2_init 1 = .ok (.invokespecial 3, 3) := by decide +kernel
theorem o_X2_3 : Cond.methodLink "GridStore$Hosts" 3 Lib.objectInit ∈ ALL := by decide +kernel
theorem d_X2_init_6 : decode cX2_init 6 = .ok (.newarray .boolean, 2) := by decide +kernel
theorem d_X2_init_11 : decode cX2_init 11 = .ok (.return_, 1) := by decide +kernel
theorem d_X2_isLost_27 : decode cX2_isLost 27 = .ok (.ireturn, 1) := by decide +kernel
theorem d_X2_lostOnes_32 : decode cX2_lostOnes 32 = .ok (.ireturn, 1) := by decide +kernel
theorem d_X2_mark_24 : decode cX2_mark 24 = .ok (.ireturn, 1) := by decide +kernel
theorem d_X2_mark_33 : decode cX2_mark 33 = .ok (.ireturn, 1) := by decide +kernel
theorem d_X3_gather_29 : decode cX3_gather 29 = .ok (.invokevirtual 30, 3) := by decide +kernel
theorem c_X3_30 : ckV "GridStore$Totals" 30 2 mX3_gatherRow = true := by decide +kernel
theorem d_X3_gather_38 : decode cX3_gather 38 = .ok (.return_, 1) := by decide +kernel
theorem d_X3_gatherRow_25 : decode cX3_gatherRow 25 = .ok (.invokevirtual 34, 3) := by decide +kernel
theorem c_X3_34 : ckV "GridStore$Totals" 34 2 mX4_cell = true := by decide +kernel
theorem d_X3_gatherRow_57 : decode cX3_gatherRow 57 = .ok (.invokevirtual 40, 3) := by decide +kernel
theorem c_X3_40 : ckV "GridStore$Totals" 40 2 mX3_sumTo = true := by decide +kernel
theorem d_X3_gatherRow_68 : decode cX3_gatherRow 68 = .ok (.invokevirtual 43, 3) := by decide +kernel
theorem c_X3_43 : ckV "GridStore$Totals" 43 2 mX3_numbersTo = true := by decide +kernel
theorem d_X3_gatherRow_74 : decode cX3_gatherRow 74 = .ok (.invokevirtual 47, 3) := by decide +kernel
theorem c_X3_47 : ckV "GridStore$Totals" 47 4 mX3_put = true := by decide +kernel
theorem d_X3_gatherRow_83 : decode cX3_gatherRow 83 = .ok (.return_, 1) := by decide +kernel
theorem d_X3_indexOf_42 : decode cX3_indexOf 42 = .ok (.ireturn, 1) := by decide +kernel
theorem d_X3_init_1 : decode cX3_init 1 = .ok (.invokespecial 3, 3) := by decide +kernel
theorem o_X3_3 : Cond.methodLink "GridStore$Totals" 3 Lib.objectInit ∈ ALL := by decide +kernel
theorem d_X3_init_8 : decode cX3_init 8 = .ok (.newarray .long, 2) := by decide +kernel
theorem d_X3_init_17 : decode cX3_init 17 = .ok (.newarray .int, 2) := by decide +kernel
theorem d_X3_init_32 : decode cX3_init 32 = .ok (.return_, 1) := by decide +kernel
theorem d_X3_meanCell_6 : decode cX3_meanCell 6 = .ok (.invokevirtual 62, 3) := by decide +kernel
theorem c_X3_62 : ckV "GridStore$Totals" 62 4 mX3_numbersIn = true := by decide +kernel
theorem d_X3_meanCell_28 : decode cX3_meanCell 28 = .ok (.invokevirtual 66, 3) := by decide +kernel
theorem c_X3_66 : ckV "GridStore$Totals" 66 4 mX3_sumOf = true := by decide +kernel
theorem d_X3_meanCell_34 : decode cX3_meanCell 34 = .ok (.invokestatic 70, 3) := by decide +kernel
theorem c_X3_70 : ckS "GridStore$Totals" 70 2 mJ9_floorDiv_f86c9 = true := by decide +kernel
theorem d_X3_meanCell_37 : decode cX3_meanCell 37 = .ok (.lreturn, 1) := by decide +kernel
theorem d_X3_numbersIn_2 : decode cX3_numbersIn 2 = .ok (.invokestatic 54, 3) := by decide +kernel
theorem c_X3_54 : ckS "GridStore$Totals" 54 2 mJ9_max_7cf53 = true := by decide +kernel
theorem d_X3_numbersIn_9 : decode cX3_numbersIn 9 = .ok (.invokestatic 54, 3) := by decide +kernel
theorem d_X3_numbersIn_21 : decode cX3_numbersIn 21 = .ok (.invokestatic 59, 3) := by decide +kernel
theorem c_X3_59 : ckS "GridStore$Totals" 59 2 mJ9_min_7cf53 = true := by decide +kernel
theorem d_X3_numbersIn_34 : decode cX3_numbersIn 34 = .ok (.invokestatic 59, 3) := by decide +kernel
theorem d_X3_numbersIn_44 : decode cX3_numbersIn 44 = .ok (.invokevirtual 43, 3) := by decide +kernel
theorem d_X3_numbersIn_52 : decode cX3_numbersIn 52 = .ok (.invokevirtual 43, 3) := by decide +kernel
theorem d_X3_numbersIn_61 : decode cX3_numbersIn 61 = .ok (.invokevirtual 43, 3) := by decide +kernel
theorem d_X3_numbersIn_70 : decode cX3_numbersIn 70 = .ok (.invokevirtual 43, 3) := by decide +kernel
theorem d_X3_numbersIn_74 : decode cX3_numbersIn 74 = .ok (.ireturn, 1) := by decide +kernel
theorem d_X3_numbersTo_3 : decode cX3_numbersTo 3 = .ok (.invokevirtual 51, 3) := by decide +kernel
theorem c_X3_51 : ckV "GridStore$Totals" 51 2 mX3_indexOf = true := by decide +kernel
theorem d_X3_numbersTo_30 : decode cX3_numbersTo 30 = .ok (.ireturn, 1) := by decide +kernel
theorem d_X3_put_3 : decode cX3_put 3 = .ok (.invokevirtual 51, 3) := by decide +kernel
theorem d_X3_put_50 : decode cX3_put 50 = .ok (.return_, 1) := by decide +kernel
theorem d_X3_sumCell_6 : decode cX3_sumCell 6 = .ok (.invokevirtual 62, 3) := by decide +kernel
theorem d_X3_sumCell_28 : decode cX3_sumCell 28 = .ok (.invokevirtual 66, 3) := by decide +kernel
theorem d_X3_sumCell_33 : decode cX3_sumCell 33 = .ok (.lreturn, 1) := by decide +kernel
theorem d_X3_sumOf_2 : decode cX3_sumOf 2 = .ok (.invokestatic 54, 3) := by decide +kernel
theorem d_X3_sumOf_9 : decode cX3_sumOf 9 = .ok (.invokestatic 54, 3) := by decide +kernel
theorem d_X3_sumOf_21 : decode cX3_sumOf 21 = .ok (.invokestatic 59, 3) := by decide +kernel
theorem d_X3_sumOf_34 : decode cX3_sumOf 34 = .ok (.invokestatic 59, 3) := by decide +kernel
theorem d_X3_sumOf_44 : decode cX3_sumOf 44 = .ok (.invokevirtual 40, 3) := by decide +kernel
theorem d_X3_sumOf_52 : decode cX3_sumOf 52 = .ok (.invokevirtual 40, 3) := by decide +kernel
theorem d_X3_sumOf_61 : decode cX3_sumOf 61 = .ok (.invokevirtual 40, 3) := by decide +kernel
theorem d_X3_sumOf_70 : decode cX3_sumOf 70 = .ok (.invokevirtual 40, 3) := by decide +kernel
theorem d_X3_sumOf_74 : decode cX3_sumOf 74 = .ok (.lreturn, 1) := by decide +kernel
theorem d_X3_sumTo_3 : decode cX3_sumTo 3 = .ok (.invokevirtual 51, 3) := by decide +kernel
theorem d_X3_sumTo_30 : decode cX3_sumTo 30 = .ok (.lreturn, 1) := by decide +kernel
theorem d_X4_cell_10 : decode cX4_cell 10 = .ok (.invokevirtual 51, 3) := by decide +kernel
theorem c_X4_51 : ckV "GridStore$Window" 51 2 mX4_gridX = true := by decide +kernel
theorem d_X4_cell_16 : decode cX4_cell 16 = .ok (.invokevirtual 55, 3) := by decide +kernel
theorem c_X4_55 : ckV "GridStore$Window" 55 2 mX4_gridY = true := by decide +kernel
theorem d_X4_cell_19 : decode cX4_cell 19 = .ok (.invokevirtual 62, 3) := by decide +kernel
theorem c_X4_62 : ckV "GridStore$Window" 62 2 mX0_at = true := by decide +kernel
theorem d_X4_cell_22 : decode cX4_cell 22 = .ok (.lreturn, 1) := by decide +kernel
theorem d_X4_flip_58 : decode cX4_flip 58 = .ok (.return_, 1) := by decide +kernel
theorem d_X4_gridX_18 : decode cX4_gridX 18 = .ok (.ireturn, 1) := by decide +kernel
theorem d_X4_gridY_18 : decode cX4_gridY 18 = .ok (.ireturn, 1) := by decide +kernel
theorem d_X4_init_1 : decode cX4_init 1 = .ok (.invokespecial 3, 3) := by decide +kernel
theorem o_X4_3 : Cond.methodLink "GridStore$Window" 3 Lib.objectInit ∈ ALL := by decide +kernel
theorem d_X4_init_60 : decode cX4_init 60 = .ok (.return_, 1) := by decide +kernel
theorem d_X4_part_0 : decode cX4_part 0 = .ok (.new 10, 3) := by decide +kernel
theorem d_X4_part_3 : decode cX4_part 3 = .ok (.dup, 1) := by decide +kernel
theorem n_X4_10 : ckN "GridStore$Window" 10 4 [.null, .int 0, .int 0, .int 0, .int 0, .int 0, .int 0, .int 0, .int 0, .int 0] = true := by decide +kernel
theorem d_X4_part_8 : decode cX4_part 8 = .ok (.invokespecial 48, 3) := by decide +kernel
theorem c_X4_48 : ckI "GridStore$Window" 48 1 mX4_init = true := by decide +kernel
theorem d_X4_part_31 : decode cX4_part 31 = .ok (.invokevirtual 51, 3) := by decide +kernel
theorem d_X4_part_42 : decode cX4_part 42 = .ok (.invokevirtual 55, 3) := by decide +kernel
theorem d_X4_part_86 : decode cX4_part 86 = .ok (.areturn, 1) := by decide +kernel
theorem d_X4_piecesUnder_20 : decode cX4_piecesUnder 20 = .ok (.invokevirtual 51, 3) := by decide +kernel
theorem d_X4_piecesUnder_29 : decode cX4_piecesUnder 29 = .ok (.invokevirtual 51, 3) := by decide +kernel
theorem d_X4_piecesUnder_43 : decode cX4_piecesUnder 43 = .ok (.invokevirtual 55, 3) := by decide +kernel
theorem d_X4_piecesUnder_52 : decode cX4_piecesUnder 52 = .ok (.invokevirtual 55, 3) := by decide +kernel
theorem d_X4_piecesUnder_63 : decode cX4_piecesUnder 63 = .ok (.invokestatic 76, 3) := by decide +kernel
theorem c_X4_76 : ckS "GridStore$Window" 76 1 mJ9_abs_0f7a4 = true := by decide +kernel
theorem d_X4_piecesUnder_70 : decode cX4_piecesUnder 70 = .ok (.invokestatic 76, 3) := by decide +kernel
theorem d_X4_piecesUnder_76 : decode cX4_piecesUnder 76 = .ok (.ireturn, 1) := by decide +kernel
theorem d_X4_turn_96 : decode cX4_turn 96 = .ok (.return_, 1) := by decide +kernel
theorem d_X4_writable_14 : decode cX4_writable 14 = .ok (.invokevirtual 51, 3) := by decide +kernel
theorem d_X4_writable_20 : decode cX4_writable 20 = .ok (.invokevirtual 55, 3) := by decide +kernel
theorem d_X4_writable_23 : decode cX4_writable 23 = .ok (.invokevirtual 68, 3) := by decide +kernel
theorem c_X4_68 : ckV "GridStore$Window" 68 2 mX1_writable = true := by decide +kernel
theorem d_X4_writable_34 : decode cX4_writable 34 = .ok (.ireturn, 1) := by decide +kernel
theorem d_X4_write_18 : decode cX4_write 18 = .ok (.invokevirtual 51, 3) := by decide +kernel
theorem d_X4_write_24 : decode cX4_write 24 = .ok (.invokevirtual 55, 3) := by decide +kernel
theorem d_X4_write_28 : decode cX4_write 28 = .ok (.invokevirtual 72, 3) := by decide +kernel
theorem c_X4_72 : ckV "GridStore$Window" 72 3 mX1_write = true := by decide +kernel
theorem d_X4_write_31 : decode cX4_write 31 = .ok (.ireturn, 1) := by decide +kernel
