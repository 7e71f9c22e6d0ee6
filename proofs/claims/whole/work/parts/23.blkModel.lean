def k_X6_around_0 : List En := [(.lconst 0, 1, 0, 0, 0, 0, .int), (.lstore 5, 2, 0, 0, 0, 5, .int), (.aload_n 0, 1, 0, 0, 0, 0, .int), (.iconst 0, 1, 0, 0, 0, 0, .int), (.putfield 139, 3, 0, 0, 6, 19, .int), (.iconst 0, 1, 0, 0, 0, 0, .int), (.iload_n 3, 1, 0, 0, 0, 3, .int), (.iload 4, 2, 0, 0, 0, 4, .int), (.isub, 1, 0, 0, 0, 0, .int)]
theorem b_X6_around_0 : isAt "GridStoreModel" 10 false cX6_around 0 k_X6_around_0 = true := by decide +kernel
def k_X6_around_16 : List En := [(.istore 7, 2, 0, 0, 0, 7, .int)]
theorem b_X6_around_16 : isAt "GridStoreModel" 10 false cX6_around 16 k_X6_around_16 = true := by decide +kernel
def k_X6_around_18 : List En := [(.iload 7, 2, 0, 0, 0, 7, .int), (.aload_n 0, 1, 0, 0, 0, 0, .int), (.iload_n 1, 1, 0, 0, 0, 1, .int), (.iconst 1, 1, 0, 1, 0, 0, .int)]
theorem b_X6_around_18 : isAt "GridStoreModel" 10 false cX6_around 18 k_X6_around_18 = true := by decide +kernel
def k_X6_around_26 : List En := [(.iconst 1, 1, 0, 1, 0, 0, .int), (.isub, 1, 0, 0, 0, 0, .int), (.iload_n 3, 1, 0, 0, 0, 3, .int), (.iload 4, 2, 0, 0, 0, 4, .int), (.iadd, 1, 0, 0, 0, 0, .int)]
theorem b_X6_around_26 : isAt "GridStoreModel" 10 false cX6_around 26 k_X6_around_26 = true := by decide +kernel
def k_X6_around_35 : List En := [(.if_icmp .gt 92, 3, 127, 0, 0, 0, .int), (.iconst 0, 1, 0, 0, 0, 0, .int), (.iload_n 2, 1, 0, 0, 0, 2, .int), (.iload 4, 2, 0, 0, 0, 4, .int), (.isub, 1, 0, 0, 0, 0, .int)]
theorem b_X6_around_35 : isAt "GridStoreModel" 10 false cX6_around 35 k_X6_around_35 = true := by decide +kernel
def k_X6_around_46 : List En := [(.istore 8, 2, 0, 0, 0, 8, .int)]
theorem b_X6_around_46 : isAt "GridStoreModel" 10 false cX6_around 46 k_X6_around_46 = true := by decide +kernel
def k_X6_around_48 : List En := [(.iload 8, 2, 0, 0, 0, 8, .int), (.aload_n 0, 1, 0, 0, 0, 0, .int), (.iload_n 1, 1, 0, 0, 0, 1, .int), (.iconst 0, 1, 0, 0, 0, 0, .int)]
theorem b_X6_around_48 : isAt "GridStoreModel" 10 false cX6_around 48 k_X6_around_48 = true := by decide +kernel
def k_X6_around_56 : List En := [(.iconst 1, 1, 0, 1, 0, 0, .int), (.isub, 1, 0, 0, 0, 0, .int), (.iload_n 2, 1, 0, 0, 0, 2, .int), (.iload 4, 2, 0, 0, 0, 4, .int), (.iadd, 1, 0, 0, 0, 0, .int)]
theorem b_X6_around_56 : isAt "GridStoreModel" 10 false cX6_around 56 k_X6_around_56 = true := by decide +kernel
def k_X6_around_65 : List En := [(.if_icmp .gt 56, 3, 121, 0, 0, 0, .int), (.aload_n 0, 1, 0, 0, 0, 0, .int), (.iload_n 1, 1, 0, 0, 0, 1, .int), (.iload 8, 2, 0, 0, 0, 8, .int), (.iload 7, 2, 0, 0, 0, 7, .int)]
theorem b_X6_around_65 : isAt "GridStoreModel" 10 false cX6_around 65 k_X6_around_65 = true := by decide +kernel
def k_X6_around_77 : List En := [(.istore 9, 2, 0, 0, 0, 9, .int), (.aload_n 0, 1, 0, 0, 0, 0, .int), (.getfield 19, 3, 0, 0, 6, 4, (.array .boolean)), (.iload 9, 2, 0, 0, 0, 9, .int), (.baload, 1, 0, 0, 0, 0, .int), (.ifCond .ne 6, 3, 92, 0, 0, 0, .int), (.goto 26, 3, 115, 0, 0, 0, .int)]
theorem b_X6_around_77 : isAt "GridStoreModel" 10 false cX6_around 77 k_X6_around_77 = true := by decide +kernel
def k_X6_around_92 : List En := [(.lload 5, 2, 0, 0, 0, 5, .int), (.aload_n 0, 1, 0, 0, 0, 0, .int), (.getfield 16, 3, 0, 0, 6, 3, (.array .int)), (.iload 9, 2, 0, 0, 0, 9, .int), (.iaload, 1, 0, 0, 0, 0, .int), (.i2l, 1, 0, 0, 0, 0, .int), (.ladd, 1, 0, 0, 0, 0, .int), (.lstore 5, 2, 0, 0, 0, 5, .int), (.aload_n 0, 1, 0, 0, 0, 0, .int), (.dup, 1, 0, 0, 0, 0, .int), (.getfield 139, 3, 0, 0, 6, 19, .int), (.iconst 1, 1, 0, 1, 0, 0, .int), (.iadd, 1, 0, 0, 0, 0, .int), (.putfield 139, 3, 0, 0, 6, 19, .int)]
theorem b_X6_around_92 : isAt "GridStoreModel" 10 false cX6_around 92 k_X6_around_92 = true := by decide +kernel
def k_X6_around_115 : List En := [(.iinc 8 1, 3, 0, 1, 0, 8, .int), (.goto (-70), 3, 48, 0, 0, 0, .int)]
theorem b_X6_around_115 : isAt "GridStoreModel" 10 false cX6_around 115 k_X6_around_115 = true := by decide +kernel
def k_X6_around_121 : List En := [(.iinc 7 1, 3, 0, 1, 0, 7, .int), (.goto (-106), 3, 18, 0, 0, 0, .int)]
theorem b_X6_around_121 : isAt "GridStoreModel" 10 false cX6_around 121 k_X6_around_121 = true := by decide +kernel
def k_X6_around_127 : List En := [(.lload 5, 2, 0, 0, 0, 5, .int)]
theorem b_X6_around_127 : isAt "GridStoreModel" 10 false cX6_around 127 k_X6_around_127 = true := by decide +kernel
def k_X6_back_0 : List En := [(.aload_n 0, 1, 0, 0, 0, 0, .int), (.iconst 0, 1, 0, 0, 0, 0, .int), (.putfield 63, 3, 0, 0, 6, 0, .int), (.aload_n 0, 1, 0, 0, 0, 0, .int), (.aload_n 0, 1, 0, 0, 0, 0, .int), (.iload_n 1, 1, 0, 0, 0, 1, .int)]
theorem b_X6_back_0 : isAt "GridStoreModel" 5 false cX6_back 0 k_X6_back_0 = true := by decide +kernel
def k_X6_back_11 : List En := [(.ifCond .ne 12, 3, 23, 0, 0, 0, .int), (.aload_n 0, 1, 0, 0, 0, 0, .int), (.iload_n 1, 1, 0, 0, 0, 1, .int), (.iload_n 2, 1, 0, 0, 0, 2, .int)]
theorem b_X6_back_11 : isAt "GridStoreModel" 5 false cX6_back 11 k_X6_back_11 = true := by decide +kernel
def k_X6_back_20 : List En := [(.ifCond .eq 7, 3, 27, 0, 0, 0, .int)]
theorem b_X6_back_20 : isAt "GridStoreModel" 5 false cX6_back 20 k_X6_back_20 = true := by decide +kernel
def k_X6_back_23 : List En := [(.iconst 1, 1, 0, 1, 0, 0, .int), (.goto 4, 3, 28, 0, 0, 0, .int)]
theorem b_X6_back_23 : isAt "GridStoreModel" 5 false cX6_back 23 k_X6_back_23 = true := by decide +kernel
def k_X6_back_27 : List En := [(.iconst 0, 1, 0, 0, 0, 0, .int)]
theorem b_X6_back_27 : isAt "GridStoreModel" 5 false cX6_back 27 k_X6_back_27 = true := by decide +kernel
def k_X6_back_28 : List En := [(.iconst 1, 1, 0, 1, 0, 0, .int)]
theorem b_X6_back_28 : isAt "GridStoreModel" 5 false cX6_back 28 k_X6_back_28 = true := by decide +kernel
def k_X6_back_32 : List En := [(.ifCond .eq 5, 3, 37, 0, 0, 0, .int), (.iconst 0, 1, 0, 0, 0, 0, .int)]
theorem b_X6_back_32 : isAt "GridStoreModel" 5 false cX6_back 32 k_X6_back_32 = true := by decide +kernel
def k_X6_back_37 : List En := [(.iconst 0, 1, 0, 0, 0, 0, .int), (.istore_n 3, 1, 0, 0, 0, 3, .int), (.iconst 0, 1, 0, 0, 0, 0, .int), (.istore 4, 2, 0, 0, 0, 4, .int)]
theorem b_X6_back_37 : isAt "GridStoreModel" 5 false cX6_back 37 k_X6_back_37 = true := by decide +kernel
def k_X6_back_42 : List En := [(.iload 4, 2, 0, 0, 0, 4, .int), (.sipush 1920, 3, 0, 1920, 0, 0, .int), (.if_icmp .ge 50, 3, 97, 0, 0, 0, .int), (.iload_n 3, 1, 0, 0, 0, 3, .int), (.aload_n 0, 1, 0, 0, 0, 0, .int), (.sipush 1920, 3, 0, 1920, 0, 0, .int), (.iload_n 1, 1, 0, 0, 0, 1, .int), (.imul, 1, 0, 0, 0, 0, .int), (.iload 4, 2, 0, 0, 0, 4, .int), (.iadd, 1, 0, 0, 0, 0, .int), (.aload_n 0, 1, 0, 0, 0, 0, .int), (.getfield 27, 3, 0, 0, 6, 7, (.array .boolean)), (.iload_n 1, 1, 0, 0, 0, 1, .int), (.iload_n 2, 1, 0, 0, 0, 2, .int)]
theorem b_X6_back_42 : isAt "GridStoreModel" 5 false cX6_back 42 k_X6_back_42 = true := by decide +kernel
def k_X6_back_69 : List En := [(.iload 4, 2, 0, 0, 0, 4, .int), (.iadd, 1, 0, 0, 0, 0, .int), (.baload, 1, 0, 0, 0, 0, .int), (.aload_n 0, 1, 0, 0, 0, 0, .int), (.getfield 24, 3, 0, 0, 6, 6, (.array .int)), (.iload_n 1, 1, 0, 0, 0, 1, .int), (.iload_n 2, 1, 0, 0, 0, 2, .int)]
theorem b_X6_back_69 : isAt "GridStoreModel" 5 false cX6_back 69 k_X6_back_69 = true := by decide +kernel
def k_X6_back_82 : List En := [(.iload 4, 2, 0, 0, 0, 4, .int), (.iadd, 1, 0, 0, 0, 0, .int), (.iaload, 1, 0, 0, 0, 0, .int)]
theorem b_X6_back_82 : isAt "GridStoreModel" 5 false cX6_back 82 k_X6_back_82 = true := by decide +kernel
def k_X6_back_89 : List En := [(.iadd, 1, 0, 0, 0, 0, .int), (.istore_n 3, 1, 0, 0, 0, 3, .int), (.iinc 4 1, 3, 0, 1, 0, 4, .int), (.goto (-52), 3, 42, 0, 0, 0, .int)]
theorem b_X6_back_89 : isAt "GridStoreModel" 5 false cX6_back 89 k_X6_back_89 = true := by decide +kernel
def k_X6_back_97 : List En := [(.iload_n 3, 1, 0, 0, 0, 3, .int)]
theorem b_X6_back_97 : isAt "GridStoreModel" 5 false cX6_back 97 k_X6_back_97 = true := by decide +kernel
def k_X6_close_0 : List En := [(.aload_n 0, 1, 0, 0, 0, 0, .int), (.iconst 0, 1, 0, 0, 0, 0, .int), (.putfield 63, 3, 0, 0, 6, 0, .int), (.aload_n 0, 1, 0, 0, 0, 0, .int), (.iload_n 1, 1, 0, 0, 0, 1, .int), (.iconst 0, 1, 0, 0, 0, 0, .int), (.aload_n 0, 1, 0, 0, 0, 0, .int), (.getfield 78, 3, 0, 0, 6, 18, .int), (.iconst 1, 1, 0, 1, 0, 0, .int), (.isub, 1, 0, 0, 0, 0, .int)]
theorem b_X6_close_0 : isAt "GridStoreModel" 4 false cX6_close 0 k_X6_close_0 = true := by decide +kernel
def k_X6_close_17 : List En := [(.ifCond .ne 7, 3, 24, 0, 0, 0, .int), (.iconst 1, 1, 0, 1, 0, 0, .int), (.goto 4, 3, 25, 0, 0, 0, .int)]
theorem b_X6_close_17 : isAt "GridStoreModel" 4 false cX6_close 17 k_X6_close_17 = true := by decide +kernel
def k_X6_close_24 : List En := [(.iconst 0, 1, 0, 0, 0, 0, .int)]
theorem b_X6_close_24 : isAt "GridStoreModel" 4 false cX6_close 24 k_X6_close_24 = true := by decide +kernel
def k_X6_close_25 : List En := [(.iconst 1, 1, 0, 1, 0, 0, .int)]
theorem b_X6_close_25 : isAt "GridStoreModel" 4 false cX6_close 25 k_X6_close_25 = true := by decide +kernel
def k_X6_close_29 : List En := [(.ifCond .eq 5, 3, 34, 0, 0, 0, .int), (.iconst 0, 1, 0, 0, 0, 0, .int)]
theorem b_X6_close_29 : isAt "GridStoreModel" 4 false cX6_close 29 k_X6_close_29 = true := by decide +kernel
def k_X6_close_34 : List En := [(.aload_n 0, 1, 0, 0, 0, 0, .int), (.getfield 57, 3, 0, 0, 6, 17, (.array .boolean)), (.iload_n 1, 1, 0, 0, 0, 1, .int), (.baload, 1, 0, 0, 0, 0, .int), (.istore_n 3, 1, 0, 0, 0, 3, .int), (.aload_n 0, 1, 0, 0, 0, 0, .int), (.getfield 57, 3, 0, 0, 6, 17, (.array .boolean)), (.iload_n 1, 1, 0, 0, 0, 1, .int), (.iload_n 2, 1, 0, 0, 0, 2, .int), (.bastore, 1, 0, 0, 0, 0, .int), (.iload_n 3, 1, 0, 0, 0, 3, .int), (.iload_n 2, 1, 0, 0, 0, 2, .int), (.if_icmp .eq 7, 3, 57, 0, 0, 0, .int), (.iconst 1, 1, 0, 1, 0, 0, .int), (.goto 4, 3, 58, 0, 0, 0, .int)]
theorem b_X6_close_34 : isAt "GridStoreModel" 4 false cX6_close 34 k_X6_close_34 = true := by decide +kernel
def k_X6_close_57 : List En := [(.iconst 0, 1, 0, 0, 0, 0, .int)]
theorem b_X6_close_57 : isAt "GridStoreModel" 4 false cX6_close 57 k_X6_close_57 = true := by decide +kernel
def k_X6_coarse_0 : List En := [(.aload_n 0, 1, 0, 0, 0, 0, .int), (.iconst 0, 1, 0, 0, 0, 0, .int), (.putfield 63, 3, 0, 0, 6, 0, .int), (.aload_n 0, 1, 0, 0, 0, 0, .int), (.aload_n 0, 1, 0, 0, 0, 0, .int), (.iload_n 1, 1, 0, 0, 0, 1, .int)]
theorem b_X6_coarse_0 : isAt "GridStoreModel" 13 false cX6_coarse 0 k_X6_coarse_0 = true := by decide +kernel
def k_X6_coarse_11 : List En := [(.ifCond .ne 11, 3, 22, 0, 0, 0, .int), (.aload_n 0, 1, 0, 0, 0, 0, .int), (.iload_n 3, 1, 0, 0, 0, 3, .int)]
theorem b_X6_coarse_11 : isAt "GridStoreModel" 13 false cX6_coarse 11 k_X6_coarse_11 = true := by decide +kernel
def k_X6_coarse_19 : List En := [(.ifCond .eq 7, 3, 26, 0, 0, 0, .int)]
theorem b_X6_coarse_19 : isAt "GridStoreModel" 13 false cX6_coarse 19 k_X6_coarse_19 = true := by decide +kernel
def k_X6_coarse_22 : List En := [(.iconst 1, 1, 0, 1, 0, 0, .int), (.goto 4, 3, 27, 0, 0, 0, .int)]
theorem b_X6_coarse_22 : isAt "GridStoreModel" 13 false cX6_coarse 22 k_X6_coarse_22 = true := by decide +kernel
def k_X6_coarse_26 : List En := [(.iconst 0, 1, 0, 0, 0, 0, .int)]
theorem b_X6_coarse_26 : isAt "GridStoreModel" 13 false cX6_coarse 26 k_X6_coarse_26 = true := by decide +kernel
def k_X6_coarse_27 : List En := [(.iconst 1, 1, 0, 1, 0, 0, .int)]
theorem b_X6_coarse_27 : isAt "GridStoreModel" 13 false cX6_coarse 27 k_X6_coarse_27 = true := by decide +kernel
def k_X6_coarse_31 : List En := [(.ifCond .ne 67, 3, 98, 0, 0, 0, .int), (.aload_n 0, 1, 0, 0, 0, 0, .int), (.iload_n 2, 1, 0, 0, 0, 2, .int), (.iconst 2, 1, 0, 2, 0, 0, .int), (.bipush 8, 2, 0, 8, 0, 0, .int)]
theorem b_X6_coarse_31 : isAt "GridStoreModel" 13 false cX6_coarse 31 k_X6_coarse_31 = true := by decide +kernel
def k_X6_coarse_42 : List En := [(.ifCond .eq 44, 3, 86, 0, 0, 0, .int), (.aload_n 0, 1, 0, 0, 0, 0, .int), (.iload_n 3, 1, 0, 0, 0, 3, .int), (.aload_n 0, 1, 0, 0, 0, 0, .int), (.iload_n 1, 1, 0, 0, 0, 1, .int), (.iconst 0, 1, 0, 0, 0, 0, .int)]
theorem b_X6_coarse_42 : isAt "GridStoreModel" 13 false cX6_coarse 42 k_X6_coarse_42 = true := by decide +kernel
def k_X6_coarse_53 : List En := [(.iload_n 2, 1, 0, 0, 0, 2, .int), (.iadd, 1, 0, 0, 0, 0, .int), (.iconst 1, 1, 0, 1, 0, 0, .int), (.isub, 1, 0, 0, 0, 0, .int), (.iload_n 2, 1, 0, 0, 0, 2, .int), (.idiv, 1, 0, 0, 0, 0, .int), (.aload_n 0, 1, 0, 0, 0, 0, .int), (.iload_n 1, 1, 0, 0, 0, 1, .int), (.iconst 1, 1, 0, 1, 0, 0, .int)]
theorem b_X6_coarse_53 : isAt "GridStoreModel" 13 false cX6_coarse 53 k_X6_coarse_53 = true := by decide +kernel
def k_X6_coarse_65 : List En := [(.iload_n 2, 1, 0, 0, 0, 2, .int), (.iadd, 1, 0, 0, 0, 0, .int), (.iconst 1, 1, 0, 1, 0, 0, .int), (.isub, 1, 0, 0, 0, 0, .int), (.iload_n 2, 1, 0, 0, 0, 2, .int), (.idiv, 1, 0, 0, 0, 0, .int)]
theorem b_X6_coarse_65 : isAt "GridStoreModel" 13 false cX6_coarse 65 k_X6_coarse_65 = true := by decide +kernel
def k_X6_coarse_74 : List En := [(.ifCond .eq 12, 3, 86, 0, 0, 0, .int), (.aload_n 0, 1, 0, 0, 0, 0, .int), (.iload_n 1, 1, 0, 0, 0, 1, .int)]
theorem b_X6_coarse_74 : isAt "GridStoreModel" 13 false cX6_coarse 74 k_X6_coarse_74 = true := by decide +kernel
def k_X6_coarse_82 : List En := [(.iload_n 3, 1, 0, 0, 0, 3, .int), (.if_icmp .ne 7, 3, 90, 0, 0, 0, .int)]
theorem b_X6_coarse_82 : isAt "GridStoreModel" 13 false cX6_coarse 82 k_X6_coarse_82 = true := by decide +kernel
def k_X6_coarse_86 : List En := [(.iconst 1, 1, 0, 1, 0, 0, .int), (.goto 4, 3, 91, 0, 0, 0, .int)]
theorem b_X6_coarse_86 : isAt "GridStoreModel" 13 false cX6_coarse 86 k_X6_coarse_86 = true := by decide +kernel
def k_X6_coarse_90 : List En := [(.iconst 0, 1, 0, 0, 0, 0, .int)]
theorem b_X6_coarse_90 : isAt "GridStoreModel" 13 false cX6_coarse 90 k_X6_coarse_90 = true := by decide +kernel
def k_X6_coarse_91 : List En := [(.iconst 2, 1, 0, 2, 0, 0, .int)]
theorem b_X6_coarse_91 : isAt "GridStoreModel" 13 false cX6_coarse 91 k_X6_coarse_91 = true := by decide +kernel
def k_X6_coarse_95 : List En := [(.ifCond .eq 5, 3, 100, 0, 0, 0, .int)]
theorem b_X6_coarse_95 : isAt "GridStoreModel" 13 false cX6_coarse 95 k_X6_coarse_95 = true := by decide +kernel
def k_X6_coarse_98 : List En := [(.iconst 0, 1, 0, 0, 0, 0, .int)]
theorem b_X6_coarse_98 : isAt "GridStoreModel" 13 false cX6_coarse 98 k_X6_coarse_98 = true := by decide +kernel
def k_X6_coarse_100 : List En := [(.iconst 0, 1, 0, 0, 0, 0, .int), (.istore 4, 2, 0, 0, 0, 4, .int), (.iconst 0, 1, 0, 0, 0, 0, .int), (.istore 5, 2, 0, 0, 0, 5, .int)]
theorem b_X6_coarse_100 : isAt "GridStoreModel" 13 false cX6_coarse 100 k_X6_coarse_100 = true := by decide +kernel
def k_X6_coarse_106 : List En := [(.iload 5, 2, 0, 0, 0, 5, .int), (.aload_n 0, 1, 0, 0, 0, 0, .int), (.getfield 13, 3, 0, 0, 6, 2, (.array .int)), (.iload_n 3, 1, 0, 0, 0, 3, .int), (.iaload, 1, 0, 0, 0, 0, .int), (.if_icmp .ge 189, 3, 303, 0, 0, 0, .int), (.iconst 0, 1, 0, 0, 0, 0, .int), (.istore 6, 2, 0, 0, 0, 6, .int)]
theorem b_X6_coarse_106 : isAt "GridStoreModel" 13 false cX6_coarse 106 k_X6_coarse_106 = true := by decide +kernel
def k_X6_coarse_120 : List En := [(.iload 6, 2, 0, 0, 0, 6, .int), (.aload_n 0, 1, 0, 0, 0, 0, .int), (.getfield 9, 3, 0, 0, 6, 1, (.array .int)), (.iload_n 3, 1, 0, 0, 0, 3, .int), (.iaload, 1, 0, 0, 0, 0, .int), (.if_icmp .ge 169, 3, 297, 0, 0, 0, .int), (.lconst 0, 1, 0, 0, 0, 0, .int), (.lstore 7, 2, 0, 0, 0, 7, .int), (.iconst 0, 1, 0, 0, 0, 0, .int), (.istore 9, 2, 0, 0, 0, 9, .int), (.iload_n 2, 1, 0, 0, 0, 2, .int), (.iload 5, 2, 0, 0, 0, 5, .int), (.imul, 1, 0, 0, 0, 0, .int), (.istore 10, 2, 0, 0, 0, 10, .int)]
theorem b_X6_coarse_120 : isAt "GridStoreModel" 13 false cX6_coarse 120 k_X6_coarse_120 = true := by decide +kernel
def k_X6_coarse_143 : List En := [(.iload 10, 2, 0, 0, 0, 10, .int), (.iload_n 2, 1, 0, 0, 0, 2, .int), (.iload 5, 2, 0, 0, 0, 5, .int), (.imul, 1, 0, 0, 0, 0, .int), (.iload_n 2, 1, 0, 0, 0, 2, .int), (.iadd, 1, 0, 0, 0, 0, .int), (.if_icmp .ge 94, 3, 245, 0, 0, 0, .int), (.iload 10, 2, 0, 0, 0, 10, .int), (.aload_n 0, 1, 0, 0, 0, 0, .int), (.iload_n 1, 1, 0, 0, 0, 1, .int), (.iconst 1, 1, 0, 1, 0, 0, .int)]
theorem b_X6_coarse_143 : isAt "GridStoreModel" 13 false cX6_coarse 143 k_X6_coarse_143 = true := by decide +kernel
def k_X6_coarse_162 : List En := [(.if_icmp .ge 83, 3, 245, 0, 0, 0, .int), (.iload_n 2, 1, 0, 0, 0, 2, .int), (.iload 6, 2, 0, 0, 0, 6, .int), (.imul, 1, 0, 0, 0, 0, .int), (.istore 11, 2, 0, 0, 0, 11, .int)]
theorem b_X6_coarse_162 : isAt "GridStoreModel" 13 false cX6_coarse 162 k_X6_coarse_162 = true := by decide +kernel
def k_X6_coarse_171 : List En := [(.iload 11, 2, 0, 0, 0, 11, .int), (.iload_n 2, 1, 0, 0, 0, 2, .int), (.iload 6, 2, 0, 0, 0, 6, .int), (.imul, 1, 0, 0, 0, 0, .int), (.iload_n 2, 1, 0, 0, 0, 2, .int), (.iadd, 1, 0, 0, 0, 0, .int), (.if_icmp .ge 60, 3, 239, 0, 0, 0, .int), (.iload 11, 2, 0, 0, 0, 11, .int), (.aload_n 0, 1, 0, 0, 0, 0, .int), (.iload_n 1, 1, 0, 0, 0, 1, .int), (.iconst 0, 1, 0, 0, 0, 0, .int)]
theorem b_X6_coarse_171 : isAt "GridStoreModel" 13 false cX6_coarse 171 k_X6_coarse_171 = true := by decide +kernel
def k_X6_coarse_190 : List En := [(.if_icmp .ge 49, 3, 239, 0, 0, 0, .int), (.aload_n 0, 1, 0, 0, 0, 0, .int), (.iload_n 1, 1, 0, 0, 0, 1, .int), (.iload 11, 2, 0, 0, 0, 11, .int), (.iload 10, 2, 0, 0, 0, 10, .int)]
theorem b_X6_coarse_190 : isAt "GridStoreModel" 13 false cX6_coarse 190 k_X6_coarse_190 = true := by decide +kernel
def k_X6_coarse_202 : List En := [(.istore 12, 2, 0, 0, 0, 12, .int), (.aload_n 0, 1, 0, 0, 0, 0, .int), (.getfield 19, 3, 0, 0, 6, 4, (.array .boolean)), (.iload 12, 2, 0, 0, 0, 12, .int), (.baload, 1, 0, 0, 0, 0, .int), (.ifCond .ne 6, 3, 217, 0, 0, 0, .int), (.goto 19, 3, 233, 0, 0, 0, .int)]
theorem b_X6_coarse_202 : isAt "GridStoreModel" 13 false cX6_coarse 202 k_X6_coarse_202 = true := by decide +kernel
def k_X6_coarse_217 : List En := [(.lload 7, 2, 0, 0, 0, 7, .int), (.aload_n 0, 1, 0, 0, 0, 0, .int), (.getfield 16, 3, 0, 0, 6, 3, (.array .int)), (.iload 12, 2, 0, 0, 0, 12, .int), (.iaload, 1, 0, 0, 0, 0, .int), (.i2l, 1, 0, 0, 0, 0, .int), (.ladd, 1, 0, 0, 0, 0, .int), (.lstore 7, 2, 0, 0, 0, 7, .int), (.iinc 9 1, 3, 0, 1, 0, 9, .int)]
theorem b_X6_coarse_217 : isAt "GridStoreModel" 13 false cX6_coarse 217 k_X6_coarse_217 = true := by decide +kernel
def k_X6_coarse_233 : List En := [(.iinc 11 1, 3, 0, 1, 0, 11, .int), (.goto (-65), 3, 171, 0, 0, 0, .int)]
theorem b_X6_coarse_233 : isAt "GridStoreModel" 13 false cX6_coarse 233 k_X6_coarse_233 = true := by decide +kernel
def k_X6_coarse_239 : List En := [(.iinc 10 1, 3, 0, 1, 0, 10, .int), (.goto (-99), 3, 143, 0, 0, 0, .int)]
theorem b_X6_coarse_239 : isAt "GridStoreModel" 13 false cX6_coarse 239 k_X6_coarse_239 = true := by decide +kernel
def k_X6_coarse_245 : List En := [(.iload 4, 2, 0, 0, 0, 4, .int), (.aload_n 0, 1, 0, 0, 0, 0, .int), (.aload_n 0, 1, 0, 0, 0, 0, .int), (.iload_n 3, 1, 0, 0, 0, 3, .int), (.iload 6, 2, 0, 0, 0, 6, .int), (.iload 5, 2, 0, 0, 0, 5, .int)]
theorem b_X6_coarse_245 : isAt "GridStoreModel" 13 false cX6_coarse 245 k_X6_coarse_245 = true := by decide +kernel
def k_X6_coarse_257 : List En := [(.iload 9, 2, 0, 0, 0, 9, .int), (.ifCond .le 7, 3, 266, 0, 0, 0, .int), (.iconst 1, 1, 0, 1, 0, 0, .int), (.goto 4, 3, 267, 0, 0, 0, .int)]
theorem b_X6_coarse_257 : isAt "GridStoreModel" 13 false cX6_coarse 257 k_X6_coarse_257 = true := by decide +kernel
def k_X6_coarse_266 : List En := [(.iconst 0, 1, 0, 0, 0, 0, .int)]
theorem b_X6_coarse_266 : isAt "GridStoreModel" 13 false cX6_coarse 266 k_X6_coarse_266 = true := by decide +kernel
def k_X6_coarse_267 : List En := [(.iload 9, 2, 0, 0, 0, 9, .int), (.ifCond .ne 7, 3, 276, 0, 0, 0, .int), (.iconst 0, 1, 0, 0, 0, 0, .int), (.goto 12, 3, 285, 0, 0, 0, .int)]
theorem b_X6_coarse_267 : isAt "GridStoreModel" 13 false cX6_coarse 267 k_X6_coarse_267 = true := by decide +kernel
def k_X6_coarse_276 : List En := [(.lload 7, 2, 0, 0, 0, 7, .int), (.iload 9, 2, 0, 0, 0, 9, .int), (.i2l, 1, 0, 0, 0, 0, .int)]
theorem b_X6_coarse_276 : isAt "GridStoreModel" 13 false cX6_coarse 276 k_X6_coarse_276 = true := by decide +kernel
def k_X6_coarse_284 : List En := [(.l2i, 1, 0, 0, 0, 0, .int)]
theorem b_X6_coarse_284 : isAt "GridStoreModel" 13 false cX6_coarse 284 k_X6_coarse_284 = true := by decide +kernel
def k_X6_coarse_288 : List En := [(.iadd, 1, 0, 0, 0, 0, .int), (.istore 4, 2, 0, 0, 0, 4, .int), (.iinc 6 1, 3, 0, 1, 0, 6, .int), (.goto (-174), 3, 120, 0, 0, 0, .int)]
theorem b_X6_coarse_288 : isAt "GridStoreModel" 13 false cX6_coarse 288 k_X6_coarse_288 = true := by decide +kernel
def k_X6_coarse_297 : List En := [(.iinc 5 1, 3, 0, 1, 0, 5, .int), (.goto (-194), 3, 106, 0, 0, 0, .int)]
theorem b_X6_coarse_297 : isAt "GridStoreModel" 13 false cX6_coarse 297 k_X6_coarse_297 = true := by decide +kernel
def k_X6_coarse_303 : List En := [(.iload 4, 2, 0, 0, 0, 4, .int)]
theorem b_X6_coarse_303 : isAt "GridStoreModel" 13 false cX6_coarse 303 k_X6_coarse_303 = true := by decide +kernel
def k_X6_count_0 : List En := [(.aload_n 0, 1, 0, 0, 0, 0, .int), (.iconst 0, 1, 0, 0, 0, 0, .int), (.putfield 63, 3, 0, 0, 6, 0, .int), (.iconst 0, 1, 0, 0, 0, 0, .int), (.istore_n 2, 1, 0, 0, 0, 2, .int), (.iload_n 1, 1, 0, 0, 0, 1, .int)]
theorem b_X6_count_0 : isAt "GridStoreModel" 6 false cX6_count 0 k_X6_count_0 = true := by decide +kernel
def k_X6_count_60 : List En := [(.aload_n 0, 1, 0, 0, 0, 0, .int), (.getfield 67, 3, 0, 0, 6, 5, .int)]
theorem b_X6_count_60 : isAt "GridStoreModel" 6 false cX6_count 60 k_X6_count_60 = true := by decide +kernel
def k_X6_count_65 : List En := [(.aload_n 0, 1, 0, 0, 0, 0, .int), (.getfield 78, 3, 0, 0, 6, 18, .int)]
theorem b_X6_count_65 : isAt "GridStoreModel" 6 false cX6_count 65 k_X6_count_65 = true := by decide +kernel
def k_X6_count_70 : List En := [(.iconst 0, 1, 0, 0, 0, 0, .int), (.istore_n 3, 1, 0, 0, 0, 3, .int)]
theorem b_X6_count_70 : isAt "GridStoreModel" 6 false cX6_count 70 k_X6_count_70 = true := by decide +kernel
def k_X6_count_72 : List En := [(.iload_n 3, 1, 0, 0, 0, 3, .int), (.aload_n 0, 1, 0, 0, 0, 0, .int), (.getfield 67, 3, 0, 0, 6, 5, .int), (.if_icmp .ge 18, 3, 95, 0, 0, 0, .int), (.iload_n 2, 1, 0, 0, 0, 2, .int), (.aload_n 0, 1, 0, 0, 0, 0, .int), (.getfield 30, 3, 0, 0, 6, 8, (.array .int)), (.iload_n 3, 1, 0, 0, 0, 3, .int), (.iaload, 1, 0, 0, 0, 0, .int), (.iadd, 1, 0, 0, 0, 0, .int), (.istore_n 2, 1, 0, 0, 0, 2, .int), (.iinc 3 1, 3, 0, 1, 0, 3, .int), (.goto (-20), 3, 72, 0, 0, 0, .int)]
theorem b_X6_count_72 : isAt "GridStoreModel" 6 false cX6_count 72 k_X6_count_72 = true := by decide +kernel
def k_X6_count_95 : List En := [(.iload_n 2, 1, 0, 0, 0, 2, .int)]
theorem b_X6_count_95 : isAt "GridStoreModel" 6 false cX6_count 95 k_X6_count_95 = true := by decide +kernel
def k_X6_count_97 : List En := [(.iconst 0, 1, 0, 0, 0, 0, .int), (.istore_n 3, 1, 0, 0, 0, 3, .int)]
theorem b_X6_count_97 : isAt "GridStoreModel" 6 false cX6_count 97 k_X6_count_97 = true := by decide +kernel
def k_X6_count_99 : List En := [(.iload_n 3, 1, 0, 0, 0, 3, .int), (.iconst 5, 1, 0, 5, 0, 0, .int), (.if_icmp .ge 26, 3, 127, 0, 0, 0, .int), (.iload_n 2, 1, 0, 0, 0, 2, .int), (.aload_n 0, 1, 0, 0, 0, 0, .int), (.getfield 33, 3, 0, 0, 6, 9, (.array .boolean)), (.iload_n 3, 1, 0, 0, 0, 3, .int), (.baload, 1, 0, 0, 0, 0, .int), (.ifCond .eq 7, 3, 118, 0, 0, 0, .int), (.iconst 1, 1, 0, 1, 0, 0, .int), (.goto 4, 3, 119, 0, 0, 0, .int)]
theorem b_X6_count_99 : isAt "GridStoreModel" 6 false cX6_count 99 k_X6_count_99 = true := by decide +kernel
def k_X6_count_118 : List En := [(.iconst 0, 1, 0, 0, 0, 0, .int)]
theorem b_X6_count_118 : isAt "GridStoreModel" 6 false cX6_count 118 k_X6_count_118 = true := by decide +kernel
def k_X6_count_119 : List En := [(.iadd, 1, 0, 0, 0, 0, .int), (.istore_n 2, 1, 0, 0, 0, 2, .int), (.iinc 3 1, 3, 0, 1, 0, 3, .int), (.goto (-25), 3, 99, 0, 0, 0, .int)]
theorem b_X6_count_119 : isAt "GridStoreModel" 6 false cX6_count 119 k_X6_count_119 = true := by decide +kernel
def k_X6_count_127 : List En := [(.iload_n 2, 1, 0, 0, 0, 2, .int)]
theorem b_X6_count_127 : isAt "GridStoreModel" 6 false cX6_count 127 k_X6_count_127 = true := by decide +kernel
def k_X6_count_129 : List En := [(.iconst 0, 1, 0, 0, 0, 0, .int), (.istore_n 3, 1, 0, 0, 0, 3, .int)]
theorem b_X6_count_129 : isAt "GridStoreModel" 6 false cX6_count 129 k_X6_count_129 = true := by decide +kernel
def k_X6_count_131 : List En := [(.iload_n 3, 1, 0, 0, 0, 3, .int), (.aload_n 0, 1, 0, 0, 0, 0, .int), (.getfield 67, 3, 0, 0, 6, 5, .int), (.sipush 1920, 3, 0, 1920, 0, 0, .int), (.imul, 1, 0, 0, 0, 0, .int), (.if_icmp .ge 26, 3, 166, 0, 0, 0, .int), (.iload_n 2, 1, 0, 0, 0, 2, .int), (.aload_n 0, 1, 0, 0, 0, 0, .int), (.getfield 19, 3, 0, 0, 6, 4, (.array .boolean)), (.iload_n 3, 1, 0, 0, 0, 3, .int), (.baload, 1, 0, 0, 0, 0, .int), (.ifCond .eq 7, 3, 157, 0, 0, 0, .int), (.iconst 1, 1, 0, 1, 0, 0, .int), (.goto 4, 3, 158, 0, 0, 0, .int)]
theorem b_X6_count_131 : isAt "GridStoreModel" 6 false cX6_count 131 k_X6_count_131 = true := by decide +kernel
def k_X6_count_157 : List En := [(.iconst 0, 1, 0, 0, 0, 0, .int)]
theorem b_X6_count_157 : isAt "GridStoreModel" 6 false cX6_count 157 k_X6_count_157 = true := by decide +kernel
def k_X6_count_158 : List En := [(.iadd, 1, 0, 0, 0, 0, .int), (.istore_n 2, 1, 0, 0, 0, 2, .int), (.iinc 3 1, 3, 0, 1, 0, 3, .int), (.goto (-32), 3, 131, 0, 0, 0, .int)]
theorem b_X6_count_158 : isAt "GridStoreModel" 6 false cX6_count 158 k_X6_count_158 = true := by decide +kernel
def k_X6_count_166 : List En := [(.iload_n 2, 1, 0, 0, 0, 2, .int)]
theorem b_X6_count_166 : isAt "GridStoreModel" 6 false cX6_count 166 k_X6_count_166 = true := by decide +kernel
def k_X6_count_168 : List En := [(.iconst 0, 1, 0, 0, 0, 0, .int), (.istore_n 3, 1, 0, 0, 0, 3, .int)]
theorem b_X6_count_168 : isAt "GridStoreModel" 6 false cX6_count 168 k_X6_count_168 = true := by decide +kernel
def k_X6_count_170 : List En := [(.iload_n 3, 1, 0, 0, 0, 3, .int), (.aload_n 0, 1, 0, 0, 0, 0, .int), (.getfield 67, 3, 0, 0, 6, 5, .int), (.if_icmp .ge 70, 3, 245, 0, 0, 0, .int), (.iconst 0, 1, 0, 0, 0, 0, .int), (.istore 4, 2, 0, 0, 0, 4, .int)]
theorem b_X6_count_170 : isAt "GridStoreModel" 6 false cX6_count 170 k_X6_count_170 = true := by decide +kernel
def k_X6_count_181 : List En := [(.iload 4, 2, 0, 0, 0, 4, .int), (.aload_n 0, 1, 0, 0, 0, 0, .int), (.iload_n 3, 1, 0, 0, 0, 3, .int)]
theorem b_X6_count_181 : isAt "GridStoreModel" 6 false cX6_count 181 k_X6_count_181 = true := by decide +kernel
def k_X6_count_188 : List En := [(.if_icmp .ge 51, 3, 239, 0, 0, 0, .int), (.iconst 0, 1, 0, 0, 0, 0, .int), (.istore 5, 2, 0, 0, 0, 5, .int)]
theorem b_X6_count_188 : isAt "GridStoreModel" 6 false cX6_count 188 k_X6_count_188 = true := by decide +kernel
def k_X6_count_194 : List En := [(.iload 5, 2, 0, 0, 0, 5, .int), (.aload_n 0, 1, 0, 0, 0, 0, .int), (.iload_n 3, 1, 0, 0, 0, 3, .int)]
theorem b_X6_count_194 : isAt "GridStoreModel" 6 false cX6_count 194 k_X6_count_194 = true := by decide +kernel
def k_X6_count_201 : List En := [(.if_icmp .ge 32, 3, 233, 0, 0, 0, .int), (.iload_n 2, 1, 0, 0, 0, 2, .int), (.aload_n 0, 1, 0, 0, 0, 0, .int), (.iload_n 3, 1, 0, 0, 0, 3, .int), (.iload 5, 2, 0, 0, 0, 5, .int), (.iload 4, 2, 0, 0, 0, 4, .int)]
theorem b_X6_count_201 : isAt "GridStoreModel" 6 false cX6_count 201 k_X6_count_201 = true := by decide +kernel
def k_X6_count_214 : List En := [(.iload_n 1, 1, 0, 0, 0, 1, .int), (.iconst 5, 1, 0, 5, 0, 0, .int), (.isub, 1, 0, 0, 0, 0, .int), (.if_icmp .ne 7, 3, 224, 0, 0, 0, .int), (.iconst 1, 1, 0, 1, 0, 0, .int), (.goto 4, 3, 225, 0, 0, 0, .int)]
theorem b_X6_count_214 : isAt "GridStoreModel" 6 false cX6_count 214 k_X6_count_214 = true := by decide +kernel
def k_X6_count_224 : List En := [(.iconst 0, 1, 0, 0, 0, 0, .int)]
theorem b_X6_count_224 : isAt "GridStoreModel" 6 false cX6_count 224 k_X6_count_224 = true := by decide +kernel
def k_X6_count_225 : List En := [(.iadd, 1, 0, 0, 0, 0, .int), (.istore_n 2, 1, 0, 0, 0, 2, .int), (.iinc 5 1, 3, 0, 1, 0, 5, .int), (.goto (-36), 3, 194, 0, 0, 0, .int)]
theorem b_X6_count_225 : isAt "GridStoreModel" 6 false cX6_count 225 k_X6_count_225 = true := by decide +kernel
def k_X6_count_233 : List En := [(.iinc 4 1, 3, 0, 1, 0, 4, .int), (.goto (-55), 3, 181, 0, 0, 0, .int)]
theorem b_X6_count_233 : isAt "GridStoreModel" 6 false cX6_count 233 k_X6_count_233 = true := by decide +kernel
def k_X6_count_239 : List En := [(.iinc 3 1, 3, 0, 1, 0, 3, .int), (.goto (-72), 3, 170, 0, 0, 0, .int)]
theorem b_X6_count_239 : isAt "GridStoreModel" 6 false cX6_count 239 k_X6_count_239 = true := by decide +kernel
def k_X6_count_245 : List En := [(.iload_n 2, 1, 0, 0, 0, 2, .int)]
theorem b_X6_count_245 : isAt "GridStoreModel" 6 false cX6_count 245 k_X6_count_245 = true := by decide +kernel
def k_X6_count_247 : List En := [(.iconst (-1), 1, 0, (-1), 0, 0, .int)]
theorem b_X6_count_247 : isAt "GridStoreModel" 6 false cX6_count 247 k_X6_count_247 = true := by decide +kernel
def k_X6_differ_0 : List En := [(.aload_n 0, 1, 0, 0, 0, 0, .int), (.iconst 0, 1, 0, 0, 0, 0, .int), (.putfield 63, 3, 0, 0, 6, 0, .int), (.aload_n 0, 1, 0, 0, 0, 0, .int), (.aload_n 0, 1, 0, 0, 0, 0, .int), (.iload_n 1, 1, 0, 0, 0, 1, .int)]
theorem b_X6_differ_0 : isAt "GridStoreModel" 11 false cX6_differ 0 k_X6_differ_0 = true := by decide +kernel
def k_X6_differ_11 : List En := [(.ifCond .ne 31, 3, 42, 0, 0, 0, .int), (.iload_n 2, 1, 0, 0, 0, 2, .int), (.iconst (-1), 1, 0, (-1), 0, 0, .int), (.if_icmp .eq 12, 3, 28, 0, 0, 0, .int), (.aload_n 0, 1, 0, 0, 0, 0, .int), (.iload_n 1, 1, 0, 0, 0, 1, .int), (.iload_n 2, 1, 0, 0, 0, 2, .int)]
theorem b_X6_differ_11 : isAt "GridStoreModel" 11 false cX6_differ 11 k_X6_differ_11 = true := by decide +kernel
def k_X6_differ_25 : List En := [(.ifCond .ne 17, 3, 42, 0, 0, 0, .int)]
theorem b_X6_differ_25 : isAt "GridStoreModel" 11 false cX6_differ 25 k_X6_differ_25 = true := by decide +kernel
def k_X6_differ_28 : List En := [(.iload_n 3, 1, 0, 0, 0, 3, .int), (.iconst (-1), 1, 0, (-1), 0, 0, .int), (.if_icmp .eq 16, 3, 46, 0, 0, 0, .int), (.aload_n 0, 1, 0, 0, 0, 0, .int), (.iload_n 1, 1, 0, 0, 0, 1, .int), (.iload_n 3, 1, 0, 0, 0, 3, .int)]
theorem b_X6_differ_28 : isAt "GridStoreModel" 11 false cX6_differ 28 k_X6_differ_28 = true := by decide +kernel
def k_X6_differ_39 : List En := [(.ifCond .eq 7, 3, 46, 0, 0, 0, .int)]
theorem b_X6_differ_39 : isAt "GridStoreModel" 11 false cX6_differ 39 k_X6_differ_39 = true := by decide +kernel
def k_X6_differ_42 : List En := [(.iconst 1, 1, 0, 1, 0, 0, .int), (.goto 4, 3, 47, 0, 0, 0, .int)]
theorem b_X6_differ_42 : isAt "GridStoreModel" 11 false cX6_differ 42 k_X6_differ_42 = true := by decide +kernel
def k_X6_differ_46 : List En := [(.iconst 0, 1, 0, 0, 0, 0, .int)]
theorem b_X6_differ_46 : isAt "GridStoreModel" 11 false cX6_differ 46 k_X6_differ_46 = true := by decide +kernel
def k_X6_differ_47 : List En := [(.iconst 1, 1, 0, 1, 0, 0, .int)]
theorem b_X6_differ_47 : isAt "GridStoreModel" 11 false cX6_differ 47 k_X6_differ_47 = true := by decide +kernel
def k_X6_differ_51 : List En := [(.ifCond .eq 5, 3, 56, 0, 0, 0, .int), (.iconst 0, 1, 0, 0, 0, 0, .int)]
theorem b_X6_differ_51 : isAt "GridStoreModel" 11 false cX6_differ 51 k_X6_differ_51 = true := by decide +kernel
def k_X6_differ_56 : List En := [(.iconst 0, 1, 0, 0, 0, 0, .int), (.istore 4, 2, 0, 0, 0, 4, .int), (.iconst 0, 1, 0, 0, 0, 0, .int), (.istore 5, 2, 0, 0, 0, 5, .int)]
theorem b_X6_differ_56 : isAt "GridStoreModel" 11 false cX6_differ 56 k_X6_differ_56 = true := by decide +kernel
def k_X6_differ_62 : List En := [(.iload 5, 2, 0, 0, 0, 5, .int), (.aload_n 0, 1, 0, 0, 0, 0, .int), (.iload_n 1, 1, 0, 0, 0, 1, .int)]
theorem b_X6_differ_62 : isAt "GridStoreModel" 11 false cX6_differ 62 k_X6_differ_62 = true := by decide +kernel
def k_X6_differ_69 : List En := [(.if_icmp .ge 191, 3, 260, 0, 0, 0, .int), (.iconst 0, 1, 0, 0, 0, 0, .int), (.istore 6, 2, 0, 0, 0, 6, .int)]
theorem b_X6_differ_69 : isAt "GridStoreModel" 11 false cX6_differ 69 k_X6_differ_69 = true := by decide +kernel
def k_X6_differ_75 : List En := [(.iload 6, 2, 0, 0, 0, 6, .int), (.aload_n 0, 1, 0, 0, 0, 0, .int), (.iload_n 1, 1, 0, 0, 0, 1, .int)]
theorem b_X6_differ_75 : isAt "GridStoreModel" 11 false cX6_differ 75 k_X6_differ_75 = true := by decide +kernel
def k_X6_differ_82 : List En := [(.if_icmp .ge 172, 3, 254, 0, 0, 0, .int), (.iconst 1, 1, 0, 1, 0, 0, .int), (.istore 7, 2, 0, 0, 0, 7, .int), (.bipush 8, 2, 0, 8, 0, 0, .int), (.iload 5, 2, 0, 0, 0, 5, .int), (.imul, 1, 0, 0, 0, 0, .int), (.istore 8, 2, 0, 0, 0, 8, .int)]
theorem b_X6_differ_82 : isAt "GridStoreModel" 11 false cX6_differ 82 k_X6_differ_82 = true := by decide +kernel
def k_X6_differ_95 : List En := [(.iload 8, 2, 0, 0, 0, 8, .int), (.bipush 8, 2, 0, 8, 0, 0, .int), (.iload 5, 2, 0, 0, 0, 5, .int), (.imul, 1, 0, 0, 0, 0, .int), (.bipush 8, 2, 0, 8, 0, 0, .int), (.iadd, 1, 0, 0, 0, 0, .int), (.if_icmp .ge 128, 3, 233, 0, 0, 0, .int), (.iload 8, 2, 0, 0, 0, 8, .int), (.aload_n 0, 1, 0, 0, 0, 0, .int), (.getfield 13, 3, 0, 0, 6, 2, (.array .int)), (.iload_n 1, 1, 0, 0, 0, 1, .int), (.iaload, 1, 0, 0, 0, 0, .int), (.if_icmp .ge 117, 3, 233, 0, 0, 0, .int), (.bipush 8, 2, 0, 8, 0, 0, .int), (.iload 6, 2, 0, 0, 0, 6, .int), (.imul, 1, 0, 0, 0, 0, .int), (.istore 9, 2, 0, 0, 0, 9, .int)]
theorem b_X6_differ_95 : isAt "GridStoreModel" 11 false cX6_differ 95 k_X6_differ_95 = true := by decide +kernel
def k_X6_differ_126 : List En := [(.iload 9, 2, 0, 0, 0, 9, .int), (.bipush 8, 2, 0, 8, 0, 0, .int), (.iload 6, 2, 0, 0, 0, 6, .int), (.imul, 1, 0, 0, 0, 0, .int), (.bipush 8, 2, 0, 8, 0, 0, .int), (.iadd, 1, 0, 0, 0, 0, .int), (.if_icmp .ge 91, 3, 227, 0, 0, 0, .int), (.iload 9, 2, 0, 0, 0, 9, .int), (.aload_n 0, 1, 0, 0, 0, 0, .int), (.getfield 9, 3, 0, 0, 6, 1, (.array .int)), (.iload_n 1, 1, 0, 0, 0, 1, .int), (.iaload, 1, 0, 0, 0, 0, .int), (.if_icmp .ge 80, 3, 227, 0, 0, 0, .int), (.bipush 48, 2, 0, 48, 0, 0, .int), (.iload 8, 2, 0, 0, 0, 8, .int), (.imul, 1, 0, 0, 0, 0, .int), (.iload 9, 2, 0, 0, 0, 9, .int), (.iadd, 1, 0, 0, 0, 0, .int), (.istore 10, 2, 0, 0, 0, 10, .int), (.iload 7, 2, 0, 0, 0, 7, .int), (.ifCond .eq 56, 3, 218, 0, 0, 0, .int), (.aload_n 0, 1, 0, 0, 0, 0, .int), (.iload_n 1, 1, 0, 0, 0, 1, .int), (.iload_n 2, 1, 0, 0, 0, 2, .int), (.iload 10, 2, 0, 0, 0, 10, .int)]
theorem b_X6_differ_126 : isAt "GridStoreModel" 11 false cX6_differ 126 k_X6_differ_126 = true := by decide +kernel
def k_X6_differ_173 : List En := [(.aload_n 0, 1, 0, 0, 0, 0, .int), (.iload_n 1, 1, 0, 0, 0, 1, .int), (.iload_n 3, 1, 0, 0, 0, 3, .int), (.iload 10, 2, 0, 0, 0, 10, .int)]
theorem b_X6_differ_173 : isAt "GridStoreModel" 11 false cX6_differ 173 k_X6_differ_173 = true := by decide +kernel
def k_X6_differ_181 : List En := [(.if_icmp .ne 37, 3, 218, 0, 0, 0, .int), (.aload_n 0, 1, 0, 0, 0, 0, .int), (.iload_n 1, 1, 0, 0, 0, 1, .int), (.iload_n 2, 1, 0, 0, 0, 2, .int), (.iload 10, 2, 0, 0, 0, 10, .int)]
theorem b_X6_differ_181 : isAt "GridStoreModel" 11 false cX6_differ 181 k_X6_differ_181 = true := by decide +kernel
def k_X6_differ_192 : List En := [(.ifCond .eq 22, 3, 214, 0, 0, 0, .int), (.aload_n 0, 1, 0, 0, 0, 0, .int), (.iload_n 1, 1, 0, 0, 0, 1, .int), (.iload_n 2, 1, 0, 0, 0, 2, .int), (.iload 10, 2, 0, 0, 0, 10, .int)]
theorem b_X6_differ_192 : isAt "GridStoreModel" 11 false cX6_differ 192 k_X6_differ_192 = true := by decide +kernel
def k_X6_differ_203 : List En := [(.aload_n 0, 1, 0, 0, 0, 0, .int), (.iload_n 1, 1, 0, 0, 0, 1, .int), (.iload_n 3, 1, 0, 0, 0, 3, .int), (.iload 10, 2, 0, 0, 0, 10, .int)]
theorem b_X6_differ_203 : isAt "GridStoreModel" 11 false cX6_differ 203 k_X6_differ_203 = true := by decide +kernel
def k_X6_differ_211 : List En := [(.if_icmp .ne 7, 3, 218, 0, 0, 0, .int)]
theorem b_X6_differ_211 : isAt "GridStoreModel" 11 false cX6_differ 211 k_X6_differ_211 = true := by decide +kernel
def k_X6_differ_214 : List En := [(.iconst 1, 1, 0, 1, 0, 0, .int), (.goto 4, 3, 219, 0, 0, 0, .int)]
theorem b_X6_differ_214 : isAt "GridStoreModel" 11 false cX6_differ 214 k_X6_differ_214 = true := by decide +kernel
def k_X6_differ_218 : List En := [(.iconst 0, 1, 0, 0, 0, 0, .int)]
theorem b_X6_differ_218 : isAt "GridStoreModel" 11 false cX6_differ 218 k_X6_differ_218 = true := by decide +kernel
def k_X6_differ_219 : List En := [(.istore 7, 2, 0, 0, 0, 7, .int), (.iinc 9 1, 3, 0, 1, 0, 9, .int), (.goto (-98), 3, 126, 0, 0, 0, .int)]
theorem b_X6_differ_219 : isAt "GridStoreModel" 11 false cX6_differ 219 k_X6_differ_219 = true := by decide +kernel
def k_X6_differ_227 : List En := [(.iinc 8 1, 3, 0, 1, 0, 8, .int), (.goto (-135), 3, 95, 0, 0, 0, .int)]
theorem b_X6_differ_227 : isAt "GridStoreModel" 11 false cX6_differ 227 k_X6_differ_227 = true := by decide +kernel
def k_X6_differ_233 : List En := [(.iload 4, 2, 0, 0, 0, 4, .int), (.iload 7, 2, 0, 0, 0, 7, .int), (.ifCond .eq 7, 3, 244, 0, 0, 0, .int), (.iconst 0, 1, 0, 0, 0, 0, .int), (.goto 4, 3, 245, 0, 0, 0, .int)]
theorem b_X6_differ_233 : isAt "GridStoreModel" 11 false cX6_differ 233 k_X6_differ_233 = true := by decide +kernel
def k_X6_differ_244 : List En := [(.iconst 1, 1, 0, 1, 0, 0, .int)]
theorem b_X6_differ_244 : isAt "GridStoreModel" 11 false cX6_differ 244 k_X6_differ_244 = true := by decide +kernel
def k_X6_differ_245 : List En := [(.iadd, 1, 0, 0, 0, 0, .int), (.istore 4, 2, 0, 0, 0, 4, .int), (.iinc 6 1, 3, 0, 1, 0, 6, .int), (.goto (-176), 3, 75, 0, 0, 0, .int)]
theorem b_X6_differ_245 : isAt "GridStoreModel" 11 false cX6_differ 245 k_X6_differ_245 = true := by decide +kernel
def k_X6_differ_254 : List En := [(.iinc 5 1, 3, 0, 1, 0, 5, .int), (.goto (-195), 3, 62, 0, 0, 0, .int)]
theorem b_X6_differ_254 : isAt "GridStoreModel" 11 false cX6_differ 254 k_X6_differ_254 = true := by decide +kernel
def k_X6_differ_260 : List En := [(.iload 4, 2, 0, 0, 0, 4, .int)]
theorem b_X6_differ_260 : isAt "GridStoreModel" 11 false cX6_differ 260 k_X6_differ_260 = true := by decide +kernel
def k_X6_dig_0 : List En := [(.aload_n 0, 1, 0, 0, 0, 0, .int), (.iconst 0, 1, 0, 0, 0, 0, .int), (.putfield 63, 3, 0, 0, 6, 0, .int), (.aload_n 0, 1, 0, 0, 0, 0, .int), (.aload_n 0, 1, 0, 0, 0, 0, .int), (.iload_n 1, 1, 0, 0, 0, 1, .int)]
theorem b_X6_dig_0 : isAt "GridStoreModel" 4 false cX6_dig 0 k_X6_dig_0 = true := by decide +kernel
def k_X6_dig_11 : List En := [(.ifCond .ne 13, 3, 24, 0, 0, 0, .int), (.aload_n 0, 1, 0, 0, 0, 0, .int), (.iload_n 1, 1, 0, 0, 0, 1, .int), (.iload_n 2, 1, 0, 0, 0, 2, .int), (.iload_n 3, 1, 0, 0, 0, 3, .int)]
theorem b_X6_dig_11 : isAt "GridStoreModel" 4 false cX6_dig 11 k_X6_dig_11 = true := by decide +kernel
def k_X6_dig_21 : List En := [(.ifCond .eq 7, 3, 28, 0, 0, 0, .int)]
theorem b_X6_dig_21 : isAt "GridStoreModel" 4 false cX6_dig 21 k_X6_dig_21 = true := by decide +kernel
def k_X6_dig_24 : List En := [(.iconst 1, 1, 0, 1, 0, 0, .int), (.goto 4, 3, 29, 0, 0, 0, .int)]
theorem b_X6_dig_24 : isAt "GridStoreModel" 4 false cX6_dig 24 k_X6_dig_24 = true := by decide +kernel
def k_X6_dig_28 : List En := [(.iconst 0, 1, 0, 0, 0, 0, .int)]
theorem b_X6_dig_28 : isAt "GridStoreModel" 4 false cX6_dig 28 k_X6_dig_28 = true := by decide +kernel
def k_X6_dig_29 : List En := [(.iconst 1, 1, 0, 1, 0, 0, .int)]
theorem b_X6_dig_29 : isAt "GridStoreModel" 4 false cX6_dig 29 k_X6_dig_29 = true := by decide +kernel
def k_X6_dig_33 : List En := [(.ifCond .ne 11, 3, 44, 0, 0, 0, .int), (.aload_n 0, 1, 0, 0, 0, 0, .int), (.iload_n 1, 1, 0, 0, 0, 1, .int)]
theorem b_X6_dig_33 : isAt "GridStoreModel" 4 false cX6_dig 33 k_X6_dig_33 = true := by decide +kernel
def k_X6_dig_41 : List En := [(.ifCond .eq 5, 3, 46, 0, 0, 0, .int)]
theorem b_X6_dig_41 : isAt "GridStoreModel" 4 false cX6_dig 41 k_X6_dig_41 = true := by decide +kernel
def k_X6_dig_44 : List En := [(.iconst 0, 1, 0, 0, 0, 0, .int)]
theorem b_X6_dig_44 : isAt "GridStoreModel" 4 false cX6_dig 44 k_X6_dig_44 = true := by decide +kernel
def k_X6_dig_46 : List En := [(.aload_n 0, 1, 0, 0, 0, 0, .int), (.aload_n 0, 1, 0, 0, 0, 0, .int), (.iload_n 1, 1, 0, 0, 0, 1, .int), (.iload_n 2, 1, 0, 0, 0, 2, .int), (.iload_n 3, 1, 0, 0, 0, 3, .int)]
theorem b_X6_dig_46 : isAt "GridStoreModel" 4 false cX6_dig 46 k_X6_dig_46 = true := by decide +kernel
def k_X6_dig_54 : List En := [(.iconst 0, 1, 0, 0, 0, 0, .int), (.iconst 0, 1, 0, 0, 0, 0, .int)]
theorem b_X6_dig_54 : isAt "GridStoreModel" 4 false cX6_dig 54 k_X6_dig_54 = true := by decide +kernel
def k_X6_dig_59 : List En := [(.iconst 1, 1, 0, 1, 0, 0, .int), (.if_icmp .ne 7, 3, 67, 0, 0, 0, .int), (.iconst 1, 1, 0, 1, 0, 0, .int), (.goto 4, 3, 68, 0, 0, 0, .int)]
theorem b_X6_dig_59 : isAt "GridStoreModel" 4 false cX6_dig 59 k_X6_dig_59 = true := by decide +kernel
def k_X6_dig_67 : List En := [(.iconst 0, 1, 0, 0, 0, 0, .int)]
theorem b_X6_dig_67 : isAt "GridStoreModel" 4 false cX6_dig 67 k_X6_dig_67 = true := by decide +kernel
def k_X6_fill_0 : List En := [(.aload_n 0, 1, 0, 0, 0, 0, .int), (.iconst 0, 1, 0, 0, 0, 0, .int), (.putfield 63, 3, 0, 0, 6, 0, .int), (.aload_n 0, 1, 0, 0, 0, 0, .int), (.aload_n 0, 1, 0, 0, 0, 0, .int), (.iload_n 1, 1, 0, 0, 0, 1, .int)]
theorem b_X6_fill_0 : isAt "GridStoreModel" 10 false cX6_fill 0 k_X6_fill_0 = true := by decide +kernel
def k_X6_fill_11 : List En := [(.iconst 1, 1, 0, 1, 0, 0, .int)]
theorem b_X6_fill_11 : isAt "GridStoreModel" 10 false cX6_fill 11 k_X6_fill_11 = true := by decide +kernel
def k_X6_fill_15 : List En := [(.ifCond .ne 30, 3, 45, 0, 0, 0, .int), (.aload_n 0, 1, 0, 0, 0, 0, .int), (.aload_n 0, 1, 0, 0, 0, 0, .int), (.iload_n 1, 1, 0, 0, 0, 1, .int), (.iload_n 2, 1, 0, 0, 0, 2, .int), (.iload_n 3, 1, 0, 0, 0, 3, .int), (.iload 4, 2, 0, 0, 0, 4, .int), (.iload 5, 2, 0, 0, 0, 5, .int)]
theorem b_X6_fill_15 : isAt "GridStoreModel" 10 false cX6_fill 15 k_X6_fill_15 = true := by decide +kernel
def k_X6_fill_30 : List En := [(.iconst 2, 1, 0, 2, 0, 0, .int)]
theorem b_X6_fill_30 : isAt "GridStoreModel" 10 false cX6_fill 30 k_X6_fill_30 = true := by decide +kernel
def k_X6_fill_34 : List En := [(.ifCond .ne 11, 3, 45, 0, 0, 0, .int), (.aload_n 0, 1, 0, 0, 0, 0, .int), (.iload_n 1, 1, 0, 0, 0, 1, .int)]
theorem b_X6_fill_34 : isAt "GridStoreModel" 10 false cX6_fill 34 k_X6_fill_34 = true := by decide +kernel
def k_X6_fill_42 : List En := [(.ifCond .eq 5, 3, 47, 0, 0, 0, .int)]
theorem b_X6_fill_42 : isAt "GridStoreModel" 10 false cX6_fill 42 k_X6_fill_42 = true := by decide +kernel
def k_X6_fill_45 : List En := [(.iconst 0, 1, 0, 0, 0, 0, .int)]
theorem b_X6_fill_45 : isAt "GridStoreModel" 10 false cX6_fill 45 k_X6_fill_45 = true := by decide +kernel
def k_X6_fill_47 : List En := [(.iconst 0, 1, 0, 0, 0, 0, .int), (.istore 7, 2, 0, 0, 0, 7, .int), (.iload_n 3, 1, 0, 0, 0, 3, .int), (.istore 8, 2, 0, 0, 0, 8, .int)]
theorem b_X6_fill_47 : isAt "GridStoreModel" 10 false cX6_fill 47 k_X6_fill_47 = true := by decide +kernel
def k_X6_fill_53 : List En := [(.iload 8, 2, 0, 0, 0, 8, .int), (.iload_n 3, 1, 0, 0, 0, 3, .int), (.iload 5, 2, 0, 0, 0, 5, .int), (.iadd, 1, 0, 0, 0, 0, .int), (.if_icmp .ge 48, 3, 107, 0, 0, 0, .int), (.iload_n 2, 1, 0, 0, 0, 2, .int), (.istore 9, 2, 0, 0, 0, 9, .int)]
theorem b_X6_fill_53 : isAt "GridStoreModel" 10 false cX6_fill 53 k_X6_fill_53 = true := by decide +kernel
def k_X6_fill_65 : List En := [(.iload 9, 2, 0, 0, 0, 9, .int), (.iload_n 2, 1, 0, 0, 0, 2, .int), (.iload 4, 2, 0, 0, 0, 4, .int), (.iadd, 1, 0, 0, 0, 0, .int), (.if_icmp .ge 30, 3, 101, 0, 0, 0, .int), (.iload 7, 2, 0, 0, 0, 7, .int), (.aload_n 0, 1, 0, 0, 0, 0, .int), (.aload_n 0, 1, 0, 0, 0, 0, .int), (.iload_n 1, 1, 0, 0, 0, 1, .int), (.iload 9, 2, 0, 0, 0, 9, .int), (.iload 8, 2, 0, 0, 0, 8, .int)]
theorem b_X6_fill_65 : isAt "GridStoreModel" 10 false cX6_fill 65 k_X6_fill_65 = true := by decide +kernel
def k_X6_fill_86 : List En := [(.iconst 1, 1, 0, 1, 0, 0, .int), (.iload 6, 2, 0, 0, 0, 6, .int)]
theorem b_X6_fill_86 : isAt "GridStoreModel" 10 false cX6_fill 86 k_X6_fill_86 = true := by decide +kernel
def k_X6_fill_92 : List En := [(.iadd, 1, 0, 0, 0, 0, .int), (.istore 7, 2, 0, 0, 0, 7, .int), (.iinc 9 1, 3, 0, 1, 0, 9, .int), (.goto (-33), 3, 65, 0, 0, 0, .int)]
theorem b_X6_fill_92 : isAt "GridStoreModel" 10 false cX6_fill 92 k_X6_fill_92 = true := by decide +kernel
def k_X6_fill_101 : List En := [(.iinc 8 1, 3, 0, 1, 0, 8, .int), (.goto (-51), 3, 53, 0, 0, 0, .int)]
theorem b_X6_fill_101 : isAt "GridStoreModel" 10 false cX6_fill 101 k_X6_fill_101 = true := by decide +kernel
def k_X6_fill_107 : List En := [(.iload 7, 2, 0, 0, 0, 7, .int)]
theorem b_X6_fill_107 : isAt "GridStoreModel" 10 false cX6_fill 107 k_X6_fill_107 = true := by decide +kernel
def k_X6_find_0 : List En := [(.aload_n 0, 1, 0, 0, 0, 0, .int), (.iconst 0, 1, 0, 0, 0, 0, .int), (.putfield 63, 3, 0, 0, 6, 0, .int), (.aload_n 0, 1, 0, 0, 0, 0, .int), (.aload_n 0, 1, 0, 0, 0, 0, .int), (.iload_n 1, 1, 0, 0, 0, 1, .int)]
theorem b_X6_find_0 : isAt "GridStoreModel" 6 false cX6_find 0 k_X6_find_0 = true := by decide +kernel
def k_X6_find_11 : List En := [(.iconst 1, 1, 0, 1, 0, 0, .int)]
theorem b_X6_find_11 : isAt "GridStoreModel" 6 false cX6_find 11 k_X6_find_11 = true := by decide +kernel
def k_X6_find_15 : List En := [(.ifCond .eq 5, 3, 20, 0, 0, 0, .int), (.iconst 0, 1, 0, 0, 0, 0, .int)]
theorem b_X6_find_15 : isAt "GridStoreModel" 6 false cX6_find 15 k_X6_find_15 = true := by decide +kernel
def k_X6_find_20 : List En := [(.iconst 0, 1, 0, 0, 0, 0, .int), (.istore_n 3, 1, 0, 0, 0, 3, .int)]
theorem b_X6_find_20 : isAt "GridStoreModel" 6 false cX6_find 20 k_X6_find_20 = true := by decide +kernel
def k_X6_find_22 : List En := [(.iload_n 3, 1, 0, 0, 0, 3, .int), (.aload_n 0, 1, 0, 0, 0, 0, .int), (.iload_n 1, 1, 0, 0, 0, 1, .int), (.iconst 1, 1, 0, 1, 0, 0, .int)]
theorem b_X6_find_22 : isAt "GridStoreModel" 6 false cX6_find 22 k_X6_find_22 = true := by decide +kernel
def k_X6_find_29 : List En := [(.if_icmp .ge 68, 3, 97, 0, 0, 0, .int), (.iconst 0, 1, 0, 0, 0, 0, .int), (.istore 4, 2, 0, 0, 0, 4, .int)]
theorem b_X6_find_29 : isAt "GridStoreModel" 6 false cX6_find 29 k_X6_find_29 = true := by decide +kernel
def k_X6_find_35 : List En := [(.iload 4, 2, 0, 0, 0, 4, .int), (.aload_n 0, 1, 0, 0, 0, 0, .int), (.iload_n 1, 1, 0, 0, 0, 1, .int), (.iconst 0, 1, 0, 0, 0, 0, .int)]
theorem b_X6_find_35 : isAt "GridStoreModel" 6 false cX6_find 35 k_X6_find_35 = true := by decide +kernel
def k_X6_find_43 : List En := [(.if_icmp .ge 48, 3, 91, 0, 0, 0, .int), (.aload_n 0, 1, 0, 0, 0, 0, .int), (.iload_n 1, 1, 0, 0, 0, 1, .int), (.iload 4, 2, 0, 0, 0, 4, .int), (.iload_n 3, 1, 0, 0, 0, 3, .int)]
theorem b_X6_find_43 : isAt "GridStoreModel" 6 false cX6_find 43 k_X6_find_43 = true := by decide +kernel
def k_X6_find_54 : List En := [(.istore 5, 2, 0, 0, 0, 5, .int), (.aload_n 0, 1, 0, 0, 0, 0, .int), (.getfield 19, 3, 0, 0, 6, 4, (.array .boolean)), (.iload 5, 2, 0, 0, 0, 5, .int), (.baload, 1, 0, 0, 0, 0, .int), (.ifCond .eq 22, 3, 85, 0, 0, 0, .int), (.aload_n 0, 1, 0, 0, 0, 0, .int), (.getfield 16, 3, 0, 0, 6, 3, (.array .int)), (.iload 5, 2, 0, 0, 0, 5, .int), (.iaload, 1, 0, 0, 0, 0, .int), (.iload_n 2, 1, 0, 0, 0, 2, .int), (.if_icmp .lt 11, 3, 85, 0, 0, 0, .int), (.bipush 100, 2, 0, 100, 0, 0, .int), (.iload_n 3, 1, 0, 0, 0, 3, .int), (.imul, 1, 0, 0, 0, 0, .int), (.iload 4, 2, 0, 0, 0, 4, .int), (.iadd, 1, 0, 0, 0, 0, .int)]
theorem b_X6_find_54 : isAt "GridStoreModel" 6 false cX6_find 54 k_X6_find_54 = true := by decide +kernel
def k_X6_find_85 : List En := [(.iinc 4 1, 3, 0, 1, 0, 4, .int), (.goto (-53), 3, 35, 0, 0, 0, .int)]
theorem b_X6_find_85 : isAt "GridStoreModel" 6 false cX6_find 85 k_X6_find_85 = true := by decide +kernel
def k_X6_find_91 : List En := [(.iinc 3 1, 3, 0, 1, 0, 3, .int), (.goto (-72), 3, 22, 0, 0, 0, .int)]
theorem b_X6_find_91 : isAt "GridStoreModel" 6 false cX6_find 91 k_X6_find_91 = true := by decide +kernel
def k_X6_find_97 : List En := [(.iconst (-1), 1, 0, (-1), 0, 0, .int)]
theorem b_X6_find_97 : isAt "GridStoreModel" 6 false cX6_find 97 k_X6_find_97 = true := by decide +kernel
def k_X6_fold_0 : List En := [(.aload_n 0, 1, 0, 0, 0, 0, .int), (.iconst 0, 1, 0, 0, 0, 0, .int), (.putfield 63, 3, 0, 0, 6, 0, .int), (.aload_n 0, 1, 0, 0, 0, 0, .int), (.aload_n 0, 1, 0, 0, 0, 0, .int), (.iload_n 1, 1, 0, 0, 0, 1, .int)]
theorem b_X6_fold_0 : isAt "GridStoreModel" 11 false cX6_fold 0 k_X6_fold_0 = true := by decide +kernel
def k_X6_fold_11 : List En := [(.ifCond .ne 11, 3, 22, 0, 0, 0, .int), (.aload_n 0, 1, 0, 0, 0, 0, .int), (.iload_n 3, 1, 0, 0, 0, 3, .int)]
theorem b_X6_fold_11 : isAt "GridStoreModel" 11 false cX6_fold 11 k_X6_fold_11 = true := by decide +kernel
def k_X6_fold_19 : List En := [(.ifCond .eq 7, 3, 26, 0, 0, 0, .int)]
theorem b_X6_fold_19 : isAt "GridStoreModel" 11 false cX6_fold 19 k_X6_fold_19 = true := by decide +kernel
def k_X6_fold_22 : List En := [(.iconst 1, 1, 0, 1, 0, 0, .int), (.goto 4, 3, 27, 0, 0, 0, .int)]
theorem b_X6_fold_22 : isAt "GridStoreModel" 11 false cX6_fold 22 k_X6_fold_22 = true := by decide +kernel
def k_X6_fold_26 : List En := [(.iconst 0, 1, 0, 0, 0, 0, .int)]
theorem b_X6_fold_26 : isAt "GridStoreModel" 11 false cX6_fold 26 k_X6_fold_26 = true := by decide +kernel
def k_X6_fold_27 : List En := [(.iconst 1, 1, 0, 1, 0, 0, .int)]
theorem b_X6_fold_27 : isAt "GridStoreModel" 11 false cX6_fold 27 k_X6_fold_27 = true := by decide +kernel
def k_X6_fold_31 : List En := [(.ifCond .ne 61, 3, 92, 0, 0, 0, .int), (.aload_n 0, 1, 0, 0, 0, 0, .int), (.aload_n 0, 1, 0, 0, 0, 0, .int), (.iload_n 3, 1, 0, 0, 0, 3, .int), (.iload_n 2, 1, 0, 0, 0, 2, .int), (.ifCond .eq 12, 3, 50, 0, 0, 0, .int), (.aload_n 0, 1, 0, 0, 0, 0, .int), (.iload_n 1, 1, 0, 0, 0, 1, .int), (.iconst 0, 1, 0, 0, 0, 0, .int)]
theorem b_X6_fold_31 : isAt "GridStoreModel" 11 false cX6_fold 31 k_X6_fold_31 = true := by decide +kernel
def k_X6_fold_47 : List En := [(.goto 4, 3, 51, 0, 0, 0, .int)]
theorem b_X6_fold_47 : isAt "GridStoreModel" 11 false cX6_fold 47 k_X6_fold_47 = true := by decide +kernel
def k_X6_fold_50 : List En := [(.iconst 1, 1, 0, 1, 0, 0, .int)]
theorem b_X6_fold_50 : isAt "GridStoreModel" 11 false cX6_fold 50 k_X6_fold_50 = true := by decide +kernel
def k_X6_fold_51 : List En := [(.iload_n 2, 1, 0, 0, 0, 2, .int), (.ifCond .eq 7, 3, 59, 0, 0, 0, .int), (.iconst 1, 1, 0, 1, 0, 0, .int), (.goto 9, 3, 65, 0, 0, 0, .int)]
theorem b_X6_fold_51 : isAt "GridStoreModel" 11 false cX6_fold 51 k_X6_fold_51 = true := by decide +kernel
def k_X6_fold_59 : List En := [(.aload_n 0, 1, 0, 0, 0, 0, .int), (.iload_n 1, 1, 0, 0, 0, 1, .int), (.iconst 1, 1, 0, 1, 0, 0, .int)]
theorem b_X6_fold_59 : isAt "GridStoreModel" 11 false cX6_fold 59 k_X6_fold_59 = true := by decide +kernel
def k_X6_fold_68 : List En := [(.ifCond .eq 12, 3, 80, 0, 0, 0, .int), (.aload_n 0, 1, 0, 0, 0, 0, .int), (.iload_n 1, 1, 0, 0, 0, 1, .int)]
theorem b_X6_fold_68 : isAt "GridStoreModel" 11 false cX6_fold 68 k_X6_fold_68 = true := by decide +kernel
def k_X6_fold_76 : List En := [(.iload_n 3, 1, 0, 0, 0, 3, .int), (.if_icmp .ne 7, 3, 84, 0, 0, 0, .int)]
theorem b_X6_fold_76 : isAt "GridStoreModel" 11 false cX6_fold 76 k_X6_fold_76 = true := by decide +kernel
def k_X6_fold_80 : List En := [(.iconst 1, 1, 0, 1, 0, 0, .int), (.goto 4, 3, 85, 0, 0, 0, .int)]
theorem b_X6_fold_80 : isAt "GridStoreModel" 11 false cX6_fold 80 k_X6_fold_80 = true := by decide +kernel
def k_X6_fold_84 : List En := [(.iconst 0, 1, 0, 0, 0, 0, .int)]
theorem b_X6_fold_84 : isAt "GridStoreModel" 11 false cX6_fold 84 k_X6_fold_84 = true := by decide +kernel
def k_X6_fold_85 : List En := [(.iconst 2, 1, 0, 2, 0, 0, .int)]
theorem b_X6_fold_85 : isAt "GridStoreModel" 11 false cX6_fold 85 k_X6_fold_85 = true := by decide +kernel
def k_X6_fold_89 : List En := [(.ifCond .eq 5, 3, 94, 0, 0, 0, .int)]
theorem b_X6_fold_89 : isAt "GridStoreModel" 11 false cX6_fold 89 k_X6_fold_89 = true := by decide +kernel
def k_X6_fold_92 : List En := [(.iconst 0, 1, 0, 0, 0, 0, .int)]
theorem b_X6_fold_92 : isAt "GridStoreModel" 11 false cX6_fold 92 k_X6_fold_92 = true := by decide +kernel
def k_X6_fold_94 : List En := [(.iconst 0, 1, 0, 0, 0, 0, .int), (.istore 4, 2, 0, 0, 0, 4, .int), (.iconst 0, 1, 0, 0, 0, 0, .int), (.istore 5, 2, 0, 0, 0, 5, .int)]
theorem b_X6_fold_94 : isAt "GridStoreModel" 11 false cX6_fold 94 k_X6_fold_94 = true := by decide +kernel
def k_X6_fold_100 : List En := [(.iload 5, 2, 0, 0, 0, 5, .int), (.aload_n 0, 1, 0, 0, 0, 0, .int), (.getfield 13, 3, 0, 0, 6, 2, (.array .int)), (.iload_n 3, 1, 0, 0, 0, 3, .int), (.iaload, 1, 0, 0, 0, 0, .int), (.if_icmp .ge 140, 3, 248, 0, 0, 0, .int), (.iconst 0, 1, 0, 0, 0, 0, .int), (.istore 6, 2, 0, 0, 0, 6, .int)]
theorem b_X6_fold_100 : isAt "GridStoreModel" 11 false cX6_fold 100 k_X6_fold_100 = true := by decide +kernel
def k_X6_fold_114 : List En := [(.iload 6, 2, 0, 0, 0, 6, .int), (.aload_n 0, 1, 0, 0, 0, 0, .int), (.getfield 9, 3, 0, 0, 6, 1, (.array .int)), (.iload_n 3, 1, 0, 0, 0, 3, .int), (.iaload, 1, 0, 0, 0, 0, .int), (.if_icmp .ge 120, 3, 242, 0, 0, 0, .int), (.iconst 0, 1, 0, 0, 0, 0, .int), (.istore 7, 2, 0, 0, 0, 7, .int), (.iconst 0, 1, 0, 0, 0, 0, .int), (.istore 8, 2, 0, 0, 0, 8, .int), (.iconst 0, 1, 0, 0, 0, 0, .int), (.istore 9, 2, 0, 0, 0, 9, .int)]
theorem b_X6_fold_114 : isAt "GridStoreModel" 11 false cX6_fold 114 k_X6_fold_114 = true := by decide +kernel
def k_X6_fold_134 : List En := [(.iload 9, 2, 0, 0, 0, 9, .int), (.aload_n 0, 1, 0, 0, 0, 0, .int), (.iload_n 1, 1, 0, 0, 0, 1, .int), (.iload_n 2, 1, 0, 0, 0, 2, .int), (.ifCond .eq 7, 3, 146, 0, 0, 0, .int), (.iconst 1, 1, 0, 1, 0, 0, .int), (.goto 4, 3, 147, 0, 0, 0, .int)]
theorem b_X6_fold_134 : isAt "GridStoreModel" 11 false cX6_fold 134 k_X6_fold_134 = true := by decide +kernel
def k_X6_fold_146 : List En := [(.iconst 0, 1, 0, 0, 0, 0, .int)]
theorem b_X6_fold_146 : isAt "GridStoreModel" 11 false cX6_fold 146 k_X6_fold_146 = true := by decide +kernel
def k_X6_fold_150 : List En := [(.if_icmp .ge 64, 3, 214, 0, 0, 0, .int), (.iload_n 2, 1, 0, 0, 0, 2, .int), (.ifCond .eq 15, 3, 169, 0, 0, 0, .int), (.aload_n 0, 1, 0, 0, 0, 0, .int), (.iload_n 1, 1, 0, 0, 0, 1, .int), (.iload 6, 2, 0, 0, 0, 6, .int), (.iload 9, 2, 0, 0, 0, 9, .int)]
theorem b_X6_fold_150 : isAt "GridStoreModel" 11 false cX6_fold 150 k_X6_fold_150 = true := by decide +kernel
def k_X6_fold_166 : List En := [(.goto 12, 3, 178, 0, 0, 0, .int)]
theorem b_X6_fold_166 : isAt "GridStoreModel" 11 false cX6_fold 166 k_X6_fold_166 = true := by decide +kernel
def k_X6_fold_169 : List En := [(.aload_n 0, 1, 0, 0, 0, 0, .int), (.iload_n 1, 1, 0, 0, 0, 1, .int), (.iload 9, 2, 0, 0, 0, 9, .int), (.iload 5, 2, 0, 0, 0, 5, .int)]
theorem b_X6_fold_169 : isAt "GridStoreModel" 11 false cX6_fold 169 k_X6_fold_169 = true := by decide +kernel
def k_X6_fold_178 : List En := [(.istore 10, 2, 0, 0, 0, 10, .int), (.aload_n 0, 1, 0, 0, 0, 0, .int), (.getfield 19, 3, 0, 0, 6, 4, (.array .boolean)), (.iload 10, 2, 0, 0, 0, 10, .int), (.baload, 1, 0, 0, 0, 0, .int), (.ifCond .ne 6, 3, 193, 0, 0, 0, .int), (.goto 18, 3, 208, 0, 0, 0, .int)]
theorem b_X6_fold_178 : isAt "GridStoreModel" 11 false cX6_fold 178 k_X6_fold_178 = true := by decide +kernel
def k_X6_fold_193 : List En := [(.iload 7, 2, 0, 0, 0, 7, .int), (.aload_n 0, 1, 0, 0, 0, 0, .int), (.getfield 16, 3, 0, 0, 6, 3, (.array .int)), (.iload 10, 2, 0, 0, 0, 10, .int), (.iaload, 1, 0, 0, 0, 0, .int), (.iadd, 1, 0, 0, 0, 0, .int), (.istore 7, 2, 0, 0, 0, 7, .int), (.iconst 1, 1, 0, 1, 0, 0, .int), (.istore 8, 2, 0, 0, 0, 8, .int)]
theorem b_X6_fold_193 : isAt "GridStoreModel" 11 false cX6_fold 193 k_X6_fold_193 = true := by decide +kernel
def k_X6_fold_208 : List En := [(.iinc 9 1, 3, 0, 1, 0, 9, .int), (.goto (-77), 3, 134, 0, 0, 0, .int)]
theorem b_X6_fold_208 : isAt "GridStoreModel" 11 false cX6_fold 208 k_X6_fold_208 = true := by decide +kernel
def k_X6_fold_214 : List En := [(.iload 4, 2, 0, 0, 0, 4, .int), (.aload_n 0, 1, 0, 0, 0, 0, .int), (.aload_n 0, 1, 0, 0, 0, 0, .int), (.iload_n 3, 1, 0, 0, 0, 3, .int), (.iload 6, 2, 0, 0, 0, 6, .int), (.iload 5, 2, 0, 0, 0, 5, .int)]
theorem b_X6_fold_214 : isAt "GridStoreModel" 11 false cX6_fold 214 k_X6_fold_214 = true := by decide +kernel
def k_X6_fold_226 : List En := [(.iload 8, 2, 0, 0, 0, 8, .int), (.iload 7, 2, 0, 0, 0, 7, .int)]
theorem b_X6_fold_226 : isAt "GridStoreModel" 11 false cX6_fold 226 k_X6_fold_226 = true := by decide +kernel
def k_X6_fold_233 : List En := [(.iadd, 1, 0, 0, 0, 0, .int), (.istore 4, 2, 0, 0, 0, 4, .int), (.iinc 6 1, 3, 0, 1, 0, 6, .int), (.goto (-125), 3, 114, 0, 0, 0, .int)]
theorem b_X6_fold_233 : isAt "GridStoreModel" 11 false cX6_fold 233 k_X6_fold_233 = true := by decide +kernel
def k_X6_fold_242 : List En := [(.iinc 5 1, 3, 0, 1, 0, 5, .int), (.goto (-145), 3, 100, 0, 0, 0, .int)]
theorem b_X6_fold_242 : isAt "GridStoreModel" 11 false cX6_fold 242 k_X6_fold_242 = true := by decide +kernel
def k_X6_fold_248 : List En := [(.iload 4, 2, 0, 0, 0, 4, .int)]
theorem b_X6_fold_248 : isAt "GridStoreModel" 11 false cX6_fold 248 k_X6_fold_248 = true := by decide +kernel
def k_X6_get_0 : List En := [(.aload_n 0, 1, 0, 0, 0, 0, .int), (.iconst 0, 1, 0, 0, 0, 0, .int), (.putfield 63, 3, 0, 0, 6, 0, .int), (.aload_n 0, 1, 0, 0, 0, 0, .int), (.aload_n 0, 1, 0, 0, 0, 0, .int), (.iload_n 1, 1, 0, 0, 0, 1, .int)]
theorem b_X6_get_0 : isAt "GridStoreModel" 5 false cX6_get 0 k_X6_get_0 = true := by decide +kernel
def k_X6_get_11 : List En := [(.ifCond .ne 13, 3, 24, 0, 0, 0, .int), (.aload_n 0, 1, 0, 0, 0, 0, .int), (.iload_n 1, 1, 0, 0, 0, 1, .int), (.iload_n 2, 1, 0, 0, 0, 2, .int), (.iload_n 3, 1, 0, 0, 0, 3, .int)]
theorem b_X6_get_11 : isAt "GridStoreModel" 5 false cX6_get 11 k_X6_get_11 = true := by decide +kernel
def k_X6_get_21 : List En := [(.ifCond .eq 7, 3, 28, 0, 0, 0, .int)]
theorem b_X6_get_21 : isAt "GridStoreModel" 5 false cX6_get 21 k_X6_get_21 = true := by decide +kernel
def k_X6_get_24 : List En := [(.iconst 1, 1, 0, 1, 0, 0, .int), (.goto 4, 3, 29, 0, 0, 0, .int)]
theorem b_X6_get_24 : isAt "GridStoreModel" 5 false cX6_get 24 k_X6_get_24 = true := by decide +kernel
def k_X6_get_28 : List En := [(.iconst 0, 1, 0, 0, 0, 0, .int)]
theorem b_X6_get_28 : isAt "GridStoreModel" 5 false cX6_get 28 k_X6_get_28 = true := by decide +kernel
def k_X6_get_29 : List En := [(.iconst 1, 1, 0, 1, 0, 0, .int)]
theorem b_X6_get_29 : isAt "GridStoreModel" 5 false cX6_get 29 k_X6_get_29 = true := by decide +kernel
def k_X6_get_33 : List En := [(.ifCond .eq 5, 3, 38, 0, 0, 0, .int), (.iconst 0, 1, 0, 0, 0, 0, .int)]
theorem b_X6_get_33 : isAt "GridStoreModel" 5 false cX6_get 33 k_X6_get_33 = true := by decide +kernel
def k_X6_get_38 : List En := [(.aload_n 0, 1, 0, 0, 0, 0, .int), (.iload_n 1, 1, 0, 0, 0, 1, .int), (.iload_n 2, 1, 0, 0, 0, 2, .int), (.iload_n 3, 1, 0, 0, 0, 3, .int)]
theorem b_X6_get_38 : isAt "GridStoreModel" 5 false cX6_get 38 k_X6_get_38 = true := by decide +kernel
def k_X6_get_45 : List En := [(.istore 4, 2, 0, 0, 0, 4, .int), (.aload_n 0, 1, 0, 0, 0, 0, .int), (.aload_n 0, 1, 0, 0, 0, 0, .int), (.getfield 19, 3, 0, 0, 6, 4, (.array .boolean)), (.iload 4, 2, 0, 0, 0, 4, .int), (.baload, 1, 0, 0, 0, 0, .int), (.ifCond .ne 7, 3, 62, 0, 0, 0, .int), (.iconst 1, 1, 0, 1, 0, 0, .int), (.goto 4, 3, 63, 0, 0, 0, .int)]
theorem b_X6_get_45 : isAt "GridStoreModel" 5 false cX6_get 45 k_X6_get_45 = true := by decide +kernel
def k_X6_get_62 : List En := [(.iconst 0, 1, 0, 0, 0, 0, .int)]
theorem b_X6_get_62 : isAt "GridStoreModel" 5 false cX6_get 62 k_X6_get_62 = true := by decide +kernel
def k_X6_get_63 : List En := [(.iconst 2, 1, 0, 2, 0, 0, .int)]
theorem b_X6_get_63 : isAt "GridStoreModel" 5 false cX6_get 63 k_X6_get_63 = true := by decide +kernel
def k_X6_get_67 : List En := [(.ifCond .eq 7, 3, 74, 0, 0, 0, .int), (.iconst 0, 1, 0, 0, 0, 0, .int), (.goto 10, 3, 81, 0, 0, 0, .int)]
theorem b_X6_get_67 : isAt "GridStoreModel" 5 false cX6_get 67 k_X6_get_67 = true := by decide +kernel
def k_X6_get_74 : List En := [(.aload_n 0, 1, 0, 0, 0, 0, .int), (.getfield 16, 3, 0, 0, 6, 3, (.array .int)), (.iload 4, 2, 0, 0, 0, 4, .int), (.iaload, 1, 0, 0, 0, 0, .int)]
theorem b_X6_get_74 : isAt "GridStoreModel" 5 false cX6_get 74 k_X6_get_74 = true := by decide +kernel
def k_X6_grid_0 : List En := [(.aload_n 0, 1, 0, 0, 0, 0, .int), (.iconst 0, 1, 0, 0, 0, 0, .int), (.putfield 63, 3, 0, 0, 6, 0, .int), (.aload_n 0, 1, 0, 0, 0, 0, .int), (.iload_n 1, 1, 0, 0, 0, 1, .int), (.iconst 1, 1, 0, 1, 0, 0, .int), (.bipush 48, 2, 0, 48, 0, 0, .int)]
theorem b_X6_grid_0 : isAt "GridStoreModel" 3 false cX6_grid 0 k_X6_grid_0 = true := by decide +kernel
def k_X6_grid_13 : List En := [(.ifCond .eq 13, 3, 26, 0, 0, 0, .int), (.iload_n 2, 1, 0, 0, 0, 2, .int), (.iconst 1, 1, 0, 1, 0, 0, .int), (.bipush 40, 2, 0, 40, 0, 0, .int)]
theorem b_X6_grid_13 : isAt "GridStoreModel" 3 false cX6_grid 13 k_X6_grid_13 = true := by decide +kernel
def k_X6_grid_23 : List En := [(.ifCond .ne 7, 3, 30, 0, 0, 0, .int)]
theorem b_X6_grid_23 : isAt "GridStoreModel" 3 false cX6_grid 23 k_X6_grid_23 = true := by decide +kernel
def k_X6_grid_26 : List En := [(.iconst 1, 1, 0, 1, 0, 0, .int), (.goto 4, 3, 31, 0, 0, 0, .int)]
theorem b_X6_grid_26 : isAt "GridStoreModel" 3 false cX6_grid 26 k_X6_grid_26 = true := by decide +kernel
def k_X6_grid_30 : List En := [(.iconst 0, 1, 0, 0, 0, 0, .int)]
theorem b_X6_grid_30 : isAt "GridStoreModel" 3 false cX6_grid 30 k_X6_grid_30 = true := by decide +kernel
def k_X6_grid_31 : List En := [(.iconst 1, 1, 0, 1, 0, 0, .int)]
theorem b_X6_grid_31 : isAt "GridStoreModel" 3 false cX6_grid 31 k_X6_grid_31 = true := by decide +kernel
def k_X6_grid_35 : List En := [(.ifCond .ne 25, 3, 60, 0, 0, 0, .int), (.aload_n 0, 1, 0, 0, 0, 0, .int), (.aload_n 0, 1, 0, 0, 0, 0, .int), (.getfield 67, 3, 0, 0, 6, 5, .int), (.bipush 8, 2, 0, 8, 0, 0, .int), (.if_icmp .ne 7, 3, 52, 0, 0, 0, .int), (.iconst 1, 1, 0, 1, 0, 0, .int), (.goto 4, 3, 53, 0, 0, 0, .int)]
theorem b_X6_grid_35 : isAt "GridStoreModel" 3 false cX6_grid 35 k_X6_grid_35 = true := by decide +kernel
def k_X6_grid_52 : List En := [(.iconst 0, 1, 0, 0, 0, 0, .int)]
theorem b_X6_grid_52 : isAt "GridStoreModel" 3 false cX6_grid 52 k_X6_grid_52 = true := by decide +kernel
def k_X6_grid_53 : List En := [(.iconst 2, 1, 0, 2, 0, 0, .int)]
theorem b_X6_grid_53 : isAt "GridStoreModel" 3 false cX6_grid 53 k_X6_grid_53 = true := by decide +kernel
def k_X6_grid_57 : List En := [(.ifCond .eq 5, 3, 62, 0, 0, 0, .int)]
theorem b_X6_grid_57 : isAt "GridStoreModel" 3 false cX6_grid 57 k_X6_grid_57 = true := by decide +kernel
def k_X6_grid_60 : List En := [(.iconst 0, 1, 0, 0, 0, 0, .int)]
theorem b_X6_grid_60 : isAt "GridStoreModel" 3 false cX6_grid 60 k_X6_grid_60 = true := by decide +kernel
def k_X6_grid_62 : List En := [(.aload_n 0, 1, 0, 0, 0, 0, .int), (.getfield 9, 3, 0, 0, 6, 1, (.array .int)), (.aload_n 0, 1, 0, 0, 0, 0, .int), (.getfield 67, 3, 0, 0, 6, 5, .int), (.iload_n 1, 1, 0, 0, 0, 1, .int), (.iastore, 1, 0, 0, 0, 0, .int), (.aload_n 0, 1, 0, 0, 0, 0, .int), (.getfield 13, 3, 0, 0, 6, 2, (.array .int)), (.aload_n 0, 1, 0, 0, 0, 0, .int), (.getfield 67, 3, 0, 0, 6, 5, .int), (.iload_n 2, 1, 0, 0, 0, 2, .int), (.iastore, 1, 0, 0, 0, 0, .int), (.aload_n 0, 1, 0, 0, 0, 0, .int), (.dup, 1, 0, 0, 0, 0, .int), (.getfield 67, 3, 0, 0, 6, 5, .int), (.iconst 1, 1, 0, 1, 0, 0, .int), (.iadd, 1, 0, 0, 0, 0, .int), (.putfield 67, 3, 0, 0, 6, 5, .int), (.aload_n 0, 1, 0, 0, 0, 0, .int), (.getfield 67, 3, 0, 0, 6, 5, .int), (.iconst 1, 1, 0, 1, 0, 0, .int), (.isub, 1, 0, 0, 0, 0, .int)]
theorem b_X6_grid_62 : isAt "GridStoreModel" 3 false cX6_grid 62 k_X6_grid_62 = true := by decide +kernel
def k_X6_hasIn_0 : List En := [(.iload_n 2, 1, 0, 0, 0, 2, .int), (.ifCond .ge 18, 3, 19, 0, 0, 0, .int), (.aload_n 0, 1, 0, 0, 0, 0, .int), (.getfield 19, 3, 0, 0, 6, 4, (.array .boolean)), (.sipush 1920, 3, 0, 1920, 0, 0, .int), (.iload_n 1, 1, 0, 0, 0, 1, .int), (.imul, 1, 0, 0, 0, 0, .int), (.iload_n 3, 1, 0, 0, 0, 3, .int), (.iadd, 1, 0, 0, 0, 0, .int), (.baload, 1, 0, 0, 0, 0, .int), (.goto 15, 3, 31, 0, 0, 0, .int)]
theorem b_X6_hasIn_0 : isAt "GridStoreModel" 4 false cX6_hasIn 0 k_X6_hasIn_0 = true := by decide +kernel
def k_X6_hasIn_19 : List En := [(.aload_n 0, 1, 0, 0, 0, 0, .int), (.getfield 27, 3, 0, 0, 6, 7, (.array .boolean)), (.iload_n 1, 1, 0, 0, 0, 1, .int), (.iload_n 2, 1, 0, 0, 0, 2, .int)]
theorem b_X6_hasIn_19 : isAt "GridStoreModel" 4 false cX6_hasIn 19 k_X6_hasIn_19 = true := by decide +kernel
def k_X6_hasIn_28 : List En := [(.iload_n 3, 1, 0, 0, 0, 3, .int), (.iadd, 1, 0, 0, 0, 0, .int), (.baload, 1, 0, 0, 0, 0, .int)]
theorem b_X6_hasIn_28 : isAt "GridStoreModel" 4 false cX6_hasIn 28 k_X6_hasIn_28 = true := by decide +kernel
def k_X6_hole_0 : List En := [(.aload_n 0, 1, 0, 0, 0, 0, .int), (.iconst 0, 1, 0, 0, 0, 0, .int), (.putfield 63, 3, 0, 0, 6, 0, .int), (.aload_n 0, 1, 0, 0, 0, 0, .int), (.aload_n 0, 1, 0, 0, 0, 0, .int), (.iload_n 1, 1, 0, 0, 0, 1, .int)]
theorem b_X6_hole_0 : isAt "GridStoreModel" 4 false cX6_hole 0 k_X6_hole_0 = true := by decide +kernel
def k_X6_hole_11 : List En := [(.ifCond .ne 13, 3, 24, 0, 0, 0, .int), (.aload_n 0, 1, 0, 0, 0, 0, .int), (.iload_n 1, 1, 0, 0, 0, 1, .int), (.iload_n 2, 1, 0, 0, 0, 2, .int), (.iload_n 3, 1, 0, 0, 0, 3, .int)]
theorem b_X6_hole_11 : isAt "GridStoreModel" 4 false cX6_hole 11 k_X6_hole_11 = true := by decide +kernel
def k_X6_hole_21 : List En := [(.ifCond .eq 7, 3, 28, 0, 0, 0, .int)]
theorem b_X6_hole_21 : isAt "GridStoreModel" 4 false cX6_hole 21 k_X6_hole_21 = true := by decide +kernel
def k_X6_hole_24 : List En := [(.iconst 1, 1, 0, 1, 0, 0, .int), (.goto 4, 3, 29, 0, 0, 0, .int)]
theorem b_X6_hole_24 : isAt "GridStoreModel" 4 false cX6_hole 24 k_X6_hole_24 = true := by decide +kernel
def k_X6_hole_28 : List En := [(.iconst 0, 1, 0, 0, 0, 0, .int)]
theorem b_X6_hole_28 : isAt "GridStoreModel" 4 false cX6_hole 28 k_X6_hole_28 = true := by decide +kernel
def k_X6_hole_29 : List En := [(.iconst 1, 1, 0, 1, 0, 0, .int)]
theorem b_X6_hole_29 : isAt "GridStoreModel" 4 false cX6_hole 29 k_X6_hole_29 = true := by decide +kernel
def k_X6_hole_33 : List En := [(.ifCond .ne 22, 3, 55, 0, 0, 0, .int), (.aload_n 0, 1, 0, 0, 0, 0, .int), (.getfield 19, 3, 0, 0, 6, 4, (.array .boolean)), (.aload_n 0, 1, 0, 0, 0, 0, .int), (.iload_n 1, 1, 0, 0, 0, 1, .int), (.iload_n 2, 1, 0, 0, 0, 2, .int), (.iload_n 3, 1, 0, 0, 0, 3, .int)]
theorem b_X6_hole_33 : isAt "GridStoreModel" 4 false cX6_hole 33 k_X6_hole_33 = true := by decide +kernel
def k_X6_hole_47 : List En := [(.baload, 1, 0, 0, 0, 0, .int), (.ifCond .ne 7, 3, 55, 0, 0, 0, .int), (.iconst 1, 1, 0, 1, 0, 0, .int), (.goto 4, 3, 56, 0, 0, 0, .int)]
theorem b_X6_hole_47 : isAt "GridStoreModel" 4 false cX6_hole 47 k_X6_hole_47 = true := by decide +kernel
def k_X6_hole_55 : List En := [(.iconst 0, 1, 0, 0, 0, 0, .int)]
theorem b_X6_hole_55 : isAt "GridStoreModel" 4 false cX6_hole 55 k_X6_hole_55 = true := by decide +kernel
def k_X6_hostOf_0 : List En := [(.iload_n 0, 1, 0, 0, 0, 0, .int), (.sipush 1920, 3, 0, 1920, 0, 0, .int), (.irem, 1, 0, 0, 0, 0, .int), (.istore_n 1, 1, 0, 0, 0, 1, .int), (.iload_n 1, 1, 0, 0, 0, 1, .int), (.bipush 48, 2, 0, 48, 0, 0, .int), (.irem, 1, 0, 0, 0, 0, .int), (.bipush 8, 2, 0, 8, 0, 0, .int), (.idiv, 1, 0, 0, 0, 0, .int), (.iload_n 1, 1, 0, 0, 0, 1, .int), (.bipush 48, 2, 0, 48, 0, 0, .int), (.idiv, 1, 0, 0, 0, 0, .int), (.bipush 8, 2, 0, 8, 0, 0, .int), (.idiv, 1, 0, 0, 0, 0, .int), (.iadd, 1, 0, 0, 0, 0, .int), (.iconst 5, 1, 0, 5, 0, 0, .int), (.irem, 1, 0, 0, 0, 0, .int)]
theorem b_X6_hostOf_0 : isAt "GridStoreModel" 2 false cX6_hostOf 0 k_X6_hostOf_0 = true := by decide +kernel
def k_X6_in_0 : List En := [(.iload_n 0, 1, 0, 0, 0, 0, .int), (.iload_n 1, 1, 0, 0, 0, 1, .int), (.if_icmp .lt 12, 3, 14, 0, 0, 0, .int), (.iload_n 0, 1, 0, 0, 0, 0, .int), (.iload_n 2, 1, 0, 0, 0, 2, .int), (.if_icmp .gt 7, 3, 14, 0, 0, 0, .int), (.iconst 1, 1, 0, 1, 0, 0, .int), (.goto 4, 3, 15, 0, 0, 0, .int)]
theorem b_X6_in_0 : isAt "GridStoreModel" 3 false cX6_in 0 k_X6_in_0 = true := by decide +kernel
def k_X6_in_14 : List En := [(.iconst 0, 1, 0, 0, 0, 0, .int)]
theorem b_X6_in_14 : isAt "GridStoreModel" 3 false cX6_in 14 k_X6_in_14 = true := by decide +kernel
def k_X6_init_0 : List En := [(.aload_n 0, 1, 0, 0, 0, 0, .int)]
theorem b_X6_init_0 : isAt "GridStoreModel" 1 true cX6_init 0 k_X6_init_0 = true := by decide +kernel
def k_X6_init_4 : List En := [(.aload_n 0, 1, 0, 0, 0, 0, .int), (.bipush 8, 2, 0, 8, 0, 0, .int)]
theorem b_X6_init_4 : isAt "GridStoreModel" 1 true cX6_init 4 k_X6_init_4 = true := by decide +kernel
def k_X6_init_9 : List En := [(.putfield 9, 3, 0, 0, 6, 1, (.array .int)), (.aload_n 0, 1, 0, 0, 0, 0, .int), (.bipush 8, 2, 0, 8, 0, 0, .int)]
theorem b_X6_init_9 : isAt "GridStoreModel" 1 true cX6_init 9 k_X6_init_9 = true := by decide +kernel
def k_X6_init_17 : List En := [(.putfield 13, 3, 0, 0, 6, 2, (.array .int)), (.aload_n 0, 1, 0, 0, 0, 0, .int), (.sipush 15360, 3, 0, 15360, 0, 0, .int)]
theorem b_X6_init_17 : isAt "GridStoreModel" 1 true cX6_init 17 k_X6_init_17 = true := by decide +kernel
def k_X6_init_26 : List En := [(.putfield 16, 3, 0, 0, 6, 3, (.array .int)), (.aload_n 0, 1, 0, 0, 0, 0, .int), (.sipush 15360, 3, 0, 15360, 0, 0, .int)]
theorem b_X6_init_26 : isAt "GridStoreModel" 1 true cX6_init 26 k_X6_init_26 = true := by decide +kernel
def k_X6_init_35 : List En := [(.putfield 19, 3, 0, 0, 6, 4, (.array .boolean)), (.aload_n 0, 1, 0, 0, 0, 0, .int), (.ldc 23, 2, 0, 307200, 0, 0, .int)]
theorem b_X6_init_35 : isAt "GridStoreModel" 1 true cX6_init 35 k_X6_init_35 = true := by decide +kernel
def k_X6_init_43 : List En := [(.putfield 24, 3, 0, 0, 6, 6, (.array .int)), (.aload_n 0, 1, 0, 0, 0, 0, .int), (.ldc 23, 2, 0, 307200, 0, 0, .int)]
theorem b_X6_init_43 : isAt "GridStoreModel" 1 true cX6_init 43 k_X6_init_43 = true := by decide +kernel
def k_X6_init_51 : List En := [(.putfield 27, 3, 0, 0, 6, 7, (.array .boolean)), (.aload_n 0, 1, 0, 0, 0, 0, .int), (.bipush 8, 2, 0, 8, 0, 0, .int)]
theorem b_X6_init_51 : isAt "GridStoreModel" 1 true cX6_init 51 k_X6_init_51 = true := by decide +kernel
def k_X6_init_59 : List En := [(.putfield 30, 3, 0, 0, 6, 8, (.array .int)), (.aload_n 0, 1, 0, 0, 0, 0, .int), (.iconst 5, 1, 0, 5, 0, 0, .int)]
theorem b_X6_init_59 : isAt "GridStoreModel" 1 true cX6_init 59 k_X6_init_59 = true := by decide +kernel
def k_X6_init_66 : List En := [(.putfield 33, 3, 0, 0, 6, 9, (.array .boolean)), (.aload_n 0, 1, 0, 0, 0, 0, .int), (.bipush 12, 2, 0, 12, 0, 0, .int)]
theorem b_X6_init_66 : isAt "GridStoreModel" 1 true cX6_init 66 k_X6_init_66 = true := by decide +kernel
def k_X6_init_74 : List En := [(.putfield 36, 3, 0, 0, 6, 10, (.array .int)), (.aload_n 0, 1, 0, 0, 0, 0, .int), (.bipush 12, 2, 0, 12, 0, 0, .int)]
theorem b_X6_init_74 : isAt "GridStoreModel" 1 true cX6_init 74 k_X6_init_74 = true := by decide +kernel
def k_X6_init_82 : List En := [(.putfield 39, 3, 0, 0, 6, 11, (.array .int)), (.aload_n 0, 1, 0, 0, 0, 0, .int), (.bipush 12, 2, 0, 12, 0, 0, .int)]
theorem b_X6_init_82 : isAt "GridStoreModel" 1 true cX6_init 82 k_X6_init_82 = true := by decide +kernel
def k_X6_init_90 : List En := [(.putfield 42, 3, 0, 0, 6, 12, (.array .int)), (.aload_n 0, 1, 0, 0, 0, 0, .int), (.bipush 12, 2, 0, 12, 0, 0, .int)]
theorem b_X6_init_90 : isAt "GridStoreModel" 1 true cX6_init 90 k_X6_init_90 = true := by decide +kernel
def k_X6_init_98 : List En := [(.putfield 45, 3, 0, 0, 6, 13, (.array .int)), (.aload_n 0, 1, 0, 0, 0, 0, .int), (.bipush 12, 2, 0, 12, 0, 0, .int)]
theorem b_X6_init_98 : isAt "GridStoreModel" 1 true cX6_init 98 k_X6_init_98 = true := by decide +kernel
def k_X6_init_106 : List En := [(.putfield 48, 3, 0, 0, 6, 14, (.array .int)), (.aload_n 0, 1, 0, 0, 0, 0, .int), (.bipush 12, 2, 0, 12, 0, 0, .int)]
theorem b_X6_init_106 : isAt "GridStoreModel" 1 true cX6_init 106 k_X6_init_106 = true := by decide +kernel
def k_X6_init_114 : List En := [(.putfield 51, 3, 0, 0, 6, 15, (.array .int)), (.aload_n 0, 1, 0, 0, 0, 0, .int), (.bipush 12, 2, 0, 12, 0, 0, .int)]
theorem b_X6_init_114 : isAt "GridStoreModel" 1 true cX6_init 114 k_X6_init_114 = true := by decide +kernel
def k_X6_init_122 : List En := [(.putfield 54, 3, 0, 0, 6, 16, (.array .boolean)), (.aload_n 0, 1, 0, 0, 0, 0, .int), (.bipush 12, 2, 0, 12, 0, 0, .int)]
theorem b_X6_init_122 : isAt "GridStoreModel" 1 true cX6_init 122 k_X6_init_122 = true := by decide +kernel
def k_X6_init_130 : List En := [(.putfield 57, 3, 0, 0, 6, 17, (.array .boolean)), (.aload_n 0, 1, 0, 0, 0, 0, .int), (.bipush 30, 2, 0, 30, 0, 0, .int)]
theorem b_X6_init_130 : isAt "GridStoreModel" 1 true cX6_init 130 k_X6_init_130 = true := by decide +kernel
def k_X6_init_138 : List En := [(.putfield 60, 3, 0, 0, 6, 20, (.array .boolean))]
theorem b_X6_init_138 : isAt "GridStoreModel" 1 true cX6_init 138 k_X6_init_138 = true := by decide +kernel
def k_X6_isAs_0 : List En := [(.aload_n 0, 1, 0, 0, 0, 0, .int), (.getfield 9, 3, 0, 0, 6, 1, (.array .int)), (.iload_n 1, 1, 0, 0, 0, 1, .int), (.iaload, 1, 0, 0, 0, 0, .int), (.iload_n 2, 1, 0, 0, 0, 2, .int), (.if_icmp .ne 17, 3, 24, 0, 0, 0, .int), (.aload_n 0, 1, 0, 0, 0, 0, .int), (.getfield 13, 3, 0, 0, 6, 2, (.array .int)), (.iload_n 1, 1, 0, 0, 0, 1, .int), (.iaload, 1, 0, 0, 0, 0, .int), (.iload_n 3, 1, 0, 0, 0, 3, .int), (.if_icmp .ne 7, 3, 24, 0, 0, 0, .int), (.iconst 1, 1, 0, 1, 0, 0, .int), (.goto 4, 3, 25, 0, 0, 0, .int)]
theorem b_X6_isAs_0 : isAt "GridStoreModel" 4 false cX6_isAs 0 k_X6_isAs_0 = true := by decide +kernel
def k_X6_isAs_24 : List En := [(.iconst 0, 1, 0, 0, 0, 0, .int)]
theorem b_X6_isAs_24 : isAt "GridStoreModel" 4 false cX6_isAs 24 k_X6_isAs_24 = true := by decide +kernel
def k_X6_isClosedOf_0 : List En := [(.iload_n 1, 1, 0, 0, 0, 1, .int), (.bipush 100, 2, 0, 100, 0, 0, .int), (.if_icmp .lt 19, 3, 22, 0, 0, 0, .int), (.aload_n 0, 1, 0, 0, 0, 0, .int), (.getfield 57, 3, 0, 0, 6, 17, (.array .boolean)), (.iload_n 1, 1, 0, 0, 0, 1, .int), (.bipush 100, 2, 0, 100, 0, 0, .int), (.isub, 1, 0, 0, 0, 0, .int), (.baload, 1, 0, 0, 0, 0, .int), (.ifCond .eq 7, 3, 22, 0, 0, 0, .int), (.iconst 1, 1, 0, 1, 0, 0, .int), (.goto 4, 3, 23, 0, 0, 0, .int)]
theorem b_X6_isClosedOf_0 : isAt "GridStoreModel" 2 false cX6_isClosedOf 0 k_X6_isClosedOf_0 = true := by decide +kernel
def k_X6_isClosedOf_22 : List En := [(.iconst 0, 1, 0, 0, 0, 0, .int)]
theorem b_X6_isClosedOf_22 : isAt "GridStoreModel" 2 false cX6_isClosedOf 22 k_X6_isClosedOf_22 = true := by decide +kernel
def k_X6_isShut_0 : List En := [(.iload_n 1, 1, 0, 0, 0, 1, .int)]
theorem b_X6_isShut_0 : isAt "GridStoreModel" 3 false cX6_isShut 0 k_X6_isShut_0 = true := by decide +kernel
def k_X6_isShut_4 : List En := [(.istore_n 2, 1, 0, 0, 0, 2, .int), (.aload_n 0, 1, 0, 0, 0, 0, .int), (.getfield 33, 3, 0, 0, 6, 9, (.array .boolean)), (.iload_n 2, 1, 0, 0, 0, 2, .int), (.baload, 1, 0, 0, 0, 0, .int), (.ifCond .eq 20, 3, 31, 0, 0, 0, .int), (.aload_n 0, 1, 0, 0, 0, 0, .int), (.getfield 33, 3, 0, 0, 6, 9, (.array .boolean)), (.iload_n 2, 1, 0, 0, 0, 2, .int), (.iconst 1, 1, 0, 1, 0, 0, .int), (.iadd, 1, 0, 0, 0, 0, .int), (.iconst 5, 1, 0, 5, 0, 0, .int), (.irem, 1, 0, 0, 0, 0, .int), (.baload, 1, 0, 0, 0, 0, .int), (.ifCond .eq 7, 3, 31, 0, 0, 0, .int), (.iconst 1, 1, 0, 1, 0, 0, .int), (.goto 4, 3, 32, 0, 0, 0, .int)]
theorem b_X6_isShut_4 : isAt "GridStoreModel" 3 false cX6_isShut 4 k_X6_isShut_4 = true := by decide +kernel
def k_X6_isShut_31 : List En := [(.iconst 0, 1, 0, 0, 0, 0, .int)]
theorem b_X6_isShut_31 : isAt "GridStoreModel" 3 false cX6_isShut 31 k_X6_isShut_31 = true := by decide +kernel
def k_X6_join_0 : List En := [(.aload_n 0, 1, 0, 0, 0, 0, .int), (.iconst 0, 1, 0, 0, 0, 0, .int), (.putfield 63, 3, 0, 0, 6, 0, .int), (.aload_n 0, 1, 0, 0, 0, 0, .int), (.aload_n 0, 1, 0, 0, 0, 0, .int), (.iload_n 1, 1, 0, 0, 0, 1, .int)]
theorem b_X6_join_0 : isAt "GridStoreModel" 16 false cX6_join 0 k_X6_join_0 = true := by decide +kernel
def k_X6_join_11 : List En := [(.ifCond .ne 20, 3, 31, 0, 0, 0, .int), (.aload_n 0, 1, 0, 0, 0, 0, .int), (.iload_n 2, 1, 0, 0, 0, 2, .int)]
theorem b_X6_join_11 : isAt "GridStoreModel" 16 false cX6_join 11 k_X6_join_11 = true := by decide +kernel
def k_X6_join_19 : List En := [(.ifCond .ne 12, 3, 31, 0, 0, 0, .int), (.aload_n 0, 1, 0, 0, 0, 0, .int), (.iload 4, 2, 0, 0, 0, 4, .int)]
theorem b_X6_join_19 : isAt "GridStoreModel" 16 false cX6_join 19 k_X6_join_19 = true := by decide +kernel
def k_X6_join_28 : List En := [(.ifCond .eq 7, 3, 35, 0, 0, 0, .int)]
theorem b_X6_join_28 : isAt "GridStoreModel" 16 false cX6_join 28 k_X6_join_28 = true := by decide +kernel
def k_X6_join_31 : List En := [(.iconst 1, 1, 0, 1, 0, 0, .int), (.goto 4, 3, 36, 0, 0, 0, .int)]
theorem b_X6_join_31 : isAt "GridStoreModel" 16 false cX6_join 31 k_X6_join_31 = true := by decide +kernel
def k_X6_join_35 : List En := [(.iconst 0, 1, 0, 0, 0, 0, .int)]
theorem b_X6_join_35 : isAt "GridStoreModel" 16 false cX6_join 35 k_X6_join_35 = true := by decide +kernel
def k_X6_join_36 : List En := [(.iconst 1, 1, 0, 1, 0, 0, .int)]
theorem b_X6_join_36 : isAt "GridStoreModel" 16 false cX6_join 36 k_X6_join_36 = true := by decide +kernel
def k_X6_join_40 : List En := [(.ifCond .eq 5, 3, 45, 0, 0, 0, .int), (.iconst 0, 1, 0, 0, 0, 0, .int)]
theorem b_X6_join_40 : isAt "GridStoreModel" 16 false cX6_join 40 k_X6_join_40 = true := by decide +kernel
def k_X6_join_45 : List En := [(.aload_n 0, 1, 0, 0, 0, 0, .int), (.iload_n 1, 1, 0, 0, 0, 1, .int), (.iconst 0, 1, 0, 0, 0, 0, .int)]
theorem b_X6_join_45 : isAt "GridStoreModel" 16 false cX6_join 45 k_X6_join_45 = true := by decide +kernel
def k_X6_join_51 : List En := [(.aload_n 0, 1, 0, 0, 0, 0, .int), (.iload_n 2, 1, 0, 0, 0, 2, .int), (.iconst 0, 1, 0, 0, 0, 0, .int)]
theorem b_X6_join_51 : isAt "GridStoreModel" 16 false cX6_join 51 k_X6_join_51 = true := by decide +kernel
def k_X6_join_57 : List En := [(.if_icmp .ne 43, 3, 100, 0, 0, 0, .int), (.aload_n 0, 1, 0, 0, 0, 0, .int), (.iload_n 1, 1, 0, 0, 0, 1, .int), (.iconst 1, 1, 0, 1, 0, 0, .int)]
theorem b_X6_join_57 : isAt "GridStoreModel" 16 false cX6_join 57 k_X6_join_57 = true := by decide +kernel
def k_X6_join_66 : List En := [(.aload_n 0, 1, 0, 0, 0, 0, .int), (.iload_n 2, 1, 0, 0, 0, 2, .int), (.iconst 1, 1, 0, 1, 0, 0, .int)]
theorem b_X6_join_66 : isAt "GridStoreModel" 16 false cX6_join 66 k_X6_join_66 = true := by decide +kernel
def k_X6_join_72 : List En := [(.if_icmp .ne 28, 3, 100, 0, 0, 0, .int), (.aload_n 0, 1, 0, 0, 0, 0, .int), (.iload 4, 2, 0, 0, 0, 4, .int), (.aload_n 0, 1, 0, 0, 0, 0, .int), (.iload_n 1, 1, 0, 0, 0, 1, .int), (.iconst 0, 1, 0, 0, 0, 0, .int)]
theorem b_X6_join_72 : isAt "GridStoreModel" 16 false cX6_join 72 k_X6_join_72 = true := by decide +kernel
def k_X6_join_84 : List En := [(.aload_n 0, 1, 0, 0, 0, 0, .int), (.iload_n 1, 1, 0, 0, 0, 1, .int), (.iconst 1, 1, 0, 1, 0, 0, .int)]
theorem b_X6_join_84 : isAt "GridStoreModel" 16 false cX6_join 84 k_X6_join_84 = true := by decide +kernel
def k_X6_join_93 : List En := [(.ifCond .eq 7, 3, 100, 0, 0, 0, .int), (.iconst 1, 1, 0, 1, 0, 0, .int), (.goto 4, 3, 101, 0, 0, 0, .int)]
theorem b_X6_join_93 : isAt "GridStoreModel" 16 false cX6_join 93 k_X6_join_93 = true := by decide +kernel
def k_X6_join_100 : List En := [(.iconst 0, 1, 0, 0, 0, 0, .int)]
theorem b_X6_join_100 : isAt "GridStoreModel" 16 false cX6_join 100 k_X6_join_100 = true := by decide +kernel
def k_X6_join_101 : List En := [(.istore 5, 2, 0, 0, 0, 5, .int), (.aload_n 0, 1, 0, 0, 0, 0, .int), (.iload_n 3, 1, 0, 0, 0, 3, .int), (.iconst 0, 1, 0, 0, 0, 0, .int), (.iconst 3, 1, 0, 3, 0, 0, .int)]
theorem b_X6_join_101 : isAt "GridStoreModel" 16 false cX6_join 101 k_X6_join_101 = true := by decide +kernel
def k_X6_join_110 : List En := [(.ifCond .eq 28, 3, 138, 0, 0, 0, .int), (.iload 5, 2, 0, 0, 0, 5, .int), (.ifCond .eq 23, 3, 138, 0, 0, 0, .int), (.aload_n 0, 1, 0, 0, 0, 0, .int), (.iload_n 1, 1, 0, 0, 0, 1, .int)]
theorem b_X6_join_110 : isAt "GridStoreModel" 16 false cX6_join 110 k_X6_join_110 = true := by decide +kernel
def k_X6_join_123 : List En := [(.iload 4, 2, 0, 0, 0, 4, .int), (.if_icmp .eq 13, 3, 138, 0, 0, 0, .int), (.aload_n 0, 1, 0, 0, 0, 0, .int), (.iload_n 2, 1, 0, 0, 0, 2, .int)]
theorem b_X6_join_123 : isAt "GridStoreModel" 16 false cX6_join 123 k_X6_join_123 = true := by decide +kernel
def k_X6_join_133 : List En := [(.iload 4, 2, 0, 0, 0, 4, .int), (.if_icmp .ne 7, 3, 142, 0, 0, 0, .int)]
theorem b_X6_join_133 : isAt "GridStoreModel" 16 false cX6_join 133 k_X6_join_133 = true := by decide +kernel
def k_X6_join_138 : List En := [(.iconst 1, 1, 0, 1, 0, 0, .int), (.goto 4, 3, 143, 0, 0, 0, .int)]
theorem b_X6_join_138 : isAt "GridStoreModel" 16 false cX6_join 138 k_X6_join_138 = true := by decide +kernel
def k_X6_join_142 : List En := [(.iconst 0, 1, 0, 0, 0, 0, .int)]
theorem b_X6_join_142 : isAt "GridStoreModel" 16 false cX6_join 142 k_X6_join_142 = true := by decide +kernel
def k_X6_join_143 : List En := [(.iconst 2, 1, 0, 2, 0, 0, .int)]
theorem b_X6_join_143 : isAt "GridStoreModel" 16 false cX6_join 143 k_X6_join_143 = true := by decide +kernel
def k_X6_join_147 : List En := [(.ifCond .eq 5, 3, 152, 0, 0, 0, .int), (.iconst 0, 1, 0, 0, 0, 0, .int)]
theorem b_X6_join_147 : isAt "GridStoreModel" 16 false cX6_join 147 k_X6_join_147 = true := by decide +kernel
def k_X6_join_152 : List En := [(.iconst 0, 1, 0, 0, 0, 0, .int), (.istore 6, 2, 0, 0, 0, 6, .int), (.iconst 0, 1, 0, 0, 0, 0, .int), (.istore 7, 2, 0, 0, 0, 7, .int)]
theorem b_X6_join_152 : isAt "GridStoreModel" 16 false cX6_join 152 k_X6_join_152 = true := by decide +kernel
def k_X6_join_158 : List En := [(.iload 7, 2, 0, 0, 0, 7, .int), (.aload_n 0, 1, 0, 0, 0, 0, .int), (.getfield 13, 3, 0, 0, 6, 2, (.array .int)), (.iload 4, 2, 0, 0, 0, 4, .int), (.iaload, 1, 0, 0, 0, 0, .int), (.if_icmp .ge 265, 3, 432, 0, 0, 0, .int), (.iconst 0, 1, 0, 0, 0, 0, .int), (.istore 8, 2, 0, 0, 0, 8, .int)]
theorem b_X6_join_158 : isAt "GridStoreModel" 16 false cX6_join 158 k_X6_join_158 = true := by decide +kernel
def k_X6_join_173 : List En := [(.iload 8, 2, 0, 0, 0, 8, .int), (.aload_n 0, 1, 0, 0, 0, 0, .int), (.getfield 9, 3, 0, 0, 6, 1, (.array .int)), (.iload 4, 2, 0, 0, 0, 4, .int), (.iaload, 1, 0, 0, 0, 0, .int), (.if_icmp .ge 244, 3, 426, 0, 0, 0, .int), (.aload_n 0, 1, 0, 0, 0, 0, .int), (.iload_n 1, 1, 0, 0, 0, 1, .int), (.iload 8, 2, 0, 0, 0, 8, .int), (.iload 7, 2, 0, 0, 0, 7, .int)]
theorem b_X6_join_173 : isAt "GridStoreModel" 16 false cX6_join 173 k_X6_join_173 = true := by decide +kernel
def k_X6_join_194 : List En := [(.istore 9, 2, 0, 0, 0, 9, .int), (.aload_n 0, 1, 0, 0, 0, 0, .int), (.iload_n 2, 1, 0, 0, 0, 2, .int), (.iload 8, 2, 0, 0, 0, 8, .int), (.iload 7, 2, 0, 0, 0, 7, .int)]
theorem b_X6_join_194 : isAt "GridStoreModel" 16 false cX6_join 194 k_X6_join_194 = true := by decide +kernel
def k_X6_join_205 : List En := [(.istore 10, 2, 0, 0, 0, 10, .int), (.aload_n 0, 1, 0, 0, 0, 0, .int), (.getfield 19, 3, 0, 0, 6, 4, (.array .boolean)), (.iload 9, 2, 0, 0, 0, 9, .int), (.baload, 1, 0, 0, 0, 0, .int), (.ifCond .eq 17, 3, 231, 0, 0, 0, .int), (.aload_n 0, 1, 0, 0, 0, 0, .int), (.getfield 19, 3, 0, 0, 6, 4, (.array .boolean)), (.iload 10, 2, 0, 0, 0, 10, .int), (.baload, 1, 0, 0, 0, 0, .int), (.ifCond .eq 7, 3, 231, 0, 0, 0, .int), (.iconst 1, 1, 0, 1, 0, 0, .int), (.goto 4, 3, 232, 0, 0, 0, .int)]
theorem b_X6_join_205 : isAt "GridStoreModel" 16 false cX6_join 205 k_X6_join_205 = true := by decide +kernel
def k_X6_join_231 : List En := [(.iconst 0, 1, 0, 0, 0, 0, .int)]
theorem b_X6_join_231 : isAt "GridStoreModel" 16 false cX6_join 231 k_X6_join_231 = true := by decide +kernel
def k_X6_join_232 : List En := [(.istore 11, 2, 0, 0, 0, 11, .int), (.aload_n 0, 1, 0, 0, 0, 0, .int), (.getfield 19, 3, 0, 0, 6, 4, (.array .boolean)), (.iload 9, 2, 0, 0, 0, 9, .int), (.baload, 1, 0, 0, 0, 0, .int), (.ifCond .ne 13, 3, 254, 0, 0, 0, .int), (.aload_n 0, 1, 0, 0, 0, 0, .int), (.getfield 19, 3, 0, 0, 6, 4, (.array .boolean)), (.iload 10, 2, 0, 0, 0, 10, .int), (.baload, 1, 0, 0, 0, 0, .int), (.ifCond .eq 7, 3, 258, 0, 0, 0, .int)]
theorem b_X6_join_232 : isAt "GridStoreModel" 16 false cX6_join 232 k_X6_join_232 = true := by decide +kernel
def k_X6_join_254 : List En := [(.iconst 1, 1, 0, 1, 0, 0, .int), (.goto 4, 3, 259, 0, 0, 0, .int)]
theorem b_X6_join_254 : isAt "GridStoreModel" 16 false cX6_join 254 k_X6_join_254 = true := by decide +kernel
def k_X6_join_258 : List En := [(.iconst 0, 1, 0, 0, 0, 0, .int)]
theorem b_X6_join_258 : isAt "GridStoreModel" 16 false cX6_join 258 k_X6_join_258 = true := by decide +kernel
def k_X6_join_259 : List En := [(.istore 12, 2, 0, 0, 0, 12, .int), (.aload_n 0, 1, 0, 0, 0, 0, .int), (.getfield 19, 3, 0, 0, 6, 4, (.array .boolean)), (.iload 9, 2, 0, 0, 0, 9, .int), (.baload, 1, 0, 0, 0, 0, .int), (.ifCond .eq 13, 3, 281, 0, 0, 0, .int), (.aload_n 0, 1, 0, 0, 0, 0, .int), (.getfield 16, 3, 0, 0, 6, 3, (.array .int)), (.iload 9, 2, 0, 0, 0, 9, .int), (.iaload, 1, 0, 0, 0, 0, .int), (.goto 10, 3, 288, 0, 0, 0, .int)]
theorem b_X6_join_259 : isAt "GridStoreModel" 16 false cX6_join 259 k_X6_join_259 = true := by decide +kernel
def k_X6_join_281 : List En := [(.aload_n 0, 1, 0, 0, 0, 0, .int), (.getfield 16, 3, 0, 0, 6, 3, (.array .int)), (.iload 10, 2, 0, 0, 0, 10, .int), (.iaload, 1, 0, 0, 0, 0, .int)]
theorem b_X6_join_281 : isAt "GridStoreModel" 16 false cX6_join 281 k_X6_join_281 = true := by decide +kernel
def k_X6_join_288 : List En := [(.istore 13, 2, 0, 0, 0, 13, .int), (.iload_n 3, 1, 0, 0, 0, 3, .int), (.ifCond .eq 8, 3, 299, 0, 0, 0, .int), (.iload_n 3, 1, 0, 0, 0, 3, .int), (.iconst 2, 1, 0, 2, 0, 0, .int), (.if_icmp .ne 8, 3, 304, 0, 0, 0, .int)]
theorem b_X6_join_288 : isAt "GridStoreModel" 16 false cX6_join 288 k_X6_join_288 = true := by decide +kernel
def k_X6_join_299 : List En := [(.iload 12, 2, 0, 0, 0, 12, .int), (.goto 38, 3, 339, 0, 0, 0, .int)]
theorem b_X6_join_299 : isAt "GridStoreModel" 16 false cX6_join 299 k_X6_join_299 = true := by decide +kernel
def k_X6_join_304 : List En := [(.iload_n 3, 1, 0, 0, 0, 3, .int), (.iconst 1, 1, 0, 1, 0, 0, .int), (.if_icmp .ne 8, 3, 314, 0, 0, 0, .int), (.iload 11, 2, 0, 0, 0, 11, .int), (.goto 28, 3, 339, 0, 0, 0, .int)]
theorem b_X6_join_304 : isAt "GridStoreModel" 16 false cX6_join 304 k_X6_join_304 = true := by decide +kernel
def k_X6_join_314 : List En := [(.aload_n 0, 1, 0, 0, 0, 0, .int), (.getfield 19, 3, 0, 0, 6, 4, (.array .boolean)), (.iload 9, 2, 0, 0, 0, 9, .int), (.baload, 1, 0, 0, 0, 0, .int), (.ifCond .eq 17, 3, 338, 0, 0, 0, .int), (.aload_n 0, 1, 0, 0, 0, 0, .int), (.getfield 19, 3, 0, 0, 6, 4, (.array .boolean)), (.iload 10, 2, 0, 0, 0, 10, .int), (.baload, 1, 0, 0, 0, 0, .int), (.ifCond .ne 7, 3, 338, 0, 0, 0, .int), (.iconst 1, 1, 0, 1, 0, 0, .int), (.goto 4, 3, 339, 0, 0, 0, .int)]
theorem b_X6_join_314 : isAt "GridStoreModel" 16 false cX6_join 314 k_X6_join_314 = true := by decide +kernel
def k_X6_join_338 : List En := [(.iconst 0, 1, 0, 0, 0, 0, .int)]
theorem b_X6_join_338 : isAt "GridStoreModel" 16 false cX6_join 338 k_X6_join_338 = true := by decide +kernel
def k_X6_join_339 : List En := [(.istore 14, 2, 0, 0, 0, 14, .int), (.iload_n 3, 1, 0, 0, 0, 3, .int), (.ifCond .ne 26, 3, 368, 0, 0, 0, .int), (.iload 11, 2, 0, 0, 0, 11, .int), (.ifCond .eq 21, 3, 368, 0, 0, 0, .int), (.aload_n 0, 1, 0, 0, 0, 0, .int), (.getfield 16, 3, 0, 0, 6, 3, (.array .int)), (.iload 9, 2, 0, 0, 0, 9, .int), (.iaload, 1, 0, 0, 0, 0, .int), (.aload_n 0, 1, 0, 0, 0, 0, .int), (.getfield 16, 3, 0, 0, 6, 3, (.array .int)), (.iload 10, 2, 0, 0, 0, 10, .int), (.iaload, 1, 0, 0, 0, 0, .int), (.iadd, 1, 0, 0, 0, 0, .int), (.goto 30, 3, 395, 0, 0, 0, .int)]
theorem b_X6_join_339 : isAt "GridStoreModel" 16 false cX6_join 339 k_X6_join_339 = true := by decide +kernel
def k_X6_join_368 : List En := [(.iload_n 3, 1, 0, 0, 0, 3, .int), (.iconst 1, 1, 0, 1, 0, 0, .int), (.if_icmp .ne 23, 3, 393, 0, 0, 0, .int), (.aload_n 0, 1, 0, 0, 0, 0, .int), (.getfield 16, 3, 0, 0, 6, 3, (.array .int)), (.iload 9, 2, 0, 0, 0, 9, .int), (.iaload, 1, 0, 0, 0, 0, .int), (.aload_n 0, 1, 0, 0, 0, 0, .int), (.getfield 16, 3, 0, 0, 6, 3, (.array .int)), (.iload 10, 2, 0, 0, 0, 10, .int), (.iaload, 1, 0, 0, 0, 0, .int)]
theorem b_X6_join_368 : isAt "GridStoreModel" 16 false cX6_join 368 k_X6_join_368 = true := by decide +kernel
def k_X6_join_390 : List En := [(.goto 5, 3, 395, 0, 0, 0, .int)]
theorem b_X6_join_390 : isAt "GridStoreModel" 16 false cX6_join 390 k_X6_join_390 = true := by decide +kernel
def k_X6_join_393 : List En := [(.iload 13, 2, 0, 0, 0, 13, .int)]
theorem b_X6_join_393 : isAt "GridStoreModel" 16 false cX6_join 393 k_X6_join_393 = true := by decide +kernel
def k_X6_join_395 : List En := [(.istore 15, 2, 0, 0, 0, 15, .int), (.iload 6, 2, 0, 0, 0, 6, .int), (.aload_n 0, 1, 0, 0, 0, 0, .int), (.aload_n 0, 1, 0, 0, 0, 0, .int), (.iload 4, 2, 0, 0, 0, 4, .int), (.iload 8, 2, 0, 0, 0, 8, .int), (.iload 7, 2, 0, 0, 0, 7, .int)]
theorem b_X6_join_395 : isAt "GridStoreModel" 16 false cX6_join 395 k_X6_join_395 = true := by decide +kernel
def k_X6_join_410 : List En := [(.iload 14, 2, 0, 0, 0, 14, .int), (.iload 15, 2, 0, 0, 0, 15, .int)]
theorem b_X6_join_410 : isAt "GridStoreModel" 16 false cX6_join 410 k_X6_join_410 = true := by decide +kernel
def k_X6_join_417 : List En := [(.iadd, 1, 0, 0, 0, 0, .int), (.istore 6, 2, 0, 0, 0, 6, .int), (.iinc 8 1, 3, 0, 1, 0, 8, .int), (.goto (-250), 3, 173, 0, 0, 0, .int)]
theorem b_X6_join_417 : isAt "GridStoreModel" 16 false cX6_join 417 k_X6_join_417 = true := by decide +kernel
def k_X6_join_426 : List En := [(.iinc 7 1, 3, 0, 1, 0, 7, .int), (.goto (-271), 3, 158, 0, 0, 0, .int)]
theorem b_X6_join_426 : isAt "GridStoreModel" 16 false cX6_join 426 k_X6_join_426 = true := by decide +kernel
def k_X6_join_432 : List En := [(.iload 6, 2, 0, 0, 0, 6, .int)]
theorem b_X6_join_432 : isAt "GridStoreModel" 16 false cX6_join 432 k_X6_join_432 = true := by decide +kernel
def k_X6_keep_0 : List En := [(.aload_n 0, 1, 0, 0, 0, 0, .int), (.iconst 0, 1, 0, 0, 0, 0, .int), (.putfield 63, 3, 0, 0, 6, 0, .int), (.aload_n 0, 1, 0, 0, 0, 0, .int), (.aload_n 0, 1, 0, 0, 0, 0, .int), (.iload_n 1, 1, 0, 0, 0, 1, .int)]
theorem b_X6_keep_0 : isAt "GridStoreModel" 4 false cX6_keep 0 k_X6_keep_0 = true := by decide +kernel
def k_X6_keep_11 : List En := [(.iconst 1, 1, 0, 1, 0, 0, .int)]
theorem b_X6_keep_11 : isAt "GridStoreModel" 4 false cX6_keep 11 k_X6_keep_11 = true := by decide +kernel
def k_X6_keep_15 : List En := [(.ifCond .eq 5, 3, 20, 0, 0, 0, .int), (.iconst 0, 1, 0, 0, 0, 0, .int)]
theorem b_X6_keep_15 : isAt "GridStoreModel" 4 false cX6_keep 15 k_X6_keep_15 = true := by decide +kernel
def k_X6_keep_20 : List En := [(.aload_n 0, 1, 0, 0, 0, 0, .int), (.getfield 30, 3, 0, 0, 6, 8, (.array .int)), (.iload_n 1, 1, 0, 0, 0, 1, .int), (.iaload, 1, 0, 0, 0, 0, .int), (.bipush 20, 2, 0, 20, 0, 0, .int), (.if_icmp .ne 5, 3, 33, 0, 0, 0, .int), (.iconst (-1), 1, 0, (-1), 0, 0, .int)]
theorem b_X6_keep_20 : isAt "GridStoreModel" 4 false cX6_keep 20 k_X6_keep_20 = true := by decide +kernel
def k_X6_keep_33 : List En := [(.iload_n 1, 1, 0, 0, 0, 1, .int), (.aload_n 0, 1, 0, 0, 0, 0, .int), (.getfield 30, 3, 0, 0, 6, 8, (.array .int)), (.iload_n 1, 1, 0, 0, 0, 1, .int), (.iaload, 1, 0, 0, 0, 0, .int)]
theorem b_X6_keep_33 : isAt "GridStoreModel" 4 false cX6_keep 33 k_X6_keep_33 = true := by decide +kernel
def k_X6_keep_43 : List En := [(.istore_n 2, 1, 0, 0, 0, 2, .int), (.iconst 0, 1, 0, 0, 0, 0, .int), (.istore_n 3, 1, 0, 0, 0, 3, .int)]
theorem b_X6_keep_43 : isAt "GridStoreModel" 4 false cX6_keep 43 k_X6_keep_43 = true := by decide +kernel
def k_X6_keep_46 : List En := [(.iload_n 3, 1, 0, 0, 0, 3, .int), (.sipush 1920, 3, 0, 1920, 0, 0, .int), (.if_icmp .ge 49, 3, 99, 0, 0, 0, .int), (.aload_n 0, 1, 0, 0, 0, 0, .int), (.getfield 24, 3, 0, 0, 6, 6, (.array .int)), (.iload_n 2, 1, 0, 0, 0, 2, .int), (.iload_n 3, 1, 0, 0, 0, 3, .int), (.iadd, 1, 0, 0, 0, 0, .int), (.aload_n 0, 1, 0, 0, 0, 0, .int), (.getfield 16, 3, 0, 0, 6, 3, (.array .int)), (.sipush 1920, 3, 0, 1920, 0, 0, .int), (.iload_n 1, 1, 0, 0, 0, 1, .int), (.imul, 1, 0, 0, 0, 0, .int), (.iload_n 3, 1, 0, 0, 0, 3, .int), (.iadd, 1, 0, 0, 0, 0, .int), (.iaload, 1, 0, 0, 0, 0, .int), (.iastore, 1, 0, 0, 0, 0, .int), (.aload_n 0, 1, 0, 0, 0, 0, .int), (.getfield 27, 3, 0, 0, 6, 7, (.array .boolean)), (.iload_n 2, 1, 0, 0, 0, 2, .int), (.iload_n 3, 1, 0, 0, 0, 3, .int), (.iadd, 1, 0, 0, 0, 0, .int), (.aload_n 0, 1, 0, 0, 0, 0, .int), (.getfield 19, 3, 0, 0, 6, 4, (.array .boolean)), (.sipush 1920, 3, 0, 1920, 0, 0, .int), (.iload_n 1, 1, 0, 0, 0, 1, .int), (.imul, 1, 0, 0, 0, 0, .int), (.iload_n 3, 1, 0, 0, 0, 3, .int), (.iadd, 1, 0, 0, 0, 0, .int), (.baload, 1, 0, 0, 0, 0, .int), (.bastore, 1, 0, 0, 0, 0, .int), (.iinc 3 1, 3, 0, 1, 0, 3, .int), (.goto (-50), 3, 46, 0, 0, 0, .int)]
theorem b_X6_keep_46 : isAt "GridStoreModel" 4 false cX6_keep 46 k_X6_keep_46 = true := by decide +kernel
def k_X6_keep_99 : List En := [(.aload_n 0, 1, 0, 0, 0, 0, .int), (.getfield 30, 3, 0, 0, 6, 8, (.array .int)), (.iload_n 1, 1, 0, 0, 0, 1, .int), (.dup2, 1, 0, 0, 0, 0, .int), (.iaload, 1, 0, 0, 0, 0, .int), (.iconst 1, 1, 0, 1, 0, 0, .int), (.iadd, 1, 0, 0, 0, 0, .int), (.iastore, 1, 0, 0, 0, 0, .int), (.aload_n 0, 1, 0, 0, 0, 0, .int), (.getfield 30, 3, 0, 0, 6, 8, (.array .int)), (.iload_n 1, 1, 0, 0, 0, 1, .int), (.iaload, 1, 0, 0, 0, 0, .int), (.iconst 1, 1, 0, 1, 0, 0, .int), (.isub, 1, 0, 0, 0, 0, .int)]
theorem b_X6_keep_99 : isAt "GridStoreModel" 4 false cX6_keep 99 k_X6_keep_99 = true := by decide +kernel
def k_X6_kind_0 : List En := [(.aload_n 0, 1, 0, 0, 0, 0, .int), (.iconst 0, 1, 0, 0, 0, 0, .int), (.putfield 63, 3, 0, 0, 6, 0, .int), (.aload_n 0, 1, 0, 0, 0, 0, .int), (.aload_n 0, 1, 0, 0, 0, 0, .int), (.iload_n 1, 1, 0, 0, 0, 1, .int)]
theorem b_X6_kind_0 : isAt "GridStoreModel" 4 false cX6_kind 0 k_X6_kind_0 = true := by decide +kernel
def k_X6_kind_11 : List En := [(.ifCond .ne 33, 3, 44, 0, 0, 0, .int), (.iload_n 2, 1, 0, 0, 0, 2, .int), (.iconst 0, 1, 0, 0, 0, 0, .int), (.aload_n 0, 1, 0, 0, 0, 0, .int), (.iload_n 1, 1, 0, 0, 0, 1, .int)]
theorem b_X6_kind_11 : isAt "GridStoreModel" 4 false cX6_kind 11 k_X6_kind_11 = true := by decide +kernel
def k_X6_kind_21 : List En := [(.iconst 1, 1, 0, 1, 0, 0, .int), (.isub, 1, 0, 0, 0, 0, .int)]
theorem b_X6_kind_21 : isAt "GridStoreModel" 4 false cX6_kind 21 k_X6_kind_21 = true := by decide +kernel
def k_X6_kind_26 : List En := [(.ifCond .eq 18, 3, 44, 0, 0, 0, .int), (.iload_n 3, 1, 0, 0, 0, 3, .int), (.iconst 0, 1, 0, 0, 0, 0, .int), (.aload_n 0, 1, 0, 0, 0, 0, .int), (.iload_n 1, 1, 0, 0, 0, 1, .int)]
theorem b_X6_kind_26 : isAt "GridStoreModel" 4 false cX6_kind 26 k_X6_kind_26 = true := by decide +kernel
def k_X6_kind_36 : List En := [(.iconst 1, 1, 0, 1, 0, 0, .int), (.isub, 1, 0, 0, 0, 0, .int)]
theorem b_X6_kind_36 : isAt "GridStoreModel" 4 false cX6_kind 36 k_X6_kind_36 = true := by decide +kernel
def k_X6_kind_41 : List En := [(.ifCond .ne 7, 3, 48, 0, 0, 0, .int)]
theorem b_X6_kind_41 : isAt "GridStoreModel" 4 false cX6_kind 41 k_X6_kind_41 = true := by decide +kernel
def k_X6_kind_44 : List En := [(.iconst 1, 1, 0, 1, 0, 0, .int), (.goto 4, 3, 49, 0, 0, 0, .int)]
theorem b_X6_kind_44 : isAt "GridStoreModel" 4 false cX6_kind 44 k_X6_kind_44 = true := by decide +kernel
def k_X6_kind_48 : List En := [(.iconst 0, 1, 0, 0, 0, 0, .int)]
theorem b_X6_kind_48 : isAt "GridStoreModel" 4 false cX6_kind 48 k_X6_kind_48 = true := by decide +kernel
def k_X6_kind_49 : List En := [(.iconst 1, 1, 0, 1, 0, 0, .int)]
theorem b_X6_kind_49 : isAt "GridStoreModel" 4 false cX6_kind 49 k_X6_kind_49 = true := by decide +kernel
def k_X6_kind_53 : List En := [(.ifCond .eq 5, 3, 58, 0, 0, 0, .int), (.iconst 0, 1, 0, 0, 0, 0, .int)]
theorem b_X6_kind_53 : isAt "GridStoreModel" 4 false cX6_kind 53 k_X6_kind_53 = true := by decide +kernel
def k_X6_kind_58 : List En := [(.aload_n 0, 1, 0, 0, 0, 0, .int), (.iload_n 1, 1, 0, 0, 0, 1, .int), (.iload_n 2, 1, 0, 0, 0, 2, .int), (.iload_n 3, 1, 0, 0, 0, 3, .int)]
theorem b_X6_kind_58 : isAt "GridStoreModel" 4 false cX6_kind 58 k_X6_kind_58 = true := by decide +kernel
def k_X6_kindOf_0 : List En := [(.iconst 0, 1, 0, 0, 0, 0, .int), (.istore 4, 2, 0, 0, 0, 4, .int), (.iconst 0, 1, 0, 0, 0, 0, .int), (.istore 5, 2, 0, 0, 0, 5, .int), (.iconst (-1), 1, 0, (-1), 0, 0, .int), (.istore 6, 2, 0, 0, 0, 6, .int), (.iconst 1, 1, 0, 1, 0, 0, .int), (.istore 7, 2, 0, 0, 0, 7, .int), (.bipush 8, 2, 0, 8, 0, 0, .int), (.iload_n 3, 1, 0, 0, 0, 3, .int), (.imul, 1, 0, 0, 0, 0, .int), (.istore 8, 2, 0, 0, 0, 8, .int)]
theorem b_X6_kindOf_0 : isAt "GridStoreModel" 11 false cX6_kindOf 0 k_X6_kindOf_0 = true := by decide +kernel
def k_X6_kindOf_18 : List En := [(.iload 8, 2, 0, 0, 0, 8, .int), (.bipush 8, 2, 0, 8, 0, 0, .int), (.iload_n 3, 1, 0, 0, 0, 3, .int), (.imul, 1, 0, 0, 0, 0, .int), (.bipush 8, 2, 0, 8, 0, 0, .int), (.iadd, 1, 0, 0, 0, 0, .int), (.if_icmp .ge 133, 3, 160, 0, 0, 0, .int), (.iload 8, 2, 0, 0, 0, 8, .int), (.aload_n 0, 1, 0, 0, 0, 0, .int), (.getfield 13, 3, 0, 0, 6, 2, (.array .int)), (.iload_n 1, 1, 0, 0, 0, 1, .int), (.iaload, 1, 0, 0, 0, 0, .int), (.if_icmp .ge 122, 3, 160, 0, 0, 0, .int), (.bipush 8, 2, 0, 8, 0, 0, .int), (.iload_n 2, 1, 0, 0, 0, 2, .int), (.imul, 1, 0, 0, 0, 0, .int), (.istore 9, 2, 0, 0, 0, 9, .int)]
theorem b_X6_kindOf_18 : isAt "GridStoreModel" 11 false cX6_kindOf 18 k_X6_kindOf_18 = true := by decide +kernel
def k_X6_kindOf_47 : List En := [(.iload 9, 2, 0, 0, 0, 9, .int), (.bipush 8, 2, 0, 8, 0, 0, .int), (.iload_n 2, 1, 0, 0, 0, 2, .int), (.imul, 1, 0, 0, 0, 0, .int), (.bipush 8, 2, 0, 8, 0, 0, .int), (.iadd, 1, 0, 0, 0, 0, .int), (.if_icmp .ge 98, 3, 154, 0, 0, 0, .int), (.iload 9, 2, 0, 0, 0, 9, .int), (.aload_n 0, 1, 0, 0, 0, 0, .int), (.getfield 9, 3, 0, 0, 6, 1, (.array .int)), (.iload_n 1, 1, 0, 0, 0, 1, .int), (.iaload, 1, 0, 0, 0, 0, .int), (.if_icmp .ge 87, 3, 154, 0, 0, 0, .int), (.sipush 1920, 3, 0, 1920, 0, 0, .int), (.iload_n 1, 1, 0, 0, 0, 1, .int), (.imul, 1, 0, 0, 0, 0, .int), (.bipush 48, 2, 0, 48, 0, 0, .int), (.iload 8, 2, 0, 0, 0, 8, .int), (.imul, 1, 0, 0, 0, 0, .int), (.iadd, 1, 0, 0, 0, 0, .int), (.iload 9, 2, 0, 0, 0, 9, .int), (.iadd, 1, 0, 0, 0, 0, .int), (.istore 10, 2, 0, 0, 0, 10, .int), (.iinc 5 1, 3, 0, 1, 0, 5, .int), (.aload_n 0, 1, 0, 0, 0, 0, .int), (.getfield 19, 3, 0, 0, 6, 4, (.array .boolean)), (.iload 10, 2, 0, 0, 0, 10, .int), (.baload, 1, 0, 0, 0, 0, .int), (.ifCond .ne 6, 3, 102, 0, 0, 0, .int), (.goto 49, 3, 148, 0, 0, 0, .int)]
theorem b_X6_kindOf_47 : isAt "GridStoreModel" 11 false cX6_kindOf 47 k_X6_kindOf_47 = true := by decide +kernel
def k_X6_kindOf_102 : List En := [(.iinc 4 1, 3, 0, 1, 0, 4, .int), (.iload 6, 2, 0, 0, 0, 6, .int), (.ifCond .ge 8, 3, 115, 0, 0, 0, .int), (.iload 10, 2, 0, 0, 0, 10, .int), (.goto 5, 3, 117, 0, 0, 0, .int)]
theorem b_X6_kindOf_102 : isAt "GridStoreModel" 11 false cX6_kindOf 102 k_X6_kindOf_102 = true := by decide +kernel
def k_X6_kindOf_115 : List En := [(.iload 6, 2, 0, 0, 0, 6, .int)]
theorem b_X6_kindOf_115 : isAt "GridStoreModel" 11 false cX6_kindOf 115 k_X6_kindOf_115 = true := by decide +kernel
def k_X6_kindOf_117 : List En := [(.istore 6, 2, 0, 0, 0, 6, .int), (.iload 7, 2, 0, 0, 0, 7, .int), (.ifCond .eq 24, 3, 145, 0, 0, 0, .int), (.aload_n 0, 1, 0, 0, 0, 0, .int), (.getfield 16, 3, 0, 0, 6, 3, (.array .int)), (.iload 10, 2, 0, 0, 0, 10, .int), (.iaload, 1, 0, 0, 0, 0, .int), (.aload_n 0, 1, 0, 0, 0, 0, .int), (.getfield 16, 3, 0, 0, 6, 3, (.array .int)), (.iload 6, 2, 0, 0, 0, 6, .int), (.iaload, 1, 0, 0, 0, 0, .int), (.if_icmp .ne 7, 3, 145, 0, 0, 0, .int), (.iconst 1, 1, 0, 1, 0, 0, .int), (.goto 4, 3, 146, 0, 0, 0, .int)]
theorem b_X6_kindOf_117 : isAt "GridStoreModel" 11 false cX6_kindOf 117 k_X6_kindOf_117 = true := by decide +kernel
def k_X6_kindOf_145 : List En := [(.iconst 0, 1, 0, 0, 0, 0, .int)]
theorem b_X6_kindOf_145 : isAt "GridStoreModel" 11 false cX6_kindOf 145 k_X6_kindOf_145 = true := by decide +kernel
def k_X6_kindOf_146 : List En := [(.istore 7, 2, 0, 0, 0, 7, .int)]
theorem b_X6_kindOf_146 : isAt "GridStoreModel" 11 false cX6_kindOf 146 k_X6_kindOf_146 = true := by decide +kernel
def k_X6_kindOf_148 : List En := [(.iinc 9 1, 3, 0, 1, 0, 9, .int), (.goto (-104), 3, 47, 0, 0, 0, .int)]
theorem b_X6_kindOf_148 : isAt "GridStoreModel" 11 false cX6_kindOf 148 k_X6_kindOf_148 = true := by decide +kernel
def k_X6_kindOf_154 : List En := [(.iinc 8 1, 3, 0, 1, 0, 8, .int), (.goto (-139), 3, 18, 0, 0, 0, .int)]
theorem b_X6_kindOf_154 : isAt "GridStoreModel" 11 false cX6_kindOf 154 k_X6_kindOf_154 = true := by decide +kernel
def k_X6_kindOf_160 : List En := [(.iload 4, 2, 0, 0, 0, 4, .int), (.ifCond .ne 7, 3, 169, 0, 0, 0, .int), (.iconst 0, 1, 0, 0, 0, 0, .int), (.goto 31, 3, 197, 0, 0, 0, .int)]
theorem b_X6_kindOf_160 : isAt "GridStoreModel" 11 false cX6_kindOf 160 k_X6_kindOf_160 = true := by decide +kernel
def k_X6_kindOf_169 : List En := [(.iload 4, 2, 0, 0, 0, 4, .int), (.iload 5, 2, 0, 0, 0, 5, .int), (.if_icmp .ne 12, 3, 185, 0, 0, 0, .int), (.iload 7, 2, 0, 0, 0, 7, .int), (.ifCond .eq 7, 3, 185, 0, 0, 0, .int), (.iconst 1, 1, 0, 1, 0, 0, .int), (.goto 15, 3, 197, 0, 0, 0, .int)]
theorem b_X6_kindOf_169 : isAt "GridStoreModel" 11 false cX6_kindOf 169 k_X6_kindOf_169 = true := by decide +kernel
def k_X6_kindOf_185 : List En := [(.iload 4, 2, 0, 0, 0, 4, .int), (.bipush 12, 2, 0, 12, 0, 0, .int), (.if_icmp .gt 7, 3, 196, 0, 0, 0, .int), (.iconst 2, 1, 0, 2, 0, 0, .int), (.goto 4, 3, 197, 0, 0, 0, .int)]
theorem b_X6_kindOf_185 : isAt "GridStoreModel" 11 false cX6_kindOf 185 k_X6_kindOf_185 = true := by decide +kernel
def k_X6_kindOf_196 : List En := [(.iconst 3, 1, 0, 3, 0, 0, .int)]
theorem b_X6_kindOf_196 : isAt "GridStoreModel" 11 false cX6_kindOf 196 k_X6_kindOf_196 = true := by decide +kernel
def k_X6_layerAt_0 : List En := [(.bipush 20, 2, 0, 20, 0, 0, .int), (.iload_n 0, 1, 0, 0, 0, 0, .int), (.imul, 1, 0, 0, 0, 0, .int), (.iload_n 1, 1, 0, 0, 0, 1, .int), (.iadd, 1, 0, 0, 0, 0, .int), (.sipush 1920, 3, 0, 1920, 0, 0, .int), (.imul, 1, 0, 0, 0, 0, .int)]
theorem b_X6_layerAt_0 : isAt "GridStoreModel" 2 false cX6_layerAt 0 k_X6_layerAt_0 = true := by decide +kernel
def k_X6_lose_0 : List En := [(.aload_n 0, 1, 0, 0, 0, 0, .int), (.iconst 0, 1, 0, 0, 0, 0, .int), (.putfield 63, 3, 0, 0, 6, 0, .int), (.aload_n 0, 1, 0, 0, 0, 0, .int), (.iload_n 1, 1, 0, 0, 0, 1, .int), (.iconst 0, 1, 0, 0, 0, 0, .int), (.iconst 4, 1, 0, 4, 0, 0, .int)]
theorem b_X6_lose_0 : isAt "GridStoreModel" 5 false cX6_lose 0 k_X6_lose_0 = true := by decide +kernel
def k_X6_lose_12 : List En := [(.ifCond .ne 7, 3, 19, 0, 0, 0, .int), (.iconst 1, 1, 0, 1, 0, 0, .int), (.goto 4, 3, 20, 0, 0, 0, .int)]
theorem b_X6_lose_12 : isAt "GridStoreModel" 5 false cX6_lose 12 k_X6_lose_12 = true := by decide +kernel
def k_X6_lose_19 : List En := [(.iconst 0, 1, 0, 0, 0, 0, .int)]
theorem b_X6_lose_19 : isAt "GridStoreModel" 5 false cX6_lose 19 k_X6_lose_19 = true := by decide +kernel
def k_X6_lose_20 : List En := [(.iconst 1, 1, 0, 1, 0, 0, .int)]
theorem b_X6_lose_20 : isAt "GridStoreModel" 5 false cX6_lose 20 k_X6_lose_20 = true := by decide +kernel
def k_X6_lose_24 : List En := [(.ifCond .eq 5, 3, 29, 0, 0, 0, .int), (.iconst 0, 1, 0, 0, 0, 0, .int)]
theorem b_X6_lose_24 : isAt "GridStoreModel" 5 false cX6_lose 24 k_X6_lose_24 = true := by decide +kernel
def k_X6_lose_29 : List En := [(.aload_n 0, 1, 0, 0, 0, 0, .int), (.getfield 33, 3, 0, 0, 6, 9, (.array .boolean)), (.iload_n 1, 1, 0, 0, 0, 1, .int), (.baload, 1, 0, 0, 0, 0, .int), (.istore_n 3, 1, 0, 0, 0, 3, .int), (.aload_n 0, 1, 0, 0, 0, 0, .int), (.getfield 33, 3, 0, 0, 6, 9, (.array .boolean)), (.iload_n 1, 1, 0, 0, 0, 1, .int), (.iload_n 2, 1, 0, 0, 0, 2, .int), (.bastore, 1, 0, 0, 0, 0, .int), (.iconst 0, 1, 0, 0, 0, 0, .int), (.istore 4, 2, 0, 0, 0, 4, .int)]
theorem b_X6_lose_29 : isAt "GridStoreModel" 5 false cX6_lose 29 k_X6_lose_29 = true := by decide +kernel
def k_X6_lose_46 : List En := [(.iload 4, 2, 0, 0, 0, 4, .int), (.aload_n 0, 1, 0, 0, 0, 0, .int), (.getfield 67, 3, 0, 0, 6, 5, .int), (.sipush 1920, 3, 0, 1920, 0, 0, .int), (.imul, 1, 0, 0, 0, 0, .int), (.if_icmp .ge 30, 3, 86, 0, 0, 0, .int), (.iload_n 2, 1, 0, 0, 0, 2, .int), (.ifCond .eq 26, 3, 86, 0, 0, 0, .int), (.aload_n 0, 1, 0, 0, 0, 0, .int), (.iload 4, 2, 0, 0, 0, 4, .int)]
theorem b_X6_lose_46 : isAt "GridStoreModel" 5 false cX6_lose 46 k_X6_lose_46 = true := by decide +kernel
def k_X6_lose_69 : List En := [(.ifCond .eq 11, 3, 80, 0, 0, 0, .int), (.aload_n 0, 1, 0, 0, 0, 0, .int), (.getfield 19, 3, 0, 0, 6, 4, (.array .boolean)), (.iload 4, 2, 0, 0, 0, 4, .int), (.iconst 0, 1, 0, 0, 0, 0, .int), (.bastore, 1, 0, 0, 0, 0, .int)]
theorem b_X6_lose_69 : isAt "GridStoreModel" 5 false cX6_lose 69 k_X6_lose_69 = true := by decide +kernel
def k_X6_lose_80 : List En := [(.iinc 4 1, 3, 0, 1, 0, 4, .int), (.goto (-37), 3, 46, 0, 0, 0, .int)]
theorem b_X6_lose_80 : isAt "GridStoreModel" 5 false cX6_lose 80 k_X6_lose_80 = true := by decide +kernel
def k_X6_lose_86 : List En := [(.iload_n 3, 1, 0, 0, 0, 3, .int), (.iload_n 2, 1, 0, 0, 0, 2, .int), (.if_icmp .eq 7, 3, 95, 0, 0, 0, .int), (.iconst 1, 1, 0, 1, 0, 0, .int), (.goto 4, 3, 96, 0, 0, 0, .int)]
theorem b_X6_lose_86 : isAt "GridStoreModel" 5 false cX6_lose 86 k_X6_lose_86 = true := by decide +kernel
def k_X6_lose_95 : List En := [(.iconst 0, 1, 0, 0, 0, 0, .int)]
theorem b_X6_lose_95 : isAt "GridStoreModel" 5 false cX6_lose 95 k_X6_lose_95 = true := by decide +kernel
def k_X6_many_0 : List En := [(.aload_n 0, 1, 0, 0, 0, 0, .int), (.iconst 0, 1, 0, 0, 0, 0, .int), (.putfield 63, 3, 0, 0, 6, 0, .int), (.aload_n 0, 1, 0, 0, 0, 0, .int), (.aload_n 0, 1, 0, 0, 0, 0, .int), (.iload_n 1, 1, 0, 0, 0, 1, .int)]
theorem b_X6_many_0 : isAt "GridStoreModel" 7 false cX6_many 0 k_X6_many_0 = true := by decide +kernel
def k_X6_many_11 : List En := [(.ifCond .ne 13, 3, 24, 0, 0, 0, .int), (.aload_n 0, 1, 0, 0, 0, 0, .int), (.iload_n 1, 1, 0, 0, 0, 1, .int), (.iload_n 2, 1, 0, 0, 0, 2, .int), (.iload_n 3, 1, 0, 0, 0, 3, .int)]
theorem b_X6_many_11 : isAt "GridStoreModel" 7 false cX6_many 11 k_X6_many_11 = true := by decide +kernel
def k_X6_many_21 : List En := [(.ifCond .eq 7, 3, 28, 0, 0, 0, .int)]
theorem b_X6_many_21 : isAt "GridStoreModel" 7 false cX6_many 21 k_X6_many_21 = true := by decide +kernel
def k_X6_many_24 : List En := [(.iconst 1, 1, 0, 1, 0, 0, .int), (.goto 4, 3, 29, 0, 0, 0, .int)]
theorem b_X6_many_24 : isAt "GridStoreModel" 7 false cX6_many 24 k_X6_many_24 = true := by decide +kernel
def k_X6_many_28 : List En := [(.iconst 0, 1, 0, 0, 0, 0, .int)]
theorem b_X6_many_28 : isAt "GridStoreModel" 7 false cX6_many 28 k_X6_many_28 = true := by decide +kernel
def k_X6_many_29 : List En := [(.iconst 1, 1, 0, 1, 0, 0, .int)]
theorem b_X6_many_29 : isAt "GridStoreModel" 7 false cX6_many 29 k_X6_many_29 = true := by decide +kernel
def k_X6_many_33 : List En := [(.ifCond .ne 27, 3, 60, 0, 0, 0, .int), (.aload_n 0, 1, 0, 0, 0, 0, .int), (.iload 4, 2, 0, 0, 0, 4, .int), (.iconst 0, 1, 0, 0, 0, 0, .int), (.bipush 9, 2, 0, 9, 0, 0, .int)]
theorem b_X6_many_33 : isAt "GridStoreModel" 7 false cX6_many 33 k_X6_many_33 = true := by decide +kernel
def k_X6_many_45 : List En := [(.ifCond .ne 7, 3, 52, 0, 0, 0, .int), (.iconst 1, 1, 0, 1, 0, 0, .int), (.goto 4, 3, 53, 0, 0, 0, .int)]
theorem b_X6_many_45 : isAt "GridStoreModel" 7 false cX6_many 45 k_X6_many_45 = true := by decide +kernel
def k_X6_many_52 : List En := [(.iconst 0, 1, 0, 0, 0, 0, .int)]
theorem b_X6_many_52 : isAt "GridStoreModel" 7 false cX6_many 52 k_X6_many_52 = true := by decide +kernel
def k_X6_many_53 : List En := [(.iconst 2, 1, 0, 2, 0, 0, .int)]
theorem b_X6_many_53 : isAt "GridStoreModel" 7 false cX6_many 53 k_X6_many_53 = true := by decide +kernel
def k_X6_many_57 : List En := [(.ifCond .eq 5, 3, 62, 0, 0, 0, .int)]
theorem b_X6_many_57 : isAt "GridStoreModel" 7 false cX6_many 57 k_X6_many_57 = true := by decide +kernel
def k_X6_many_60 : List En := [(.iconst 0, 1, 0, 0, 0, 0, .int)]
theorem b_X6_many_60 : isAt "GridStoreModel" 7 false cX6_many 60 k_X6_many_60 = true := by decide +kernel
def k_X6_many_62 : List En := [(.aload_n 0, 1, 0, 0, 0, 0, .int), (.iload_n 1, 1, 0, 0, 0, 1, .int), (.iload_n 2, 1, 0, 0, 0, 2, .int), (.iload_n 3, 1, 0, 0, 0, 3, .int), (.iload 4, 2, 0, 0, 0, 4, .int)]
theorem b_X6_many_62 : isAt "GridStoreModel" 7 false cX6_many 62 k_X6_many_62 = true := by decide +kernel
def k_X6_many_71 : List En := [(.lstore 5, 2, 0, 0, 0, 5, .int), (.aload_n 0, 1, 0, 0, 0, 0, .int), (.getfield 139, 3, 0, 0, 6, 19, .int)]
theorem b_X6_many_71 : isAt "GridStoreModel" 7 false cX6_many 71 k_X6_many_71 = true := by decide +kernel
def k_X6_noCell_0 : List En := [(.iload_n 2, 1, 0, 0, 0, 2, .int), (.iconst 0, 1, 0, 0, 0, 0, .int), (.aload_n 0, 1, 0, 0, 0, 0, .int), (.iload_n 1, 1, 0, 0, 0, 1, .int), (.iconst 0, 1, 0, 0, 0, 0, .int)]
theorem b_X6_noCell_0 : isAt "GridStoreModel" 4 false cX6_noCell 0 k_X6_noCell_0 = true := by decide +kernel
def k_X6_noCell_8 : List En := [(.iconst 1, 1, 0, 1, 0, 0, .int), (.isub, 1, 0, 0, 0, 0, .int)]
theorem b_X6_noCell_8 : isAt "GridStoreModel" 4 false cX6_noCell 8 k_X6_noCell_8 = true := by decide +kernel
def k_X6_noCell_13 : List En := [(.ifCond .eq 19, 3, 32, 0, 0, 0, .int), (.iload_n 3, 1, 0, 0, 0, 3, .int), (.iconst 0, 1, 0, 0, 0, 0, .int), (.aload_n 0, 1, 0, 0, 0, 0, .int), (.iload_n 1, 1, 0, 0, 0, 1, .int), (.iconst 1, 1, 0, 1, 0, 0, .int)]
theorem b_X6_noCell_13 : isAt "GridStoreModel" 4 false cX6_noCell 13 k_X6_noCell_13 = true := by decide +kernel
def k_X6_noCell_24 : List En := [(.iconst 1, 1, 0, 1, 0, 0, .int), (.isub, 1, 0, 0, 0, 0, .int)]
theorem b_X6_noCell_24 : isAt "GridStoreModel" 4 false cX6_noCell 24 k_X6_noCell_24 = true := by decide +kernel
def k_X6_noCell_29 : List En := [(.ifCond .ne 7, 3, 36, 0, 0, 0, .int)]
theorem b_X6_noCell_29 : isAt "GridStoreModel" 4 false cX6_noCell 29 k_X6_noCell_29 = true := by decide +kernel
def k_X6_noCell_32 : List En := [(.iconst 1, 1, 0, 1, 0, 0, .int), (.goto 4, 3, 37, 0, 0, 0, .int)]
theorem b_X6_noCell_32 : isAt "GridStoreModel" 4 false cX6_noCell 32 k_X6_noCell_32 = true := by decide +kernel
def k_X6_noCell_36 : List En := [(.iconst 0, 1, 0, 0, 0, 0, .int)]
theorem b_X6_noCell_36 : isAt "GridStoreModel" 4 false cX6_noCell 36 k_X6_noCell_36 = true := by decide +kernel
def k_X6_noGrid_0 : List En := [(.iload_n 1, 1, 0, 0, 0, 1, .int), (.iconst 0, 1, 0, 0, 0, 0, .int), (.aload_n 0, 1, 0, 0, 0, 0, .int), (.getfield 67, 3, 0, 0, 6, 5, .int), (.iconst 1, 1, 0, 1, 0, 0, .int), (.isub, 1, 0, 0, 0, 0, .int)]
theorem b_X6_noGrid_0 : isAt "GridStoreModel" 2 false cX6_noGrid 0 k_X6_noGrid_0 = true := by decide +kernel
def k_X6_noGrid_11 : List En := [(.ifCond .ne 7, 3, 18, 0, 0, 0, .int), (.iconst 1, 1, 0, 1, 0, 0, .int), (.goto 4, 3, 19, 0, 0, 0, .int)]
theorem b_X6_noGrid_11 : isAt "GridStoreModel" 2 false cX6_noGrid 11 k_X6_noGrid_11 = true := by decide +kernel
def k_X6_noGrid_18 : List En := [(.iconst 0, 1, 0, 0, 0, 0, .int)]
theorem b_X6_noGrid_18 : isAt "GridStoreModel" 2 false cX6_noGrid 18 k_X6_noGrid_18 = true := by decide +kernel
def k_X6_noLayer_0 : List En := [(.iload_n 2, 1, 0, 0, 0, 2, .int), (.iconst 0, 1, 0, 0, 0, 0, .int), (.aload_n 0, 1, 0, 0, 0, 0, .int), (.getfield 30, 3, 0, 0, 6, 8, (.array .int)), (.iload_n 1, 1, 0, 0, 0, 1, .int), (.iaload, 1, 0, 0, 0, 0, .int), (.iconst 1, 1, 0, 1, 0, 0, .int), (.isub, 1, 0, 0, 0, 0, .int)]
theorem b_X6_noLayer_0 : isAt "GridStoreModel" 3 false cX6_noLayer 0 k_X6_noLayer_0 = true := by decide +kernel
def k_X6_noLayer_13 : List En := [(.ifCond .ne 7, 3, 20, 0, 0, 0, .int), (.iconst 1, 1, 0, 1, 0, 0, .int), (.goto 4, 3, 21, 0, 0, 0, .int)]
theorem b_X6_noLayer_13 : isAt "GridStoreModel" 3 false cX6_noLayer 13 k_X6_noLayer_13 = true := by decide +kernel
def k_X6_noLayer_20 : List En := [(.iconst 0, 1, 0, 0, 0, 0, .int)]
theorem b_X6_noLayer_20 : isAt "GridStoreModel" 3 false cX6_noLayer 20 k_X6_noLayer_20 = true := by decide +kernel
def k_X6_noRectangle_0 : List En := [(.iload_n 2, 1, 0, 0, 0, 2, .int), (.ifCond .lt 65, 3, 66, 0, 0, 0, .int), (.iload_n 3, 1, 0, 0, 0, 3, .int), (.ifCond .lt 61, 3, 66, 0, 0, 0, .int), (.iload 4, 2, 0, 0, 0, 4, .int), (.iconst 1, 1, 0, 1, 0, 0, .int), (.if_icmp .lt 55, 3, 66, 0, 0, 0, .int), (.iload 5, 2, 0, 0, 0, 5, .int), (.iconst 1, 1, 0, 1, 0, 0, .int), (.if_icmp .lt 49, 3, 66, 0, 0, 0, .int), (.iload 4, 2, 0, 0, 0, 4, .int), (.aload_n 0, 1, 0, 0, 0, 0, .int), (.iload_n 1, 1, 0, 0, 0, 1, .int), (.iconst 0, 1, 0, 0, 0, 0, .int)]
theorem b_X6_noRectangle_0 : isAt "GridStoreModel" 6 false cX6_noRectangle 0 k_X6_noRectangle_0 = true := by decide +kernel
def k_X6_noRectangle_28 : List En := [(.iload_n 2, 1, 0, 0, 0, 2, .int), (.isub, 1, 0, 0, 0, 0, .int), (.if_icmp .gt 36, 3, 66, 0, 0, 0, .int), (.iload 5, 2, 0, 0, 0, 5, .int), (.aload_n 0, 1, 0, 0, 0, 0, .int), (.iload_n 1, 1, 0, 0, 0, 1, .int), (.iconst 1, 1, 0, 1, 0, 0, .int)]
theorem b_X6_noRectangle_28 : isAt "GridStoreModel" 6 false cX6_noRectangle 28 k_X6_noRectangle_28 = true := by decide +kernel
def k_X6_noRectangle_41 : List En := [(.iload_n 3, 1, 0, 0, 0, 3, .int), (.isub, 1, 0, 0, 0, 0, .int), (.if_icmp .gt 23, 3, 66, 0, 0, 0, .int), (.iload_n 2, 1, 0, 0, 0, 2, .int), (.aload_n 0, 1, 0, 0, 0, 0, .int), (.iload_n 1, 1, 0, 0, 0, 1, .int), (.iconst 0, 1, 0, 0, 0, 0, .int)]
theorem b_X6_noRectangle_41 : isAt "GridStoreModel" 6 false cX6_noRectangle 41 k_X6_noRectangle_41 = true := by decide +kernel
def k_X6_noRectangle_53 : List En := [(.if_icmp .ge 13, 3, 66, 0, 0, 0, .int), (.iload_n 3, 1, 0, 0, 0, 3, .int), (.aload_n 0, 1, 0, 0, 0, 0, .int), (.iload_n 1, 1, 0, 0, 0, 1, .int), (.iconst 1, 1, 0, 1, 0, 0, .int)]
theorem b_X6_noRectangle_53 : isAt "GridStoreModel" 6 false cX6_noRectangle 53 k_X6_noRectangle_53 = true := by decide +kernel
def k_X6_noRectangle_63 : List En := [(.if_icmp .lt 7, 3, 70, 0, 0, 0, .int)]
theorem b_X6_noRectangle_63 : isAt "GridStoreModel" 6 false cX6_noRectangle 63 k_X6_noRectangle_63 = true := by decide +kernel
def k_X6_noRectangle_66 : List En := [(.iconst 1, 1, 0, 1, 0, 0, .int), (.goto 4, 3, 71, 0, 0, 0, .int)]
theorem b_X6_noRectangle_66 : isAt "GridStoreModel" 6 false cX6_noRectangle 66 k_X6_noRectangle_66 = true := by decide +kernel
def k_X6_noRectangle_70 : List En := [(.iconst 0, 1, 0, 0, 0, 0, .int)]
theorem b_X6_noRectangle_70 : isAt "GridStoreModel" 6 false cX6_noRectangle 70 k_X6_noRectangle_70 = true := by decide +kernel
def k_X6_none_0 : List En := [(.aload_n 0, 1, 0, 0, 0, 0, .int), (.iload_n 1, 1, 0, 0, 0, 1, .int)]
theorem b_X6_none_0 : isAt "GridStoreModel" 2 false cX6_none 0 k_X6_none_0 = true := by decide +kernel
def k_X6_none_5 : List En := [(.ifCond .eq 25, 3, 30, 0, 0, 0, .int), (.iload_n 1, 1, 0, 0, 0, 1, .int), (.bipush 100, 2, 0, 100, 0, 0, .int), (.bipush 100, 2, 0, 100, 0, 0, .int), (.aload_n 0, 1, 0, 0, 0, 0, .int), (.getfield 78, 3, 0, 0, 6, 18, .int), (.iadd, 1, 0, 0, 0, 0, .int), (.iconst 1, 1, 0, 1, 0, 0, .int), (.isub, 1, 0, 0, 0, 0, .int)]
theorem b_X6_none_5 : isAt "GridStoreModel" 2 false cX6_none 5 k_X6_none_5 = true := by decide +kernel
def k_X6_none_23 : List En := [(.ifCond .ne 7, 3, 30, 0, 0, 0, .int), (.iconst 1, 1, 0, 1, 0, 0, .int), (.goto 4, 3, 31, 0, 0, 0, .int)]
theorem b_X6_none_23 : isAt "GridStoreModel" 2 false cX6_none 23 k_X6_none_23 = true := by decide +kernel
def k_X6_none_30 : List En := [(.iconst 0, 1, 0, 0, 0, 0, .int)]
theorem b_X6_none_30 : isAt "GridStoreModel" 2 false cX6_none 30 k_X6_none_30 = true := by decide +kernel
def k_X6_numberIn_0 : List En := [(.iload_n 2, 1, 0, 0, 0, 2, .int), (.ifCond .ge 18, 3, 19, 0, 0, 0, .int), (.aload_n 0, 1, 0, 0, 0, 0, .int), (.getfield 16, 3, 0, 0, 6, 3, (.array .int)), (.sipush 1920, 3, 0, 1920, 0, 0, .int), (.iload_n 1, 1, 0, 0, 0, 1, .int), (.imul, 1, 0, 0, 0, 0, .int), (.iload_n 3, 1, 0, 0, 0, 3, .int), (.iadd, 1, 0, 0, 0, 0, .int), (.iaload, 1, 0, 0, 0, 0, .int), (.goto 15, 3, 31, 0, 0, 0, .int)]
theorem b_X6_numberIn_0 : isAt "GridStoreModel" 4 false cX6_numberIn 0 k_X6_numberIn_0 = true := by decide +kernel
def k_X6_numberIn_19 : List En := [(.aload_n 0, 1, 0, 0, 0, 0, .int), (.getfield 24, 3, 0, 0, 6, 6, (.array .int)), (.iload_n 1, 1, 0, 0, 0, 1, .int), (.iload_n 2, 1, 0, 0, 0, 2, .int)]
theorem b_X6_numberIn_19 : isAt "GridStoreModel" 4 false cX6_numberIn 19 k_X6_numberIn_19 = true := by decide +kernel
def k_X6_numberIn_28 : List En := [(.iload_n 3, 1, 0, 0, 0, 3, .int), (.iadd, 1, 0, 0, 0, 0, .int), (.iaload, 1, 0, 0, 0, 0, .int)]
theorem b_X6_numberIn_28 : isAt "GridStoreModel" 4 false cX6_numberIn 28 k_X6_numberIn_28 = true := by decide +kernel
def k_X6_piecesHigh_0 : List En := [(.aload_n 0, 1, 0, 0, 0, 0, .int), (.getfield 13, 3, 0, 0, 6, 2, (.array .int)), (.iload_n 1, 1, 0, 0, 0, 1, .int), (.iaload, 1, 0, 0, 0, 0, .int), (.bipush 7, 2, 0, 7, 0, 0, .int), (.iadd, 1, 0, 0, 0, 0, .int), (.bipush 8, 2, 0, 8, 0, 0, .int), (.idiv, 1, 0, 0, 0, 0, .int)]
theorem b_X6_piecesHigh_0 : isAt "GridStoreModel" 2 false cX6_piecesHigh 0 k_X6_piecesHigh_0 = true := by decide +kernel
def k_X6_piecesWide_0 : List En := [(.aload_n 0, 1, 0, 0, 0, 0, .int), (.getfield 9, 3, 0, 0, 6, 1, (.array .int)), (.iload_n 1, 1, 0, 0, 0, 1, .int), (.iaload, 1, 0, 0, 0, 0, .int), (.bipush 7, 2, 0, 7, 0, 0, .int), (.iadd, 1, 0, 0, 0, 0, .int), (.bipush 8, 2, 0, 8, 0, 0, .int), (.idiv, 1, 0, 0, 0, 0, .int)]
theorem b_X6_piecesWide_0 : isAt "GridStoreModel" 2 false cX6_piecesWide 0 k_X6_piecesWide_0 = true := by decide +kernel
def k_X6_placeOf_0 : List En := [(.iload_n 1, 1, 0, 0, 0, 1, .int), (.istore 4, 2, 0, 0, 0, 4, .int), (.iload_n 2, 1, 0, 0, 0, 2, .int), (.istore 5, 2, 0, 0, 0, 5, .int), (.iload_n 3, 1, 0, 0, 0, 3, .int), (.istore 6, 2, 0, 0, 0, 6, .int)]
theorem b_X6_placeOf_0 : isAt "GridStoreModel" 12 false cX6_placeOf 0 k_X6_placeOf_0 = true := by decide +kernel
def k_X6_placeOf_9 : List En := [(.iload 4, 2, 0, 0, 0, 4, .int), (.bipush 100, 2, 0, 100, 0, 0, .int), (.if_icmp .lt 140, 3, 153, 0, 0, 0, .int), (.iload 4, 2, 0, 0, 0, 4, .int), (.bipush 100, 2, 0, 100, 0, 0, .int), (.isub, 1, 0, 0, 0, 0, .int), (.istore 7, 2, 0, 0, 0, 7, .int), (.aload_n 0, 1, 0, 0, 0, 0, .int), (.iload 4, 2, 0, 0, 0, 4, .int), (.iconst 0, 1, 0, 0, 0, 0, .int)]
theorem b_X6_placeOf_9 : isAt "GridStoreModel" 12 false cX6_placeOf 9 k_X6_placeOf_9 = true := by decide +kernel
def k_X6_placeOf_30 : List En := [(.istore 8, 2, 0, 0, 0, 8, .int), (.aload_n 0, 1, 0, 0, 0, 0, .int), (.getfield 54, 3, 0, 0, 6, 16, (.array .boolean)), (.iload 7, 2, 0, 0, 0, 7, .int), (.baload, 1, 0, 0, 0, 0, .int), (.ifCond .eq 12, 3, 51, 0, 0, 0, .int), (.iload 8, 2, 0, 0, 0, 8, .int), (.iconst 1, 1, 0, 1, 0, 0, .int), (.isub, 1, 0, 0, 0, 0, .int), (.iload 5, 2, 0, 0, 0, 5, .int), (.isub, 1, 0, 0, 0, 0, .int), (.istore 5, 2, 0, 0, 0, 5, .int)]
theorem b_X6_placeOf_30 : isAt "GridStoreModel" 12 false cX6_placeOf 30 k_X6_placeOf_30 = true := by decide +kernel
def k_X6_placeOf_51 : List En := [(.aload_n 0, 1, 0, 0, 0, 0, .int), (.getfield 51, 3, 0, 0, 6, 15, (.array .int)), (.iload 7, 2, 0, 0, 0, 7, .int), (.iaload, 1, 0, 0, 0, 0, .int), (.istore 9, 2, 0, 0, 0, 9, .int)]
theorem b_X6_placeOf_51 : isAt "GridStoreModel" 12 false cX6_placeOf 51 k_X6_placeOf_51 = true := by decide +kernel
def k_X6_placeOf_60 : List En := [(.iload 9, 2, 0, 0, 0, 9, .int), (.ifCond .le 55, 3, 117, 0, 0, 0, .int), (.aload_n 0, 1, 0, 0, 0, 0, .int), (.getfield 51, 3, 0, 0, 6, 15, (.array .int)), (.iload 7, 2, 0, 0, 0, 7, .int), (.iaload, 1, 0, 0, 0, 0, .int), (.iload 9, 2, 0, 0, 0, 9, .int), (.isub, 1, 0, 0, 0, 0, .int), (.iconst 2, 1, 0, 2, 0, 0, .int), (.irem, 1, 0, 0, 0, 0, .int), (.ifCond .ne 8, 3, 85, 0, 0, 0, .int), (.iload 8, 2, 0, 0, 0, 8, .int), (.goto 10, 3, 92, 0, 0, 0, .int)]
theorem b_X6_placeOf_60 : isAt "GridStoreModel" 12 false cX6_placeOf 60 k_X6_placeOf_60 = true := by decide +kernel
def k_X6_placeOf_85 : List En := [(.aload_n 0, 1, 0, 0, 0, 0, .int), (.iload 4, 2, 0, 0, 0, 4, .int), (.iconst 1, 1, 0, 1, 0, 0, .int)]
theorem b_X6_placeOf_85 : isAt "GridStoreModel" 12 false cX6_placeOf 85 k_X6_placeOf_85 = true := by decide +kernel
def k_X6_placeOf_92 : List En := [(.istore 10, 2, 0, 0, 0, 10, .int), (.iload 5, 2, 0, 0, 0, 5, .int), (.istore 11, 2, 0, 0, 0, 11, .int), (.iload 6, 2, 0, 0, 0, 6, .int), (.istore 5, 2, 0, 0, 0, 5, .int), (.iload 10, 2, 0, 0, 0, 10, .int), (.iconst 1, 1, 0, 1, 0, 0, .int), (.isub, 1, 0, 0, 0, 0, .int), (.iload 11, 2, 0, 0, 0, 11, .int), (.isub, 1, 0, 0, 0, 0, .int), (.istore 6, 2, 0, 0, 0, 6, .int), (.iinc 9 (-1), 3, 0, (-1), 0, 9, .int), (.goto (-54), 3, 60, 0, 0, 0, .int)]
theorem b_X6_placeOf_92 : isAt "GridStoreModel" 12 false cX6_placeOf 92 k_X6_placeOf_92 = true := by decide +kernel
def k_X6_placeOf_117 : List En := [(.iload 5, 2, 0, 0, 0, 5, .int), (.aload_n 0, 1, 0, 0, 0, 0, .int), (.getfield 39, 3, 0, 0, 6, 11, (.array .int)), (.iload 7, 2, 0, 0, 0, 7, .int), (.iaload, 1, 0, 0, 0, 0, .int), (.iadd, 1, 0, 0, 0, 0, .int), (.istore 5, 2, 0, 0, 0, 5, .int), (.iload 6, 2, 0, 0, 0, 6, .int), (.aload_n 0, 1, 0, 0, 0, 0, .int), (.getfield 42, 3, 0, 0, 6, 12, (.array .int)), (.iload 7, 2, 0, 0, 0, 7, .int), (.iaload, 1, 0, 0, 0, 0, .int), (.iadd, 1, 0, 0, 0, 0, .int), (.istore 6, 2, 0, 0, 0, 6, .int), (.aload_n 0, 1, 0, 0, 0, 0, .int), (.getfield 36, 3, 0, 0, 6, 10, (.array .int)), (.iload 7, 2, 0, 0, 0, 7, .int), (.iaload, 1, 0, 0, 0, 0, .int), (.istore 4, 2, 0, 0, 0, 4, .int), (.goto (-141), 3, 9, 0, 0, 0, .int)]
theorem b_X6_placeOf_117 : isAt "GridStoreModel" 12 false cX6_placeOf 117 k_X6_placeOf_117 = true := by decide +kernel
def k_X6_placeOf_153 : List En := [(.sipush 1920, 3, 0, 1920, 0, 0, .int), (.iload 4, 2, 0, 0, 0, 4, .int), (.imul, 1, 0, 0, 0, 0, .int), (.bipush 48, 2, 0, 48, 0, 0, .int), (.iload 6, 2, 0, 0, 0, 6, .int), (.imul, 1, 0, 0, 0, 0, .int), (.iadd, 1, 0, 0, 0, 0, .int), (.iload 5, 2, 0, 0, 0, 5, .int), (.iadd, 1, 0, 0, 0, 0, .int)]
theorem b_X6_placeOf_153 : isAt "GridStoreModel" 12 false cX6_placeOf 153 k_X6_placeOf_153 = true := by decide +kernel
def k_X6_read_0 : List En := [(.aload_n 0, 1, 0, 0, 0, 0, .int), (.iconst 0, 1, 0, 0, 0, 0, .int), (.putfield 63, 3, 0, 0, 6, 0, .int), (.aload_n 0, 1, 0, 0, 0, 0, .int), (.aload_n 0, 1, 0, 0, 0, 0, .int), (.iload_n 1, 1, 0, 0, 0, 1, .int)]
theorem b_X6_read_0 : isAt "GridStoreModel" 11 false cX6_read 0 k_X6_read_0 = true := by decide +kernel
def k_X6_read_11 : List En := [(.iconst 1, 1, 0, 1, 0, 0, .int)]
theorem b_X6_read_11 : isAt "GridStoreModel" 11 false cX6_read 11 k_X6_read_11 = true := by decide +kernel
def k_X6_read_15 : List En := [(.ifCond .ne 22, 3, 37, 0, 0, 0, .int), (.aload_n 0, 1, 0, 0, 0, 0, .int), (.aload_n 0, 1, 0, 0, 0, 0, .int), (.iload_n 1, 1, 0, 0, 0, 1, .int), (.iload_n 2, 1, 0, 0, 0, 2, .int), (.iload_n 3, 1, 0, 0, 0, 3, .int), (.iload 4, 2, 0, 0, 0, 4, .int), (.iload 5, 2, 0, 0, 0, 5, .int)]
theorem b_X6_read_15 : isAt "GridStoreModel" 11 false cX6_read 15 k_X6_read_15 = true := by decide +kernel
def k_X6_read_30 : List En := [(.iconst 2, 1, 0, 2, 0, 0, .int)]
theorem b_X6_read_30 : isAt "GridStoreModel" 11 false cX6_read 30 k_X6_read_30 = true := by decide +kernel
def k_X6_read_34 : List En := [(.ifCond .eq 5, 3, 39, 0, 0, 0, .int)]
theorem b_X6_read_34 : isAt "GridStoreModel" 11 false cX6_read 34 k_X6_read_34 = true := by decide +kernel
def k_X6_read_37 : List En := [(.iconst 0, 1, 0, 0, 0, 0, .int)]
theorem b_X6_read_37 : isAt "GridStoreModel" 11 false cX6_read 37 k_X6_read_37 = true := by decide +kernel
def k_X6_read_39 : List En := [(.iconst 0, 1, 0, 0, 0, 0, .int), (.istore 6, 2, 0, 0, 0, 6, .int)]
theorem b_X6_read_39 : isAt "GridStoreModel" 11 false cX6_read 39 k_X6_read_39 = true := by decide +kernel
def k_X6_read_42 : List En := [(.iload 6, 2, 0, 0, 0, 6, .int), (.bipush 30, 2, 0, 30, 0, 0, .int), (.if_icmp .ge 17, 3, 63, 0, 0, 0, .int), (.aload_n 0, 1, 0, 0, 0, 0, .int), (.getfield 60, 3, 0, 0, 6, 20, (.array .boolean)), (.iload 6, 2, 0, 0, 0, 6, .int), (.iconst 0, 1, 0, 0, 0, 0, .int), (.bastore, 1, 0, 0, 0, 0, .int), (.iinc 6 1, 3, 0, 1, 0, 6, .int), (.goto (-18), 3, 42, 0, 0, 0, .int)]
theorem b_X6_read_42 : isAt "GridStoreModel" 11 false cX6_read 42 k_X6_read_42 = true := by decide +kernel
def k_X6_read_63 : List En := [(.iconst 0, 1, 0, 0, 0, 0, .int), (.istore 6, 2, 0, 0, 0, 6, .int), (.iload_n 3, 1, 0, 0, 0, 3, .int), (.istore 7, 2, 0, 0, 0, 7, .int)]
theorem b_X6_read_63 : isAt "GridStoreModel" 11 false cX6_read 63 k_X6_read_63 = true := by decide +kernel
def k_X6_read_69 : List En := [(.iload 7, 2, 0, 0, 0, 7, .int), (.iload_n 3, 1, 0, 0, 0, 3, .int), (.iload 5, 2, 0, 0, 0, 5, .int), (.iadd, 1, 0, 0, 0, 0, .int), (.if_icmp .ge 92, 3, 167, 0, 0, 0, .int), (.iload_n 2, 1, 0, 0, 0, 2, .int), (.istore 8, 2, 0, 0, 0, 8, .int)]
theorem b_X6_read_69 : isAt "GridStoreModel" 11 false cX6_read 69 k_X6_read_69 = true := by decide +kernel
def k_X6_read_81 : List En := [(.iload 8, 2, 0, 0, 0, 8, .int), (.iload_n 2, 1, 0, 0, 0, 2, .int), (.iload 4, 2, 0, 0, 0, 4, .int), (.iadd, 1, 0, 0, 0, 0, .int), (.if_icmp .ge 74, 3, 161, 0, 0, 0, .int), (.aload_n 0, 1, 0, 0, 0, 0, .int), (.iload_n 1, 1, 0, 0, 0, 1, .int), (.iload 8, 2, 0, 0, 0, 8, .int), (.iload 7, 2, 0, 0, 0, 7, .int)]
theorem b_X6_read_81 : isAt "GridStoreModel" 11 false cX6_read 81 k_X6_read_81 = true := by decide +kernel
def k_X6_read_99 : List En := [(.sipush 1920, 3, 0, 1920, 0, 0, .int), (.irem, 1, 0, 0, 0, 0, .int), (.istore 9, 2, 0, 0, 0, 9, .int), (.bipush 6, 2, 0, 6, 0, 0, .int), (.iload 9, 2, 0, 0, 0, 9, .int), (.bipush 48, 2, 0, 48, 0, 0, .int), (.idiv, 1, 0, 0, 0, 0, .int), (.bipush 8, 2, 0, 8, 0, 0, .int), (.idiv, 1, 0, 0, 0, 0, .int), (.imul, 1, 0, 0, 0, 0, .int), (.iload 9, 2, 0, 0, 0, 9, .int), (.bipush 48, 2, 0, 48, 0, 0, .int), (.irem, 1, 0, 0, 0, 0, .int), (.bipush 8, 2, 0, 8, 0, 0, .int), (.idiv, 1, 0, 0, 0, 0, .int), (.iadd, 1, 0, 0, 0, 0, .int), (.istore 10, 2, 0, 0, 0, 10, .int), (.iload 6, 2, 0, 0, 0, 6, .int), (.aload_n 0, 1, 0, 0, 0, 0, .int), (.getfield 60, 3, 0, 0, 6, 20, (.array .boolean)), (.iload 10, 2, 0, 0, 0, 10, .int), (.baload, 1, 0, 0, 0, 0, .int), (.ifCond .eq 7, 3, 143, 0, 0, 0, .int), (.iconst 0, 1, 0, 0, 0, 0, .int), (.goto 4, 3, 144, 0, 0, 0, .int)]
theorem b_X6_read_99 : isAt "GridStoreModel" 11 false cX6_read 99 k_X6_read_99 = true := by decide +kernel
def k_X6_read_143 : List En := [(.iconst 1, 1, 0, 1, 0, 0, .int)]
theorem b_X6_read_143 : isAt "GridStoreModel" 11 false cX6_read 143 k_X6_read_143 = true := by decide +kernel
def k_X6_read_144 : List En := [(.iadd, 1, 0, 0, 0, 0, .int), (.istore 6, 2, 0, 0, 0, 6, .int), (.aload_n 0, 1, 0, 0, 0, 0, .int), (.getfield 60, 3, 0, 0, 6, 20, (.array .boolean)), (.iload 10, 2, 0, 0, 0, 10, .int), (.iconst 1, 1, 0, 1, 0, 0, .int), (.bastore, 1, 0, 0, 0, 0, .int), (.iinc 8 1, 3, 0, 1, 0, 8, .int), (.goto (-77), 3, 81, 0, 0, 0, .int)]
theorem b_X6_read_144 : isAt "GridStoreModel" 11 false cX6_read 144 k_X6_read_144 = true := by decide +kernel
def k_X6_read_161 : List En := [(.iinc 7 1, 3, 0, 1, 0, 7, .int), (.goto (-95), 3, 69, 0, 0, 0, .int)]
theorem b_X6_read_161 : isAt "GridStoreModel" 11 false cX6_read 161 k_X6_read_161 = true := by decide +kernel
def k_X6_read_167 : List En := [(.iload 6, 2, 0, 0, 0, 6, .int)]
theorem b_X6_read_167 : isAt "GridStoreModel" 11 false cX6_read 167 k_X6_read_167 = true := by decide +kernel
def k_X6_root_0 : List En := [(.iload_n 1, 1, 0, 0, 0, 1, .int), (.istore_n 2, 1, 0, 0, 0, 2, .int)]
theorem b_X6_root_0 : isAt "GridStoreModel" 3 false cX6_root 0 k_X6_root_0 = true := by decide +kernel
def k_X6_root_2 : List En := [(.iload_n 2, 1, 0, 0, 0, 2, .int), (.bipush 100, 2, 0, 100, 0, 0, .int), (.if_icmp .lt 16, 3, 21, 0, 0, 0, .int), (.aload_n 0, 1, 0, 0, 0, 0, .int), (.getfield 36, 3, 0, 0, 6, 10, (.array .int)), (.iload_n 2, 1, 0, 0, 0, 2, .int), (.bipush 100, 2, 0, 100, 0, 0, .int), (.isub, 1, 0, 0, 0, 0, .int), (.iaload, 1, 0, 0, 0, 0, .int), (.istore_n 2, 1, 0, 0, 0, 2, .int), (.goto (-16), 3, 2, 0, 0, 0, .int)]
theorem b_X6_root_2 : isAt "GridStoreModel" 3 false cX6_root 2 k_X6_root_2 = true := by decide +kernel
def k_X6_root_21 : List En := [(.iload_n 2, 1, 0, 0, 0, 2, .int)]
theorem b_X6_root_21 : isAt "GridStoreModel" 3 false cX6_root 21 k_X6_root_21 = true := by decide +kernel
def k_X6_set_0 : List En := [(.aload_n 0, 1, 0, 0, 0, 0, .int), (.iconst 0, 1, 0, 0, 0, 0, .int), (.putfield 63, 3, 0, 0, 6, 0, .int), (.aload_n 0, 1, 0, 0, 0, 0, .int), (.aload_n 0, 1, 0, 0, 0, 0, .int), (.iload_n 1, 1, 0, 0, 0, 1, .int)]
theorem b_X6_set_0 : isAt "GridStoreModel" 7 false cX6_set 0 k_X6_set_0 = true := by decide +kernel
def k_X6_set_11 : List En := [(.ifCond .ne 13, 3, 24, 0, 0, 0, .int), (.aload_n 0, 1, 0, 0, 0, 0, .int), (.iload_n 1, 1, 0, 0, 0, 1, .int), (.iload_n 2, 1, 0, 0, 0, 2, .int), (.iload_n 3, 1, 0, 0, 0, 3, .int)]
theorem b_X6_set_11 : isAt "GridStoreModel" 7 false cX6_set 11 k_X6_set_11 = true := by decide +kernel
def k_X6_set_21 : List En := [(.ifCond .eq 7, 3, 28, 0, 0, 0, .int)]
theorem b_X6_set_21 : isAt "GridStoreModel" 7 false cX6_set 21 k_X6_set_21 = true := by decide +kernel
def k_X6_set_24 : List En := [(.iconst 1, 1, 0, 1, 0, 0, .int), (.goto 4, 3, 29, 0, 0, 0, .int)]
theorem b_X6_set_24 : isAt "GridStoreModel" 7 false cX6_set 24 k_X6_set_24 = true := by decide +kernel
def k_X6_set_28 : List En := [(.iconst 0, 1, 0, 0, 0, 0, .int)]
theorem b_X6_set_28 : isAt "GridStoreModel" 7 false cX6_set 28 k_X6_set_28 = true := by decide +kernel
def k_X6_set_29 : List En := [(.iconst 1, 1, 0, 1, 0, 0, .int)]
theorem b_X6_set_29 : isAt "GridStoreModel" 7 false cX6_set 29 k_X6_set_29 = true := by decide +kernel
def k_X6_set_33 : List En := [(.ifCond .ne 11, 3, 44, 0, 0, 0, .int), (.aload_n 0, 1, 0, 0, 0, 0, .int), (.iload_n 1, 1, 0, 0, 0, 1, .int)]
theorem b_X6_set_33 : isAt "GridStoreModel" 7 false cX6_set 33 k_X6_set_33 = true := by decide +kernel
def k_X6_set_41 : List En := [(.ifCond .eq 5, 3, 46, 0, 0, 0, .int)]
theorem b_X6_set_41 : isAt "GridStoreModel" 7 false cX6_set 41 k_X6_set_41 = true := by decide +kernel
def k_X6_set_44 : List En := [(.iconst 0, 1, 0, 0, 0, 0, .int)]
theorem b_X6_set_44 : isAt "GridStoreModel" 7 false cX6_set 44 k_X6_set_44 = true := by decide +kernel
def k_X6_set_46 : List En := [(.aload_n 0, 1, 0, 0, 0, 0, .int), (.iload_n 1, 1, 0, 0, 0, 1, .int), (.iload_n 2, 1, 0, 0, 0, 2, .int), (.iload_n 3, 1, 0, 0, 0, 3, .int)]
theorem b_X6_set_46 : isAt "GridStoreModel" 7 false cX6_set 46 k_X6_set_46 = true := by decide +kernel
def k_X6_set_53 : List En := [(.istore 5, 2, 0, 0, 0, 5, .int), (.aload_n 0, 1, 0, 0, 0, 0, .int), (.iload 5, 2, 0, 0, 0, 5, .int)]
theorem b_X6_set_53 : isAt "GridStoreModel" 7 false cX6_set 53 k_X6_set_53 = true := by decide +kernel
def k_X6_set_61 : List En := [(.ifCond .eq 5, 3, 66, 0, 0, 0, .int), (.iconst 0, 1, 0, 0, 0, 0, .int)]
theorem b_X6_set_61 : isAt "GridStoreModel" 7 false cX6_set 61 k_X6_set_61 = true := by decide +kernel
def k_X6_set_66 : List En := [(.aload_n 0, 1, 0, 0, 0, 0, .int), (.iload 5, 2, 0, 0, 0, 5, .int), (.iconst 1, 1, 0, 1, 0, 0, .int), (.iload 4, 2, 0, 0, 0, 4, .int)]
theorem b_X6_set_66 : isAt "GridStoreModel" 7 false cX6_set 66 k_X6_set_66 = true := by decide +kernel
def k_X6_set_75 : List En := [(.istore 6, 2, 0, 0, 0, 6, .int), (.iconst 1, 1, 0, 1, 0, 0, .int)]
theorem b_X6_set_75 : isAt "GridStoreModel" 7 false cX6_set 75 k_X6_set_75 = true := by decide +kernel
def k_X6_size_0 : List En := [(.aload_n 0, 1, 0, 0, 0, 0, .int), (.iconst 0, 1, 0, 0, 0, 0, .int), (.putfield 63, 3, 0, 0, 6, 0, .int), (.aload_n 0, 1, 0, 0, 0, 0, .int), (.aload_n 0, 1, 0, 0, 0, 0, .int), (.iload_n 1, 1, 0, 0, 0, 1, .int)]
theorem b_X6_size_0 : isAt "GridStoreModel" 3 false cX6_size 0 k_X6_size_0 = true := by decide +kernel
def k_X6_size_11 : List En := [(.iconst 1, 1, 0, 1, 0, 0, .int)]
theorem b_X6_size_11 : isAt "GridStoreModel" 3 false cX6_size 11 k_X6_size_11 = true := by decide +kernel
def k_X6_size_15 : List En := [(.ifCond .eq 7, 3, 22, 0, 0, 0, .int), (.iconst 0, 1, 0, 0, 0, 0, .int), (.goto 17, 3, 36, 0, 0, 0, .int)]
theorem b_X6_size_15 : isAt "GridStoreModel" 3 false cX6_size 15 k_X6_size_15 = true := by decide +kernel
def k_X6_size_22 : List En := [(.aload_n 0, 1, 0, 0, 0, 0, .int), (.iload_n 1, 1, 0, 0, 0, 1, .int), (.iload_n 2, 1, 0, 0, 0, 2, .int), (.ifCond .eq 7, 3, 32, 0, 0, 0, .int), (.iconst 1, 1, 0, 1, 0, 0, .int), (.goto 4, 3, 33, 0, 0, 0, .int)]
theorem b_X6_size_22 : isAt "GridStoreModel" 3 false cX6_size 22 k_X6_size_22 = true := by decide +kernel
def k_X6_size_32 : List En := [(.iconst 0, 1, 0, 0, 0, 0, .int)]
theorem b_X6_size_32 : isAt "GridStoreModel" 3 false cX6_size 32 k_X6_size_32 = true := by decide +kernel
def k_X6_sizeOf_0 : List En := [(.iload_n 1, 1, 0, 0, 0, 1, .int), (.bipush 100, 2, 0, 100, 0, 0, .int), (.if_icmp .ge 23, 3, 26, 0, 0, 0, .int), (.iload_n 2, 1, 0, 0, 0, 2, .int), (.ifCond .ne 12, 3, 19, 0, 0, 0, .int), (.aload_n 0, 1, 0, 0, 0, 0, .int), (.getfield 9, 3, 0, 0, 6, 1, (.array .int)), (.iload_n 1, 1, 0, 0, 0, 1, .int), (.iaload, 1, 0, 0, 0, 0, .int), (.goto 9, 3, 25, 0, 0, 0, .int)]
theorem b_X6_sizeOf_0 : isAt "GridStoreModel" 4 false cX6_sizeOf 0 k_X6_sizeOf_0 = true := by decide +kernel
def k_X6_sizeOf_19 : List En := [(.aload_n 0, 1, 0, 0, 0, 0, .int), (.getfield 13, 3, 0, 0, 6, 2, (.array .int)), (.iload_n 1, 1, 0, 0, 0, 1, .int), (.iaload, 1, 0, 0, 0, 0, .int)]
theorem b_X6_sizeOf_19 : isAt "GridStoreModel" 4 false cX6_sizeOf 19 k_X6_sizeOf_19 = true := by decide +kernel
def k_X6_sizeOf_26 : List En := [(.iload_n 1, 1, 0, 0, 0, 1, .int), (.bipush 100, 2, 0, 100, 0, 0, .int), (.isub, 1, 0, 0, 0, 0, .int), (.istore_n 3, 1, 0, 0, 0, 3, .int), (.aload_n 0, 1, 0, 0, 0, 0, .int), (.getfield 51, 3, 0, 0, 6, 15, (.array .int)), (.iload_n 3, 1, 0, 0, 0, 3, .int), (.iaload, 1, 0, 0, 0, 0, .int), (.iconst 2, 1, 0, 2, 0, 0, .int), (.irem, 1, 0, 0, 0, 0, .int), (.ifCond .ne 7, 3, 46, 0, 0, 0, .int), (.iconst 1, 1, 0, 1, 0, 0, .int), (.goto 4, 3, 47, 0, 0, 0, .int)]
theorem b_X6_sizeOf_26 : isAt "GridStoreModel" 4 false cX6_sizeOf 26 k_X6_sizeOf_26 = true := by decide +kernel
def k_X6_sizeOf_46 : List En := [(.iconst 0, 1, 0, 0, 0, 0, .int)]
theorem b_X6_sizeOf_46 : isAt "GridStoreModel" 4 false cX6_sizeOf 46 k_X6_sizeOf_46 = true := by decide +kernel
def k_X6_sizeOf_47 : List En := [(.iload_n 2, 1, 0, 0, 0, 2, .int), (.ifCond .ne 7, 3, 55, 0, 0, 0, .int), (.iconst 1, 1, 0, 1, 0, 0, .int), (.goto 4, 3, 56, 0, 0, 0, .int)]
theorem b_X6_sizeOf_47 : isAt "GridStoreModel" 4 false cX6_sizeOf 47 k_X6_sizeOf_47 = true := by decide +kernel
def k_X6_sizeOf_55 : List En := [(.iconst 0, 1, 0, 0, 0, 0, .int)]
theorem b_X6_sizeOf_55 : isAt "GridStoreModel" 4 false cX6_sizeOf 55 k_X6_sizeOf_55 = true := by decide +kernel
def k_X6_sizeOf_56 : List En := [(.if_icmp .ne 12, 3, 68, 0, 0, 0, .int), (.aload_n 0, 1, 0, 0, 0, 0, .int), (.getfield 45, 3, 0, 0, 6, 13, (.array .int)), (.iload_n 3, 1, 0, 0, 0, 3, .int), (.iaload, 1, 0, 0, 0, 0, .int), (.goto 9, 3, 74, 0, 0, 0, .int)]
theorem b_X6_sizeOf_56 : isAt "GridStoreModel" 4 false cX6_sizeOf 56 k_X6_sizeOf_56 = true := by decide +kernel
def k_X6_sizeOf_68 : List En := [(.aload_n 0, 1, 0, 0, 0, 0, .int), (.getfield 48, 3, 0, 0, 6, 14, (.array .int)), (.iload_n 3, 1, 0, 0, 0, 3, .int), (.iaload, 1, 0, 0, 0, 0, .int)]
theorem b_X6_sizeOf_68 : isAt "GridStoreModel" 4 false cX6_sizeOf 68 k_X6_sizeOf_68 = true := by decide +kernel
def k_X6_slide_0 : List En := [(.aload_n 0, 1, 0, 0, 0, 0, .int), (.iconst 0, 1, 0, 0, 0, 0, .int), (.putfield 63, 3, 0, 0, 6, 0, .int), (.aload_n 0, 1, 0, 0, 0, 0, .int), (.aload_n 0, 1, 0, 0, 0, 0, .int), (.iload_n 1, 1, 0, 0, 0, 1, .int)]
theorem b_X6_slide_0 : isAt "GridStoreModel" 9 false cX6_slide 0 k_X6_slide_0 = true := by decide +kernel
def k_X6_slide_11 : List En := [(.ifCond .ne 11, 3, 22, 0, 0, 0, .int), (.aload_n 0, 1, 0, 0, 0, 0, .int), (.iload_n 3, 1, 0, 0, 0, 3, .int)]
theorem b_X6_slide_11 : isAt "GridStoreModel" 9 false cX6_slide 11 k_X6_slide_11 = true := by decide +kernel
def k_X6_slide_19 : List En := [(.ifCond .eq 7, 3, 26, 0, 0, 0, .int)]
theorem b_X6_slide_19 : isAt "GridStoreModel" 9 false cX6_slide 19 k_X6_slide_19 = true := by decide +kernel
def k_X6_slide_22 : List En := [(.iconst 1, 1, 0, 1, 0, 0, .int), (.goto 4, 3, 27, 0, 0, 0, .int)]
theorem b_X6_slide_22 : isAt "GridStoreModel" 9 false cX6_slide 22 k_X6_slide_22 = true := by decide +kernel
def k_X6_slide_26 : List En := [(.iconst 0, 1, 0, 0, 0, 0, .int)]
theorem b_X6_slide_26 : isAt "GridStoreModel" 9 false cX6_slide 26 k_X6_slide_26 = true := by decide +kernel
def k_X6_slide_27 : List En := [(.iconst 1, 1, 0, 1, 0, 0, .int)]
theorem b_X6_slide_27 : isAt "GridStoreModel" 9 false cX6_slide 27 k_X6_slide_27 = true := by decide +kernel
def k_X6_slide_31 : List En := [(.ifCond .ne 54, 3, 85, 0, 0, 0, .int), (.aload_n 0, 1, 0, 0, 0, 0, .int), (.iload_n 2, 1, 0, 0, 0, 2, .int), (.iconst 0, 1, 0, 0, 0, 0, .int), (.iconst 4, 1, 0, 4, 0, 0, .int)]
theorem b_X6_slide_31 : isAt "GridStoreModel" 9 false cX6_slide 31 k_X6_slide_31 = true := by decide +kernel
def k_X6_slide_41 : List En := [(.ifCond .eq 32, 3, 73, 0, 0, 0, .int), (.aload_n 0, 1, 0, 0, 0, 0, .int), (.iload_n 3, 1, 0, 0, 0, 3, .int), (.aload_n 0, 1, 0, 0, 0, 0, .int), (.iload_n 1, 1, 0, 0, 0, 1, .int), (.iconst 0, 1, 0, 0, 0, 0, .int)]
theorem b_X6_slide_41 : isAt "GridStoreModel" 9 false cX6_slide 41 k_X6_slide_41 = true := by decide +kernel
def k_X6_slide_52 : List En := [(.aload_n 0, 1, 0, 0, 0, 0, .int), (.iload_n 1, 1, 0, 0, 0, 1, .int), (.iconst 1, 1, 0, 1, 0, 0, .int)]
theorem b_X6_slide_52 : isAt "GridStoreModel" 9 false cX6_slide 52 k_X6_slide_52 = true := by decide +kernel
def k_X6_slide_61 : List En := [(.ifCond .eq 12, 3, 73, 0, 0, 0, .int), (.aload_n 0, 1, 0, 0, 0, 0, .int), (.iload_n 1, 1, 0, 0, 0, 1, .int)]
theorem b_X6_slide_61 : isAt "GridStoreModel" 9 false cX6_slide 61 k_X6_slide_61 = true := by decide +kernel
def k_X6_slide_69 : List En := [(.iload_n 3, 1, 0, 0, 0, 3, .int), (.if_icmp .ne 7, 3, 77, 0, 0, 0, .int)]
theorem b_X6_slide_69 : isAt "GridStoreModel" 9 false cX6_slide 69 k_X6_slide_69 = true := by decide +kernel
def k_X6_slide_73 : List En := [(.iconst 1, 1, 0, 1, 0, 0, .int), (.goto 4, 3, 78, 0, 0, 0, .int)]
theorem b_X6_slide_73 : isAt "GridStoreModel" 9 false cX6_slide 73 k_X6_slide_73 = true := by decide +kernel
def k_X6_slide_77 : List En := [(.iconst 0, 1, 0, 0, 0, 0, .int)]
theorem b_X6_slide_77 : isAt "GridStoreModel" 9 false cX6_slide 77 k_X6_slide_77 = true := by decide +kernel
def k_X6_slide_78 : List En := [(.iconst 2, 1, 0, 2, 0, 0, .int)]
theorem b_X6_slide_78 : isAt "GridStoreModel" 9 false cX6_slide 78 k_X6_slide_78 = true := by decide +kernel
def k_X6_slide_82 : List En := [(.ifCond .eq 5, 3, 87, 0, 0, 0, .int)]
theorem b_X6_slide_82 : isAt "GridStoreModel" 9 false cX6_slide 82 k_X6_slide_82 = true := by decide +kernel
def k_X6_slide_85 : List En := [(.iconst 0, 1, 0, 0, 0, 0, .int)]
theorem b_X6_slide_85 : isAt "GridStoreModel" 9 false cX6_slide 85 k_X6_slide_85 = true := by decide +kernel
def k_X6_slide_87 : List En := [(.iconst 0, 1, 0, 0, 0, 0, .int), (.istore 4, 2, 0, 0, 0, 4, .int), (.iconst 0, 1, 0, 0, 0, 0, .int), (.istore 5, 2, 0, 0, 0, 5, .int)]
theorem b_X6_slide_87 : isAt "GridStoreModel" 9 false cX6_slide 87 k_X6_slide_87 = true := by decide +kernel
def k_X6_slide_93 : List En := [(.iload 5, 2, 0, 0, 0, 5, .int), (.aload_n 0, 1, 0, 0, 0, 0, .int), (.getfield 13, 3, 0, 0, 6, 2, (.array .int)), (.iload_n 3, 1, 0, 0, 0, 3, .int), (.iaload, 1, 0, 0, 0, 0, .int), (.if_icmp .ge 74, 3, 175, 0, 0, 0, .int), (.iconst 0, 1, 0, 0, 0, 0, .int), (.istore 6, 2, 0, 0, 0, 6, .int)]
theorem b_X6_slide_93 : isAt "GridStoreModel" 9 false cX6_slide 93 k_X6_slide_93 = true := by decide +kernel
def k_X6_slide_107 : List En := [(.iload 6, 2, 0, 0, 0, 6, .int), (.aload_n 0, 1, 0, 0, 0, 0, .int), (.getfield 9, 3, 0, 0, 6, 1, (.array .int)), (.iload_n 3, 1, 0, 0, 0, 3, .int), (.iaload, 1, 0, 0, 0, 0, .int), (.if_icmp .ge 54, 3, 169, 0, 0, 0, .int), (.aload_n 0, 1, 0, 0, 0, 0, .int), (.iload_n 1, 1, 0, 0, 0, 1, .int), (.iload 6, 2, 0, 0, 0, 6, .int), (.iload 5, 2, 0, 0, 0, 5, .int), (.iload_n 2, 1, 0, 0, 0, 2, .int)]
theorem b_X6_slide_107 : isAt "GridStoreModel" 9 false cX6_slide 107 k_X6_slide_107 = true := by decide +kernel
def k_X6_slide_128 : List En := [(.lstore 7, 2, 0, 0, 0, 7, .int), (.iload 4, 2, 0, 0, 0, 4, .int), (.aload_n 0, 1, 0, 0, 0, 0, .int), (.aload_n 0, 1, 0, 0, 0, 0, .int), (.iload_n 3, 1, 0, 0, 0, 3, .int), (.iload 6, 2, 0, 0, 0, 6, .int), (.iload 5, 2, 0, 0, 0, 5, .int)]
theorem b_X6_slide_128 : isAt "GridStoreModel" 9 false cX6_slide 128 k_X6_slide_128 = true := by decide +kernel
def k_X6_slide_142 : List En := [(.aload_n 0, 1, 0, 0, 0, 0, .int), (.getfield 139, 3, 0, 0, 6, 19, .int), (.ifCond .le 7, 3, 153, 0, 0, 0, .int), (.iconst 1, 1, 0, 1, 0, 0, .int), (.goto 4, 3, 154, 0, 0, 0, .int)]
theorem b_X6_slide_142 : isAt "GridStoreModel" 9 false cX6_slide 142 k_X6_slide_142 = true := by decide +kernel
def k_X6_slide_153 : List En := [(.iconst 0, 1, 0, 0, 0, 0, .int)]
theorem b_X6_slide_153 : isAt "GridStoreModel" 9 false cX6_slide 153 k_X6_slide_153 = true := by decide +kernel
def k_X6_slide_154 : List En := [(.lload 7, 2, 0, 0, 0, 7, .int), (.l2i, 1, 0, 0, 0, 0, .int)]
theorem b_X6_slide_154 : isAt "GridStoreModel" 9 false cX6_slide 154 k_X6_slide_154 = true := by decide +kernel
def k_X6_slide_160 : List En := [(.iadd, 1, 0, 0, 0, 0, .int), (.istore 4, 2, 0, 0, 0, 4, .int), (.iinc 6 1, 3, 0, 1, 0, 6, .int), (.goto (-59), 3, 107, 0, 0, 0, .int)]
theorem b_X6_slide_160 : isAt "GridStoreModel" 9 false cX6_slide 160 k_X6_slide_160 = true := by decide +kernel
def k_X6_slide_169 : List En := [(.iinc 5 1, 3, 0, 1, 0, 5, .int), (.goto (-79), 3, 93, 0, 0, 0, .int)]
theorem b_X6_slide_169 : isAt "GridStoreModel" 9 false cX6_slide 169 k_X6_slide_169 = true := by decide +kernel
def k_X6_slide_175 : List En := [(.iload 4, 2, 0, 0, 0, 4, .int)]
theorem b_X6_slide_175 : isAt "GridStoreModel" 9 false cX6_slide 175 k_X6_slide_175 = true := by decide +kernel
def k_X6_sum_0 : List En := [(.aload_n 0, 1, 0, 0, 0, 0, .int), (.iconst 0, 1, 0, 0, 0, 0, .int), (.putfield 63, 3, 0, 0, 6, 0, .int), (.aload_n 0, 1, 0, 0, 0, 0, .int), (.aload_n 0, 1, 0, 0, 0, 0, .int), (.iload_n 1, 1, 0, 0, 0, 1, .int)]
theorem b_X6_sum_0 : isAt "GridStoreModel" 5 false cX6_sum 0 k_X6_sum_0 = true := by decide +kernel
def k_X6_sum_11 : List En := [(.ifCond .ne 13, 3, 24, 0, 0, 0, .int), (.aload_n 0, 1, 0, 0, 0, 0, .int), (.iload_n 1, 1, 0, 0, 0, 1, .int), (.iload_n 2, 1, 0, 0, 0, 2, .int), (.iload_n 3, 1, 0, 0, 0, 3, .int)]
theorem b_X6_sum_11 : isAt "GridStoreModel" 5 false cX6_sum 11 k_X6_sum_11 = true := by decide +kernel
def k_X6_sum_21 : List En := [(.ifCond .eq 7, 3, 28, 0, 0, 0, .int)]
theorem b_X6_sum_21 : isAt "GridStoreModel" 5 false cX6_sum 21 k_X6_sum_21 = true := by decide +kernel
def k_X6_sum_24 : List En := [(.iconst 1, 1, 0, 1, 0, 0, .int), (.goto 4, 3, 29, 0, 0, 0, .int)]
theorem b_X6_sum_24 : isAt "GridStoreModel" 5 false cX6_sum 24 k_X6_sum_24 = true := by decide +kernel
def k_X6_sum_28 : List En := [(.iconst 0, 1, 0, 0, 0, 0, .int)]
theorem b_X6_sum_28 : isAt "GridStoreModel" 5 false cX6_sum 28 k_X6_sum_28 = true := by decide +kernel
def k_X6_sum_29 : List En := [(.iconst 1, 1, 0, 1, 0, 0, .int)]
theorem b_X6_sum_29 : isAt "GridStoreModel" 5 false cX6_sum 29 k_X6_sum_29 = true := by decide +kernel
def k_X6_sum_33 : List En := [(.ifCond .ne 27, 3, 60, 0, 0, 0, .int), (.aload_n 0, 1, 0, 0, 0, 0, .int), (.iload 4, 2, 0, 0, 0, 4, .int), (.iconst 0, 1, 0, 0, 0, 0, .int), (.bipush 9, 2, 0, 9, 0, 0, .int)]
theorem b_X6_sum_33 : isAt "GridStoreModel" 5 false cX6_sum 33 k_X6_sum_33 = true := by decide +kernel
def k_X6_sum_45 : List En := [(.ifCond .ne 7, 3, 52, 0, 0, 0, .int), (.iconst 1, 1, 0, 1, 0, 0, .int), (.goto 4, 3, 53, 0, 0, 0, .int)]
theorem b_X6_sum_45 : isAt "GridStoreModel" 5 false cX6_sum 45 k_X6_sum_45 = true := by decide +kernel
def k_X6_sum_52 : List En := [(.iconst 0, 1, 0, 0, 0, 0, .int)]
theorem b_X6_sum_52 : isAt "GridStoreModel" 5 false cX6_sum 52 k_X6_sum_52 = true := by decide +kernel
def k_X6_sum_53 : List En := [(.iconst 2, 1, 0, 2, 0, 0, .int)]
theorem b_X6_sum_53 : isAt "GridStoreModel" 5 false cX6_sum 53 k_X6_sum_53 = true := by decide +kernel
def k_X6_sum_57 : List En := [(.ifCond .eq 7, 3, 64, 0, 0, 0, .int)]
theorem b_X6_sum_57 : isAt "GridStoreModel" 5 false cX6_sum 57 k_X6_sum_57 = true := by decide +kernel
def k_X6_sum_60 : List En := [(.lconst 0, 1, 0, 0, 0, 0, .int), (.goto 12, 3, 73, 0, 0, 0, .int)]
theorem b_X6_sum_60 : isAt "GridStoreModel" 5 false cX6_sum 60 k_X6_sum_60 = true := by decide +kernel
def k_X6_sum_64 : List En := [(.aload_n 0, 1, 0, 0, 0, 0, .int), (.iload_n 1, 1, 0, 0, 0, 1, .int), (.iload_n 2, 1, 0, 0, 0, 2, .int), (.iload_n 3, 1, 0, 0, 0, 3, .int), (.iload 4, 2, 0, 0, 0, 4, .int)]
theorem b_X6_sum_64 : isAt "GridStoreModel" 5 false cX6_sum 64 k_X6_sum_64 = true := by decide +kernel
def k_X6_thrown_0 : List En := [(.aload_n 0, 1, 0, 0, 0, 0, .int), (.getfield 63, 3, 0, 0, 6, 0, .int)]
theorem b_X6_thrown_0 : isAt "GridStoreModel" 1 false cX6_thrown 0 k_X6_thrown_0 = true := by decide +kernel
def k_X6_throwsIf_0 : List En := [(.iload_n 1, 1, 0, 0, 0, 1, .int), (.ifCond .eq 8, 3, 9, 0, 0, 0, .int), (.aload_n 0, 1, 0, 0, 0, 0, .int), (.iload_n 2, 1, 0, 0, 0, 2, .int), (.putfield 63, 3, 0, 0, 6, 0, .int)]
theorem b_X6_throwsIf_0 : isAt "GridStoreModel" 3 false cX6_throwsIf 0 k_X6_throwsIf_0 = true := by decide +kernel
def k_X6_throwsIf_9 : List En := [(.iload_n 1, 1, 0, 0, 0, 1, .int)]
theorem b_X6_throwsIf_9 : isAt "GridStoreModel" 3 false cX6_throwsIf 9 k_X6_throwsIf_9 = true := by decide +kernel
def k_X6_view_0 : List En := [(.aload_n 0, 1, 0, 0, 0, 0, .int), (.iconst 0, 1, 0, 0, 0, 0, .int), (.putfield 63, 3, 0, 0, 6, 0, .int), (.aload_n 0, 1, 0, 0, 0, 0, .int), (.aload_n 0, 1, 0, 0, 0, 0, .int), (.iload_n 1, 1, 0, 0, 0, 1, .int)]
theorem b_X6_view_0 : isAt "GridStoreModel" 8 false cX6_view 0 k_X6_view_0 = true := by decide +kernel
def k_X6_view_11 : List En := [(.iconst 1, 1, 0, 1, 0, 0, .int)]
theorem b_X6_view_11 : isAt "GridStoreModel" 8 false cX6_view 11 k_X6_view_11 = true := by decide +kernel
def k_X6_view_15 : List En := [(.ifCond .ne 62, 3, 77, 0, 0, 0, .int), (.aload_n 0, 1, 0, 0, 0, 0, .int), (.aload_n 0, 1, 0, 0, 0, 0, .int), (.iload_n 1, 1, 0, 0, 0, 1, .int), (.iload_n 2, 1, 0, 0, 0, 2, .int), (.iload_n 3, 1, 0, 0, 0, 3, .int), (.iload 4, 2, 0, 0, 0, 4, .int), (.iload 5, 2, 0, 0, 0, 5, .int)]
theorem b_X6_view_15 : isAt "GridStoreModel" 8 false cX6_view 15 k_X6_view_15 = true := by decide +kernel
def k_X6_view_30 : List En := [(.ifCond .ne 13, 3, 43, 0, 0, 0, .int), (.iload 6, 2, 0, 0, 0, 6, .int), (.iconst 0, 1, 0, 0, 0, 0, .int), (.iconst 3, 1, 0, 3, 0, 0, .int)]
theorem b_X6_view_30 : isAt "GridStoreModel" 8 false cX6_view 30 k_X6_view_30 = true := by decide +kernel
def k_X6_view_40 : List En := [(.ifCond .ne 7, 3, 47, 0, 0, 0, .int)]
theorem b_X6_view_40 : isAt "GridStoreModel" 8 false cX6_view 40 k_X6_view_40 = true := by decide +kernel
def k_X6_view_43 : List En := [(.iconst 1, 1, 0, 1, 0, 0, .int), (.goto 4, 3, 48, 0, 0, 0, .int)]
theorem b_X6_view_43 : isAt "GridStoreModel" 8 false cX6_view 43 k_X6_view_43 = true := by decide +kernel
def k_X6_view_47 : List En := [(.iconst 0, 1, 0, 0, 0, 0, .int)]
theorem b_X6_view_47 : isAt "GridStoreModel" 8 false cX6_view 47 k_X6_view_47 = true := by decide +kernel
def k_X6_view_48 : List En := [(.iconst 2, 1, 0, 2, 0, 0, .int)]
theorem b_X6_view_48 : isAt "GridStoreModel" 8 false cX6_view 48 k_X6_view_48 = true := by decide +kernel
def k_X6_view_52 : List En := [(.ifCond .ne 25, 3, 77, 0, 0, 0, .int), (.aload_n 0, 1, 0, 0, 0, 0, .int), (.aload_n 0, 1, 0, 0, 0, 0, .int), (.getfield 78, 3, 0, 0, 6, 18, .int), (.bipush 12, 2, 0, 12, 0, 0, .int), (.if_icmp .ne 7, 3, 69, 0, 0, 0, .int), (.iconst 1, 1, 0, 1, 0, 0, .int), (.goto 4, 3, 70, 0, 0, 0, .int)]
theorem b_X6_view_52 : isAt "GridStoreModel" 8 false cX6_view 52 k_X6_view_52 = true := by decide +kernel
def k_X6_view_69 : List En := [(.iconst 0, 1, 0, 0, 0, 0, .int)]
theorem b_X6_view_69 : isAt "GridStoreModel" 8 false cX6_view 69 k_X6_view_69 = true := by decide +kernel
def k_X6_view_70 : List En := [(.iconst 3, 1, 0, 3, 0, 0, .int)]
theorem b_X6_view_70 : isAt "GridStoreModel" 8 false cX6_view 70 k_X6_view_70 = true := by decide +kernel
def k_X6_view_74 : List En := [(.ifCond .eq 5, 3, 79, 0, 0, 0, .int)]
theorem b_X6_view_74 : isAt "GridStoreModel" 8 false cX6_view 74 k_X6_view_74 = true := by decide +kernel
def k_X6_view_77 : List En := [(.iconst 0, 1, 0, 0, 0, 0, .int)]
theorem b_X6_view_77 : isAt "GridStoreModel" 8 false cX6_view 77 k_X6_view_77 = true := by decide +kernel
def k_X6_view_79 : List En := [(.aload_n 0, 1, 0, 0, 0, 0, .int), (.getfield 36, 3, 0, 0, 6, 10, (.array .int)), (.aload_n 0, 1, 0, 0, 0, 0, .int), (.getfield 78, 3, 0, 0, 6, 18, .int), (.iload_n 1, 1, 0, 0, 0, 1, .int), (.iastore, 1, 0, 0, 0, 0, .int), (.aload_n 0, 1, 0, 0, 0, 0, .int), (.getfield 39, 3, 0, 0, 6, 11, (.array .int)), (.aload_n 0, 1, 0, 0, 0, 0, .int), (.getfield 78, 3, 0, 0, 6, 18, .int), (.iload_n 2, 1, 0, 0, 0, 2, .int), (.iastore, 1, 0, 0, 0, 0, .int), (.aload_n 0, 1, 0, 0, 0, 0, .int), (.getfield 42, 3, 0, 0, 6, 12, (.array .int)), (.aload_n 0, 1, 0, 0, 0, 0, .int), (.getfield 78, 3, 0, 0, 6, 18, .int), (.iload_n 3, 1, 0, 0, 0, 3, .int), (.iastore, 1, 0, 0, 0, 0, .int), (.aload_n 0, 1, 0, 0, 0, 0, .int), (.getfield 45, 3, 0, 0, 6, 13, (.array .int)), (.aload_n 0, 1, 0, 0, 0, 0, .int), (.getfield 78, 3, 0, 0, 6, 18, .int), (.iload 4, 2, 0, 0, 0, 4, .int), (.iastore, 1, 0, 0, 0, 0, .int), (.aload_n 0, 1, 0, 0, 0, 0, .int), (.getfield 48, 3, 0, 0, 6, 14, (.array .int)), (.aload_n 0, 1, 0, 0, 0, 0, .int), (.getfield 78, 3, 0, 0, 6, 18, .int), (.iload 5, 2, 0, 0, 0, 5, .int), (.iastore, 1, 0, 0, 0, 0, .int), (.aload_n 0, 1, 0, 0, 0, 0, .int), (.getfield 51, 3, 0, 0, 6, 15, (.array .int)), (.aload_n 0, 1, 0, 0, 0, 0, .int), (.getfield 78, 3, 0, 0, 6, 18, .int), (.iload 6, 2, 0, 0, 0, 6, .int), (.iastore, 1, 0, 0, 0, 0, .int), (.aload_n 0, 1, 0, 0, 0, 0, .int), (.getfield 54, 3, 0, 0, 6, 16, (.array .boolean)), (.aload_n 0, 1, 0, 0, 0, 0, .int), (.getfield 78, 3, 0, 0, 6, 18, .int), (.iload 7, 2, 0, 0, 0, 7, .int), (.bastore, 1, 0, 0, 0, 0, .int), (.aload_n 0, 1, 0, 0, 0, 0, .int), (.dup, 1, 0, 0, 0, 0, .int), (.getfield 78, 3, 0, 0, 6, 18, .int), (.iconst 1, 1, 0, 1, 0, 0, .int), (.iadd, 1, 0, 0, 0, 0, .int), (.putfield 78, 3, 0, 0, 6, 18, .int), (.aload_n 0, 1, 0, 0, 0, 0, .int), (.getfield 78, 3, 0, 0, 6, 18, .int), (.iconst 1, 1, 0, 1, 0, 0, .int), (.isub, 1, 0, 0, 0, 0, .int)]
theorem b_X6_view_79 : isAt "GridStoreModel" 8 false cX6_view 79 k_X6_view_79 = true := by decide +kernel
def k_X6_was_0 : List En := [(.aload_n 0, 1, 0, 0, 0, 0, .int), (.iconst 0, 1, 0, 0, 0, 0, .int), (.putfield 63, 3, 0, 0, 6, 0, .int), (.aload_n 0, 1, 0, 0, 0, 0, .int), (.aload_n 0, 1, 0, 0, 0, 0, .int), (.iload_n 1, 1, 0, 0, 0, 1, .int)]
theorem b_X6_was_0 : isAt "GridStoreModel" 6 false cX6_was 0 k_X6_was_0 = true := by decide +kernel
def k_X6_was_11 : List En := [(.ifCond .ne 23, 3, 34, 0, 0, 0, .int), (.aload_n 0, 1, 0, 0, 0, 0, .int), (.iload_n 1, 1, 0, 0, 0, 1, .int), (.iload_n 2, 1, 0, 0, 0, 2, .int)]
theorem b_X6_was_11 : isAt "GridStoreModel" 6 false cX6_was 11 k_X6_was_11 = true := by decide +kernel
def k_X6_was_20 : List En := [(.ifCond .ne 14, 3, 34, 0, 0, 0, .int), (.aload_n 0, 1, 0, 0, 0, 0, .int), (.iload_n 1, 1, 0, 0, 0, 1, .int), (.iload_n 3, 1, 0, 0, 0, 3, .int), (.iload 4, 2, 0, 0, 0, 4, .int)]
theorem b_X6_was_20 : isAt "GridStoreModel" 6 false cX6_was 20 k_X6_was_20 = true := by decide +kernel
def k_X6_was_31 : List En := [(.ifCond .eq 7, 3, 38, 0, 0, 0, .int)]
theorem b_X6_was_31 : isAt "GridStoreModel" 6 false cX6_was 31 k_X6_was_31 = true := by decide +kernel
def k_X6_was_34 : List En := [(.iconst 1, 1, 0, 1, 0, 0, .int), (.goto 4, 3, 39, 0, 0, 0, .int)]
theorem b_X6_was_34 : isAt "GridStoreModel" 6 false cX6_was 34 k_X6_was_34 = true := by decide +kernel
def k_X6_was_38 : List En := [(.iconst 0, 1, 0, 0, 0, 0, .int)]
theorem b_X6_was_38 : isAt "GridStoreModel" 6 false cX6_was 38 k_X6_was_38 = true := by decide +kernel
def k_X6_was_39 : List En := [(.iconst 1, 1, 0, 1, 0, 0, .int)]
theorem b_X6_was_39 : isAt "GridStoreModel" 6 false cX6_was 39 k_X6_was_39 = true := by decide +kernel
def k_X6_was_43 : List En := [(.ifCond .eq 5, 3, 48, 0, 0, 0, .int), (.iconst 0, 1, 0, 0, 0, 0, .int)]
theorem b_X6_was_43 : isAt "GridStoreModel" 6 false cX6_was 43 k_X6_was_43 = true := by decide +kernel
def k_X6_was_48 : List En := [(.bipush 48, 2, 0, 48, 0, 0, .int), (.iload 4, 2, 0, 0, 0, 4, .int), (.imul, 1, 0, 0, 0, 0, .int), (.iload_n 3, 1, 0, 0, 0, 3, .int), (.iadd, 1, 0, 0, 0, 0, .int), (.istore 5, 2, 0, 0, 0, 5, .int), (.aload_n 0, 1, 0, 0, 0, 0, .int), (.aload_n 0, 1, 0, 0, 0, 0, .int), (.getfield 27, 3, 0, 0, 6, 7, (.array .boolean)), (.iload_n 1, 1, 0, 0, 0, 1, .int), (.iload_n 2, 1, 0, 0, 0, 2, .int)]
theorem b_X6_was_48 : isAt "GridStoreModel" 6 false cX6_was 48 k_X6_was_48 = true := by decide +kernel
def k_X6_was_67 : List En := [(.iload 5, 2, 0, 0, 0, 5, .int), (.iadd, 1, 0, 0, 0, 0, .int), (.baload, 1, 0, 0, 0, 0, .int), (.ifCond .ne 7, 3, 78, 0, 0, 0, .int), (.iconst 1, 1, 0, 1, 0, 0, .int), (.goto 4, 3, 79, 0, 0, 0, .int)]
theorem b_X6_was_67 : isAt "GridStoreModel" 6 false cX6_was 67 k_X6_was_67 = true := by decide +kernel
def k_X6_was_78 : List En := [(.iconst 0, 1, 0, 0, 0, 0, .int)]
theorem b_X6_was_78 : isAt "GridStoreModel" 6 false cX6_was 78 k_X6_was_78 = true := by decide +kernel
def k_X6_was_79 : List En := [(.iconst 2, 1, 0, 2, 0, 0, .int)]
theorem b_X6_was_79 : isAt "GridStoreModel" 6 false cX6_was 79 k_X6_was_79 = true := by decide +kernel
def k_X6_was_83 : List En := [(.ifCond .eq 7, 3, 90, 0, 0, 0, .int), (.iconst 0, 1, 0, 0, 0, 0, .int), (.goto 16, 3, 103, 0, 0, 0, .int)]
theorem b_X6_was_83 : isAt "GridStoreModel" 6 false cX6_was 83 k_X6_was_83 = true := by decide +kernel
def k_X6_was_90 : List En := [(.aload_n 0, 1, 0, 0, 0, 0, .int), (.getfield 24, 3, 0, 0, 6, 6, (.array .int)), (.iload_n 1, 1, 0, 0, 0, 1, .int), (.iload_n 2, 1, 0, 0, 0, 2, .int)]
theorem b_X6_was_90 : isAt "GridStoreModel" 6 false cX6_was 90 k_X6_was_90 = true := by decide +kernel
def k_X6_was_99 : List En := [(.iload 5, 2, 0, 0, 0, 5, .int), (.iadd, 1, 0, 0, 0, 0, .int), (.iaload, 1, 0, 0, 0, 0, .int)]
theorem b_X6_was_99 : isAt "GridStoreModel" 6 false cX6_was 99 k_X6_was_99 = true := by decide +kernel
def k_X6_writes_0 : List En := [(.aload_n 0, 1, 0, 0, 0, 0, .int), (.iload_n 1, 1, 0, 0, 0, 1, .int)]
theorem b_X6_writes_0 : isAt "GridStoreModel" 5 false cX6_writes 0 k_X6_writes_0 = true := by decide +kernel
def k_X6_writes_5 : List En := [(.ifCond .eq 5, 3, 10, 0, 0, 0, .int), (.iconst 0, 1, 0, 0, 0, 0, .int)]
theorem b_X6_writes_5 : isAt "GridStoreModel" 5 false cX6_writes 5 k_X6_writes_5 = true := by decide +kernel
def k_X6_writes_10 : List En := [(.aload_n 0, 1, 0, 0, 0, 0, .int), (.getfield 19, 3, 0, 0, 6, 4, (.array .boolean)), (.iload_n 1, 1, 0, 0, 0, 1, .int), (.baload, 1, 0, 0, 0, 0, .int), (.iload_n 2, 1, 0, 0, 0, 2, .int), (.if_icmp .ne 21, 3, 38, 0, 0, 0, .int), (.iload_n 2, 1, 0, 0, 0, 2, .int), (.ifCond .eq 13, 3, 34, 0, 0, 0, .int), (.aload_n 0, 1, 0, 0, 0, 0, .int), (.getfield 16, 3, 0, 0, 6, 3, (.array .int)), (.iload_n 1, 1, 0, 0, 0, 1, .int), (.iaload, 1, 0, 0, 0, 0, .int), (.iload_n 3, 1, 0, 0, 0, 3, .int), (.if_icmp .ne 7, 3, 38, 0, 0, 0, .int)]
theorem b_X6_writes_10 : isAt "GridStoreModel" 5 false cX6_writes 10 k_X6_writes_10 = true := by decide +kernel
def k_X6_writes_34 : List En := [(.iconst 1, 1, 0, 1, 0, 0, .int), (.goto 4, 3, 39, 0, 0, 0, .int)]
theorem b_X6_writes_34 : isAt "GridStoreModel" 5 false cX6_writes 34 k_X6_writes_34 = true := by decide +kernel
def k_X6_writes_38 : List En := [(.iconst 0, 1, 0, 0, 0, 0, .int)]
theorem b_X6_writes_38 : isAt "GridStoreModel" 5 false cX6_writes 38 k_X6_writes_38 = true := by decide +kernel
def k_X6_writes_39 : List En := [(.istore 4, 2, 0, 0, 0, 4, .int), (.aload_n 0, 1, 0, 0, 0, 0, .int), (.getfield 19, 3, 0, 0, 6, 4, (.array .boolean)), (.iload_n 1, 1, 0, 0, 0, 1, .int), (.iload_n 2, 1, 0, 0, 0, 2, .int), (.bastore, 1, 0, 0, 0, 0, .int), (.aload_n 0, 1, 0, 0, 0, 0, .int), (.getfield 16, 3, 0, 0, 6, 3, (.array .int)), (.iload_n 1, 1, 0, 0, 0, 1, .int), (.iload_n 2, 1, 0, 0, 0, 2, .int), (.ifCond .eq 7, 3, 61, 0, 0, 0, .int), (.iload_n 3, 1, 0, 0, 0, 3, .int), (.goto 4, 3, 62, 0, 0, 0, .int)]
theorem b_X6_writes_39 : isAt "GridStoreModel" 5 false cX6_writes 39 k_X6_writes_39 = true := by decide +kernel
def k_X6_writes_61 : List En := [(.iconst 0, 1, 0, 0, 0, 0, .int)]
theorem b_X6_writes_61 : isAt "GridStoreModel" 5 false cX6_writes 61 k_X6_writes_61 = true := by decide +kernel
def k_X6_writes_62 : List En := [(.iastore, 1, 0, 0, 0, 0, .int), (.iload 4, 2, 0, 0, 0, 4, .int), (.ifCond .eq 7, 3, 72, 0, 0, 0, .int), (.iconst 0, 1, 0, 0, 0, 0, .int), (.goto 4, 3, 73, 0, 0, 0, .int)]
theorem b_X6_writes_62 : isAt "GridStoreModel" 5 false cX6_writes 62 k_X6_writes_62 = true := by decide +kernel
def k_X6_writes_72 : List En := [(.iconst 1, 1, 0, 1, 0, 0, .int)]
theorem b_X6_writes_72 : isAt "GridStoreModel" 5 false cX6_writes 72 k_X6_writes_72 = true := by decide +kernel
theorem d_X6_around_13 : decode cX6_around 13 = .ok (.invokestatic 142, 3) := by decide +kernel
theorem c_X6_142 : ckS "GridStoreModel" 142 2 mJ9_max_7cf53 = true := by decide +kernel
theorem d_X6_around_23 : decode cX6_around 23 = .ok (.invokevirtual 81, 3) := by decide +kernel
theorem c_X6_81 : ckV "GridStoreModel" 81 2 mX6_sizeOf = true := by decide +kernel
theorem d_X6_around_32 : decode cX6_around 32 = .ok (.invokestatic 147, 3) := by decide +kernel
theorem c_X6_147 : ckS "GridStoreModel" 147 2 mJ9_min_7cf53 = true := by decide +kernel
theorem d_X6_around_43 : decode cX6_around 43 = .ok (.invokestatic 142, 3) := by decide +kernel
theorem d_X6_around_53 : decode cX6_around 53 = .ok (.invokevirtual 81, 3) := by decide +kernel
theorem d_X6_around_62 : decode cX6_around 62 = .ok (.invokestatic 147, 3) := by decide +kernel
theorem d_X6_around_74 : decode cX6_around 74 = .ok (.invokevirtual 109, 3) := by decide +kernel
theorem c_X6_109 : ckV "GridStoreModel" 109 3 mX6_placeOf = true := by decide +kernel
theorem d_X6_around_129 : decode cX6_around 129 = .ok (.lreturn, 1) := by decide +kernel
theorem d_X6_back_8 : decode cX6_back 8 = .ok (.invokevirtual 74, 3) := by decide +kernel
theorem c_X6_74 : ckV "GridStoreModel" 74 1 mX6_noGrid = true := by decide +kernel
theorem d_X6_back_17 : decode cX6_back 17 = .ok (.invokevirtual 129, 3) := by decide +kernel
theorem c_X6_129 : ckV "GridStoreModel" 129 2 mX6_noLayer = true := by decide +kernel
theorem d_X6_back_29 : decode cX6_back 29 = .ok (.invokevirtual 92, 3) := by decide +kernel
theorem c_X6_92 : ckV "GridStoreModel" 92 2 mX6_throwsIf = true := by decide +kernel
theorem d_X6_back_36 : decode cX6_back 36 = .ok (.ireturn, 1) := by decide +kernel
theorem d_X6_back_66 : decode cX6_back 66 = .ok (.invokestatic 126, 3) := by decide +kernel
theorem c_X6_126 : ckS "GridStoreModel" 126 2 mX6_layerAt = true := by decide +kernel
theorem d_X6_back_79 : decode cX6_back 79 = .ok (.invokestatic 126, 3) := by decide +kernel
theorem d_X6_back_86 : decode cX6_back 86 = .ok (.invokevirtual 113, 3) := by decide +kernel
theorem c_X6_113 : ckV "GridStoreModel" 113 3 mX6_writes = true := by decide +kernel
theorem d_X6_back_98 : decode cX6_back 98 = .ok (.ireturn, 1) := by decide +kernel
theorem d_X6_close_14 : decode cX6_close 14 = .ok (.invokestatic 70, 3) := by decide +kernel
theorem c_X6_70 : ckS "GridStoreModel" 70 3 mX6_in = true := by decide +kernel
theorem d_X6_close_26 : decode cX6_close 26 = .ok (.invokevirtual 92, 3) := by decide +kernel
theorem d_X6_close_33 : decode cX6_close 33 = .ok (.ireturn, 1) := by decide +kernel
theorem d_X6_close_58 : decode cX6_close 58 = .ok (.ireturn, 1) := by decide +kernel
theorem d_X6_coarse_8 : decode cX6_coarse 8 = .ok (.invokevirtual 96, 3) := by decide +kernel
theorem c_X6_96 : ckV "GridStoreModel" 96 1 mX6_none = true := by decide +kernel
theorem d_X6_coarse_16 : decode cX6_coarse 16 = .ok (.invokevirtual 74, 3) := by decide +kernel
theorem d_X6_coarse_28 : decode cX6_coarse 28 = .ok (.invokevirtual 92, 3) := by decide +kernel
theorem d_X6_coarse_39 : decode cX6_coarse 39 = .ok (.invokestatic 70, 3) := by decide +kernel
theorem d_X6_coarse_50 : decode cX6_coarse 50 = .ok (.invokevirtual 81, 3) := by decide +kernel
theorem d_X6_coarse_62 : decode cX6_coarse 62 = .ok (.invokevirtual 81, 3) := by decide +kernel
theorem d_X6_coarse_71 : decode cX6_coarse 71 = .ok (.invokevirtual 154, 3) := by decide +kernel
theorem c_X6_154 : ckV "GridStoreModel" 154 3 mX6_isAs = true := by decide +kernel
theorem d_X6_coarse_79 : decode cX6_coarse 79 = .ok (.invokevirtual 157, 3) := by decide +kernel
theorem c_X6_157 : ckV "GridStoreModel" 157 1 mX6_root = true := by decide +kernel
theorem d_X6_coarse_92 : decode cX6_coarse 92 = .ok (.invokevirtual 92, 3) := by decide +kernel
theorem d_X6_coarse_99 : decode cX6_coarse 99 = .ok (.ireturn, 1) := by decide +kernel
theorem d_X6_coarse_159 : decode cX6_coarse 159 = .ok (.invokevirtual 81, 3) := by decide +kernel
theorem d_X6_coarse_187 : decode cX6_coarse 187 = .ok (.invokevirtual 81, 3) := by decide +kernel
theorem d_X6_coarse_199 : decode cX6_coarse 199 = .ok (.invokevirtual 109, 3) := by decide +kernel
theorem d_X6_coarse_254 : decode cX6_coarse 254 = .ok (.invokevirtual 109, 3) := by decide +kernel
theorem d_X6_coarse_281 : decode cX6_coarse 281 = .ok (.invokestatic 160, 3) := by decide +kernel
theorem c_X6_160 : ckS "GridStoreModel" 160 2 mJ9_floorDiv_f86c9 = true := by decide +kernel
theorem d_X6_coarse_285 : decode cX6_coarse 285 = .ok (.invokevirtual 113, 3) := by decide +kernel
theorem d_X6_coarse_305 : decode cX6_coarse 305 = .ok (.ireturn, 1) := by decide +kernel
theorem d_X6_count_8 : decode cX6_count 8 = .ok (.tableswitch 239 0 8 #[52, 57, 62, 89, 121, 160, 160, 160, 160], 52) := by decide +kernel
theorem d_X6_count_64 : decode cX6_count 64 = .ok (.ireturn, 1) := by decide +kernel
theorem d_X6_count_69 : decode cX6_count 69 = .ok (.ireturn, 1) := by decide +kernel
theorem d_X6_count_96 : decode cX6_count 96 = .ok (.ireturn, 1) := by decide +kernel
theorem d_X6_count_128 : decode cX6_count 128 = .ok (.ireturn, 1) := by decide +kernel
theorem d_X6_count_167 : decode cX6_count 167 = .ok (.ireturn, 1) := by decide +kernel
theorem d_X6_count_185 : decode cX6_count 185 = .ok (.invokevirtual 120, 3) := by decide +kernel
theorem c_X6_120 : ckV "GridStoreModel" 120 1 mX6_piecesHigh = true := by decide +kernel
theorem d_X6_count_198 : decode cX6_count 198 = .ok (.invokevirtual 117, 3) := by decide +kernel
theorem c_X6_117 : ckV "GridStoreModel" 117 1 mX6_piecesWide = true := by decide +kernel
theorem d_X6_count_211 : decode cX6_count 211 = .ok (.invokevirtual 123, 3) := by decide +kernel
theorem c_X6_123 : ckV "GridStoreModel" 123 3 mX6_kindOf = true := by decide +kernel
theorem d_X6_count_246 : decode cX6_count 246 = .ok (.ireturn, 1) := by decide +kernel
theorem d_X6_count_248 : decode cX6_count 248 = .ok (.ireturn, 1) := by decide +kernel
theorem d_X6_differ_8 : decode cX6_differ 8 = .ok (.invokevirtual 74, 3) := by decide +kernel
theorem d_X6_differ_22 : decode cX6_differ 22 = .ok (.invokevirtual 129, 3) := by decide +kernel
theorem d_X6_differ_36 : decode cX6_differ 36 = .ok (.invokevirtual 129, 3) := by decide +kernel
theorem d_X6_differ_48 : decode cX6_differ 48 = .ok (.invokevirtual 92, 3) := by decide +kernel
theorem d_X6_differ_55 : decode cX6_differ 55 = .ok (.ireturn, 1) := by decide +kernel
theorem d_X6_differ_66 : decode cX6_differ 66 = .ok (.invokevirtual 120, 3) := by decide +kernel
theorem d_X6_differ_79 : decode cX6_differ 79 = .ok (.invokevirtual 117, 3) := by decide +kernel
theorem d_X6_differ_170 : decode cX6_differ 170 = .ok (.invokevirtual 133, 3) := by decide +kernel
theorem c_X6_133 : ckV "GridStoreModel" 133 3 mX6_hasIn = true := by decide +kernel
theorem d_X6_differ_178 : decode cX6_differ 178 = .ok (.invokevirtual 133, 3) := by decide +kernel
theorem d_X6_differ_189 : decode cX6_differ 189 = .ok (.invokevirtual 133, 3) := by decide +kernel
theorem d_X6_differ_200 : decode cX6_differ 200 = .ok (.invokevirtual 136, 3) := by decide +kernel
theorem c_X6_136 : ckV "GridStoreModel" 136 3 mX6_numberIn = true := by decide +kernel
theorem d_X6_differ_208 : decode cX6_differ 208 = .ok (.invokevirtual 136, 3) := by decide +kernel
theorem d_X6_differ_262 : decode cX6_differ 262 = .ok (.ireturn, 1) := by decide +kernel
theorem d_X6_dig_8 : decode cX6_dig 8 = .ok (.invokevirtual 96, 3) := by decide +kernel
theorem d_X6_dig_18 : decode cX6_dig 18 = .ok (.invokevirtual 103, 3) := by decide +kernel
theorem c_X6_103 : ckV "GridStoreModel" 103 3 mX6_noCell = true := by decide +kernel
theorem d_X6_dig_30 : decode cX6_dig 30 = .ok (.invokevirtual 92, 3) := by decide +kernel
theorem d_X6_dig_38 : decode cX6_dig 38 = .ok (.invokevirtual 106, 3) := by decide +kernel
theorem c_X6_106 : ckV "GridStoreModel" 106 1 mX6_isClosedOf = true := by decide +kernel
theorem d_X6_dig_45 : decode cX6_dig 45 = .ok (.ireturn, 1) := by decide +kernel
theorem d_X6_dig_51 : decode cX6_dig 51 = .ok (.invokevirtual 109, 3) := by decide +kernel
theorem d_X6_dig_56 : decode cX6_dig 56 = .ok (.invokevirtual 113, 3) := by decide +kernel
theorem d_X6_dig_68 : decode cX6_dig 68 = .ok (.ireturn, 1) := by decide +kernel
theorem d_X6_fill_8 : decode cX6_fill 8 = .ok (.invokevirtual 96, 3) := by decide +kernel
theorem d_X6_fill_12 : decode cX6_fill 12 = .ok (.invokevirtual 92, 3) := by decide +kernel
theorem d_X6_fill_27 : decode cX6_fill 27 = .ok (.invokevirtual 99, 3) := by decide +kernel
theorem c_X6_99 : ckV "GridStoreModel" 99 5 mX6_noRectangle = true := by decide +kernel
theorem d_X6_fill_31 : decode cX6_fill 31 = .ok (.invokevirtual 92, 3) := by decide +kernel
theorem d_X6_fill_39 : decode cX6_fill 39 = .ok (.invokevirtual 106, 3) := by decide +kernel
theorem d_X6_fill_46 : decode cX6_fill 46 = .ok (.ireturn, 1) := by decide +kernel
theorem d_X6_fill_83 : decode cX6_fill 83 = .ok (.invokevirtual 109, 3) := by decide +kernel
theorem d_X6_fill_89 : decode cX6_fill 89 = .ok (.invokevirtual 113, 3) := by decide +kernel
theorem d_X6_fill_109 : decode cX6_fill 109 = .ok (.ireturn, 1) := by decide +kernel
theorem d_X6_find_8 : decode cX6_find 8 = .ok (.invokevirtual 96, 3) := by decide +kernel
theorem d_X6_find_12 : decode cX6_find 12 = .ok (.invokevirtual 92, 3) := by decide +kernel
theorem d_X6_find_19 : decode cX6_find 19 = .ok (.ireturn, 1) := by decide +kernel
theorem d_X6_find_26 : decode cX6_find 26 = .ok (.invokevirtual 81, 3) := by decide +kernel
theorem d_X6_find_40 : decode cX6_find 40 = .ok (.invokevirtual 81, 3) := by decide +kernel
theorem d_X6_find_51 : decode cX6_find 51 = .ok (.invokevirtual 109, 3) := by decide +kernel
theorem d_X6_find_84 : decode cX6_find 84 = .ok (.ireturn, 1) := by decide +kernel
theorem d_X6_find_98 : decode cX6_find 98 = .ok (.ireturn, 1) := by decide +kernel
theorem d_X6_fold_8 : decode cX6_fold 8 = .ok (.invokevirtual 96, 3) := by decide +kernel
theorem d_X6_fold_16 : decode cX6_fold 16 = .ok (.invokevirtual 74, 3) := by decide +kernel
theorem d_X6_fold_28 : decode cX6_fold 28 = .ok (.invokevirtual 92, 3) := by decide +kernel
theorem d_X6_fold_44 : decode cX6_fold 44 = .ok (.invokevirtual 81, 3) := by decide +kernel
theorem d_X6_fold_62 : decode cX6_fold 62 = .ok (.invokevirtual 81, 3) := by decide +kernel
theorem d_X6_fold_65 : decode cX6_fold 65 = .ok (.invokevirtual 154, 3) := by decide +kernel
theorem d_X6_fold_73 : decode cX6_fold 73 = .ok (.invokevirtual 157, 3) := by decide +kernel
theorem d_X6_fold_86 : decode cX6_fold 86 = .ok (.invokevirtual 92, 3) := by decide +kernel
theorem d_X6_fold_93 : decode cX6_fold 93 = .ok (.ireturn, 1) := by decide +kernel
theorem d_X6_fold_147 : decode cX6_fold 147 = .ok (.invokevirtual 81, 3) := by decide +kernel
theorem d_X6_fold_163 : decode cX6_fold 163 = .ok (.invokevirtual 109, 3) := by decide +kernel
theorem d_X6_fold_175 : decode cX6_fold 175 = .ok (.invokevirtual 109, 3) := by decide +kernel
theorem d_X6_fold_223 : decode cX6_fold 223 = .ok (.invokevirtual 109, 3) := by decide +kernel
theorem d_X6_fold_230 : decode cX6_fold 230 = .ok (.invokevirtual 113, 3) := by decide +kernel
theorem d_X6_fold_250 : decode cX6_fold 250 = .ok (.ireturn, 1) := by decide +kernel
theorem d_X6_get_8 : decode cX6_get 8 = .ok (.invokevirtual 96, 3) := by decide +kernel
theorem d_X6_get_18 : decode cX6_get 18 = .ok (.invokevirtual 103, 3) := by decide +kernel
theorem d_X6_get_30 : decode cX6_get 30 = .ok (.invokevirtual 92, 3) := by decide +kernel
theorem d_X6_get_37 : decode cX6_get 37 = .ok (.ireturn, 1) := by decide +kernel
theorem d_X6_get_42 : decode cX6_get 42 = .ok (.invokevirtual 109, 3) := by decide +kernel
theorem d_X6_get_64 : decode cX6_get 64 = .ok (.invokevirtual 92, 3) := by decide +kernel
theorem d_X6_get_81 : decode cX6_get 81 = .ok (.ireturn, 1) := by decide +kernel
theorem d_X6_grid_10 : decode cX6_grid 10 = .ok (.invokestatic 70, 3) := by decide +kernel
theorem d_X6_grid_20 : decode cX6_grid 20 = .ok (.invokestatic 70, 3) := by decide +kernel
theorem d_X6_grid_32 : decode cX6_grid 32 = .ok (.invokevirtual 92, 3) := by decide +kernel
theorem d_X6_grid_54 : decode cX6_grid 54 = .ok (.invokevirtual 92, 3) := by decide +kernel
theorem d_X6_grid_61 : decode cX6_grid 61 = .ok (.ireturn, 1) := by decide +kernel
theorem d_X6_grid_98 : decode cX6_grid 98 = .ok (.ireturn, 1) := by decide +kernel
theorem d_X6_hasIn_25 : decode cX6_hasIn 25 = .ok (.invokestatic 126, 3) := by decide +kernel
theorem d_X6_hasIn_31 : decode cX6_hasIn 31 = .ok (.ireturn, 1) := by decide +kernel
theorem d_X6_hole_8 : decode cX6_hole 8 = .ok (.invokevirtual 96, 3) := by decide +kernel
theorem d_X6_hole_18 : decode cX6_hole 18 = .ok (.invokevirtual 103, 3) := by decide +kernel
theorem d_X6_hole_30 : decode cX6_hole 30 = .ok (.invokevirtual 92, 3) := by decide +kernel
theorem d_X6_hole_44 : decode cX6_hole 44 = .ok (.invokevirtual 109, 3) := by decide +kernel
theorem d_X6_hole_56 : decode cX6_hole 56 = .ok (.ireturn, 1) := by decide +kernel
theorem d_X6_hostOf_23 : decode cX6_hostOf 23 = .ok (.ireturn, 1) := by decide +kernel
theorem d_X6_in_15 : decode cX6_in 15 = .ok (.ireturn, 1) := by decide +kernel
theorem d_X6_init_1 : decode cX6_init 1 = .ok (.invokespecial 3, 3) := by decide +kernel
theorem o_X6_3 : Cond.methodLink "GridStoreModel" 3 Lib.objectInit ∈ ALL := by decide +kernel
theorem d_X6_init_7 : decode cX6_init 7 = .ok (.newarray .int, 2) := by decide +kernel
theorem d_X6_init_15 : decode cX6_init 15 = .ok (.newarray .int, 2) := by decide +kernel
theorem d_X6_init_24 : decode cX6_init 24 = .ok (.newarray .int, 2) := by decide +kernel
theorem d_X6_init_33 : decode cX6_init 33 = .ok (.newarray .boolean, 2) := by decide +kernel
theorem d_X6_init_41 : decode cX6_init 41 = .ok (.newarray .int, 2) := by decide +kernel
theorem d_X6_init_49 : decode cX6_init 49 = .ok (.newarray .boolean, 2) := by decide +kernel
theorem d_X6_init_57 : decode cX6_init 57 = .ok (.newarray .int, 2) := by decide +kernel
theorem d_X6_init_64 : decode cX6_init 64 = .ok (.newarray .boolean, 2) := by decide +kernel
theorem d_X6_init_72 : decode cX6_init 72 = .ok (.newarray .int, 2) := by decide +kernel
theorem d_X6_init_80 : decode cX6_init 80 = .ok (.newarray .int, 2) := by decide +kernel
theorem d_X6_init_88 : decode cX6_init 88 = .ok (.newarray .int, 2) := by decide +kernel
theorem d_X6_init_96 : decode cX6_init 96 = .ok (.newarray .int, 2) := by decide +kernel
theorem d_X6_init_104 : decode cX6_init 104 = .ok (.newarray .int, 2) := by decide +kernel
theorem d_X6_init_112 : decode cX6_init 112 = .ok (.newarray .int, 2) := by decide +kernel
theorem d_X6_init_120 : decode cX6_init 120 = .ok (.newarray .boolean, 2) := by decide +kernel
theorem d_X6_init_128 : decode cX6_init 128 = .ok (.newarray .boolean, 2) := by decide +kernel
theorem d_X6_init_136 : decode cX6_init 136 = .ok (.newarray .boolean, 2) := by decide +kernel
theorem d_X6_init_141 : decode cX6_init 141 = .ok (.return_, 1) := by decide +kernel
theorem d_X6_isAs_25 : decode cX6_isAs 25 = .ok (.ireturn, 1) := by decide +kernel
theorem d_X6_isClosedOf_23 : decode cX6_isClosedOf 23 = .ok (.ireturn, 1) := by decide +kernel
theorem d_X6_isShut_1 : decode cX6_isShut 1 = .ok (.invokestatic 85, 3) := by decide +kernel
theorem c_X6_85 : ckS "GridStoreModel" 85 1 mX6_hostOf = true := by decide +kernel
theorem d_X6_isShut_32 : decode cX6_isShut 32 = .ok (.ireturn, 1) := by decide +kernel
theorem d_X6_join_8 : decode cX6_join 8 = .ok (.invokevirtual 96, 3) := by decide +kernel
theorem d_X6_join_16 : decode cX6_join 16 = .ok (.invokevirtual 96, 3) := by decide +kernel
theorem d_X6_join_25 : decode cX6_join 25 = .ok (.invokevirtual 74, 3) := by decide +kernel
theorem d_X6_join_37 : decode cX6_join 37 = .ok (.invokevirtual 92, 3) := by decide +kernel
theorem d_X6_join_44 : decode cX6_join 44 = .ok (.ireturn, 1) := by decide +kernel
theorem d_X6_join_48 : decode cX6_join 48 = .ok (.invokevirtual 81, 3) := by decide +kernel
theorem d_X6_join_54 : decode cX6_join 54 = .ok (.invokevirtual 81, 3) := by decide +kernel
theorem d_X6_join_63 : decode cX6_join 63 = .ok (.invokevirtual 81, 3) := by decide +kernel
theorem d_X6_join_69 : decode cX6_join 69 = .ok (.invokevirtual 81, 3) := by decide +kernel
theorem d_X6_join_81 : decode cX6_join 81 = .ok (.invokevirtual 81, 3) := by decide +kernel
theorem d_X6_join_87 : decode cX6_join 87 = .ok (.invokevirtual 81, 3) := by decide +kernel
theorem d_X6_join_90 : decode cX6_join 90 = .ok (.invokevirtual 154, 3) := by decide +kernel
theorem d_X6_join_107 : decode cX6_join 107 = .ok (.invokestatic 70, 3) := by decide +kernel
theorem d_X6_join_120 : decode cX6_join 120 = .ok (.invokevirtual 157, 3) := by decide +kernel
theorem d_X6_join_130 : decode cX6_join 130 = .ok (.invokevirtual 157, 3) := by decide +kernel
theorem d_X6_join_144 : decode cX6_join 144 = .ok (.invokevirtual 92, 3) := by decide +kernel
theorem d_X6_join_151 : decode cX6_join 151 = .ok (.ireturn, 1) := by decide +kernel
theorem d_X6_join_191 : decode cX6_join 191 = .ok (.invokevirtual 109, 3) := by decide +kernel
theorem d_X6_join_202 : decode cX6_join 202 = .ok (.invokevirtual 109, 3) := by decide +kernel
theorem d_X6_join_387 : decode cX6_join 387 = .ok (.invokestatic 147, 3) := by decide +kernel
theorem d_X6_join_407 : decode cX6_join 407 = .ok (.invokevirtual 109, 3) := by decide +kernel
theorem d_X6_join_414 : decode cX6_join 414 = .ok (.invokevirtual 113, 3) := by decide +kernel
theorem d_X6_join_434 : decode cX6_join 434 = .ok (.ireturn, 1) := by decide +kernel
theorem d_X6_keep_8 : decode cX6_keep 8 = .ok (.invokevirtual 74, 3) := by decide +kernel
theorem d_X6_keep_12 : decode cX6_keep 12 = .ok (.invokevirtual 92, 3) := by decide +kernel
theorem d_X6_keep_19 : decode cX6_keep 19 = .ok (.ireturn, 1) := by decide +kernel
theorem d_X6_keep_32 : decode cX6_keep 32 = .ok (.ireturn, 1) := by decide +kernel
theorem d_X6_keep_40 : decode cX6_keep 40 = .ok (.invokestatic 126, 3) := by decide +kernel
theorem d_X6_keep_117 : decode cX6_keep 117 = .ok (.ireturn, 1) := by decide +kernel
theorem d_X6_kind_8 : decode cX6_kind 8 = .ok (.invokevirtual 74, 3) := by decide +kernel
theorem d_X6_kind_18 : decode cX6_kind 18 = .ok (.invokevirtual 117, 3) := by decide +kernel
theorem d_X6_kind_23 : decode cX6_kind 23 = .ok (.invokestatic 70, 3) := by decide +kernel
theorem d_X6_kind_33 : decode cX6_kind 33 = .ok (.invokevirtual 120, 3) := by decide +kernel
theorem d_X6_kind_38 : decode cX6_kind 38 = .ok (.invokestatic 70, 3) := by decide +kernel
theorem d_X6_kind_50 : decode cX6_kind 50 = .ok (.invokevirtual 92, 3) := by decide +kernel
theorem d_X6_kind_57 : decode cX6_kind 57 = .ok (.ireturn, 1) := by decide +kernel
theorem d_X6_kind_62 : decode cX6_kind 62 = .ok (.invokevirtual 123, 3) := by decide +kernel
theorem d_X6_kind_65 : decode cX6_kind 65 = .ok (.ireturn, 1) := by decide +kernel
theorem d_X6_kindOf_197 : decode cX6_kindOf 197 = .ok (.ireturn, 1) := by decide +kernel
theorem d_X6_layerAt_10 : decode cX6_layerAt 10 = .ok (.ireturn, 1) := by decide +kernel
theorem d_X6_lose_9 : decode cX6_lose 9 = .ok (.invokestatic 70, 3) := by decide +kernel
theorem d_X6_lose_21 : decode cX6_lose 21 = .ok (.invokevirtual 92, 3) := by decide +kernel
theorem d_X6_lose_28 : decode cX6_lose 28 = .ok (.ireturn, 1) := by decide +kernel
theorem d_X6_lose_66 : decode cX6_lose 66 = .ok (.invokevirtual 89, 3) := by decide +kernel
theorem c_X6_89 : ckV "GridStoreModel" 89 1 mX6_isShut = true := by decide +kernel
theorem d_X6_lose_96 : decode cX6_lose 96 = .ok (.ireturn, 1) := by decide +kernel
theorem d_X6_many_8 : decode cX6_many 8 = .ok (.invokevirtual 96, 3) := by decide +kernel
theorem d_X6_many_18 : decode cX6_many 18 = .ok (.invokevirtual 103, 3) := by decide +kernel
theorem d_X6_many_30 : decode cX6_many 30 = .ok (.invokevirtual 92, 3) := by decide +kernel
theorem d_X6_many_42 : decode cX6_many 42 = .ok (.invokestatic 70, 3) := by decide +kernel
theorem d_X6_many_54 : decode cX6_many 54 = .ok (.invokevirtual 92, 3) := by decide +kernel
theorem d_X6_many_61 : decode cX6_many 61 = .ok (.ireturn, 1) := by decide +kernel
theorem d_X6_many_68 : decode cX6_many 68 = .ok (.invokevirtual 150, 3) := by decide +kernel
theorem c_X6_150 : ckV "GridStoreModel" 150 4 mX6_around = true := by decide +kernel
theorem d_X6_many_77 : decode cX6_many 77 = .ok (.ireturn, 1) := by decide +kernel
theorem d_X6_noCell_5 : decode cX6_noCell 5 = .ok (.invokevirtual 81, 3) := by decide +kernel
theorem d_X6_noCell_10 : decode cX6_noCell 10 = .ok (.invokestatic 70, 3) := by decide +kernel
theorem d_X6_noCell_21 : decode cX6_noCell 21 = .ok (.invokevirtual 81, 3) := by decide +kernel
theorem d_X6_noCell_26 : decode cX6_noCell 26 = .ok (.invokestatic 70, 3) := by decide +kernel
theorem d_X6_noCell_37 : decode cX6_noCell 37 = .ok (.ireturn, 1) := by decide +kernel
theorem d_X6_noGrid_8 : decode cX6_noGrid 8 = .ok (.invokestatic 70, 3) := by decide +kernel
theorem d_X6_noGrid_19 : decode cX6_noGrid 19 = .ok (.ireturn, 1) := by decide +kernel
theorem d_X6_noLayer_10 : decode cX6_noLayer 10 = .ok (.invokestatic 70, 3) := by decide +kernel
theorem d_X6_noLayer_21 : decode cX6_noLayer 21 = .ok (.ireturn, 1) := by decide +kernel
theorem d_X6_noRectangle_25 : decode cX6_noRectangle 25 = .ok (.invokevirtual 81, 3) := by decide +kernel
theorem d_X6_noRectangle_38 : decode cX6_noRectangle 38 = .ok (.invokevirtual 81, 3) := by decide +kernel
theorem d_X6_noRectangle_50 : decode cX6_noRectangle 50 = .ok (.invokevirtual 81, 3) := by decide +kernel
theorem d_X6_noRectangle_60 : decode cX6_noRectangle 60 = .ok (.invokevirtual 81, 3) := by decide +kernel
theorem d_X6_noRectangle_71 : decode cX6_noRectangle 71 = .ok (.ireturn, 1) := by decide +kernel
theorem d_X6_none_2 : decode cX6_none 2 = .ok (.invokevirtual 74, 3) := by decide +kernel
theorem d_X6_none_20 : decode cX6_none 20 = .ok (.invokestatic 70, 3) := by decide +kernel
theorem d_X6_none_31 : decode cX6_none 31 = .ok (.ireturn, 1) := by decide +kernel
theorem d_X6_numberIn_25 : decode cX6_numberIn 25 = .ok (.invokestatic 126, 3) := by decide +kernel
theorem d_X6_numberIn_31 : decode cX6_numberIn 31 = .ok (.ireturn, 1) := by decide +kernel
theorem d_X6_piecesHigh_12 : decode cX6_piecesHigh 12 = .ok (.ireturn, 1) := by decide +kernel
theorem d_X6_piecesWide_12 : decode cX6_piecesWide 12 = .ok (.ireturn, 1) := by decide +kernel
theorem d_X6_placeOf_27 : decode cX6_placeOf 27 = .ok (.invokevirtual 81, 3) := by decide +kernel
theorem d_X6_placeOf_89 : decode cX6_placeOf 89 = .ok (.invokevirtual 81, 3) := by decide +kernel
theorem d_X6_placeOf_168 : decode cX6_placeOf 168 = .ok (.ireturn, 1) := by decide +kernel
theorem d_X6_read_8 : decode cX6_read 8 = .ok (.invokevirtual 96, 3) := by decide +kernel
theorem d_X6_read_12 : decode cX6_read 12 = .ok (.invokevirtual 92, 3) := by decide +kernel
theorem d_X6_read_27 : decode cX6_read 27 = .ok (.invokevirtual 99, 3) := by decide +kernel
theorem d_X6_read_31 : decode cX6_read 31 = .ok (.invokevirtual 92, 3) := by decide +kernel
theorem d_X6_read_38 : decode cX6_read 38 = .ok (.ireturn, 1) := by decide +kernel
theorem d_X6_read_96 : decode cX6_read 96 = .ok (.invokevirtual 109, 3) := by decide +kernel
theorem d_X6_read_169 : decode cX6_read 169 = .ok (.ireturn, 1) := by decide +kernel
theorem d_X6_root_22 : decode cX6_root 22 = .ok (.ireturn, 1) := by decide +kernel
theorem d_X6_set_8 : decode cX6_set 8 = .ok (.invokevirtual 96, 3) := by decide +kernel
theorem d_X6_set_18 : decode cX6_set 18 = .ok (.invokevirtual 103, 3) := by decide +kernel
theorem d_X6_set_30 : decode cX6_set 30 = .ok (.invokevirtual 92, 3) := by decide +kernel
theorem d_X6_set_38 : decode cX6_set 38 = .ok (.invokevirtual 106, 3) := by decide +kernel
theorem d_X6_set_45 : decode cX6_set 45 = .ok (.ireturn, 1) := by decide +kernel
theorem d_X6_set_50 : decode cX6_set 50 = .ok (.invokevirtual 109, 3) := by decide +kernel
theorem d_X6_set_58 : decode cX6_set 58 = .ok (.invokevirtual 89, 3) := by decide +kernel
theorem d_X6_set_65 : decode cX6_set 65 = .ok (.ireturn, 1) := by decide +kernel
theorem d_X6_set_72 : decode cX6_set 72 = .ok (.invokevirtual 113, 3) := by decide +kernel
theorem d_X6_set_78 : decode cX6_set 78 = .ok (.ireturn, 1) := by decide +kernel
theorem d_X6_size_8 : decode cX6_size 8 = .ok (.invokevirtual 96, 3) := by decide +kernel
theorem d_X6_size_12 : decode cX6_size 12 = .ok (.invokevirtual 92, 3) := by decide +kernel
theorem d_X6_size_33 : decode cX6_size 33 = .ok (.invokevirtual 81, 3) := by decide +kernel
theorem d_X6_size_36 : decode cX6_size 36 = .ok (.ireturn, 1) := by decide +kernel
theorem d_X6_sizeOf_25 : decode cX6_sizeOf 25 = .ok (.ireturn, 1) := by decide +kernel
theorem d_X6_sizeOf_74 : decode cX6_sizeOf 74 = .ok (.ireturn, 1) := by decide +kernel
theorem d_X6_slide_8 : decode cX6_slide 8 = .ok (.invokevirtual 96, 3) := by decide +kernel
theorem d_X6_slide_16 : decode cX6_slide 16 = .ok (.invokevirtual 74, 3) := by decide +kernel
theorem d_X6_slide_28 : decode cX6_slide 28 = .ok (.invokevirtual 92, 3) := by decide +kernel
theorem d_X6_slide_38 : decode cX6_slide 38 = .ok (.invokestatic 70, 3) := by decide +kernel
theorem d_X6_slide_49 : decode cX6_slide 49 = .ok (.invokevirtual 81, 3) := by decide +kernel
theorem d_X6_slide_55 : decode cX6_slide 55 = .ok (.invokevirtual 81, 3) := by decide +kernel
theorem d_X6_slide_58 : decode cX6_slide 58 = .ok (.invokevirtual 154, 3) := by decide +kernel
theorem d_X6_slide_66 : decode cX6_slide 66 = .ok (.invokevirtual 157, 3) := by decide +kernel
theorem d_X6_slide_79 : decode cX6_slide 79 = .ok (.invokevirtual 92, 3) := by decide +kernel
theorem d_X6_slide_86 : decode cX6_slide 86 = .ok (.ireturn, 1) := by decide +kernel
theorem d_X6_slide_125 : decode cX6_slide 125 = .ok (.invokevirtual 150, 3) := by decide +kernel
theorem d_X6_slide_139 : decode cX6_slide 139 = .ok (.invokevirtual 109, 3) := by decide +kernel
theorem d_X6_slide_157 : decode cX6_slide 157 = .ok (.invokevirtual 113, 3) := by decide +kernel
theorem d_X6_slide_177 : decode cX6_slide 177 = .ok (.ireturn, 1) := by decide +kernel
theorem d_X6_sum_8 : decode cX6_sum 8 = .ok (.invokevirtual 96, 3) := by decide +kernel
theorem d_X6_sum_18 : decode cX6_sum 18 = .ok (.invokevirtual 103, 3) := by decide +kernel
theorem d_X6_sum_30 : decode cX6_sum 30 = .ok (.invokevirtual 92, 3) := by decide +kernel
theorem d_X6_sum_42 : decode cX6_sum 42 = .ok (.invokestatic 70, 3) := by decide +kernel
theorem d_X6_sum_54 : decode cX6_sum 54 = .ok (.invokevirtual 92, 3) := by decide +kernel
theorem d_X6_sum_70 : decode cX6_sum 70 = .ok (.invokevirtual 150, 3) := by decide +kernel
theorem d_X6_sum_73 : decode cX6_sum 73 = .ok (.lreturn, 1) := by decide +kernel
theorem d_X6_thrown_4 : decode cX6_thrown 4 = .ok (.ireturn, 1) := by decide +kernel
theorem d_X6_throwsIf_10 : decode cX6_throwsIf 10 = .ok (.ireturn, 1) := by decide +kernel
theorem d_X6_view_8 : decode cX6_view 8 = .ok (.invokevirtual 96, 3) := by decide +kernel
theorem d_X6_view_12 : decode cX6_view 12 = .ok (.invokevirtual 92, 3) := by decide +kernel
theorem d_X6_view_27 : decode cX6_view 27 = .ok (.invokevirtual 99, 3) := by decide +kernel
theorem d_X6_view_37 : decode cX6_view 37 = .ok (.invokestatic 70, 3) := by decide +kernel
theorem d_X6_view_49 : decode cX6_view 49 = .ok (.invokevirtual 92, 3) := by decide +kernel
theorem d_X6_view_71 : decode cX6_view 71 = .ok (.invokevirtual 92, 3) := by decide +kernel
theorem d_X6_view_78 : decode cX6_view 78 = .ok (.ireturn, 1) := by decide +kernel
theorem d_X6_view_169 : decode cX6_view 169 = .ok (.ireturn, 1) := by decide +kernel
theorem d_X6_was_8 : decode cX6_was 8 = .ok (.invokevirtual 74, 3) := by decide +kernel
theorem d_X6_was_17 : decode cX6_was 17 = .ok (.invokevirtual 129, 3) := by decide +kernel
theorem d_X6_was_28 : decode cX6_was 28 = .ok (.invokevirtual 103, 3) := by decide +kernel
theorem d_X6_was_40 : decode cX6_was 40 = .ok (.invokevirtual 92, 3) := by decide +kernel
theorem d_X6_was_47 : decode cX6_was 47 = .ok (.ireturn, 1) := by decide +kernel
theorem d_X6_was_64 : decode cX6_was 64 = .ok (.invokestatic 126, 3) := by decide +kernel
theorem d_X6_was_80 : decode cX6_was 80 = .ok (.invokevirtual 92, 3) := by decide +kernel
theorem d_X6_was_96 : decode cX6_was 96 = .ok (.invokestatic 126, 3) := by decide +kernel
theorem d_X6_was_103 : decode cX6_was 103 = .ok (.ireturn, 1) := by decide +kernel
theorem d_X6_writes_2 : decode cX6_writes 2 = .ok (.invokevirtual 89, 3) := by decide +kernel
theorem d_X6_writes_9 : decode cX6_writes 9 = .ok (.ireturn, 1) := by decide +kernel
theorem d_X6_writes_73 : decode cX6_writes 73 = .ok (.ireturn, 1) := by decide +kernel
