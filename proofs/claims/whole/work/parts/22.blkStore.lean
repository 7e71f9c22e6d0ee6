def k_X5_allLayers_0 : List En := [(.iconst 0, 1, 0, 0, 0, 0, .int), (.istore_n 1, 1, 0, 0, 0, 1, .int), (.iconst 0, 1, 0, 0, 0, 0, .int), (.istore_n 2, 1, 0, 0, 0, 2, .int)]
theorem b_X5_allLayers_0 : isAt "GridStore" 3 false cX5_allLayers 0 k_X5_allLayers_0 = true := by decide +kernel
def k_X5_allLayers_4 : List En := [(.iload_n 2, 1, 0, 0, 0, 2, .int), (.aload_n 0, 1, 0, 0, 0, 0, .int), (.getfield 25, 3, 0, 0, 5, 2, (.array (.object "GridStore$Window"))), (.arraylength, 1, 0, 0, 0, 0, .int), (.if_icmp .ge 33, 3, 43, 0, 0, 0, .int), (.aload_n 0, 1, 0, 0, 0, 0, .int), (.getfield 25, 3, 0, 0, 5, 2, (.array (.object "GridStore$Window"))), (.iload_n 2, 1, 0, 0, 0, 2, .int), (.aaload, 1, 0, 0, 4, 0, .int), (.ifnull 18, 3, 37, 0, 0, 0, .int), (.iload_n 1, 1, 0, 0, 0, 1, .int), (.aload_n 0, 1, 0, 0, 0, 0, .int), (.getfield 25, 3, 0, 0, 5, 2, (.array (.object "GridStore$Window"))), (.iload_n 2, 1, 0, 0, 0, 2, .int), (.aaload, 1, 0, 0, 4, 0, .int), (.getfield 152, 3, 0, 0, 4, 0, (.object "GridStore$Grid")), (.getfield 208, 3, 0, 0, 1, 5, .int), (.iadd, 1, 0, 0, 0, 0, .int), (.istore_n 1, 1, 0, 0, 0, 1, .int)]
theorem b_X5_allLayers_4 : isAt "GridStore" 3 false cX5_allLayers 4 k_X5_allLayers_4 = true := by decide +kernel
def k_X5_allLayers_37 : List En := [(.iinc 2 1, 3, 0, 1, 0, 2, .int), (.goto (-36), 3, 4, 0, 0, 0, .int)]
theorem b_X5_allLayers_37 : isAt "GridStore" 3 false cX5_allLayers 37 k_X5_allLayers_37 = true := by decide +kernel
def k_X5_allLayers_43 : List En := [(.iload_n 1, 1, 0, 0, 0, 1, .int)]
theorem b_X5_allLayers_43 : isAt "GridStore" 3 false cX5_allLayers 43 k_X5_allLayers_43 = true := by decide +kernel
def k_X5_allNumbers_0 : List En := [(.iconst 0, 1, 0, 0, 0, 0, .int), (.istore_n 1, 1, 0, 0, 0, 1, .int), (.iconst 0, 1, 0, 0, 0, 0, .int), (.istore_n 2, 1, 0, 0, 0, 2, .int)]
theorem b_X5_allNumbers_0 : isAt "GridStore" 3 false cX5_allNumbers 0 k_X5_allNumbers_0 = true := by decide +kernel
def k_X5_allNumbers_4 : List En := [(.iload_n 2, 1, 0, 0, 0, 2, .int), (.aload_n 0, 1, 0, 0, 0, 0, .int), (.getfield 25, 3, 0, 0, 5, 2, (.array (.object "GridStore$Window"))), (.arraylength, 1, 0, 0, 0, 0, .int), (.if_icmp .ge 36, 3, 46, 0, 0, 0, .int), (.aload_n 0, 1, 0, 0, 0, 0, .int), (.getfield 25, 3, 0, 0, 5, 2, (.array (.object "GridStore$Window"))), (.iload_n 2, 1, 0, 0, 0, 2, .int), (.aaload, 1, 0, 0, 4, 0, .int), (.ifnull 21, 3, 40, 0, 0, 0, .int), (.iload_n 1, 1, 0, 0, 0, 1, .int), (.aload_n 0, 1, 0, 0, 0, 0, .int), (.getfield 25, 3, 0, 0, 5, 2, (.array (.object "GridStore$Window"))), (.iload_n 2, 1, 0, 0, 0, 2, .int), (.aaload, 1, 0, 0, 4, 0, .int), (.getfield 152, 3, 0, 0, 4, 0, (.object "GridStore$Grid")), (.getfield 140, 3, 0, 0, 1, 3, (.object "GridStore$Cells"))]
theorem b_X5_allNumbers_4 : isAt "GridStore" 3 false cX5_allNumbers 4 k_X5_allNumbers_4 = true := by decide +kernel
def k_X5_allNumbers_38 : List En := [(.iadd, 1, 0, 0, 0, 0, .int), (.istore_n 1, 1, 0, 0, 0, 1, .int)]
theorem b_X5_allNumbers_38 : isAt "GridStore" 3 false cX5_allNumbers 38 k_X5_allNumbers_38 = true := by decide +kernel
def k_X5_allNumbers_40 : List En := [(.iinc 2 1, 3, 0, 1, 0, 2, .int), (.goto (-39), 3, 4, 0, 0, 0, .int)]
theorem b_X5_allNumbers_40 : isAt "GridStore" 3 false cX5_allNumbers 40 k_X5_allNumbers_40 = true := by decide +kernel
def k_X5_allNumbers_46 : List En := [(.iload_n 1, 1, 0, 0, 0, 1, .int)]
theorem b_X5_allNumbers_46 : isAt "GridStore" 3 false cX5_allNumbers 46 k_X5_allNumbers_46 = true := by decide +kernel
def k_X5_allPieces_0 : List En := [(.iconst 0, 1, 0, 0, 0, 0, .int), (.istore_n 2, 1, 0, 0, 0, 2, .int), (.iconst 0, 1, 0, 0, 0, 0, .int), (.istore_n 3, 1, 0, 0, 0, 3, .int)]
theorem b_X5_allPieces_0 : isAt "GridStore" 4 false cX5_allPieces 0 k_X5_allPieces_0 = true := by decide +kernel
def k_X5_allPieces_4 : List En := [(.iload_n 3, 1, 0, 0, 0, 3, .int), (.aload_n 0, 1, 0, 0, 0, 0, .int), (.getfield 25, 3, 0, 0, 5, 2, (.array (.object "GridStore$Window"))), (.arraylength, 1, 0, 0, 0, 0, .int), (.if_icmp .ge 34, 3, 44, 0, 0, 0, .int), (.aload_n 0, 1, 0, 0, 0, 0, .int), (.getfield 25, 3, 0, 0, 5, 2, (.array (.object "GridStore$Window"))), (.iload_n 3, 1, 0, 0, 0, 3, .int), (.aaload, 1, 0, 0, 4, 0, .int), (.ifnull 19, 3, 38, 0, 0, 0, .int), (.iload_n 2, 1, 0, 0, 0, 2, .int), (.aload_n 0, 1, 0, 0, 0, 0, .int), (.getfield 25, 3, 0, 0, 5, 2, (.array (.object "GridStore$Window"))), (.iload_n 3, 1, 0, 0, 0, 3, .int), (.aaload, 1, 0, 0, 4, 0, .int), (.getfield 152, 3, 0, 0, 4, 0, (.object "GridStore$Grid")), (.iload_n 1, 1, 0, 0, 0, 1, .int)]
theorem b_X5_allPieces_4 : isAt "GridStore" 4 false cX5_allPieces 4 k_X5_allPieces_4 = true := by decide +kernel
def k_X5_allPieces_36 : List En := [(.iadd, 1, 0, 0, 0, 0, .int), (.istore_n 2, 1, 0, 0, 0, 2, .int)]
theorem b_X5_allPieces_36 : isAt "GridStore" 4 false cX5_allPieces 36 k_X5_allPieces_36 = true := by decide +kernel
def k_X5_allPieces_38 : List En := [(.iinc 3 1, 3, 0, 1, 0, 3, .int), (.goto (-37), 3, 4, 0, 0, 0, .int)]
theorem b_X5_allPieces_38 : isAt "GridStore" 4 false cX5_allPieces 38 k_X5_allPieces_38 = true := by decide +kernel
def k_X5_allPieces_44 : List En := [(.iload_n 2, 1, 0, 0, 0, 2, .int)]
theorem b_X5_allPieces_44 : isAt "GridStore" 4 false cX5_allPieces 44 k_X5_allPieces_44 = true := by decide +kernel
def k_X5_back_0 : List En := [(.aload_n 0, 1, 0, 0, 0, 0, .int), (.iload_n 1, 1, 0, 0, 0, 1, .int)]
theorem b_X5_back_0 : isAt "GridStore" 4 false cX5_back 0 k_X5_back_0 = true := by decide +kernel
def k_X5_back_5 : List En := [(.astore_n 3, 1, 0, 0, 0, 3, .int), (.aload_n 3, 1, 0, 0, 0, 3, .int), (.aload_n 3, 1, 0, 0, 0, 3, .int), (.iload_n 2, 1, 0, 0, 0, 2, .int)]
theorem b_X5_back_5 : isAt "GridStore" 4 false cX5_back 5 k_X5_back_5 = true := by decide +kernel
def k_X5_close_0 : List En := [(.iload_n 1, 1, 0, 0, 0, 1, .int), (.ifCond .lt 21, 3, 22, 0, 0, 0, .int), (.iload_n 1, 1, 0, 0, 0, 1, .int), (.aload_n 0, 1, 0, 0, 0, 0, .int), (.getfield 29, 3, 0, 0, 5, 3, (.array (.object "GridStore$Window"))), (.arraylength, 1, 0, 0, 0, 0, .int), (.if_icmp .ge 12, 3, 22, 0, 0, 0, .int), (.aload_n 0, 1, 0, 0, 0, 0, .int), (.getfield 29, 3, 0, 0, 5, 3, (.array (.object "GridStore$Window"))), (.iload_n 1, 1, 0, 0, 0, 1, .int), (.aaload, 1, 0, 0, 4, 0, .int), (.goto 4, 3, 23, 0, 0, 0, .int)]
theorem b_X5_close_0 : isAt "GridStore" 5 false cX5_close 0 k_X5_close_0 = true := by decide +kernel
def k_X5_close_22 : List En := [(.aconst_null, 1, 0, 0, 0, 0, .int)]
theorem b_X5_close_22 : isAt "GridStore" 5 false cX5_close 22 k_X5_close_22 = true := by decide +kernel
def k_X5_close_23 : List En := [(.astore_n 3, 1, 0, 0, 0, 3, .int), (.aload_n 3, 1, 0, 0, 0, 3, .int), (.ifnonnull 11, 3, 36, 0, 0, 0, .int)]
theorem b_X5_close_23 : isAt "GridStore" 5 false cX5_close 23 k_X5_close_23 = true := by decide +kernel
def k_X5_close_31 : List En := [(.dup, 1, 0, 0, 0, 0, .int)]
theorem b_X5_close_31 : isAt "GridStore" 5 false cX5_close 31 k_X5_close_31 = true := by decide +kernel
def k_X5_close_36 : List En := [(.aload_n 3, 1, 0, 0, 0, 3, .int), (.getfield 74, 3, 0, 0, 4, 9, .boolean), (.iload_n 2, 1, 0, 0, 0, 2, .int), (.if_icmp .eq 7, 3, 48, 0, 0, 0, .int), (.iconst 1, 1, 0, 1, 0, 0, .int), (.goto 4, 3, 49, 0, 0, 0, .int)]
theorem b_X5_close_36 : isAt "GridStore" 5 false cX5_close 36 k_X5_close_36 = true := by decide +kernel
def k_X5_close_48 : List En := [(.iconst 0, 1, 0, 0, 0, 0, .int)]
theorem b_X5_close_48 : isAt "GridStore" 5 false cX5_close 48 k_X5_close_48 = true := by decide +kernel
def k_X5_close_49 : List En := [(.istore 4, 2, 0, 0, 0, 4, .int), (.aload_n 3, 1, 0, 0, 0, 3, .int), (.iload_n 2, 1, 0, 0, 0, 2, .int), (.putfield 74, 3, 0, 0, 4, 9, .boolean), (.iload 4, 2, 0, 0, 0, 4, .int)]
theorem b_X5_close_49 : isAt "GridStore" 5 false cX5_close 49 k_X5_close_49 = true := by decide +kernel
def k_X5_coarse_0 : List En := [(.aload_n 0, 1, 0, 0, 0, 0, .int), (.iload_n 1, 1, 0, 0, 0, 1, .int)]
theorem b_X5_coarse_0 : isAt "GridStore" 9 false cX5_coarse 0 k_X5_coarse_0 = true := by decide +kernel
def k_X5_coarse_5 : List En := [(.astore 4, 2, 0, 0, 0, 4, .int), (.aload_n 0, 1, 0, 0, 0, 0, .int), (.iload_n 3, 1, 0, 0, 0, 3, .int)]
theorem b_X5_coarse_5 : isAt "GridStore" 9 false cX5_coarse 5 k_X5_coarse_5 = true := by decide +kernel
def k_X5_coarse_12 : List En := [(.astore 5, 2, 0, 0, 0, 5, .int), (.iload_n 2, 1, 0, 0, 0, 2, .int), (.iconst 2, 1, 0, 2, 0, 0, .int), (.if_icmp .lt 9, 3, 25, 0, 0, 0, .int), (.iload_n 2, 1, 0, 0, 0, 2, .int), (.bipush 8, 2, 0, 8, 0, 0, .int), (.if_icmp .le 11, 3, 33, 0, 0, 0, .int)]
theorem b_X5_coarse_12 : isAt "GridStore" 9 false cX5_coarse 12 k_X5_coarse_12 = true := by decide +kernel
def k_X5_coarse_28 : List En := [(.dup, 1, 0, 0, 0, 0, .int)]
theorem b_X5_coarse_28 : isAt "GridStore" 9 false cX5_coarse 28 k_X5_coarse_28 = true := by decide +kernel
def k_X5_coarse_33 : List En := [(.aload 4, 2, 0, 0, 0, 4, .int), (.aload 4, 2, 0, 0, 0, 4, .int), (.getfield 81, 3, 0, 0, 4, 1, .int), (.iload_n 2, 1, 0, 0, 0, 2, .int), (.iadd, 1, 0, 0, 0, 0, .int), (.iconst 1, 1, 0, 1, 0, 0, .int), (.isub, 1, 0, 0, 0, 0, .int), (.iload_n 2, 1, 0, 0, 0, 2, .int), (.idiv, 1, 0, 0, 0, 0, .int), (.aload 4, 2, 0, 0, 0, 4, .int), (.getfield 78, 3, 0, 0, 4, 2, .int), (.iload_n 2, 1, 0, 0, 0, 2, .int), (.iadd, 1, 0, 0, 0, 0, .int), (.iconst 1, 1, 0, 1, 0, 0, .int), (.isub, 1, 0, 0, 0, 0, .int), (.iload_n 2, 1, 0, 0, 0, 2, .int), (.idiv, 1, 0, 0, 0, 0, .int), (.aload 5, 2, 0, 0, 0, 5, .int)]
theorem b_X5_coarse_33 : isAt "GridStore" 9 false cX5_coarse 33 k_X5_coarse_33 = true := by decide +kernel
def k_X5_coarse_62 : List En := [(.aload_n 0, 1, 0, 0, 0, 0, .int), (.getfield 19, 3, 0, 0, 5, 1, (.object "GridStore$Totals")), (.aload 4, 2, 0, 0, 0, 4, .int)]
theorem b_X5_coarse_62 : isAt "GridStore" 9 false cX5_coarse 62 k_X5_coarse_62 = true := by decide +kernel
def k_X5_coarse_71 : List En := [(.iconst 0, 1, 0, 0, 0, 0, .int), (.istore 6, 2, 0, 0, 0, 6, .int), (.iconst 0, 1, 0, 0, 0, 0, .int), (.istore 7, 2, 0, 0, 0, 7, .int)]
theorem b_X5_coarse_71 : isAt "GridStore" 9 false cX5_coarse 71 k_X5_coarse_71 = true := by decide +kernel
def k_X5_coarse_77 : List En := [(.iload 7, 2, 0, 0, 0, 7, .int), (.aload 5, 2, 0, 0, 0, 5, .int), (.getfield 179, 3, 0, 0, 1, 1, .int), (.if_icmp .ge 73, 3, 157, 0, 0, 0, .int), (.iconst 0, 1, 0, 0, 0, 0, .int), (.istore 8, 2, 0, 0, 0, 8, .int)]
theorem b_X5_coarse_77 : isAt "GridStore" 9 false cX5_coarse 77 k_X5_coarse_77 = true := by decide +kernel
def k_X5_coarse_90 : List En := [(.iload 8, 2, 0, 0, 0, 8, .int), (.aload 5, 2, 0, 0, 0, 5, .int), (.getfield 180, 3, 0, 0, 1, 0, .int), (.if_icmp .ge 54, 3, 151, 0, 0, 0, .int), (.iload 6, 2, 0, 0, 0, 6, .int), (.aload 5, 2, 0, 0, 0, 5, .int), (.iload 8, 2, 0, 0, 0, 8, .int), (.iload 7, 2, 0, 0, 0, 7, .int), (.aload_n 0, 1, 0, 0, 0, 0, .int), (.getfield 19, 3, 0, 0, 5, 1, (.object "GridStore$Totals")), (.iload 8, 2, 0, 0, 0, 8, .int), (.iload_n 2, 1, 0, 0, 0, 2, .int), (.imul, 1, 0, 0, 0, 0, .int), (.iload 7, 2, 0, 0, 0, 7, .int), (.iload_n 2, 1, 0, 0, 0, 2, .int), (.imul, 1, 0, 0, 0, 0, .int), (.iload 8, 2, 0, 0, 0, 8, .int), (.iload_n 2, 1, 0, 0, 0, 2, .int), (.imul, 1, 0, 0, 0, 0, .int), (.iload_n 2, 1, 0, 0, 0, 2, .int), (.iadd, 1, 0, 0, 0, 0, .int), (.iconst 1, 1, 0, 1, 0, 0, .int), (.isub, 1, 0, 0, 0, 0, .int), (.iload 7, 2, 0, 0, 0, 7, .int), (.iload_n 2, 1, 0, 0, 0, 2, .int), (.imul, 1, 0, 0, 0, 0, .int), (.iload_n 2, 1, 0, 0, 0, 2, .int), (.iadd, 1, 0, 0, 0, 0, .int), (.iconst 1, 1, 0, 1, 0, 0, .int), (.isub, 1, 0, 0, 0, 0, .int)]
theorem b_X5_coarse_90 : isAt "GridStore" 9 false cX5_coarse 90 k_X5_coarse_90 = true := by decide +kernel
def k_X5_coarse_142 : List En := [(.iadd, 1, 0, 0, 0, 0, .int), (.istore 6, 2, 0, 0, 0, 6, .int), (.iinc 8 1, 3, 0, 1, 0, 8, .int), (.goto (-58), 3, 90, 0, 0, 0, .int)]
theorem b_X5_coarse_142 : isAt "GridStore" 9 false cX5_coarse 142 k_X5_coarse_142 = true := by decide +kernel
def k_X5_coarse_151 : List En := [(.iinc 7 1, 3, 0, 1, 0, 7, .int), (.goto (-77), 3, 77, 0, 0, 0, .int)]
theorem b_X5_coarse_151 : isAt "GridStore" 9 false cX5_coarse 151 k_X5_coarse_151 = true := by decide +kernel
def k_X5_coarse_157 : List En := [(.iload 6, 2, 0, 0, 0, 6, .int)]
theorem b_X5_coarse_157 : isAt "GridStore" 9 false cX5_coarse 157 k_X5_coarse_157 = true := by decide +kernel
def k_X5_count_0 : List En := [(.iload_n 1, 1, 0, 0, 0, 1, .int)]
theorem b_X5_count_0 : isAt "GridStore" 2 false cX5_count 0 k_X5_count_0 = true := by decide +kernel
def k_X5_count_52 : List En := [(.aload_n 0, 1, 0, 0, 0, 0, .int), (.getfield 32, 3, 0, 0, 5, 4, .int)]
theorem b_X5_count_52 : isAt "GridStore" 2 false cX5_count 52 k_X5_count_52 = true := by decide +kernel
def k_X5_count_57 : List En := [(.aload_n 0, 1, 0, 0, 0, 0, .int), (.getfield 36, 3, 0, 0, 5, 5, .int)]
theorem b_X5_count_57 : isAt "GridStore" 2 false cX5_count 57 k_X5_count_57 = true := by decide +kernel
def k_X5_count_62 : List En := [(.aload_n 0, 1, 0, 0, 0, 0, .int)]
theorem b_X5_count_62 : isAt "GridStore" 2 false cX5_count 62 k_X5_count_62 = true := by decide +kernel
def k_X5_count_67 : List En := [(.aload_n 0, 1, 0, 0, 0, 0, .int), (.getfield 10, 3, 0, 0, 5, 0, (.object "GridStore$Hosts"))]
theorem b_X5_count_67 : isAt "GridStore" 2 false cX5_count 67 k_X5_count_67 = true := by decide +kernel
def k_X5_count_75 : List En := [(.aload_n 0, 1, 0, 0, 0, 0, .int)]
theorem b_X5_count_75 : isAt "GridStore" 2 false cX5_count 75 k_X5_count_75 = true := by decide +kernel
def k_X5_count_80 : List En := [(.aload_n 0, 1, 0, 0, 0, 0, .int), (.iconst 0, 1, 0, 0, 0, 0, .int)]
theorem b_X5_count_80 : isAt "GridStore" 2 false cX5_count 80 k_X5_count_80 = true := by decide +kernel
def k_X5_count_86 : List En := [(.aload_n 0, 1, 0, 0, 0, 0, .int), (.iconst 1, 1, 0, 1, 0, 0, .int)]
theorem b_X5_count_86 : isAt "GridStore" 2 false cX5_count 86 k_X5_count_86 = true := by decide +kernel
def k_X5_count_92 : List En := [(.aload_n 0, 1, 0, 0, 0, 0, .int), (.iconst 2, 1, 0, 2, 0, 0, .int)]
theorem b_X5_count_92 : isAt "GridStore" 2 false cX5_count 92 k_X5_count_92 = true := by decide +kernel
def k_X5_count_98 : List En := [(.aload_n 0, 1, 0, 0, 0, 0, .int), (.iconst 3, 1, 0, 3, 0, 0, .int)]
theorem b_X5_count_98 : isAt "GridStore" 2 false cX5_count 98 k_X5_count_98 = true := by decide +kernel
def k_X5_count_104 : List En := [(.iconst (-1), 1, 0, (-1), 0, 0, .int)]
theorem b_X5_count_104 : isAt "GridStore" 2 false cX5_count 104 k_X5_count_104 = true := by decide +kernel
def k_X5_differ_0 : List En := [(.aload_n 0, 1, 0, 0, 0, 0, .int), (.iload_n 1, 1, 0, 0, 0, 1, .int)]
theorem b_X5_differ_0 : isAt "GridStore" 7 false cX5_differ 0 k_X5_differ_0 = true := by decide +kernel
def k_X5_differ_5 : List En := [(.astore 4, 2, 0, 0, 0, 4, .int), (.iload_n 2, 1, 0, 0, 0, 2, .int), (.iconst (-1), 1, 0, (-1), 0, 0, .int), (.if_icmp .ne 11, 3, 20, 0, 0, 0, .int), (.aload 4, 2, 0, 0, 0, 4, .int), (.getfield 140, 3, 0, 0, 1, 3, (.object "GridStore$Cells")), (.goto 9, 3, 26, 0, 0, 0, .int)]
theorem b_X5_differ_5 : isAt "GridStore" 7 false cX5_differ 5 k_X5_differ_5 = true := by decide +kernel
def k_X5_differ_20 : List En := [(.aload 4, 2, 0, 0, 0, 4, .int), (.iload_n 2, 1, 0, 0, 0, 2, .int)]
theorem b_X5_differ_20 : isAt "GridStore" 7 false cX5_differ 20 k_X5_differ_20 = true := by decide +kernel
def k_X5_differ_26 : List En := [(.astore 5, 2, 0, 0, 0, 5, .int), (.iload_n 3, 1, 0, 0, 0, 3, .int), (.iconst (-1), 1, 0, (-1), 0, 0, .int), (.if_icmp .ne 11, 3, 41, 0, 0, 0, .int), (.aload 4, 2, 0, 0, 0, 4, .int), (.getfield 140, 3, 0, 0, 1, 3, (.object "GridStore$Cells")), (.goto 9, 3, 47, 0, 0, 0, .int)]
theorem b_X5_differ_26 : isAt "GridStore" 7 false cX5_differ 26 k_X5_differ_26 = true := by decide +kernel
def k_X5_differ_41 : List En := [(.aload 4, 2, 0, 0, 0, 4, .int), (.iload_n 3, 1, 0, 0, 0, 3, .int)]
theorem b_X5_differ_41 : isAt "GridStore" 7 false cX5_differ 41 k_X5_differ_41 = true := by decide +kernel
def k_X5_differ_47 : List En := [(.astore 6, 2, 0, 0, 0, 6, .int), (.aload 4, 2, 0, 0, 0, 4, .int), (.aload 5, 2, 0, 0, 0, 5, .int), (.aload 6, 2, 0, 0, 0, 6, .int)]
theorem b_X5_differ_47 : isAt "GridStore" 7 false cX5_differ 47 k_X5_differ_47 = true := by decide +kernel
def k_X5_dig_0 : List En := [(.aload_n 0, 1, 0, 0, 0, 0, .int), (.iload_n 1, 1, 0, 0, 0, 1, .int)]
theorem b_X5_dig_0 : isAt "GridStore" 5 false cX5_dig 0 k_X5_dig_0 = true := by decide +kernel
def k_X5_dig_5 : List En := [(.astore 4, 2, 0, 0, 0, 4, .int), (.aload 4, 2, 0, 0, 0, 4, .int), (.iload_n 2, 1, 0, 0, 0, 2, .int), (.iload_n 3, 1, 0, 0, 0, 3, .int)]
theorem b_X5_dig_5 : isAt "GridStore" 5 false cX5_dig 5 k_X5_dig_5 = true := by decide +kernel
def k_X5_dig_14 : List En := [(.aload 4, 2, 0, 0, 0, 4, .int), (.iload_n 2, 1, 0, 0, 0, 2, .int), (.iload_n 3, 1, 0, 0, 0, 3, .int), (.ldc2_w 96, 3, 0, 0, 0, 0, .int)]
theorem b_X5_dig_14 : isAt "GridStore" 5 false cX5_dig 14 k_X5_dig_14 = true := by decide +kernel
def k_X5_dig_24 : List En := [(.iconst 1, 1, 0, 1, 0, 0, .int), (.if_icmp .ne 7, 3, 32, 0, 0, 0, .int), (.iconst 1, 1, 0, 1, 0, 0, .int), (.goto 4, 3, 33, 0, 0, 0, .int)]
theorem b_X5_dig_24 : isAt "GridStore" 5 false cX5_dig 24 k_X5_dig_24 = true := by decide +kernel
def k_X5_dig_32 : List En := [(.iconst 0, 1, 0, 0, 0, 0, .int)]
theorem b_X5_dig_32 : isAt "GridStore" 5 false cX5_dig 32 k_X5_dig_32 = true := by decide +kernel
def k_X5_eitherOf_0 : List En := [(.lload_n 0, 1, 0, 0, 0, 0, .int), (.ldc2_w 96, 3, 0, 0, 0, 0, .int), (.lcmp, 1, 0, 0, 0, 0, .int), (.ifCond .eq 7, 3, 12, 0, 0, 0, .int), (.lload_n 0, 1, 0, 0, 0, 0, .int), (.goto 4, 3, 13, 0, 0, 0, .int)]
theorem b_X5_eitherOf_0 : isAt "GridStore" 4 false cX5_eitherOf 0 k_X5_eitherOf_0 = true := by decide +kernel
def k_X5_eitherOf_12 : List En := [(.lload_n 2, 1, 0, 0, 0, 2, .int)]
theorem b_X5_eitherOf_12 : isAt "GridStore" 4 false cX5_eitherOf 12 k_X5_eitherOf_12 = true := by decide +kernel
def k_X5_fill_0 : List En := [(.aload_n 0, 1, 0, 0, 0, 0, .int), (.iload_n 1, 1, 0, 0, 0, 1, .int)]
theorem b_X5_fill_0 : isAt "GridStore" 11 false cX5_fill 0 k_X5_fill_0 = true := by decide +kernel
def k_X5_fill_5 : List En := [(.astore 7, 2, 0, 0, 0, 7, .int), (.aload 7, 2, 0, 0, 0, 7, .int), (.iload_n 2, 1, 0, 0, 0, 2, .int), (.iload_n 3, 1, 0, 0, 0, 3, .int), (.iload 4, 2, 0, 0, 0, 4, .int), (.iload 5, 2, 0, 0, 0, 5, .int)]
theorem b_X5_fill_5 : isAt "GridStore" 11 false cX5_fill 5 k_X5_fill_5 = true := by decide +kernel
def k_X5_fill_18 : List En := [(.iconst 0, 1, 0, 0, 0, 0, .int), (.istore 8, 2, 0, 0, 0, 8, .int), (.iload_n 3, 1, 0, 0, 0, 3, .int), (.istore 9, 2, 0, 0, 0, 9, .int)]
theorem b_X5_fill_18 : isAt "GridStore" 11 false cX5_fill 18 k_X5_fill_18 = true := by decide +kernel
def k_X5_fill_24 : List En := [(.iload 9, 2, 0, 0, 0, 9, .int), (.iload_n 3, 1, 0, 0, 0, 3, .int), (.iload 5, 2, 0, 0, 0, 5, .int), (.iadd, 1, 0, 0, 0, 0, .int), (.if_icmp .ge 44, 3, 74, 0, 0, 0, .int), (.iload_n 2, 1, 0, 0, 0, 2, .int), (.istore 10, 2, 0, 0, 0, 10, .int)]
theorem b_X5_fill_24 : isAt "GridStore" 11 false cX5_fill 24 k_X5_fill_24 = true := by decide +kernel
def k_X5_fill_36 : List En := [(.iload 10, 2, 0, 0, 0, 10, .int), (.iload_n 2, 1, 0, 0, 0, 2, .int), (.iload 4, 2, 0, 0, 0, 4, .int), (.iadd, 1, 0, 0, 0, 0, .int), (.if_icmp .ge 26, 3, 68, 0, 0, 0, .int), (.iload 8, 2, 0, 0, 0, 8, .int), (.aload 7, 2, 0, 0, 0, 7, .int), (.iload 10, 2, 0, 0, 0, 10, .int), (.iload 9, 2, 0, 0, 0, 9, .int), (.iload 6, 2, 0, 0, 0, 6, .int), (.i2l, 1, 0, 0, 0, 0, .int)]
theorem b_X5_fill_36 : isAt "GridStore" 11 false cX5_fill 36 k_X5_fill_36 = true := by decide +kernel
def k_X5_fill_59 : List En := [(.iadd, 1, 0, 0, 0, 0, .int), (.istore 8, 2, 0, 0, 0, 8, .int), (.iinc 10 1, 3, 0, 1, 0, 10, .int), (.goto (-29), 3, 36, 0, 0, 0, .int)]
theorem b_X5_fill_59 : isAt "GridStore" 11 false cX5_fill 59 k_X5_fill_59 = true := by decide +kernel
def k_X5_fill_68 : List En := [(.iinc 9 1, 3, 0, 1, 0, 9, .int), (.goto (-47), 3, 24, 0, 0, 0, .int)]
theorem b_X5_fill_68 : isAt "GridStore" 11 false cX5_fill 68 k_X5_fill_68 = true := by decide +kernel
def k_X5_fill_74 : List En := [(.iload 8, 2, 0, 0, 0, 8, .int)]
theorem b_X5_fill_74 : isAt "GridStore" 11 false cX5_fill 74 k_X5_fill_74 = true := by decide +kernel
def k_X5_find_0 : List En := [(.aload_n 0, 1, 0, 0, 0, 0, .int), (.iload_n 1, 1, 0, 0, 0, 1, .int)]
theorem b_X5_find_0 : isAt "GridStore" 8 false cX5_find 0 k_X5_find_0 = true := by decide +kernel
def k_X5_find_5 : List En := [(.astore_n 3, 1, 0, 0, 0, 3, .int), (.iconst 0, 1, 0, 0, 0, 0, .int), (.istore 4, 2, 0, 0, 0, 4, .int)]
theorem b_X5_find_5 : isAt "GridStore" 8 false cX5_find 5 k_X5_find_5 = true := by decide +kernel
def k_X5_find_9 : List En := [(.iload 4, 2, 0, 0, 0, 4, .int), (.aload_n 3, 1, 0, 0, 0, 3, .int), (.getfield 78, 3, 0, 0, 4, 2, .int), (.if_icmp .ge 63, 3, 78, 0, 0, 0, .int), (.iconst 0, 1, 0, 0, 0, 0, .int), (.istore 5, 2, 0, 0, 0, 5, .int)]
theorem b_X5_find_9 : isAt "GridStore" 8 false cX5_find 9 k_X5_find_9 = true := by decide +kernel
def k_X5_find_21 : List En := [(.iload 5, 2, 0, 0, 0, 5, .int), (.aload_n 3, 1, 0, 0, 0, 3, .int), (.getfield 81, 3, 0, 0, 4, 1, .int), (.if_icmp .ge 45, 3, 72, 0, 0, 0, .int), (.aload_n 3, 1, 0, 0, 0, 3, .int), (.iload 5, 2, 0, 0, 0, 5, .int), (.iload 4, 2, 0, 0, 0, 4, .int)]
theorem b_X5_find_21 : isAt "GridStore" 8 false cX5_find 21 k_X5_find_21 = true := by decide +kernel
def k_X5_find_38 : List En := [(.lstore 6, 2, 0, 0, 0, 6, .int), (.lload 6, 2, 0, 0, 0, 6, .int), (.ldc2_w 96, 3, 0, 0, 0, 0, .int), (.lcmp, 1, 0, 0, 0, 0, .int), (.ifCond .eq 20, 3, 66, 0, 0, 0, .int), (.lload 6, 2, 0, 0, 0, 6, .int), (.iload_n 2, 1, 0, 0, 0, 2, .int), (.i2l, 1, 0, 0, 0, 0, .int), (.lcmp, 1, 0, 0, 0, 0, .int), (.ifCond .lt 12, 3, 66, 0, 0, 0, .int), (.iload 5, 2, 0, 0, 0, 5, .int), (.bipush 100, 2, 0, 100, 0, 0, .int), (.iload 4, 2, 0, 0, 0, 4, .int), (.imul, 1, 0, 0, 0, 0, .int), (.iadd, 1, 0, 0, 0, 0, .int)]
theorem b_X5_find_38 : isAt "GridStore" 8 false cX5_find 38 k_X5_find_38 = true := by decide +kernel
def k_X5_find_66 : List En := [(.iinc 5 1, 3, 0, 1, 0, 5, .int), (.goto (-48), 3, 21, 0, 0, 0, .int)]
theorem b_X5_find_66 : isAt "GridStore" 8 false cX5_find 66 k_X5_find_66 = true := by decide +kernel
def k_X5_find_72 : List En := [(.iinc 4 1, 3, 0, 1, 0, 4, .int), (.goto (-66), 3, 9, 0, 0, 0, .int)]
theorem b_X5_find_72 : isAt "GridStore" 8 false cX5_find 72 k_X5_find_72 = true := by decide +kernel
def k_X5_find_78 : List En := [(.iconst (-1), 1, 0, (-1), 0, 0, .int)]
theorem b_X5_find_78 : isAt "GridStore" 8 false cX5_find 78 k_X5_find_78 = true := by decide +kernel
def k_X5_fold_0 : List En := [(.aload_n 0, 1, 0, 0, 0, 0, .int), (.iload_n 1, 1, 0, 0, 0, 1, .int)]
theorem b_X5_fold_0 : isAt "GridStore" 11 false cX5_fold 0 k_X5_fold_0 = true := by decide +kernel
def k_X5_fold_5 : List En := [(.astore 4, 2, 0, 0, 0, 4, .int), (.aload_n 0, 1, 0, 0, 0, 0, .int), (.iload_n 3, 1, 0, 0, 0, 3, .int)]
theorem b_X5_fold_5 : isAt "GridStore" 11 false cX5_fold 5 k_X5_fold_5 = true := by decide +kernel
def k_X5_fold_12 : List En := [(.astore 5, 2, 0, 0, 0, 5, .int), (.aload 4, 2, 0, 0, 0, 4, .int), (.iload_n 2, 1, 0, 0, 0, 2, .int), (.ifCond .eq 11, 3, 28, 0, 0, 0, .int), (.aload 4, 2, 0, 0, 0, 4, .int), (.getfield 81, 3, 0, 0, 4, 1, .int), (.goto 4, 3, 29, 0, 0, 0, .int)]
theorem b_X5_fold_12 : isAt "GridStore" 11 false cX5_fold 12 k_X5_fold_12 = true := by decide +kernel
def k_X5_fold_28 : List En := [(.iconst 1, 1, 0, 1, 0, 0, .int)]
theorem b_X5_fold_28 : isAt "GridStore" 11 false cX5_fold 28 k_X5_fold_28 = true := by decide +kernel
def k_X5_fold_29 : List En := [(.iload_n 2, 1, 0, 0, 0, 2, .int), (.ifCond .eq 7, 3, 37, 0, 0, 0, .int), (.iconst 1, 1, 0, 1, 0, 0, .int), (.goto 8, 3, 42, 0, 0, 0, .int)]
theorem b_X5_fold_29 : isAt "GridStore" 11 false cX5_fold 29 k_X5_fold_29 = true := by decide +kernel
def k_X5_fold_37 : List En := [(.aload 4, 2, 0, 0, 0, 4, .int), (.getfield 78, 3, 0, 0, 4, 2, .int)]
theorem b_X5_fold_37 : isAt "GridStore" 11 false cX5_fold 37 k_X5_fold_37 = true := by decide +kernel
def k_X5_fold_42 : List En := [(.aload 5, 2, 0, 0, 0, 5, .int)]
theorem b_X5_fold_42 : isAt "GridStore" 11 false cX5_fold 42 k_X5_fold_42 = true := by decide +kernel
def k_X5_fold_47 : List En := [(.iload_n 2, 1, 0, 0, 0, 2, .int), (.ifCond .eq 7, 3, 55, 0, 0, 0, .int), (.iconst 0, 1, 0, 0, 0, 0, .int), (.goto 10, 3, 62, 0, 0, 0, .int)]
theorem b_X5_fold_47 : isAt "GridStore" 11 false cX5_fold 47 k_X5_fold_47 = true := by decide +kernel
def k_X5_fold_55 : List En := [(.aload 4, 2, 0, 0, 0, 4, .int), (.getfield 81, 3, 0, 0, 4, 1, .int), (.iconst 1, 1, 0, 1, 0, 0, .int), (.isub, 1, 0, 0, 0, 0, .int)]
theorem b_X5_fold_55 : isAt "GridStore" 11 false cX5_fold 55 k_X5_fold_55 = true := by decide +kernel
def k_X5_fold_62 : List En := [(.istore 6, 2, 0, 0, 0, 6, .int), (.iload_n 2, 1, 0, 0, 0, 2, .int), (.ifCond .eq 13, 3, 78, 0, 0, 0, .int), (.aload 4, 2, 0, 0, 0, 4, .int), (.getfield 78, 3, 0, 0, 4, 2, .int), (.iconst 1, 1, 0, 1, 0, 0, .int), (.isub, 1, 0, 0, 0, 0, .int), (.goto 4, 3, 79, 0, 0, 0, .int)]
theorem b_X5_fold_62 : isAt "GridStore" 11 false cX5_fold 62 k_X5_fold_62 = true := by decide +kernel
def k_X5_fold_78 : List En := [(.iconst 0, 1, 0, 0, 0, 0, .int)]
theorem b_X5_fold_78 : isAt "GridStore" 11 false cX5_fold 78 k_X5_fold_78 = true := by decide +kernel
def k_X5_fold_79 : List En := [(.istore 7, 2, 0, 0, 0, 7, .int), (.aload_n 0, 1, 0, 0, 0, 0, .int), (.getfield 19, 3, 0, 0, 5, 1, (.object "GridStore$Totals")), (.aload 4, 2, 0, 0, 0, 4, .int)]
theorem b_X5_fold_79 : isAt "GridStore" 11 false cX5_fold 79 k_X5_fold_79 = true := by decide +kernel
def k_X5_fold_90 : List En := [(.iconst 0, 1, 0, 0, 0, 0, .int), (.istore 8, 2, 0, 0, 0, 8, .int), (.iconst 0, 1, 0, 0, 0, 0, .int), (.istore 9, 2, 0, 0, 0, 9, .int)]
theorem b_X5_fold_90 : isAt "GridStore" 11 false cX5_fold 90 k_X5_fold_90 = true := by decide +kernel
def k_X5_fold_96 : List En := [(.iload 9, 2, 0, 0, 0, 9, .int), (.aload 5, 2, 0, 0, 0, 5, .int), (.getfield 179, 3, 0, 0, 1, 1, .int), (.if_icmp .ge 63, 3, 166, 0, 0, 0, .int), (.iconst 0, 1, 0, 0, 0, 0, .int), (.istore 10, 2, 0, 0, 0, 10, .int)]
theorem b_X5_fold_96 : isAt "GridStore" 11 false cX5_fold 96 k_X5_fold_96 = true := by decide +kernel
def k_X5_fold_109 : List En := [(.iload 10, 2, 0, 0, 0, 10, .int), (.aload 5, 2, 0, 0, 0, 5, .int), (.getfield 180, 3, 0, 0, 1, 0, .int), (.if_icmp .ge 44, 3, 160, 0, 0, 0, .int), (.iload 8, 2, 0, 0, 0, 8, .int), (.aload 5, 2, 0, 0, 0, 5, .int), (.iload 10, 2, 0, 0, 0, 10, .int), (.iload 9, 2, 0, 0, 0, 9, .int), (.aload_n 0, 1, 0, 0, 0, 0, .int), (.getfield 19, 3, 0, 0, 5, 1, (.object "GridStore$Totals")), (.iload 10, 2, 0, 0, 0, 10, .int), (.iload 9, 2, 0, 0, 0, 9, .int), (.iload 10, 2, 0, 0, 0, 10, .int), (.iload 6, 2, 0, 0, 0, 6, .int), (.iadd, 1, 0, 0, 0, 0, .int), (.iload 9, 2, 0, 0, 0, 9, .int), (.iload 7, 2, 0, 0, 0, 7, .int), (.iadd, 1, 0, 0, 0, 0, .int)]
theorem b_X5_fold_109 : isAt "GridStore" 11 false cX5_fold 109 k_X5_fold_109 = true := by decide +kernel
def k_X5_fold_151 : List En := [(.iadd, 1, 0, 0, 0, 0, .int), (.istore 8, 2, 0, 0, 0, 8, .int), (.iinc 10 1, 3, 0, 1, 0, 10, .int), (.goto (-48), 3, 109, 0, 0, 0, .int)]
theorem b_X5_fold_151 : isAt "GridStore" 11 false cX5_fold 151 k_X5_fold_151 = true := by decide +kernel
def k_X5_fold_160 : List En := [(.iinc 9 1, 3, 0, 1, 0, 9, .int), (.goto (-67), 3, 96, 0, 0, 0, .int)]
theorem b_X5_fold_160 : isAt "GridStore" 11 false cX5_fold 160 k_X5_fold_160 = true := by decide +kernel
def k_X5_fold_166 : List En := [(.iload 8, 2, 0, 0, 0, 8, .int)]
theorem b_X5_fold_166 : isAt "GridStore" 11 false cX5_fold 166 k_X5_fold_166 = true := by decide +kernel
def k_X5_get_0 : List En := [(.aload_n 0, 1, 0, 0, 0, 0, .int), (.iload_n 1, 1, 0, 0, 0, 1, .int)]
theorem b_X5_get_0 : isAt "GridStore" 5 false cX5_get 0 k_X5_get_0 = true := by decide +kernel
def k_X5_get_5 : List En := [(.astore 4, 2, 0, 0, 0, 4, .int), (.aload 4, 2, 0, 0, 0, 4, .int), (.iload_n 2, 1, 0, 0, 0, 2, .int), (.iload_n 3, 1, 0, 0, 0, 3, .int)]
theorem b_X5_get_5 : isAt "GridStore" 5 false cX5_get 5 k_X5_get_5 = true := by decide +kernel
def k_X5_get_14 : List En := [(.aload 4, 2, 0, 0, 0, 4, .int), (.iload_n 2, 1, 0, 0, 0, 2, .int), (.iload_n 3, 1, 0, 0, 0, 3, .int)]
theorem b_X5_get_14 : isAt "GridStore" 5 false cX5_get 14 k_X5_get_14 = true := by decide +kernel
def k_X5_grid_0 : List En := [(.iload_n 1, 1, 0, 0, 0, 1, .int), (.iconst 1, 1, 0, 1, 0, 0, .int), (.if_icmp .lt 20, 3, 22, 0, 0, 0, .int), (.iload_n 1, 1, 0, 0, 0, 1, .int), (.bipush 48, 2, 0, 48, 0, 0, .int), (.if_icmp .gt 14, 3, 22, 0, 0, 0, .int), (.iload_n 2, 1, 0, 0, 0, 2, .int), (.iconst 1, 1, 0, 1, 0, 0, .int), (.if_icmp .lt 9, 3, 22, 0, 0, 0, .int), (.iload_n 2, 1, 0, 0, 0, 2, .int), (.bipush 40, 2, 0, 40, 0, 0, .int), (.if_icmp .le 11, 3, 30, 0, 0, 0, .int)]
theorem b_X5_grid_0 : isAt "GridStore" 4 false cX5_grid 0 k_X5_grid_0 = true := by decide +kernel
def k_X5_grid_25 : List En := [(.dup, 1, 0, 0, 0, 0, .int)]
theorem b_X5_grid_25 : isAt "GridStore" 4 false cX5_grid 25 k_X5_grid_25 = true := by decide +kernel
def k_X5_grid_30 : List En := [(.aload_n 0, 1, 0, 0, 0, 0, .int), (.getfield 32, 3, 0, 0, 5, 4, .int), (.istore_n 3, 1, 0, 0, 0, 3, .int), (.iload_n 3, 1, 0, 0, 0, 3, .int), (.ifCond .lt 12, 3, 48, 0, 0, 0, .int), (.iload_n 3, 1, 0, 0, 0, 3, .int), (.aload_n 0, 1, 0, 0, 0, 0, .int), (.getfield 25, 3, 0, 0, 5, 2, (.array (.object "GridStore$Window"))), (.arraylength, 1, 0, 0, 0, 0, .int), (.if_icmp .lt 11, 3, 56, 0, 0, 0, .int)]
theorem b_X5_grid_30 : isAt "GridStore" 4 false cX5_grid 30 k_X5_grid_30 = true := by decide +kernel
def k_X5_grid_51 : List En := [(.dup, 1, 0, 0, 0, 0, .int)]
theorem b_X5_grid_51 : isAt "GridStore" 4 false cX5_grid 51 k_X5_grid_51 = true := by decide +kernel
def k_X5_grid_56 : List En := [(.aload_n 0, 1, 0, 0, 0, 0, .int), (.getfield 25, 3, 0, 0, 5, 2, (.array (.object "GridStore$Window"))), (.iload_n 3, 1, 0, 0, 0, 3, .int)]
theorem b_X5_grid_56 : isAt "GridStore" 4 false cX5_grid 56 k_X5_grid_56 = true := by decide +kernel
def k_X5_grid_64 : List En := [(.dup, 1, 0, 0, 0, 0, .int)]
theorem b_X5_grid_64 : isAt "GridStore" 4 false cX5_grid 64 k_X5_grid_64 = true := by decide +kernel
def k_X5_grid_68 : List En := [(.dup, 1, 0, 0, 0, 0, .int), (.iload_n 1, 1, 0, 0, 0, 1, .int), (.iload_n 2, 1, 0, 0, 0, 2, .int), (.aload_n 0, 1, 0, 0, 0, 0, .int), (.getfield 10, 3, 0, 0, 5, 0, (.object "GridStore$Hosts"))]
theorem b_X5_grid_68 : isAt "GridStore" 4 false cX5_grid 68 k_X5_grid_68 = true := by decide +kernel
def k_X5_grid_81 : List En := [(.aastore, 1, 0, 0, 4, 0, .int), (.aload_n 0, 1, 0, 0, 0, 0, .int), (.dup, 1, 0, 0, 0, 0, .int), (.getfield 32, 3, 0, 0, 5, 4, .int), (.iconst 1, 1, 0, 1, 0, 0, .int), (.iadd, 1, 0, 0, 0, 0, .int), (.putfield 32, 3, 0, 0, 5, 4, .int), (.iload_n 3, 1, 0, 0, 0, 3, .int)]
theorem b_X5_grid_81 : isAt "GridStore" 4 false cX5_grid 81 k_X5_grid_81 = true := by decide +kernel
def k_X5_gridOf_0 : List En := [(.iload_n 1, 1, 0, 0, 0, 1, .int), (.ifCond .lt 21, 3, 22, 0, 0, 0, .int), (.iload_n 1, 1, 0, 0, 0, 1, .int), (.aload_n 0, 1, 0, 0, 0, 0, .int), (.getfield 25, 3, 0, 0, 5, 2, (.array (.object "GridStore$Window"))), (.arraylength, 1, 0, 0, 0, 0, .int), (.if_icmp .ge 12, 3, 22, 0, 0, 0, .int), (.aload_n 0, 1, 0, 0, 0, 0, .int), (.getfield 25, 3, 0, 0, 5, 2, (.array (.object "GridStore$Window"))), (.iload_n 1, 1, 0, 0, 0, 1, .int), (.aaload, 1, 0, 0, 4, 0, .int), (.goto 4, 3, 23, 0, 0, 0, .int)]
theorem b_X5_gridOf_0 : isAt "GridStore" 3 false cX5_gridOf 0 k_X5_gridOf_0 = true := by decide +kernel
def k_X5_gridOf_22 : List En := [(.aconst_null, 1, 0, 0, 0, 0, .int)]
theorem b_X5_gridOf_22 : isAt "GridStore" 3 false cX5_gridOf 22 k_X5_gridOf_22 = true := by decide +kernel
def k_X5_gridOf_23 : List En := [(.astore_n 2, 1, 0, 0, 0, 2, .int), (.aload_n 2, 1, 0, 0, 0, 2, .int), (.ifnonnull 11, 3, 36, 0, 0, 0, .int)]
theorem b_X5_gridOf_23 : isAt "GridStore" 3 false cX5_gridOf 23 k_X5_gridOf_23 = true := by decide +kernel
def k_X5_gridOf_31 : List En := [(.dup, 1, 0, 0, 0, 0, .int)]
theorem b_X5_gridOf_31 : isAt "GridStore" 3 false cX5_gridOf 31 k_X5_gridOf_31 = true := by decide +kernel
def k_X5_gridOf_36 : List En := [(.aload_n 2, 1, 0, 0, 0, 2, .int), (.getfield 152, 3, 0, 0, 4, 0, (.object "GridStore$Grid"))]
theorem b_X5_gridOf_36 : isAt "GridStore" 3 false cX5_gridOf 36 k_X5_gridOf_36 = true := by decide +kernel
def k_X5_hole_0 : List En := [(.aload_n 0, 1, 0, 0, 0, 0, .int), (.iload_n 1, 1, 0, 0, 0, 1, .int)]
theorem b_X5_hole_0 : isAt "GridStore" 5 false cX5_hole 0 k_X5_hole_0 = true := by decide +kernel
def k_X5_hole_5 : List En := [(.astore 4, 2, 0, 0, 0, 4, .int), (.aload 4, 2, 0, 0, 0, 4, .int), (.iload_n 2, 1, 0, 0, 0, 2, .int), (.iload_n 3, 1, 0, 0, 0, 3, .int)]
theorem b_X5_hole_5 : isAt "GridStore" 5 false cX5_hole 5 k_X5_hole_5 = true := by decide +kernel
def k_X5_hole_14 : List En := [(.aload 4, 2, 0, 0, 0, 4, .int), (.iload_n 2, 1, 0, 0, 0, 2, .int), (.iload_n 3, 1, 0, 0, 0, 3, .int)]
theorem b_X5_hole_14 : isAt "GridStore" 5 false cX5_hole 14 k_X5_hole_14 = true := by decide +kernel
def k_X5_hole_21 : List En := [(.ldc2_w 96, 3, 0, 0, 0, 0, .int), (.lcmp, 1, 0, 0, 0, 0, .int), (.ifCond .ne 7, 3, 32, 0, 0, 0, .int), (.iconst 1, 1, 0, 1, 0, 0, .int), (.goto 4, 3, 33, 0, 0, 0, .int)]
theorem b_X5_hole_21 : isAt "GridStore" 5 false cX5_hole 21 k_X5_hole_21 = true := by decide +kernel
def k_X5_hole_32 : List En := [(.iconst 0, 1, 0, 0, 0, 0, .int)]
theorem b_X5_hole_32 : isAt "GridStore" 5 false cX5_hole 32 k_X5_hole_32 = true := by decide +kernel
def k_X5_init_0 : List En := [(.aload_n 0, 1, 0, 0, 0, 0, .int)]
theorem b_X5_init_0 : isAt "GridStore" 1 true cX5_init 0 k_X5_init_0 = true := by decide +kernel
def k_X5_init_4 : List En := [(.aload_n 0, 1, 0, 0, 0, 0, .int)]
theorem b_X5_init_4 : isAt "GridStore" 1 true cX5_init 4 k_X5_init_4 = true := by decide +kernel
def k_X5_init_8 : List En := [(.dup, 1, 0, 0, 0, 0, .int)]
theorem b_X5_init_8 : isAt "GridStore" 1 true cX5_init 8 k_X5_init_8 = true := by decide +kernel
def k_X5_init_12 : List En := [(.putfield 10, 3, 0, 0, 5, 0, (.object "GridStore$Hosts")), (.aload_n 0, 1, 0, 0, 0, 0, .int)]
theorem b_X5_init_12 : isAt "GridStore" 1 true cX5_init 12 k_X5_init_12 = true := by decide +kernel
def k_X5_init_19 : List En := [(.dup, 1, 0, 0, 0, 0, .int)]
theorem b_X5_init_19 : isAt "GridStore" 1 true cX5_init 19 k_X5_init_19 = true := by decide +kernel
def k_X5_init_23 : List En := [(.putfield 19, 3, 0, 0, 5, 1, (.object "GridStore$Totals")), (.aload_n 0, 1, 0, 0, 0, 0, .int), (.bipush 8, 2, 0, 8, 0, 0, .int)]
theorem b_X5_init_23 : isAt "GridStore" 1 true cX5_init 23 k_X5_init_23 = true := by decide +kernel
def k_X5_init_32 : List En := [(.putfield 25, 3, 0, 0, 5, 2, (.array (.object "GridStore$Window"))), (.aload_n 0, 1, 0, 0, 0, 0, .int), (.bipush 12, 2, 0, 12, 0, 0, .int)]
theorem b_X5_init_32 : isAt "GridStore" 1 true cX5_init 32 k_X5_init_32 = true := by decide +kernel
def k_X5_init_41 : List En := [(.putfield 29, 3, 0, 0, 5, 3, (.array (.object "GridStore$Window"))), (.aload_n 0, 1, 0, 0, 0, 0, .int), (.iconst 0, 1, 0, 0, 0, 0, .int), (.putfield 32, 3, 0, 0, 5, 4, .int), (.aload_n 0, 1, 0, 0, 0, 0, .int), (.iconst 0, 1, 0, 0, 0, 0, .int), (.putfield 36, 3, 0, 0, 5, 5, .int)]
theorem b_X5_init_41 : isAt "GridStore" 1 true cX5_init 41 k_X5_init_41 = true := by decide +kernel
def k_X5_join_0 : List En := [(.aload_n 0, 1, 0, 0, 0, 0, .int), (.iload_n 1, 1, 0, 0, 0, 1, .int)]
theorem b_X5_join_0 : isAt "GridStore" 11 false cX5_join 0 k_X5_join_0 = true := by decide +kernel
def k_X5_join_5 : List En := [(.astore 5, 2, 0, 0, 0, 5, .int), (.aload_n 0, 1, 0, 0, 0, 0, .int), (.iload_n 2, 1, 0, 0, 0, 2, .int)]
theorem b_X5_join_5 : isAt "GridStore" 11 false cX5_join 5 k_X5_join_5 = true := by decide +kernel
def k_X5_join_12 : List En := [(.astore 6, 2, 0, 0, 0, 6, .int), (.aload_n 0, 1, 0, 0, 0, 0, .int), (.iload 4, 2, 0, 0, 0, 4, .int)]
theorem b_X5_join_12 : isAt "GridStore" 11 false cX5_join 12 k_X5_join_12 = true := by decide +kernel
def k_X5_join_20 : List En := [(.astore 7, 2, 0, 0, 0, 7, .int), (.iload_n 3, 1, 0, 0, 0, 3, .int), (.ifCond .lt 8, 3, 31, 0, 0, 0, .int), (.iload_n 3, 1, 0, 0, 0, 3, .int), (.iconst 3, 1, 0, 3, 0, 0, .int), (.if_icmp .le 11, 3, 39, 0, 0, 0, .int)]
theorem b_X5_join_20 : isAt "GridStore" 11 false cX5_join 20 k_X5_join_20 = true := by decide +kernel
def k_X5_join_34 : List En := [(.dup, 1, 0, 0, 0, 0, .int)]
theorem b_X5_join_34 : isAt "GridStore" 11 false cX5_join 34 k_X5_join_34 = true := by decide +kernel
def k_X5_join_39 : List En := [(.aload 5, 2, 0, 0, 0, 5, .int), (.aload 5, 2, 0, 0, 0, 5, .int), (.getfield 81, 3, 0, 0, 4, 1, .int), (.aload 5, 2, 0, 0, 0, 5, .int), (.getfield 78, 3, 0, 0, 4, 2, .int), (.aload 7, 2, 0, 0, 0, 7, .int)]
theorem b_X5_join_39 : isAt "GridStore" 11 false cX5_join 39 k_X5_join_39 = true := by decide +kernel
def k_X5_join_56 : List En := [(.aload 6, 2, 0, 0, 0, 6, .int), (.aload 6, 2, 0, 0, 0, 6, .int), (.getfield 81, 3, 0, 0, 4, 1, .int), (.aload 6, 2, 0, 0, 0, 6, .int), (.getfield 78, 3, 0, 0, 4, 2, .int), (.aload 7, 2, 0, 0, 0, 7, .int)]
theorem b_X5_join_56 : isAt "GridStore" 11 false cX5_join 56 k_X5_join_56 = true := by decide +kernel
def k_X5_join_73 : List En := [(.iconst 0, 1, 0, 0, 0, 0, .int), (.istore 8, 2, 0, 0, 0, 8, .int), (.iconst 0, 1, 0, 0, 0, 0, .int), (.istore 9, 2, 0, 0, 0, 9, .int)]
theorem b_X5_join_73 : isAt "GridStore" 11 false cX5_join 73 k_X5_join_73 = true := by decide +kernel
def k_X5_join_79 : List En := [(.iload 9, 2, 0, 0, 0, 9, .int), (.aload 7, 2, 0, 0, 0, 7, .int), (.getfield 179, 3, 0, 0, 1, 1, .int), (.if_icmp .ge 64, 3, 150, 0, 0, 0, .int), (.iconst 0, 1, 0, 0, 0, 0, .int), (.istore 10, 2, 0, 0, 0, 10, .int)]
theorem b_X5_join_79 : isAt "GridStore" 11 false cX5_join 79 k_X5_join_79 = true := by decide +kernel
def k_X5_join_92 : List En := [(.iload 10, 2, 0, 0, 0, 10, .int), (.aload 7, 2, 0, 0, 0, 7, .int), (.getfield 180, 3, 0, 0, 1, 0, .int), (.if_icmp .ge 45, 3, 144, 0, 0, 0, .int), (.iload 8, 2, 0, 0, 0, 8, .int), (.aload 7, 2, 0, 0, 0, 7, .int), (.iload 10, 2, 0, 0, 0, 10, .int), (.iload 9, 2, 0, 0, 0, 9, .int), (.aload 5, 2, 0, 0, 0, 5, .int), (.iload 10, 2, 0, 0, 0, 10, .int), (.iload 9, 2, 0, 0, 0, 9, .int)]
theorem b_X5_join_92 : isAt "GridStore" 11 false cX5_join 92 k_X5_join_92 = true := by decide +kernel
def k_X5_join_119 : List En := [(.aload 6, 2, 0, 0, 0, 6, .int), (.iload 10, 2, 0, 0, 0, 10, .int), (.iload 9, 2, 0, 0, 0, 9, .int)]
theorem b_X5_join_119 : isAt "GridStore" 11 false cX5_join 119 k_X5_join_119 = true := by decide +kernel
def k_X5_join_128 : List En := [(.iload_n 3, 1, 0, 0, 0, 3, .int)]
theorem b_X5_join_128 : isAt "GridStore" 11 false cX5_join 128 k_X5_join_128 = true := by decide +kernel
def k_X5_join_135 : List En := [(.iadd, 1, 0, 0, 0, 0, .int), (.istore 8, 2, 0, 0, 0, 8, .int), (.iinc 10 1, 3, 0, 1, 0, 10, .int), (.goto (-49), 3, 92, 0, 0, 0, .int)]
theorem b_X5_join_135 : isAt "GridStore" 11 false cX5_join 135 k_X5_join_135 = true := by decide +kernel
def k_X5_join_144 : List En := [(.iinc 9 1, 3, 0, 1, 0, 9, .int), (.goto (-68), 3, 79, 0, 0, 0, .int)]
theorem b_X5_join_144 : isAt "GridStore" 11 false cX5_join 144 k_X5_join_144 = true := by decide +kernel
def k_X5_join_150 : List En := [(.iload 8, 2, 0, 0, 0, 8, .int)]
theorem b_X5_join_150 : isAt "GridStore" 11 false cX5_join 150 k_X5_join_150 = true := by decide +kernel
def k_X5_joined_0 : List En := [(.lload_n 0, 1, 0, 0, 0, 0, .int), (.ldc2_w 96, 3, 0, 0, 0, 0, .int), (.lcmp, 1, 0, 0, 0, 0, .int), (.ifCond .eq 15, 3, 20, 0, 0, 0, .int), (.lload_n 2, 1, 0, 0, 0, 2, .int), (.ldc2_w 96, 3, 0, 0, 0, 0, .int), (.lcmp, 1, 0, 0, 0, 0, .int), (.ifCond .eq 7, 3, 20, 0, 0, 0, .int), (.iconst 1, 1, 0, 1, 0, 0, .int), (.goto 4, 3, 21, 0, 0, 0, .int)]
theorem b_X5_joined_0 : isAt "GridStore" 6 false cX5_joined 0 k_X5_joined_0 = true := by decide +kernel
def k_X5_joined_20 : List En := [(.iconst 0, 1, 0, 0, 0, 0, .int)]
theorem b_X5_joined_20 : isAt "GridStore" 6 false cX5_joined 20 k_X5_joined_20 = true := by decide +kernel
def k_X5_joined_21 : List En := [(.istore 5, 2, 0, 0, 0, 5, .int), (.iload 4, 2, 0, 0, 0, 4, .int)]
theorem b_X5_joined_21 : isAt "GridStore" 6 false cX5_joined 21 k_X5_joined_21 = true := by decide +kernel
def k_X5_joined_52 : List En := [(.iload 5, 2, 0, 0, 0, 5, .int), (.ifCond .eq 11, 3, 65, 0, 0, 0, .int), (.lload_n 0, 1, 0, 0, 0, 0, .int), (.lload_n 2, 1, 0, 0, 0, 2, .int), (.ladd, 1, 0, 0, 0, 0, .int), (.l2i, 1, 0, 0, 0, 0, .int), (.i2l, 1, 0, 0, 0, 0, .int), (.goto 8, 3, 70, 0, 0, 0, .int)]
theorem b_X5_joined_52 : isAt "GridStore" 6 false cX5_joined 52 k_X5_joined_52 = true := by decide +kernel
def k_X5_joined_65 : List En := [(.lload_n 0, 1, 0, 0, 0, 0, .int), (.lload_n 2, 1, 0, 0, 0, 2, .int)]
theorem b_X5_joined_65 : isAt "GridStore" 6 false cX5_joined 65 k_X5_joined_65 = true := by decide +kernel
def k_X5_joined_71 : List En := [(.iload 5, 2, 0, 0, 0, 5, .int), (.ifCond .eq 11, 3, 84, 0, 0, 0, .int), (.lload_n 0, 1, 0, 0, 0, 0, .int), (.lload_n 2, 1, 0, 0, 0, 2, .int)]
theorem b_X5_joined_71 : isAt "GridStore" 6 false cX5_joined 71 k_X5_joined_71 = true := by decide +kernel
def k_X5_joined_81 : List En := [(.goto 6, 3, 87, 0, 0, 0, .int)]
theorem b_X5_joined_81 : isAt "GridStore" 6 false cX5_joined 81 k_X5_joined_81 = true := by decide +kernel
def k_X5_joined_84 : List En := [(.ldc2_w 96, 3, 0, 0, 0, 0, .int)]
theorem b_X5_joined_84 : isAt "GridStore" 6 false cX5_joined 84 k_X5_joined_84 = true := by decide +kernel
def k_X5_joined_88 : List En := [(.lload_n 0, 1, 0, 0, 0, 0, .int), (.lload_n 2, 1, 0, 0, 0, 2, .int)]
theorem b_X5_joined_88 : isAt "GridStore" 6 false cX5_joined 88 k_X5_joined_88 = true := by decide +kernel
def k_X5_joined_94 : List En := [(.lload_n 2, 1, 0, 0, 0, 2, .int), (.ldc2_w 96, 3, 0, 0, 0, 0, .int), (.lcmp, 1, 0, 0, 0, 0, .int), (.ifCond .ne 7, 3, 106, 0, 0, 0, .int), (.lload_n 0, 1, 0, 0, 0, 0, .int), (.goto 6, 3, 109, 0, 0, 0, .int)]
theorem b_X5_joined_94 : isAt "GridStore" 6 false cX5_joined 94 k_X5_joined_94 = true := by decide +kernel
def k_X5_joined_106 : List En := [(.ldc2_w 96, 3, 0, 0, 0, 0, .int)]
theorem b_X5_joined_106 : isAt "GridStore" 6 false cX5_joined 106 k_X5_joined_106 = true := by decide +kernel
def k_X5_keep_0 : List En := [(.aload_n 0, 1, 0, 0, 0, 0, .int), (.iload_n 1, 1, 0, 0, 0, 1, .int)]
theorem b_X5_keep_0 : isAt "GridStore" 2 false cX5_keep 0 k_X5_keep_0 = true := by decide +kernel
def k_X5_kind_0 : List En := [(.aload_n 0, 1, 0, 0, 0, 0, .int), (.iload_n 1, 1, 0, 0, 0, 1, .int)]
theorem b_X5_kind_0 : isAt "GridStore" 5 false cX5_kind 0 k_X5_kind_0 = true := by decide +kernel
def k_X5_kind_5 : List En := [(.astore 4, 2, 0, 0, 0, 4, .int), (.iload_n 2, 1, 0, 0, 0, 2, .int), (.ifCond .lt 25, 3, 33, 0, 0, 0, .int), (.iload_n 2, 1, 0, 0, 0, 2, .int), (.aload 4, 2, 0, 0, 0, 4, .int)]
theorem b_X5_kind_5 : isAt "GridStore" 5 false cX5_kind 5 k_X5_kind_5 = true := by decide +kernel
def k_X5_kind_17 : List En := [(.if_icmp .ge 16, 3, 33, 0, 0, 0, .int), (.iload_n 3, 1, 0, 0, 0, 3, .int), (.ifCond .lt 12, 3, 33, 0, 0, 0, .int), (.iload_n 3, 1, 0, 0, 0, 3, .int), (.aload 4, 2, 0, 0, 0, 4, .int)]
theorem b_X5_kind_17 : isAt "GridStore" 5 false cX5_kind 17 k_X5_kind_17 = true := by decide +kernel
def k_X5_kind_30 : List En := [(.if_icmp .lt 11, 3, 41, 0, 0, 0, .int)]
theorem b_X5_kind_30 : isAt "GridStore" 5 false cX5_kind 30 k_X5_kind_30 = true := by decide +kernel
def k_X5_kind_36 : List En := [(.dup, 1, 0, 0, 0, 0, .int)]
theorem b_X5_kind_36 : isAt "GridStore" 5 false cX5_kind 36 k_X5_kind_36 = true := by decide +kernel
def k_X5_kind_41 : List En := [(.aload 4, 2, 0, 0, 0, 4, .int), (.iload_n 2, 1, 0, 0, 0, 2, .int), (.iload_n 3, 1, 0, 0, 0, 3, .int)]
theorem b_X5_kind_41 : isAt "GridStore" 5 false cX5_kind 41 k_X5_kind_41 = true := by decide +kernel
def k_X5_layerOf_0 : List En := [(.aload_n 0, 1, 0, 0, 0, 0, .int), (.iload_n 1, 1, 0, 0, 0, 1, .int)]
theorem b_X5_layerOf_0 : isAt "GridStore" 3 false cX5_layerOf 0 k_X5_layerOf_0 = true := by decide +kernel
def k_X5_layerOf_5 : List En := [(.astore_n 2, 1, 0, 0, 0, 2, .int), (.aload_n 2, 1, 0, 0, 0, 2, .int), (.ifnonnull 11, 3, 18, 0, 0, 0, .int)]
theorem b_X5_layerOf_5 : isAt "GridStore" 3 false cX5_layerOf 5 k_X5_layerOf_5 = true := by decide +kernel
def k_X5_layerOf_13 : List En := [(.dup, 1, 0, 0, 0, 0, .int)]
theorem b_X5_layerOf_13 : isAt "GridStore" 3 false cX5_layerOf 13 k_X5_layerOf_13 = true := by decide +kernel
def k_X5_layerOf_18 : List En := [(.aload_n 2, 1, 0, 0, 0, 2, .int)]
theorem b_X5_layerOf_18 : isAt "GridStore" 3 false cX5_layerOf 18 k_X5_layerOf_18 = true := by decide +kernel
def k_X5_lose_0 : List En := [(.iload_n 1, 1, 0, 0, 0, 1, .int), (.ifCond .lt 8, 3, 9, 0, 0, 0, .int), (.iload_n 1, 1, 0, 0, 0, 1, .int), (.iconst 5, 1, 0, 5, 0, 0, .int), (.if_icmp .lt 11, 3, 17, 0, 0, 0, .int)]
theorem b_X5_lose_0 : isAt "GridStore" 5 false cX5_lose 0 k_X5_lose_0 = true := by decide +kernel
def k_X5_lose_12 : List En := [(.dup, 1, 0, 0, 0, 0, .int)]
theorem b_X5_lose_12 : isAt "GridStore" 5 false cX5_lose 12 k_X5_lose_12 = true := by decide +kernel
def k_X5_lose_17 : List En := [(.aload_n 0, 1, 0, 0, 0, 0, .int), (.getfield 10, 3, 0, 0, 5, 0, (.object "GridStore$Hosts")), (.iload_n 1, 1, 0, 0, 0, 1, .int), (.iload_n 2, 1, 0, 0, 0, 2, .int)]
theorem b_X5_lose_17 : isAt "GridStore" 5 false cX5_lose 17 k_X5_lose_17 = true := by decide +kernel
def k_X5_lose_26 : List En := [(.istore_n 3, 1, 0, 0, 0, 3, .int), (.iload_n 3, 1, 0, 0, 0, 3, .int), (.ifCond .eq 49, 3, 77, 0, 0, 0, .int), (.iload_n 2, 1, 0, 0, 0, 2, .int), (.ifCond .eq 45, 3, 77, 0, 0, 0, .int), (.iconst 0, 1, 0, 0, 0, 0, .int), (.istore 4, 2, 0, 0, 0, 4, .int)]
theorem b_X5_lose_26 : isAt "GridStore" 5 false cX5_lose 26 k_X5_lose_26 = true := by decide +kernel
def k_X5_lose_38 : List En := [(.iload 4, 2, 0, 0, 0, 4, .int), (.aload_n 0, 1, 0, 0, 0, 0, .int), (.getfield 25, 3, 0, 0, 5, 2, (.array (.object "GridStore$Window"))), (.arraylength, 1, 0, 0, 0, 0, .int), (.if_icmp .ge 32, 3, 77, 0, 0, 0, .int), (.aload_n 0, 1, 0, 0, 0, 0, .int), (.getfield 25, 3, 0, 0, 5, 2, (.array (.object "GridStore$Window"))), (.iload 4, 2, 0, 0, 0, 4, .int), (.aaload, 1, 0, 0, 4, 0, .int), (.ifnull 16, 3, 71, 0, 0, 0, .int), (.aload_n 0, 1, 0, 0, 0, 0, .int), (.getfield 25, 3, 0, 0, 5, 2, (.array (.object "GridStore$Window"))), (.iload 4, 2, 0, 0, 0, 4, .int), (.aaload, 1, 0, 0, 4, 0, .int), (.getfield 152, 3, 0, 0, 4, 0, (.object "GridStore$Grid"))]
theorem b_X5_lose_38 : isAt "GridStore" 5 false cX5_lose 38 k_X5_lose_38 = true := by decide +kernel
def k_X5_lose_71 : List En := [(.iinc 4 1, 3, 0, 1, 0, 4, .int), (.goto (-36), 3, 38, 0, 0, 0, .int)]
theorem b_X5_lose_71 : isAt "GridStore" 5 false cX5_lose 71 k_X5_lose_71 = true := by decide +kernel
def k_X5_lose_77 : List En := [(.iload_n 3, 1, 0, 0, 0, 3, .int)]
theorem b_X5_lose_77 : isAt "GridStore" 5 false cX5_lose 77 k_X5_lose_77 = true := by decide +kernel
def k_X5_many_0 : List En := [(.aload_n 0, 1, 0, 0, 0, 0, .int), (.iload_n 1, 1, 0, 0, 0, 1, .int)]
theorem b_X5_many_0 : isAt "GridStore" 6 false cX5_many 0 k_X5_many_0 = true := by decide +kernel
def k_X5_many_5 : List En := [(.astore 5, 2, 0, 0, 0, 5, .int), (.aload 5, 2, 0, 0, 0, 5, .int), (.iload_n 2, 1, 0, 0, 0, 2, .int), (.iload_n 3, 1, 0, 0, 0, 3, .int), (.iload 4, 2, 0, 0, 0, 4, .int)]
theorem b_X5_many_5 : isAt "GridStore" 6 false cX5_many 5 k_X5_many_5 = true := by decide +kernel
def k_X5_many_16 : List En := [(.aload_n 0, 1, 0, 0, 0, 0, .int), (.getfield 19, 3, 0, 0, 5, 1, (.object "GridStore$Totals")), (.aload 5, 2, 0, 0, 0, 5, .int)]
theorem b_X5_many_16 : isAt "GridStore" 6 false cX5_many 16 k_X5_many_16 = true := by decide +kernel
def k_X5_many_25 : List En := [(.aload_n 0, 1, 0, 0, 0, 0, .int), (.getfield 19, 3, 0, 0, 5, 1, (.object "GridStore$Totals")), (.iload_n 2, 1, 0, 0, 0, 2, .int), (.iload 4, 2, 0, 0, 0, 4, .int), (.isub, 1, 0, 0, 0, 0, .int), (.iload_n 3, 1, 0, 0, 0, 3, .int), (.iload 4, 2, 0, 0, 0, 4, .int), (.isub, 1, 0, 0, 0, 0, .int), (.iload_n 2, 1, 0, 0, 0, 2, .int), (.iload 4, 2, 0, 0, 0, 4, .int), (.iadd, 1, 0, 0, 0, 0, .int), (.iload_n 3, 1, 0, 0, 0, 3, .int), (.iload 4, 2, 0, 0, 0, 4, .int), (.iadd, 1, 0, 0, 0, 0, .int)]
theorem b_X5_many_25 : isAt "GridStore" 6 false cX5_many 25 k_X5_many_25 = true := by decide +kernel
def k_X5_numberOf_0 : List En := [(.lload_n 0, 1, 0, 0, 0, 0, .int), (.ldc2_w 96, 3, 0, 0, 0, 0, .int), (.lcmp, 1, 0, 0, 0, 0, .int), (.ifCond .ne 11, 3, 16, 0, 0, 0, .int)]
theorem b_X5_numberOf_0 : isAt "GridStore" 2 false cX5_numberOf 0 k_X5_numberOf_0 = true := by decide +kernel
def k_X5_numberOf_11 : List En := [(.dup, 1, 0, 0, 0, 0, .int)]
theorem b_X5_numberOf_11 : isAt "GridStore" 2 false cX5_numberOf 11 k_X5_numberOf_11 = true := by decide +kernel
def k_X5_numberOf_16 : List En := [(.lload_n 0, 1, 0, 0, 0, 0, .int), (.l2i, 1, 0, 0, 0, 0, .int)]
theorem b_X5_numberOf_16 : isAt "GridStore" 2 false cX5_numberOf 16 k_X5_numberOf_16 = true := by decide +kernel
def k_X5_read_0 : List En := [(.aload_n 0, 1, 0, 0, 0, 0, .int), (.iload_n 1, 1, 0, 0, 0, 1, .int)]
theorem b_X5_read_0 : isAt "GridStore" 7 false cX5_read 0 k_X5_read_0 = true := by decide +kernel
def k_X5_read_5 : List En := [(.astore 6, 2, 0, 0, 0, 6, .int), (.aload 6, 2, 0, 0, 0, 6, .int), (.iload_n 2, 1, 0, 0, 0, 2, .int), (.iload_n 3, 1, 0, 0, 0, 3, .int), (.iload 4, 2, 0, 0, 0, 4, .int), (.iload 5, 2, 0, 0, 0, 5, .int)]
theorem b_X5_read_5 : isAt "GridStore" 7 false cX5_read 5 k_X5_read_5 = true := by decide +kernel
def k_X5_read_18 : List En := [(.aload 6, 2, 0, 0, 0, 6, .int), (.iload_n 2, 1, 0, 0, 0, 2, .int), (.iload_n 3, 1, 0, 0, 0, 3, .int), (.iload 4, 2, 0, 0, 0, 4, .int), (.iload 5, 2, 0, 0, 0, 5, .int)]
theorem b_X5_read_18 : isAt "GridStore" 7 false cX5_read 18 k_X5_read_18 = true := by decide +kernel
def k_X5_requireAround_0 : List En := [(.aload_n 0, 1, 0, 0, 0, 0, .int), (.iload_n 1, 1, 0, 0, 0, 1, .int), (.iload_n 2, 1, 0, 0, 0, 2, .int)]
theorem b_X5_requireAround_0 : isAt "GridStore" 4 false cX5_requireAround 0 k_X5_requireAround_0 = true := by decide +kernel
def k_X5_requireAround_6 : List En := [(.iload_n 3, 1, 0, 0, 0, 3, .int), (.ifCond .lt 9, 3, 16, 0, 0, 0, .int), (.iload_n 3, 1, 0, 0, 0, 3, .int), (.bipush 9, 2, 0, 9, 0, 0, .int), (.if_icmp .le 11, 3, 24, 0, 0, 0, .int)]
theorem b_X5_requireAround_6 : isAt "GridStore" 4 false cX5_requireAround 6 k_X5_requireAround_6 = true := by decide +kernel
def k_X5_requireAround_19 : List En := [(.dup, 1, 0, 0, 0, 0, .int)]
theorem b_X5_requireAround_19 : isAt "GridStore" 4 false cX5_requireAround 19 k_X5_requireAround_19 = true := by decide +kernel
def k_X5_requireCell_0 : List En := [(.iload_n 1, 1, 0, 0, 0, 1, .int), (.ifCond .lt 23, 3, 24, 0, 0, 0, .int), (.iload_n 1, 1, 0, 0, 0, 1, .int), (.aload_n 0, 1, 0, 0, 0, 0, .int), (.getfield 81, 3, 0, 0, 4, 1, .int), (.if_icmp .ge 15, 3, 24, 0, 0, 0, .int), (.iload_n 2, 1, 0, 0, 0, 2, .int), (.ifCond .lt 11, 3, 24, 0, 0, 0, .int), (.iload_n 2, 1, 0, 0, 0, 2, .int), (.aload_n 0, 1, 0, 0, 0, 0, .int), (.getfield 78, 3, 0, 0, 4, 2, .int), (.if_icmp .lt 11, 3, 32, 0, 0, 0, .int)]
theorem b_X5_requireCell_0 : isAt "GridStore" 3 false cX5_requireCell 0 k_X5_requireCell_0 = true := by decide +kernel
def k_X5_requireCell_27 : List En := [(.dup, 1, 0, 0, 0, 0, .int)]
theorem b_X5_requireCell_27 : isAt "GridStore" 3 false cX5_requireCell 27 k_X5_requireCell_27 = true := by decide +kernel
def k_X5_requireFit_0 : List En := [(.aload_n 3, 1, 0, 0, 0, 3, .int), (.getfield 180, 3, 0, 0, 1, 0, .int), (.iload_n 1, 1, 0, 0, 0, 1, .int), (.if_icmp .ne 19, 3, 24, 0, 0, 0, .int), (.aload_n 3, 1, 0, 0, 0, 3, .int), (.getfield 179, 3, 0, 0, 1, 1, .int), (.iload_n 2, 1, 0, 0, 0, 2, .int), (.if_icmp .ne 11, 3, 24, 0, 0, 0, .int), (.aload_n 0, 1, 0, 0, 0, 0, .int), (.getfield 152, 3, 0, 0, 4, 0, (.object "GridStore$Grid")), (.aload_n 3, 1, 0, 0, 0, 3, .int), (.if_acmp .ne 11, 3, 32, 0, 0, 0, .int)]
theorem b_X5_requireFit_0 : isAt "GridStore" 4 false cX5_requireFit 0 k_X5_requireFit_0 = true := by decide +kernel
def k_X5_requireFit_27 : List En := [(.dup, 1, 0, 0, 0, 0, .int)]
theorem b_X5_requireFit_27 : isAt "GridStore" 4 false cX5_requireFit 27 k_X5_requireFit_27 = true := by decide +kernel
def k_X5_requireRectangle_0 : List En := [(.iload_n 3, 1, 0, 0, 0, 3, .int), (.iconst 1, 1, 0, 1, 0, 0, .int), (.if_icmp .lt 29, 3, 31, 0, 0, 0, .int), (.iload_n 3, 1, 0, 0, 0, 3, .int), (.aload_n 0, 1, 0, 0, 0, 0, .int), (.getfield 81, 3, 0, 0, 4, 1, .int), (.if_icmp .gt 21, 3, 31, 0, 0, 0, .int), (.iload_n 1, 1, 0, 0, 0, 1, .int), (.ifCond .lt 17, 3, 31, 0, 0, 0, .int), (.iload_n 1, 1, 0, 0, 0, 1, .int), (.aload_n 0, 1, 0, 0, 0, 0, .int), (.getfield 81, 3, 0, 0, 4, 1, .int), (.iload_n 3, 1, 0, 0, 0, 3, .int), (.isub, 1, 0, 0, 0, 0, .int), (.if_icmp .gt 7, 3, 31, 0, 0, 0, .int), (.iconst 1, 1, 0, 1, 0, 0, .int), (.goto 4, 3, 32, 0, 0, 0, .int)]
theorem b_X5_requireRectangle_0 : isAt "GridStore" 7 false cX5_requireRectangle 0 k_X5_requireRectangle_0 = true := by decide +kernel
def k_X5_requireRectangle_31 : List En := [(.iconst 0, 1, 0, 0, 0, 0, .int)]
theorem b_X5_requireRectangle_31 : isAt "GridStore" 7 false cX5_requireRectangle 31 k_X5_requireRectangle_31 = true := by decide +kernel
def k_X5_requireRectangle_32 : List En := [(.istore 5, 2, 0, 0, 0, 5, .int), (.iload 4, 2, 0, 0, 0, 4, .int), (.iconst 1, 1, 0, 1, 0, 0, .int), (.if_icmp .lt 31, 3, 68, 0, 0, 0, .int), (.iload 4, 2, 0, 0, 0, 4, .int), (.aload_n 0, 1, 0, 0, 0, 0, .int), (.getfield 78, 3, 0, 0, 4, 2, .int), (.if_icmp .gt 22, 3, 68, 0, 0, 0, .int), (.iload_n 2, 1, 0, 0, 0, 2, .int), (.ifCond .lt 18, 3, 68, 0, 0, 0, .int), (.iload_n 2, 1, 0, 0, 0, 2, .int), (.aload_n 0, 1, 0, 0, 0, 0, .int), (.getfield 78, 3, 0, 0, 4, 2, .int), (.iload 4, 2, 0, 0, 0, 4, .int), (.isub, 1, 0, 0, 0, 0, .int), (.if_icmp .gt 7, 3, 68, 0, 0, 0, .int), (.iconst 1, 1, 0, 1, 0, 0, .int), (.goto 4, 3, 69, 0, 0, 0, .int)]
theorem b_X5_requireRectangle_32 : isAt "GridStore" 7 false cX5_requireRectangle 32 k_X5_requireRectangle_32 = true := by decide +kernel
def k_X5_requireRectangle_68 : List En := [(.iconst 0, 1, 0, 0, 0, 0, .int)]
theorem b_X5_requireRectangle_68 : isAt "GridStore" 7 false cX5_requireRectangle 68 k_X5_requireRectangle_68 = true := by decide +kernel
def k_X5_requireRectangle_69 : List En := [(.istore 6, 2, 0, 0, 0, 6, .int), (.iload 5, 2, 0, 0, 0, 5, .int), (.ifCond .eq 8, 3, 81, 0, 0, 0, .int), (.iload 6, 2, 0, 0, 0, 6, .int), (.ifCond .ne 11, 3, 89, 0, 0, 0, .int)]
theorem b_X5_requireRectangle_69 : isAt "GridStore" 7 false cX5_requireRectangle 69 k_X5_requireRectangle_69 = true := by decide +kernel
def k_X5_requireRectangle_84 : List En := [(.dup, 1, 0, 0, 0, 0, .int)]
theorem b_X5_requireRectangle_84 : isAt "GridStore" 7 false cX5_requireRectangle 84 k_X5_requireRectangle_84 = true := by decide +kernel
def k_X5_set_0 : List En := [(.aload_n 0, 1, 0, 0, 0, 0, .int), (.iload_n 1, 1, 0, 0, 0, 1, .int)]
theorem b_X5_set_0 : isAt "GridStore" 6 false cX5_set 0 k_X5_set_0 = true := by decide +kernel
def k_X5_set_5 : List En := [(.astore 5, 2, 0, 0, 0, 5, .int), (.aload 5, 2, 0, 0, 0, 5, .int), (.iload_n 2, 1, 0, 0, 0, 2, .int), (.iload_n 3, 1, 0, 0, 0, 3, .int)]
theorem b_X5_set_5 : isAt "GridStore" 6 false cX5_set 5 k_X5_set_5 = true := by decide +kernel
def k_X5_set_14 : List En := [(.aload 5, 2, 0, 0, 0, 5, .int), (.iload_n 2, 1, 0, 0, 0, 2, .int), (.iload_n 3, 1, 0, 0, 0, 3, .int)]
theorem b_X5_set_14 : isAt "GridStore" 6 false cX5_set 14 k_X5_set_14 = true := by decide +kernel
def k_X5_set_21 : List En := [(.ifCond .ne 5, 3, 26, 0, 0, 0, .int), (.iconst 0, 1, 0, 0, 0, 0, .int)]
theorem b_X5_set_21 : isAt "GridStore" 6 false cX5_set 21 k_X5_set_21 = true := by decide +kernel
def k_X5_set_26 : List En := [(.aload 5, 2, 0, 0, 0, 5, .int), (.iload_n 2, 1, 0, 0, 0, 2, .int), (.iload_n 3, 1, 0, 0, 0, 3, .int), (.iload 4, 2, 0, 0, 0, 4, .int), (.i2l, 1, 0, 0, 0, 0, .int)]
theorem b_X5_set_26 : isAt "GridStore" 6 false cX5_set 26 k_X5_set_26 = true := by decide +kernel
def k_X5_set_36 : List En := [(.pop, 1, 0, 0, 0, 0, .int), (.iconst 1, 1, 0, 1, 0, 0, .int)]
theorem b_X5_set_36 : isAt "GridStore" 6 false cX5_set 36 k_X5_set_36 = true := by decide +kernel
def k_X5_size_0 : List En := [(.aload_n 0, 1, 0, 0, 0, 0, .int), (.iload_n 1, 1, 0, 0, 0, 1, .int)]
theorem b_X5_size_0 : isAt "GridStore" 4 false cX5_size 0 k_X5_size_0 = true := by decide +kernel
def k_X5_size_5 : List En := [(.astore_n 3, 1, 0, 0, 0, 3, .int), (.iload_n 2, 1, 0, 0, 0, 2, .int), (.ifCond .eq 10, 3, 17, 0, 0, 0, .int), (.aload_n 3, 1, 0, 0, 0, 3, .int), (.getfield 78, 3, 0, 0, 4, 2, .int), (.goto 7, 3, 21, 0, 0, 0, .int)]
theorem b_X5_size_5 : isAt "GridStore" 4 false cX5_size 5 k_X5_size_5 = true := by decide +kernel
def k_X5_size_17 : List En := [(.aload_n 3, 1, 0, 0, 0, 3, .int), (.getfield 81, 3, 0, 0, 4, 1, .int)]
theorem b_X5_size_17 : isAt "GridStore" 4 false cX5_size 17 k_X5_size_17 = true := by decide +kernel
def k_X5_slide_0 : List En := [(.aload_n 0, 1, 0, 0, 0, 0, .int), (.iload_n 1, 1, 0, 0, 0, 1, .int)]
theorem b_X5_slide_0 : isAt "GridStore" 9 false cX5_slide 0 k_X5_slide_0 = true := by decide +kernel
def k_X5_slide_5 : List En := [(.astore 4, 2, 0, 0, 0, 4, .int), (.aload_n 0, 1, 0, 0, 0, 0, .int), (.iload_n 3, 1, 0, 0, 0, 3, .int)]
theorem b_X5_slide_5 : isAt "GridStore" 9 false cX5_slide 5 k_X5_slide_5 = true := by decide +kernel
def k_X5_slide_12 : List En := [(.astore 5, 2, 0, 0, 0, 5, .int), (.iload_n 2, 1, 0, 0, 0, 2, .int), (.ifCond .lt 8, 3, 23, 0, 0, 0, .int), (.iload_n 2, 1, 0, 0, 0, 2, .int), (.iconst 4, 1, 0, 4, 0, 0, .int), (.if_icmp .le 11, 3, 31, 0, 0, 0, .int)]
theorem b_X5_slide_12 : isAt "GridStore" 9 false cX5_slide 12 k_X5_slide_12 = true := by decide +kernel
def k_X5_slide_26 : List En := [(.dup, 1, 0, 0, 0, 0, .int)]
theorem b_X5_slide_26 : isAt "GridStore" 9 false cX5_slide 26 k_X5_slide_26 = true := by decide +kernel
def k_X5_slide_31 : List En := [(.aload 4, 2, 0, 0, 0, 4, .int), (.aload 4, 2, 0, 0, 0, 4, .int), (.getfield 81, 3, 0, 0, 4, 1, .int), (.aload 4, 2, 0, 0, 0, 4, .int), (.getfield 78, 3, 0, 0, 4, 2, .int), (.aload 5, 2, 0, 0, 0, 5, .int)]
theorem b_X5_slide_31 : isAt "GridStore" 9 false cX5_slide 31 k_X5_slide_31 = true := by decide +kernel
def k_X5_slide_48 : List En := [(.aload_n 0, 1, 0, 0, 0, 0, .int), (.getfield 19, 3, 0, 0, 5, 1, (.object "GridStore$Totals")), (.aload 4, 2, 0, 0, 0, 4, .int)]
theorem b_X5_slide_48 : isAt "GridStore" 9 false cX5_slide 48 k_X5_slide_48 = true := by decide +kernel
def k_X5_slide_57 : List En := [(.iconst 0, 1, 0, 0, 0, 0, .int), (.istore 6, 2, 0, 0, 0, 6, .int), (.iconst 0, 1, 0, 0, 0, 0, .int), (.istore 7, 2, 0, 0, 0, 7, .int)]
theorem b_X5_slide_57 : isAt "GridStore" 9 false cX5_slide 57 k_X5_slide_57 = true := by decide +kernel
def k_X5_slide_63 : List En := [(.iload 7, 2, 0, 0, 0, 7, .int), (.aload 5, 2, 0, 0, 0, 5, .int), (.getfield 179, 3, 0, 0, 1, 1, .int), (.if_icmp .ge 65, 3, 135, 0, 0, 0, .int), (.iconst 0, 1, 0, 0, 0, 0, .int), (.istore 8, 2, 0, 0, 0, 8, .int)]
theorem b_X5_slide_63 : isAt "GridStore" 9 false cX5_slide 63 k_X5_slide_63 = true := by decide +kernel
def k_X5_slide_76 : List En := [(.iload 8, 2, 0, 0, 0, 8, .int), (.aload 5, 2, 0, 0, 0, 5, .int), (.getfield 180, 3, 0, 0, 1, 0, .int), (.if_icmp .ge 46, 3, 129, 0, 0, 0, .int), (.iload 6, 2, 0, 0, 0, 6, .int), (.aload 5, 2, 0, 0, 0, 5, .int), (.iload 8, 2, 0, 0, 0, 8, .int), (.iload 7, 2, 0, 0, 0, 7, .int), (.aload_n 0, 1, 0, 0, 0, 0, .int), (.getfield 19, 3, 0, 0, 5, 1, (.object "GridStore$Totals")), (.iload 8, 2, 0, 0, 0, 8, .int), (.iload_n 2, 1, 0, 0, 0, 2, .int), (.isub, 1, 0, 0, 0, 0, .int), (.iload 7, 2, 0, 0, 0, 7, .int), (.iload_n 2, 1, 0, 0, 0, 2, .int), (.isub, 1, 0, 0, 0, 0, .int), (.iload 8, 2, 0, 0, 0, 8, .int), (.iload_n 2, 1, 0, 0, 0, 2, .int), (.iadd, 1, 0, 0, 0, 0, .int), (.iload 7, 2, 0, 0, 0, 7, .int), (.iload_n 2, 1, 0, 0, 0, 2, .int), (.iadd, 1, 0, 0, 0, 0, .int)]
theorem b_X5_slide_76 : isAt "GridStore" 9 false cX5_slide 76 k_X5_slide_76 = true := by decide +kernel
def k_X5_slide_120 : List En := [(.iadd, 1, 0, 0, 0, 0, .int), (.istore 6, 2, 0, 0, 0, 6, .int), (.iinc 8 1, 3, 0, 1, 0, 8, .int), (.goto (-50), 3, 76, 0, 0, 0, .int)]
theorem b_X5_slide_120 : isAt "GridStore" 9 false cX5_slide 120 k_X5_slide_120 = true := by decide +kernel
def k_X5_slide_129 : List En := [(.iinc 7 1, 3, 0, 1, 0, 7, .int), (.goto (-69), 3, 63, 0, 0, 0, .int)]
theorem b_X5_slide_129 : isAt "GridStore" 9 false cX5_slide 129 k_X5_slide_129 = true := by decide +kernel
def k_X5_slide_135 : List En := [(.iload 6, 2, 0, 0, 0, 6, .int)]
theorem b_X5_slide_135 : isAt "GridStore" 9 false cX5_slide 135 k_X5_slide_135 = true := by decide +kernel
def k_X5_sum_0 : List En := [(.aload_n 0, 1, 0, 0, 0, 0, .int), (.iload_n 1, 1, 0, 0, 0, 1, .int)]
theorem b_X5_sum_0 : isAt "GridStore" 6 false cX5_sum 0 k_X5_sum_0 = true := by decide +kernel
def k_X5_sum_5 : List En := [(.astore 5, 2, 0, 0, 0, 5, .int), (.aload 5, 2, 0, 0, 0, 5, .int), (.iload_n 2, 1, 0, 0, 0, 2, .int), (.iload_n 3, 1, 0, 0, 0, 3, .int), (.iload 4, 2, 0, 0, 0, 4, .int)]
theorem b_X5_sum_5 : isAt "GridStore" 6 false cX5_sum 5 k_X5_sum_5 = true := by decide +kernel
def k_X5_sum_16 : List En := [(.aload_n 0, 1, 0, 0, 0, 0, .int), (.getfield 19, 3, 0, 0, 5, 1, (.object "GridStore$Totals")), (.aload 5, 2, 0, 0, 0, 5, .int)]
theorem b_X5_sum_16 : isAt "GridStore" 6 false cX5_sum 16 k_X5_sum_16 = true := by decide +kernel
def k_X5_sum_25 : List En := [(.aload_n 0, 1, 0, 0, 0, 0, .int), (.getfield 19, 3, 0, 0, 5, 1, (.object "GridStore$Totals")), (.iload_n 2, 1, 0, 0, 0, 2, .int), (.iload 4, 2, 0, 0, 0, 4, .int), (.isub, 1, 0, 0, 0, 0, .int), (.iload_n 3, 1, 0, 0, 0, 3, .int), (.iload 4, 2, 0, 0, 0, 4, .int), (.isub, 1, 0, 0, 0, 0, .int), (.iload_n 2, 1, 0, 0, 0, 2, .int), (.iload 4, 2, 0, 0, 0, 4, .int), (.iadd, 1, 0, 0, 0, 0, .int), (.iload_n 3, 1, 0, 0, 0, 3, .int), (.iload 4, 2, 0, 0, 0, 4, .int), (.iadd, 1, 0, 0, 0, 0, .int)]
theorem b_X5_sum_25 : isAt "GridStore" 6 false cX5_sum 25 k_X5_sum_25 = true := by decide +kernel
def k_X5_view_0 : List En := [(.aload_n 0, 1, 0, 0, 0, 0, .int), (.iload_n 1, 1, 0, 0, 0, 1, .int)]
theorem b_X5_view_0 : isAt "GridStore" 12 false cX5_view 0 k_X5_view_0 = true := by decide +kernel
def k_X5_view_5 : List En := [(.astore 8, 2, 0, 0, 0, 8, .int), (.aload 8, 2, 0, 0, 0, 8, .int), (.iload_n 2, 1, 0, 0, 0, 2, .int), (.iload_n 3, 1, 0, 0, 0, 3, .int), (.iload 4, 2, 0, 0, 0, 4, .int), (.iload 5, 2, 0, 0, 0, 5, .int)]
theorem b_X5_view_5 : isAt "GridStore" 12 false cX5_view 5 k_X5_view_5 = true := by decide +kernel
def k_X5_view_18 : List En := [(.iload 6, 2, 0, 0, 0, 6, .int), (.ifCond .lt 9, 3, 29, 0, 0, 0, .int), (.iload 6, 2, 0, 0, 0, 6, .int), (.iconst 3, 1, 0, 3, 0, 0, .int), (.if_icmp .le 11, 3, 37, 0, 0, 0, .int)]
theorem b_X5_view_18 : isAt "GridStore" 12 false cX5_view 18 k_X5_view_18 = true := by decide +kernel
def k_X5_view_32 : List En := [(.dup, 1, 0, 0, 0, 0, .int)]
theorem b_X5_view_32 : isAt "GridStore" 12 false cX5_view 32 k_X5_view_32 = true := by decide +kernel
def k_X5_view_37 : List En := [(.aload_n 0, 1, 0, 0, 0, 0, .int), (.getfield 36, 3, 0, 0, 5, 5, .int), (.istore 9, 2, 0, 0, 0, 9, .int), (.iload 9, 2, 0, 0, 0, 9, .int), (.ifCond .lt 13, 3, 58, 0, 0, 0, .int), (.iload 9, 2, 0, 0, 0, 9, .int), (.aload_n 0, 1, 0, 0, 0, 0, .int), (.getfield 29, 3, 0, 0, 5, 3, (.array (.object "GridStore$Window"))), (.arraylength, 1, 0, 0, 0, 0, .int), (.if_icmp .lt 11, 3, 66, 0, 0, 0, .int)]
theorem b_X5_view_37 : isAt "GridStore" 12 false cX5_view 37 k_X5_view_37 = true := by decide +kernel
def k_X5_view_61 : List En := [(.dup, 1, 0, 0, 0, 0, .int)]
theorem b_X5_view_61 : isAt "GridStore" 12 false cX5_view 61 k_X5_view_61 = true := by decide +kernel
def k_X5_view_66 : List En := [(.aload 8, 2, 0, 0, 0, 8, .int), (.iload_n 2, 1, 0, 0, 0, 2, .int), (.iload_n 3, 1, 0, 0, 0, 3, .int), (.iload 4, 2, 0, 0, 0, 4, .int), (.iload 5, 2, 0, 0, 0, 5, .int)]
theorem b_X5_view_66 : isAt "GridStore" 12 false cX5_view 66 k_X5_view_66 = true := by decide +kernel
def k_X5_view_77 : List En := [(.astore 10, 2, 0, 0, 0, 10, .int), (.iconst 0, 1, 0, 0, 0, 0, .int), (.istore 11, 2, 0, 0, 0, 11, .int)]
theorem b_X5_view_77 : isAt "GridStore" 12 false cX5_view 77 k_X5_view_77 = true := by decide +kernel
def k_X5_view_82 : List En := [(.iload 11, 2, 0, 0, 0, 11, .int), (.iload 6, 2, 0, 0, 0, 6, .int), (.if_icmp .ge 14, 3, 100, 0, 0, 0, .int), (.aload 10, 2, 0, 0, 0, 10, .int)]
theorem b_X5_view_82 : isAt "GridStore" 12 false cX5_view 82 k_X5_view_82 = true := by decide +kernel
def k_X5_view_94 : List En := [(.iinc 11 1, 3, 0, 1, 0, 11, .int), (.goto (-15), 3, 82, 0, 0, 0, .int)]
theorem b_X5_view_94 : isAt "GridStore" 12 false cX5_view 94 k_X5_view_94 = true := by decide +kernel
def k_X5_view_100 : List En := [(.iload 7, 2, 0, 0, 0, 7, .int), (.ifCond .eq 8, 3, 110, 0, 0, 0, .int), (.aload 10, 2, 0, 0, 0, 10, .int)]
theorem b_X5_view_100 : isAt "GridStore" 12 false cX5_view 100 k_X5_view_100 = true := by decide +kernel
def k_X5_view_110 : List En := [(.aload_n 0, 1, 0, 0, 0, 0, .int), (.getfield 29, 3, 0, 0, 5, 3, (.array (.object "GridStore$Window"))), (.iload 9, 2, 0, 0, 0, 9, .int), (.aload 10, 2, 0, 0, 0, 10, .int), (.aastore, 1, 0, 0, 4, 0, .int), (.aload_n 0, 1, 0, 0, 0, 0, .int), (.dup, 1, 0, 0, 0, 0, .int), (.getfield 36, 3, 0, 0, 5, 5, .int), (.iconst 1, 1, 0, 1, 0, 0, .int), (.iadd, 1, 0, 0, 0, 0, .int), (.putfield 36, 3, 0, 0, 5, 5, .int), (.iload 9, 2, 0, 0, 0, 9, .int)]
theorem b_X5_view_110 : isAt "GridStore" 12 false cX5_view 110 k_X5_view_110 = true := by decide +kernel
def k_X5_was_0 : List En := [(.aload_n 0, 1, 0, 0, 0, 0, .int), (.iload_n 1, 1, 0, 0, 0, 1, .int)]
theorem b_X5_was_0 : isAt "GridStore" 7 false cX5_was 0 k_X5_was_0 = true := by decide +kernel
def k_X5_was_5 : List En := [(.astore 5, 2, 0, 0, 0, 5, .int), (.aload 5, 2, 0, 0, 0, 5, .int), (.iload_n 2, 1, 0, 0, 0, 2, .int)]
theorem b_X5_was_5 : isAt "GridStore" 7 false cX5_was 5 k_X5_was_5 = true := by decide +kernel
def k_X5_was_13 : List En := [(.astore 6, 2, 0, 0, 0, 6, .int), (.aload 6, 2, 0, 0, 0, 6, .int), (.iload_n 3, 1, 0, 0, 0, 3, .int), (.iload 4, 2, 0, 0, 0, 4, .int)]
theorem b_X5_was_13 : isAt "GridStore" 7 false cX5_was 13 k_X5_was_13 = true := by decide +kernel
def k_X5_was_23 : List En := [(.ifCond .ne 11, 3, 34, 0, 0, 0, .int)]
theorem b_X5_was_23 : isAt "GridStore" 7 false cX5_was 23 k_X5_was_23 = true := by decide +kernel
def k_X5_was_29 : List En := [(.dup, 1, 0, 0, 0, 0, .int)]
theorem b_X5_was_29 : isAt "GridStore" 7 false cX5_was 29 k_X5_was_29 = true := by decide +kernel
def k_X5_was_34 : List En := [(.aload 6, 2, 0, 0, 0, 6, .int), (.iload_n 3, 1, 0, 0, 0, 3, .int), (.iload 4, 2, 0, 0, 0, 4, .int)]
theorem b_X5_was_34 : isAt "GridStore" 7 false cX5_was 34 k_X5_was_34 = true := by decide +kernel
def k_X5_windowOf_0 : List En := [(.aconst_null, 1, 0, 0, 0, 0, .int), (.astore_n 2, 1, 0, 0, 0, 2, .int), (.iload_n 1, 1, 0, 0, 0, 1, .int), (.ifCond .lt 22, 3, 25, 0, 0, 0, .int), (.iload_n 1, 1, 0, 0, 0, 1, .int), (.aload_n 0, 1, 0, 0, 0, 0, .int), (.getfield 25, 3, 0, 0, 5, 2, (.array (.object "GridStore$Window"))), (.arraylength, 1, 0, 0, 0, 0, .int), (.if_icmp .ge 13, 3, 25, 0, 0, 0, .int), (.aload_n 0, 1, 0, 0, 0, 0, .int), (.getfield 25, 3, 0, 0, 5, 2, (.array (.object "GridStore$Window"))), (.iload_n 1, 1, 0, 0, 0, 1, .int), (.aaload, 1, 0, 0, 4, 0, .int), (.astore_n 2, 1, 0, 0, 0, 2, .int), (.goto 31, 3, 53, 0, 0, 0, .int)]
theorem b_X5_windowOf_0 : isAt "GridStore" 3 false cX5_windowOf 0 k_X5_windowOf_0 = true := by decide +kernel
def k_X5_windowOf_25 : List En := [(.iload_n 1, 1, 0, 0, 0, 1, .int), (.bipush 100, 2, 0, 100, 0, 0, .int), (.if_icmp .lt 25, 3, 53, 0, 0, 0, .int), (.iload_n 1, 1, 0, 0, 0, 1, .int), (.bipush 100, 2, 0, 100, 0, 0, .int), (.isub, 1, 0, 0, 0, 0, .int), (.aload_n 0, 1, 0, 0, 0, 0, .int), (.getfield 29, 3, 0, 0, 5, 3, (.array (.object "GridStore$Window"))), (.arraylength, 1, 0, 0, 0, 0, .int), (.if_icmp .ge 13, 3, 53, 0, 0, 0, .int), (.aload_n 0, 1, 0, 0, 0, 0, .int), (.getfield 29, 3, 0, 0, 5, 3, (.array (.object "GridStore$Window"))), (.iload_n 1, 1, 0, 0, 0, 1, .int), (.bipush 100, 2, 0, 100, 0, 0, .int), (.isub, 1, 0, 0, 0, 0, .int), (.aaload, 1, 0, 0, 4, 0, .int), (.astore_n 2, 1, 0, 0, 0, 2, .int)]
theorem b_X5_windowOf_25 : isAt "GridStore" 3 false cX5_windowOf 25 k_X5_windowOf_25 = true := by decide +kernel
def k_X5_windowOf_53 : List En := [(.aload_n 2, 1, 0, 0, 0, 2, .int), (.ifnonnull 11, 3, 65, 0, 0, 0, .int)]
theorem b_X5_windowOf_53 : isAt "GridStore" 3 false cX5_windowOf 53 k_X5_windowOf_53 = true := by decide +kernel
def k_X5_windowOf_60 : List En := [(.dup, 1, 0, 0, 0, 0, .int)]
theorem b_X5_windowOf_60 : isAt "GridStore" 3 false cX5_windowOf 60 k_X5_windowOf_60 = true := by decide +kernel
def k_X5_windowOf_65 : List En := [(.aload_n 2, 1, 0, 0, 0, 2, .int)]
theorem b_X5_windowOf_65 : isAt "GridStore" 3 false cX5_windowOf 65 k_X5_windowOf_65 = true := by decide +kernel
theorem d_X5_allLayers_44 : decode cX5_allLayers 44 = .ok (.ireturn, 1) := by decide +kernel
theorem d_X5_allNumbers_35 : decode cX5_allNumbers 35 = .ok (.invokevirtual 211, 3) := by decide +kernel
theorem c_X5_211 : ckV "GridStore" 211 0 mX0_numbers = true := by decide +kernel
theorem d_X5_allNumbers_47 : decode cX5_allNumbers 47 = .ok (.ireturn, 1) := by decide +kernel
theorem d_X5_allPieces_33 : decode cX5_allPieces 33 = .ok (.invokevirtual 214, 3) := by decide +kernel
theorem c_X5_214 : ckV "GridStore" 214 1 mX1_piecesOfKind = true := by decide +kernel
theorem d_X5_allPieces_45 : decode cX5_allPieces 45 = .ok (.ireturn, 1) := by decide +kernel
theorem d_X5_back_2 : decode cX5_back 2 = .ok (.invokevirtual 106, 3) := by decide +kernel
theorem c_X5_106 : ckV "GridStore" 106 1 mX5_gridOf = true := by decide +kernel
theorem d_X5_back_9 : decode cX5_back 9 = .ok (.invokestatic 124, 3) := by decide +kernel
theorem c_X5_124 : ckS "GridStore" 124 2 mX5_layerOf = true := by decide +kernel
theorem d_X5_back_12 : decode cX5_back 12 = .ok (.invokevirtual 128, 3) := by decide +kernel
theorem c_X5_128 : ckV "GridStore" 128 1 mX1_restore = true := by decide +kernel
theorem d_X5_back_15 : decode cX5_back 15 = .ok (.ireturn, 1) := by decide +kernel
theorem d_X5_close_28 : decode cX5_close 28 = .ok (.new 71, 3) := by decide +kernel
theorem d_X5_close_31 : decode cX5_close 31 = .ok (.dup, 1) := by decide +kernel
theorem t_X5_71 : ckT "GridStore" 71 73 xIOB = true := by decide +kernel
theorem d_X5_close_32 : decode cX5_close 32 = .ok (.invokespecial 73, 3) := by decide +kernel
-- call of java/lang/IndexOutOfBoundsException.<init>()V at X5_close 32
theorem d_X5_close_35 : decode cX5_close 35 = .ok (.athrow, 1) := by decide +kernel
theorem d_X5_close_58 : decode cX5_close 58 = .ok (.ireturn, 1) := by decide +kernel
theorem d_X5_coarse_2 : decode cX5_coarse 2 = .ok (.invokevirtual 53, 3) := by decide +kernel
theorem c_X5_53 : ckV "GridStore" 53 1 mX5_windowOf = true := by decide +kernel
theorem d_X5_coarse_9 : decode cX5_coarse 9 = .ok (.invokevirtual 106, 3) := by decide +kernel
theorem d_X5_coarse_25 : decode cX5_coarse 25 = .ok (.new 39, 3) := by decide +kernel
theorem d_X5_coarse_28 : decode cX5_coarse 28 = .ok (.dup, 1) := by decide +kernel
theorem t_X5_39 : ckT "GridStore" 39 41 xIAE = true := by decide +kernel
theorem d_X5_coarse_29 : decode cX5_coarse 29 = .ok (.invokespecial 41, 3) := by decide +kernel
-- call of java/lang/IllegalArgumentException.<init>()V at X5_coarse 29
theorem d_X5_coarse_32 : decode cX5_coarse 32 = .ok (.athrow, 1) := by decide +kernel
theorem d_X5_coarse_59 : decode cX5_coarse 59 = .ok (.invokestatic 175, 3) := by decide +kernel
theorem c_X5_175 : ckS "GridStore" 175 4 mX5_requireFit = true := by decide +kernel
theorem d_X5_coarse_68 : decode cX5_coarse 68 = .ok (.invokevirtual 163, 3) := by decide +kernel
theorem c_X5_163 : ckV "GridStore" 163 1 mX3_gather = true := by decide +kernel
theorem d_X5_coarse_136 : decode cX5_coarse 136 = .ok (.invokevirtual 189, 3) := by decide +kernel
theorem c_X5_189 : ckV "GridStore" 189 4 mX3_meanCell = true := by decide +kernel
theorem d_X5_coarse_139 : decode cX5_coarse 139 = .ok (.invokevirtual 184, 3) := by decide +kernel
theorem c_X5_184 : ckV "GridStore" 184 3 mX1_write = true := by decide +kernel
theorem d_X5_coarse_159 : decode cX5_coarse 159 = .ok (.ireturn, 1) := by decide +kernel
theorem d_X5_count_1 : decode cX5_count 1 = .ok (.tableswitch 103 0 8 #[51, 56, 61, 66, 74, 79, 85, 91, 97], 51) := by decide +kernel
theorem d_X5_count_56 : decode cX5_count 56 = .ok (.ireturn, 1) := by decide +kernel
theorem d_X5_count_61 : decode cX5_count 61 = .ok (.ireturn, 1) := by decide +kernel
theorem d_X5_count_63 : decode cX5_count 63 = .ok (.invokevirtual 195, 3) := by decide +kernel
theorem c_X5_195 : ckV "GridStore" 195 0 mX5_allLayers = true := by decide +kernel
theorem d_X5_count_66 : decode cX5_count 66 = .ok (.ireturn, 1) := by decide +kernel
theorem d_X5_count_71 : decode cX5_count 71 = .ok (.invokevirtual 198, 3) := by decide +kernel
theorem c_X5_198 : ckV "GridStore" 198 0 mX2_lostOnes = true := by decide +kernel
theorem d_X5_count_74 : decode cX5_count 74 = .ok (.ireturn, 1) := by decide +kernel
theorem d_X5_count_76 : decode cX5_count 76 = .ok (.invokevirtual 201, 3) := by decide +kernel
theorem c_X5_201 : ckV "GridStore" 201 0 mX5_allNumbers = true := by decide +kernel
theorem d_X5_count_79 : decode cX5_count 79 = .ok (.ireturn, 1) := by decide +kernel
theorem d_X5_count_82 : decode cX5_count 82 = .ok (.invokevirtual 204, 3) := by decide +kernel
theorem c_X5_204 : ckV "GridStore" 204 1 mX5_allPieces = true := by decide +kernel
theorem d_X5_count_85 : decode cX5_count 85 = .ok (.ireturn, 1) := by decide +kernel
theorem d_X5_count_88 : decode cX5_count 88 = .ok (.invokevirtual 204, 3) := by decide +kernel
theorem d_X5_count_91 : decode cX5_count 91 = .ok (.ireturn, 1) := by decide +kernel
theorem d_X5_count_94 : decode cX5_count 94 = .ok (.invokevirtual 204, 3) := by decide +kernel
theorem d_X5_count_97 : decode cX5_count 97 = .ok (.ireturn, 1) := by decide +kernel
theorem d_X5_count_100 : decode cX5_count 100 = .ok (.invokevirtual 204, 3) := by decide +kernel
theorem d_X5_count_103 : decode cX5_count 103 = .ok (.ireturn, 1) := by decide +kernel
theorem d_X5_count_105 : decode cX5_count 105 = .ok (.ireturn, 1) := by decide +kernel
theorem d_X5_differ_2 : decode cX5_differ 2 = .ok (.invokevirtual 106, 3) := by decide +kernel
theorem d_X5_differ_23 : decode cX5_differ 23 = .ok (.invokestatic 124, 3) := by decide +kernel
theorem d_X5_differ_44 : decode cX5_differ 44 = .ok (.invokestatic 124, 3) := by decide +kernel
theorem d_X5_differ_55 : decode cX5_differ 55 = .ok (.invokevirtual 144, 3) := by decide +kernel
theorem c_X5_144 : ckV "GridStore" 144 2 mX1_unlikePieces = true := by decide +kernel
theorem d_X5_differ_58 : decode cX5_differ 58 = .ok (.ireturn, 1) := by decide +kernel
theorem d_X5_dig_2 : decode cX5_dig 2 = .ok (.invokevirtual 53, 3) := by decide +kernel
theorem d_X5_dig_11 : decode cX5_dig 11 = .ok (.invokestatic 84, 3) := by decide +kernel
theorem c_X5_84 : ckS "GridStore" 84 3 mX5_requireCell = true := by decide +kernel
theorem d_X5_dig_21 : decode cX5_dig 21 = .ok (.invokevirtual 92, 3) := by decide +kernel
theorem c_X5_92 : ckV "GridStore" 92 3 mX4_write = true := by decide +kernel
theorem d_X5_dig_33 : decode cX5_dig 33 = .ok (.ireturn, 1) := by decide +kernel
theorem d_X5_eitherOf_13 : decode cX5_eitherOf 13 = .ok (.lreturn, 1) := by decide +kernel
theorem d_X5_fill_2 : decode cX5_fill 2 = .ok (.invokevirtual 53, 3) := by decide +kernel
theorem d_X5_fill_15 : decode cX5_fill 15 = .ok (.invokestatic 57, 3) := by decide +kernel
theorem c_X5_57 : ckS "GridStore" 57 5 mX5_requireRectangle = true := by decide +kernel
theorem d_X5_fill_56 : decode cX5_fill 56 = .ok (.invokevirtual 92, 3) := by decide +kernel
theorem d_X5_fill_76 : decode cX5_fill 76 = .ok (.ireturn, 1) := by decide +kernel
theorem d_X5_find_2 : decode cX5_find 2 = .ok (.invokevirtual 53, 3) := by decide +kernel
theorem d_X5_find_35 : decode cX5_find 35 = .ok (.invokevirtual 98, 3) := by decide +kernel
theorem c_X5_98 : ckV "GridStore" 98 2 mX4_cell = true := by decide +kernel
theorem d_X5_find_65 : decode cX5_find 65 = .ok (.ireturn, 1) := by decide +kernel
theorem d_X5_find_79 : decode cX5_find 79 = .ok (.ireturn, 1) := by decide +kernel
theorem d_X5_fold_2 : decode cX5_fold 2 = .ok (.invokevirtual 53, 3) := by decide +kernel
theorem d_X5_fold_9 : decode cX5_fold 9 = .ok (.invokevirtual 106, 3) := by decide +kernel
theorem d_X5_fold_44 : decode cX5_fold 44 = .ok (.invokestatic 175, 3) := by decide +kernel
theorem d_X5_fold_87 : decode cX5_fold 87 = .ok (.invokevirtual 163, 3) := by decide +kernel
theorem d_X5_fold_145 : decode cX5_fold 145 = .ok (.invokevirtual 181, 3) := by decide +kernel
theorem c_X5_181 : ckV "GridStore" 181 4 mX3_sumCell = true := by decide +kernel
theorem d_X5_fold_148 : decode cX5_fold 148 = .ok (.invokevirtual 184, 3) := by decide +kernel
theorem d_X5_fold_168 : decode cX5_fold 168 = .ok (.ireturn, 1) := by decide +kernel
theorem d_X5_get_2 : decode cX5_get 2 = .ok (.invokevirtual 53, 3) := by decide +kernel
theorem d_X5_get_11 : decode cX5_get 11 = .ok (.invokestatic 84, 3) := by decide +kernel
theorem d_X5_get_18 : decode cX5_get 18 = .ok (.invokevirtual 98, 3) := by decide +kernel
theorem d_X5_get_21 : decode cX5_get 21 = .ok (.invokestatic 102, 3) := by decide +kernel
theorem c_X5_102 : ckS "GridStore" 102 1 mX5_numberOf = true := by decide +kernel
theorem d_X5_get_24 : decode cX5_get 24 = .ok (.ireturn, 1) := by decide +kernel
theorem d_X5_grid_22 : decode cX5_grid 22 = .ok (.new 39, 3) := by decide +kernel
theorem d_X5_grid_25 : decode cX5_grid 25 = .ok (.dup, 1) := by decide +kernel
theorem d_X5_grid_26 : decode cX5_grid 26 = .ok (.invokespecial 41, 3) := by decide +kernel
theorem d_X5_grid_29 : decode cX5_grid 29 = .ok (.athrow, 1) := by decide +kernel
theorem d_X5_grid_48 : decode cX5_grid 48 = .ok (.new 42, 3) := by decide +kernel
theorem d_X5_grid_51 : decode cX5_grid 51 = .ok (.dup, 1) := by decide +kernel
theorem t_X5_42 : ckT "GridStore" 42 44 xUOE = true := by decide +kernel
theorem d_X5_grid_52 : decode cX5_grid 52 = .ok (.invokespecial 44, 3) := by decide +kernel
-- call of java/lang/UnsupportedOperationException.<init>()V at X5_grid 52
theorem d_X5_grid_55 : decode cX5_grid 55 = .ok (.athrow, 1) := by decide +kernel
theorem d_X5_grid_61 : decode cX5_grid 61 = .ok (.new 23, 3) := by decide +kernel
theorem d_X5_grid_64 : decode cX5_grid 64 = .ok (.dup, 1) := by decide +kernel
theorem n_X5_23 : ckN "GridStore" 23 4 [.null, .int 0, .int 0, .int 0, .int 0, .int 0, .int 0, .int 0, .int 0, .int 0] = true := by decide +kernel
theorem d_X5_grid_65 : decode cX5_grid 65 = .ok (.new 45, 3) := by decide +kernel
theorem d_X5_grid_68 : decode cX5_grid 68 = .ok (.dup, 1) := by decide +kernel
theorem n_X5_45 : ckN "GridStore" 45 1 [.int 0, .int 0, .null, .null, .null, .int 0] = true := by decide +kernel
theorem d_X5_grid_75 : decode cX5_grid 75 = .ok (.invokespecial 47, 3) := by decide +kernel
theorem c_X5_47 : ckI "GridStore" 47 3 mX1_init = true := by decide +kernel
theorem d_X5_grid_78 : decode cX5_grid 78 = .ok (.invokespecial 50, 3) := by decide +kernel
theorem c_X5_50 : ckI "GridStore" 50 1 mX4_init = true := by decide +kernel
theorem d_X5_grid_93 : decode cX5_grid 93 = .ok (.ireturn, 1) := by decide +kernel
theorem d_X5_gridOf_28 : decode cX5_gridOf 28 = .ok (.new 71, 3) := by decide +kernel
theorem d_X5_gridOf_31 : decode cX5_gridOf 31 = .ok (.dup, 1) := by decide +kernel
theorem d_X5_gridOf_32 : decode cX5_gridOf 32 = .ok (.invokespecial 73, 3) := by decide +kernel
theorem d_X5_gridOf_35 : decode cX5_gridOf 35 = .ok (.athrow, 1) := by decide +kernel
theorem d_X5_gridOf_40 : decode cX5_gridOf 40 = .ok (.areturn, 1) := by decide +kernel
theorem d_X5_hole_2 : decode cX5_hole 2 = .ok (.invokevirtual 53, 3) := by decide +kernel
theorem d_X5_hole_11 : decode cX5_hole 11 = .ok (.invokestatic 84, 3) := by decide +kernel
theorem d_X5_hole_18 : decode cX5_hole 18 = .ok (.invokevirtual 98, 3) := by decide +kernel
theorem d_X5_hole_33 : decode cX5_hole 33 = .ok (.ireturn, 1) := by decide +kernel
theorem d_X5_init_1 : decode cX5_init 1 = .ok (.invokespecial 1, 3) := by decide +kernel
theorem o_X5_1 : Cond.methodLink "GridStore" 1 Lib.objectInit ∈ ALL := by decide +kernel
theorem d_X5_init_5 : decode cX5_init 5 = .ok (.new 7, 3) := by decide +kernel
theorem d_X5_init_8 : decode cX5_init 8 = .ok (.dup, 1) := by decide +kernel
theorem n_X5_7 : ckN "GridStore" 7 2 [.null] = true := by decide +kernel
theorem d_X5_init_9 : decode cX5_init 9 = .ok (.invokespecial 9, 3) := by decide +kernel
theorem c_X5_9 : ckIN "GridStore" 9 0 mX2_init = true := by decide +kernel
theorem d_X5_init_16 : decode cX5_init 16 = .ok (.new 16, 3) := by decide +kernel
theorem d_X5_init_19 : decode cX5_init 19 = .ok (.dup, 1) := by decide +kernel
theorem n_X5_16 : ckN "GridStore" 16 3 [.null, .null, .int 0, .int 0] = true := by decide +kernel
theorem d_X5_init_20 : decode cX5_init 20 = .ok (.invokespecial 18, 3) := by decide +kernel
theorem c_X5_18 : ckIN "GridStore" 18 0 mX3_init = true := by decide +kernel
theorem d_X5_init_29 : decode cX5_init 29 = .ok (.anewarray 23, 3) := by decide +kernel
theorem a_X5_23 : Cond.classLink "GridStore" 23 "GridStore$Window" ∈ ALL := by decide +kernel
theorem d_X5_init_38 : decode cX5_init 38 = .ok (.anewarray 23, 3) := by decide +kernel
theorem d_X5_init_54 : decode cX5_init 54 = .ok (.return_, 1) := by decide +kernel
theorem d_X5_join_2 : decode cX5_join 2 = .ok (.invokevirtual 53, 3) := by decide +kernel
theorem d_X5_join_9 : decode cX5_join 9 = .ok (.invokevirtual 53, 3) := by decide +kernel
theorem d_X5_join_17 : decode cX5_join 17 = .ok (.invokevirtual 106, 3) := by decide +kernel
theorem d_X5_join_31 : decode cX5_join 31 = .ok (.new 39, 3) := by decide +kernel
theorem d_X5_join_34 : decode cX5_join 34 = .ok (.dup, 1) := by decide +kernel
theorem d_X5_join_35 : decode cX5_join 35 = .ok (.invokespecial 41, 3) := by decide +kernel
theorem d_X5_join_38 : decode cX5_join 38 = .ok (.athrow, 1) := by decide +kernel
theorem d_X5_join_53 : decode cX5_join 53 = .ok (.invokestatic 175, 3) := by decide +kernel
theorem d_X5_join_70 : decode cX5_join 70 = .ok (.invokestatic 175, 3) := by decide +kernel
theorem d_X5_join_116 : decode cX5_join 116 = .ok (.invokevirtual 98, 3) := by decide +kernel
theorem d_X5_join_125 : decode cX5_join 125 = .ok (.invokevirtual 98, 3) := by decide +kernel
theorem d_X5_join_129 : decode cX5_join 129 = .ok (.invokestatic 185, 3) := by decide +kernel
theorem c_X5_185 : ckS "GridStore" 185 3 mX5_joined = true := by decide +kernel
theorem d_X5_join_132 : decode cX5_join 132 = .ok (.invokevirtual 184, 3) := by decide +kernel
theorem d_X5_join_152 : decode cX5_join 152 = .ok (.ireturn, 1) := by decide +kernel
theorem d_X5_joined_25 : decode cX5_joined 25 = .ok (.tableswitch 69 0 2 #[27, 46, 63], 27) := by decide +kernel
theorem d_X5_joined_67 : decode cX5_joined 67 = .ok (.invokestatic 224, 3) := by decide +kernel
theorem c_X5_224 : ckS "GridStore" 224 2 mX5_eitherOf = true := by decide +kernel
theorem d_X5_joined_70 : decode cX5_joined 70 = .ok (.lreturn, 1) := by decide +kernel
theorem d_X5_joined_78 : decode cX5_joined 78 = .ok (.invokestatic 228, 3) := by decide +kernel
theorem c_X5_228 : ckS "GridStore" 228 2 mJ9_min_f86c9 = true := by decide +kernel
theorem d_X5_joined_87 : decode cX5_joined 87 = .ok (.lreturn, 1) := by decide +kernel
theorem d_X5_joined_90 : decode cX5_joined 90 = .ok (.invokestatic 224, 3) := by decide +kernel
theorem d_X5_joined_93 : decode cX5_joined 93 = .ok (.lreturn, 1) := by decide +kernel
theorem d_X5_joined_109 : decode cX5_joined 109 = .ok (.lreturn, 1) := by decide +kernel
theorem d_X5_keep_2 : decode cX5_keep 2 = .ok (.invokevirtual 106, 3) := by decide +kernel
theorem d_X5_keep_5 : decode cX5_keep 5 = .ok (.invokevirtual 121, 3) := by decide +kernel
theorem c_X5_121 : ckV "GridStore" 121 0 mX1_addLayer = true := by decide +kernel
theorem d_X5_keep_8 : decode cX5_keep 8 = .ok (.ireturn, 1) := by decide +kernel
theorem d_X5_kind_2 : decode cX5_kind 2 = .ok (.invokevirtual 106, 3) := by decide +kernel
theorem d_X5_kind_14 : decode cX5_kind 14 = .ok (.invokevirtual 110, 3) := by decide +kernel
theorem c_X5_110 : ckV "GridStore" 110 0 mX1_piecesWide = true := by decide +kernel
theorem d_X5_kind_27 : decode cX5_kind 27 = .ok (.invokevirtual 114, 3) := by decide +kernel
theorem c_X5_114 : ckV "GridStore" 114 0 mX1_piecesHigh = true := by decide +kernel
theorem d_X5_kind_33 : decode cX5_kind 33 = .ok (.new 71, 3) := by decide +kernel
theorem d_X5_kind_36 : decode cX5_kind 36 = .ok (.dup, 1) := by decide +kernel
theorem d_X5_kind_37 : decode cX5_kind 37 = .ok (.invokespecial 73, 3) := by decide +kernel
theorem d_X5_kind_40 : decode cX5_kind 40 = .ok (.athrow, 1) := by decide +kernel
theorem d_X5_kind_45 : decode cX5_kind 45 = .ok (.invokevirtual 117, 3) := by decide +kernel
theorem c_X5_117 : ckV "GridStore" 117 2 mX1_pieceKind = true := by decide +kernel
theorem d_X5_kind_48 : decode cX5_kind 48 = .ok (.ireturn, 1) := by decide +kernel
theorem d_X5_layerOf_2 : decode cX5_layerOf 2 = .ok (.invokevirtual 217, 3) := by decide +kernel
theorem c_X5_217 : ckV "GridStore" 217 1 mX1_layer = true := by decide +kernel
theorem d_X5_layerOf_10 : decode cX5_layerOf 10 = .ok (.new 71, 3) := by decide +kernel
theorem d_X5_layerOf_13 : decode cX5_layerOf 13 = .ok (.dup, 1) := by decide +kernel
theorem d_X5_layerOf_14 : decode cX5_layerOf 14 = .ok (.invokespecial 73, 3) := by decide +kernel
theorem d_X5_layerOf_17 : decode cX5_layerOf 17 = .ok (.athrow, 1) := by decide +kernel
theorem d_X5_layerOf_19 : decode cX5_layerOf 19 = .ok (.areturn, 1) := by decide +kernel
theorem d_X5_lose_9 : decode cX5_lose 9 = .ok (.new 71, 3) := by decide +kernel
theorem d_X5_lose_12 : decode cX5_lose 12 = .ok (.dup, 1) := by decide +kernel
theorem d_X5_lose_13 : decode cX5_lose 13 = .ok (.invokespecial 73, 3) := by decide +kernel
theorem d_X5_lose_16 : decode cX5_lose 16 = .ok (.athrow, 1) := by decide +kernel
theorem d_X5_lose_23 : decode cX5_lose 23 = .ok (.invokevirtual 148, 3) := by decide +kernel
theorem c_X5_148 : ckV "GridStore" 148 2 mX2_mark = true := by decide +kernel
theorem d_X5_lose_68 : decode cX5_lose 68 = .ok (.invokevirtual 156, 3) := by decide +kernel
theorem c_X5_156 : ckV "GridStore" 156 0 mX1_bareLostPieces = true := by decide +kernel
theorem d_X5_lose_78 : decode cX5_lose 78 = .ok (.ireturn, 1) := by decide +kernel
theorem d_X5_many_2 : decode cX5_many 2 = .ok (.invokevirtual 53, 3) := by decide +kernel
theorem d_X5_many_13 : decode cX5_many 13 = .ok (.invokestatic 159, 3) := by decide +kernel
theorem c_X5_159 : ckS "GridStore" 159 4 mX5_requireAround = true := by decide +kernel
theorem d_X5_many_22 : decode cX5_many 22 = .ok (.invokevirtual 163, 3) := by decide +kernel
theorem d_X5_many_45 : decode cX5_many 45 = .ok (.invokevirtual 171, 3) := by decide +kernel
theorem c_X5_171 : ckV "GridStore" 171 4 mX3_numbersIn = true := by decide +kernel
theorem d_X5_many_48 : decode cX5_many 48 = .ok (.ireturn, 1) := by decide +kernel
theorem d_X5_numberOf_8 : decode cX5_numberOf 8 = .ok (.new 221, 3) := by decide +kernel
theorem d_X5_numberOf_11 : decode cX5_numberOf 11 = .ok (.dup, 1) := by decide +kernel
theorem t_X5_221 : ckT "GridStore" 221 223 xNSE = true := by decide +kernel
theorem d_X5_numberOf_12 : decode cX5_numberOf 12 = .ok (.invokespecial 223, 3) := by decide +kernel
-- call of java/util/NoSuchElementException.<init>()V at X5_numberOf 12
theorem d_X5_numberOf_15 : decode cX5_numberOf 15 = .ok (.athrow, 1) := by decide +kernel
theorem d_X5_numberOf_18 : decode cX5_numberOf 18 = .ok (.ireturn, 1) := by decide +kernel
theorem d_X5_read_2 : decode cX5_read 2 = .ok (.invokevirtual 53, 3) := by decide +kernel
theorem d_X5_read_15 : decode cX5_read 15 = .ok (.invokestatic 57, 3) := by decide +kernel
theorem d_X5_read_26 : decode cX5_read 26 = .ok (.invokevirtual 192, 3) := by decide +kernel
theorem c_X5_192 : ckV "GridStore" 192 4 mX4_piecesUnder = true := by decide +kernel
theorem d_X5_read_29 : decode cX5_read 29 = .ok (.ireturn, 1) := by decide +kernel
theorem d_X5_requireAround_3 : decode cX5_requireAround 3 = .ok (.invokestatic 84, 3) := by decide +kernel
theorem d_X5_requireAround_16 : decode cX5_requireAround 16 = .ok (.new 39, 3) := by decide +kernel
theorem d_X5_requireAround_19 : decode cX5_requireAround 19 = .ok (.dup, 1) := by decide +kernel
theorem d_X5_requireAround_20 : decode cX5_requireAround 20 = .ok (.invokespecial 41, 3) := by decide +kernel
theorem d_X5_requireAround_23 : decode cX5_requireAround 23 = .ok (.athrow, 1) := by decide +kernel
theorem d_X5_requireAround_24 : decode cX5_requireAround 24 = .ok (.return_, 1) := by decide +kernel
theorem d_X5_requireCell_24 : decode cX5_requireCell 24 = .ok (.new 71, 3) := by decide +kernel
theorem d_X5_requireCell_27 : decode cX5_requireCell 27 = .ok (.dup, 1) := by decide +kernel
theorem d_X5_requireCell_28 : decode cX5_requireCell 28 = .ok (.invokespecial 73, 3) := by decide +kernel
theorem d_X5_requireCell_31 : decode cX5_requireCell 31 = .ok (.athrow, 1) := by decide +kernel
theorem d_X5_requireCell_32 : decode cX5_requireCell 32 = .ok (.return_, 1) := by decide +kernel
theorem d_X5_requireFit_24 : decode cX5_requireFit 24 = .ok (.new 39, 3) := by decide +kernel
theorem d_X5_requireFit_27 : decode cX5_requireFit 27 = .ok (.dup, 1) := by decide +kernel
theorem d_X5_requireFit_28 : decode cX5_requireFit 28 = .ok (.invokespecial 41, 3) := by decide +kernel
theorem d_X5_requireFit_31 : decode cX5_requireFit 31 = .ok (.athrow, 1) := by decide +kernel
theorem d_X5_requireFit_32 : decode cX5_requireFit 32 = .ok (.return_, 1) := by decide +kernel
theorem d_X5_requireRectangle_81 : decode cX5_requireRectangle 81 = .ok (.new 39, 3) := by decide +kernel
theorem d_X5_requireRectangle_84 : decode cX5_requireRectangle 84 = .ok (.dup, 1) := by decide +kernel
theorem d_X5_requireRectangle_85 : decode cX5_requireRectangle 85 = .ok (.invokespecial 41, 3) := by decide +kernel
theorem d_X5_requireRectangle_88 : decode cX5_requireRectangle 88 = .ok (.athrow, 1) := by decide +kernel
theorem d_X5_requireRectangle_89 : decode cX5_requireRectangle 89 = .ok (.return_, 1) := by decide +kernel
theorem d_X5_set_2 : decode cX5_set 2 = .ok (.invokevirtual 53, 3) := by decide +kernel
theorem d_X5_set_11 : decode cX5_set 11 = .ok (.invokestatic 84, 3) := by decide +kernel
theorem d_X5_set_18 : decode cX5_set 18 = .ok (.invokevirtual 88, 3) := by decide +kernel
theorem c_X5_88 : ckV "GridStore" 88 2 mX4_writable = true := by decide +kernel
theorem d_X5_set_25 : decode cX5_set 25 = .ok (.ireturn, 1) := by decide +kernel
theorem d_X5_set_33 : decode cX5_set 33 = .ok (.invokevirtual 92, 3) := by decide +kernel
theorem d_X5_set_38 : decode cX5_set 38 = .ok (.ireturn, 1) := by decide +kernel
theorem d_X5_size_2 : decode cX5_size 2 = .ok (.invokevirtual 53, 3) := by decide +kernel
theorem d_X5_size_21 : decode cX5_size 21 = .ok (.ireturn, 1) := by decide +kernel
theorem d_X5_slide_2 : decode cX5_slide 2 = .ok (.invokevirtual 53, 3) := by decide +kernel
theorem d_X5_slide_9 : decode cX5_slide 9 = .ok (.invokevirtual 106, 3) := by decide +kernel
theorem d_X5_slide_23 : decode cX5_slide 23 = .ok (.new 39, 3) := by decide +kernel
theorem d_X5_slide_26 : decode cX5_slide 26 = .ok (.dup, 1) := by decide +kernel
theorem d_X5_slide_27 : decode cX5_slide 27 = .ok (.invokespecial 41, 3) := by decide +kernel
theorem d_X5_slide_30 : decode cX5_slide 30 = .ok (.athrow, 1) := by decide +kernel
theorem d_X5_slide_45 : decode cX5_slide 45 = .ok (.invokestatic 175, 3) := by decide +kernel
theorem d_X5_slide_54 : decode cX5_slide 54 = .ok (.invokevirtual 163, 3) := by decide +kernel
theorem d_X5_slide_114 : decode cX5_slide 114 = .ok (.invokevirtual 181, 3) := by decide +kernel
theorem d_X5_slide_117 : decode cX5_slide 117 = .ok (.invokevirtual 184, 3) := by decide +kernel
theorem d_X5_slide_137 : decode cX5_slide 137 = .ok (.ireturn, 1) := by decide +kernel
theorem d_X5_sum_2 : decode cX5_sum 2 = .ok (.invokevirtual 53, 3) := by decide +kernel
theorem d_X5_sum_13 : decode cX5_sum 13 = .ok (.invokestatic 159, 3) := by decide +kernel
theorem d_X5_sum_22 : decode cX5_sum 22 = .ok (.invokevirtual 163, 3) := by decide +kernel
theorem d_X5_sum_45 : decode cX5_sum 45 = .ok (.invokevirtual 167, 3) := by decide +kernel
theorem c_X5_167 : ckV "GridStore" 167 4 mX3_sumOf = true := by decide +kernel
theorem d_X5_sum_48 : decode cX5_sum 48 = .ok (.lreturn, 1) := by decide +kernel
theorem d_X5_view_2 : decode cX5_view 2 = .ok (.invokevirtual 53, 3) := by decide +kernel
theorem d_X5_view_15 : decode cX5_view 15 = .ok (.invokestatic 57, 3) := by decide +kernel
theorem d_X5_view_29 : decode cX5_view 29 = .ok (.new 39, 3) := by decide +kernel
theorem d_X5_view_32 : decode cX5_view 32 = .ok (.dup, 1) := by decide +kernel
theorem d_X5_view_33 : decode cX5_view 33 = .ok (.invokespecial 41, 3) := by decide +kernel
theorem d_X5_view_36 : decode cX5_view 36 = .ok (.athrow, 1) := by decide +kernel
theorem d_X5_view_58 : decode cX5_view 58 = .ok (.new 42, 3) := by decide +kernel
theorem d_X5_view_61 : decode cX5_view 61 = .ok (.dup, 1) := by decide +kernel
theorem d_X5_view_62 : decode cX5_view 62 = .ok (.invokespecial 44, 3) := by decide +kernel
theorem d_X5_view_65 : decode cX5_view 65 = .ok (.athrow, 1) := by decide +kernel
theorem d_X5_view_74 : decode cX5_view 74 = .ok (.invokevirtual 61, 3) := by decide +kernel
theorem c_X5_61 : ckV "GridStore" 61 4 mX4_part = true := by decide +kernel
theorem d_X5_view_91 : decode cX5_view 91 = .ok (.invokevirtual 65, 3) := by decide +kernel
theorem c_X5_65 : ckV "GridStore" 65 0 mX4_turn = true := by decide +kernel
theorem d_X5_view_107 : decode cX5_view 107 = .ok (.invokevirtual 68, 3) := by decide +kernel
theorem c_X5_68 : ckV "GridStore" 68 0 mX4_flip = true := by decide +kernel
theorem d_X5_view_131 : decode cX5_view 131 = .ok (.ireturn, 1) := by decide +kernel
theorem d_X5_was_2 : decode cX5_was 2 = .ok (.invokevirtual 106, 3) := by decide +kernel
theorem d_X5_was_10 : decode cX5_was 10 = .ok (.invokestatic 124, 3) := by decide +kernel
theorem d_X5_was_20 : decode cX5_was 20 = .ok (.invokevirtual 132, 3) := by decide +kernel
theorem c_X5_132 : ckV "GridStore" 132 2 mX0_inside = true := by decide +kernel
theorem d_X5_was_26 : decode cX5_was 26 = .ok (.new 71, 3) := by decide +kernel
theorem d_X5_was_29 : decode cX5_was 29 = .ok (.dup, 1) := by decide +kernel
theorem d_X5_was_30 : decode cX5_was 30 = .ok (.invokespecial 73, 3) := by decide +kernel
theorem d_X5_was_33 : decode cX5_was 33 = .ok (.athrow, 1) := by decide +kernel
theorem d_X5_was_39 : decode cX5_was 39 = .ok (.invokevirtual 137, 3) := by decide +kernel
theorem c_X5_137 : ckV "GridStore" 137 2 mX0_at = true := by decide +kernel
theorem d_X5_was_42 : decode cX5_was 42 = .ok (.invokestatic 102, 3) := by decide +kernel
theorem d_X5_was_45 : decode cX5_was 45 = .ok (.ireturn, 1) := by decide +kernel
theorem d_X5_windowOf_57 : decode cX5_windowOf 57 = .ok (.new 71, 3) := by decide +kernel
theorem d_X5_windowOf_60 : decode cX5_windowOf 60 = .ok (.dup, 1) := by decide +kernel
theorem d_X5_windowOf_61 : decode cX5_windowOf 61 = .ok (.invokespecial 73, 3) := by decide +kernel
theorem d_X5_windowOf_64 : decode cX5_windowOf 64 = .ok (.athrow, 1) := by decide +kernel
theorem d_X5_windowOf_66 : decode cX5_windowOf 66 = .ok (.areturn, 1) := by decide +kernel
