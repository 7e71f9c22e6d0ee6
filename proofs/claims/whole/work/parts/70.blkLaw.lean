def k_L_back_0 : List En := [(.aload_n 3, 1, 0, 0, 0, 3, .int), (.iconst 0, 1, 0, 0, 0, 0, .int), (.aload_n 0, 1, 0, 0, 0, 0, .int), (.iload_n 1, 1, 0, 0, 0, 1, .int), (.iload_n 2, 1, 0, 0, 0, 2, .int)]
theorem b_L_back_0 : isAt "GridStoreLaw" 5 false cL_back 0 k_L_back_0 = true := by decide +kernel
def k_L_back_8 : List En := [(.i2l, 1, 0, 0, 0, 0, .int), (.lastore, 1, 0, 0, 0, 0, .int), (.goto 7, 3, 17, 0, 0, 0, .int)]
theorem b_L_back_8 : isAt "GridStoreLaw" 5 false cL_back 8 k_L_back_8 = true := by decide +kernel
def k_L_back_13 : List En := [(.astore 4, 2, 0, 0, 0, 4, .int), (.iconst 1, 1, 0, 1, 0, 0, .int)]
theorem b_L_back_13 : isAt "GridStoreLaw" 5 false cL_back 13 k_L_back_13 = true := by decide +kernel
def k_L_back_17 : List En := [(.iconst 0, 1, 0, 0, 0, 0, .int)]
theorem b_L_back_17 : isAt "GridStoreLaw" 5 false cL_back 17 k_L_back_17 = true := by decide +kernel
def k_L_close_0 : List En := [(.aload_n 3, 1, 0, 0, 0, 3, .int), (.iconst 0, 1, 0, 0, 0, 0, .int), (.aload_n 0, 1, 0, 0, 0, 0, .int), (.iload_n 1, 1, 0, 0, 0, 1, .int), (.iload_n 2, 1, 0, 0, 0, 2, .int)]
theorem b_L_close_0 : isAt "GridStoreLaw" 5 false cL_close 0 k_L_close_0 = true := by decide +kernel
def k_L_close_8 : List En := [(.ifCond .eq 7, 3, 15, 0, 0, 0, .int), (.lconst 1, 1, 0, 0, 0, 0, .int), (.goto 4, 3, 16, 0, 0, 0, .int)]
theorem b_L_close_8 : isAt "GridStoreLaw" 5 false cL_close 8 k_L_close_8 = true := by decide +kernel
def k_L_close_15 : List En := [(.lconst 0, 1, 0, 0, 0, 0, .int)]
theorem b_L_close_15 : isAt "GridStoreLaw" 5 false cL_close 15 k_L_close_15 = true := by decide +kernel
def k_L_close_16 : List En := [(.lastore, 1, 0, 0, 0, 0, .int), (.goto 7, 3, 24, 0, 0, 0, .int)]
theorem b_L_close_16 : isAt "GridStoreLaw" 5 false cL_close 16 k_L_close_16 = true := by decide +kernel
def k_L_close_20 : List En := [(.astore 4, 2, 0, 0, 0, 4, .int), (.iconst 1, 1, 0, 1, 0, 0, .int)]
theorem b_L_close_20 : isAt "GridStoreLaw" 5 false cL_close 20 k_L_close_20 = true := by decide +kernel
def k_L_close_24 : List En := [(.iconst 0, 1, 0, 0, 0, 0, .int)]
theorem b_L_close_24 : isAt "GridStoreLaw" 5 false cL_close 24 k_L_close_24 = true := by decide +kernel
def k_L_coarse_0 : List En := [(.aload 4, 2, 0, 0, 0, 4, .int), (.iconst 0, 1, 0, 0, 0, 0, .int), (.aload_n 0, 1, 0, 0, 0, 0, .int), (.iload_n 1, 1, 0, 0, 0, 1, .int), (.iload_n 2, 1, 0, 0, 0, 2, .int), (.iload_n 3, 1, 0, 0, 0, 3, .int)]
theorem b_L_coarse_0 : isAt "GridStoreLaw" 6 false cL_coarse 0 k_L_coarse_0 = true := by decide +kernel
def k_L_coarse_10 : List En := [(.i2l, 1, 0, 0, 0, 0, .int), (.lastore, 1, 0, 0, 0, 0, .int), (.goto 11, 3, 23, 0, 0, 0, .int)]
theorem b_L_coarse_10 : isAt "GridStoreLaw" 6 false cL_coarse 10 k_L_coarse_10 = true := by decide +kernel
def k_L_coarse_15 : List En := [(.astore 5, 2, 0, 0, 0, 5, .int), (.iconst 1, 1, 0, 1, 0, 0, .int)]
theorem b_L_coarse_15 : isAt "GridStoreLaw" 6 false cL_coarse 15 k_L_coarse_15 = true := by decide +kernel
def k_L_coarse_19 : List En := [(.astore 5, 2, 0, 0, 0, 5, .int), (.iconst 2, 1, 0, 2, 0, 0, .int)]
theorem b_L_coarse_19 : isAt "GridStoreLaw" 6 false cL_coarse 19 k_L_coarse_19 = true := by decide +kernel
def k_L_coarse_23 : List En := [(.iconst 0, 1, 0, 0, 0, 0, .int)]
theorem b_L_coarse_23 : isAt "GridStoreLaw" 6 false cL_coarse 23 k_L_coarse_23 = true := by decide +kernel
def k_L_differ_0 : List En := [(.aload 4, 2, 0, 0, 0, 4, .int), (.iconst 0, 1, 0, 0, 0, 0, .int), (.aload_n 0, 1, 0, 0, 0, 0, .int), (.iload_n 1, 1, 0, 0, 0, 1, .int), (.iload_n 2, 1, 0, 0, 0, 2, .int), (.iload_n 3, 1, 0, 0, 0, 3, .int)]
theorem b_L_differ_0 : isAt "GridStoreLaw" 6 false cL_differ 0 k_L_differ_0 = true := by decide +kernel
def k_L_differ_10 : List En := [(.i2l, 1, 0, 0, 0, 0, .int), (.lastore, 1, 0, 0, 0, 0, .int), (.goto 7, 3, 19, 0, 0, 0, .int)]
theorem b_L_differ_10 : isAt "GridStoreLaw" 6 false cL_differ 10 k_L_differ_10 = true := by decide +kernel
def k_L_differ_15 : List En := [(.astore 5, 2, 0, 0, 0, 5, .int), (.iconst 1, 1, 0, 1, 0, 0, .int)]
theorem b_L_differ_15 : isAt "GridStoreLaw" 6 false cL_differ 15 k_L_differ_15 = true := by decide +kernel
def k_L_differ_19 : List En := [(.iconst 0, 1, 0, 0, 0, 0, .int)]
theorem b_L_differ_19 : isAt "GridStoreLaw" 6 false cL_differ 19 k_L_differ_19 = true := by decide +kernel
def k_L_dig_0 : List En := [(.aload 4, 2, 0, 0, 0, 4, .int), (.iconst 0, 1, 0, 0, 0, 0, .int), (.aload_n 0, 1, 0, 0, 0, 0, .int), (.iload_n 1, 1, 0, 0, 0, 1, .int), (.iload_n 2, 1, 0, 0, 0, 2, .int), (.iload_n 3, 1, 0, 0, 0, 3, .int)]
theorem b_L_dig_0 : isAt "GridStoreLaw" 6 false cL_dig 0 k_L_dig_0 = true := by decide +kernel
def k_L_dig_10 : List En := [(.ifCond .eq 7, 3, 17, 0, 0, 0, .int), (.lconst 1, 1, 0, 0, 0, 0, .int), (.goto 4, 3, 18, 0, 0, 0, .int)]
theorem b_L_dig_10 : isAt "GridStoreLaw" 6 false cL_dig 10 k_L_dig_10 = true := by decide +kernel
def k_L_dig_17 : List En := [(.lconst 0, 1, 0, 0, 0, 0, .int)]
theorem b_L_dig_17 : isAt "GridStoreLaw" 6 false cL_dig 17 k_L_dig_17 = true := by decide +kernel
def k_L_dig_18 : List En := [(.lastore, 1, 0, 0, 0, 0, .int), (.goto 7, 3, 26, 0, 0, 0, .int)]
theorem b_L_dig_18 : isAt "GridStoreLaw" 6 false cL_dig 18 k_L_dig_18 = true := by decide +kernel
def k_L_dig_22 : List En := [(.astore 5, 2, 0, 0, 0, 5, .int), (.iconst 1, 1, 0, 1, 0, 0, .int)]
theorem b_L_dig_22 : isAt "GridStoreLaw" 6 false cL_dig 22 k_L_dig_22 = true := by decide +kernel
def k_L_dig_26 : List En := [(.iconst 0, 1, 0, 0, 0, 0, .int)]
theorem b_L_dig_26 : isAt "GridStoreLaw" 6 false cL_dig 26 k_L_dig_26 = true := by decide +kernel
def k_L_fill_0 : List En := [(.aload 7, 2, 0, 0, 0, 7, .int), (.iconst 0, 1, 0, 0, 0, 0, .int), (.aload_n 0, 1, 0, 0, 0, 0, .int), (.iload_n 1, 1, 0, 0, 0, 1, .int), (.iload_n 2, 1, 0, 0, 0, 2, .int), (.iload_n 3, 1, 0, 0, 0, 3, .int), (.iload 4, 2, 0, 0, 0, 4, .int), (.iload 5, 2, 0, 0, 0, 5, .int), (.iload 6, 2, 0, 0, 0, 6, .int)]
theorem b_L_fill_0 : isAt "GridStoreLaw" 9 false cL_fill 0 k_L_fill_0 = true := by decide +kernel
def k_L_fill_16 : List En := [(.i2l, 1, 0, 0, 0, 0, .int), (.lastore, 1, 0, 0, 0, 0, .int), (.goto 11, 3, 29, 0, 0, 0, .int)]
theorem b_L_fill_16 : isAt "GridStoreLaw" 9 false cL_fill 16 k_L_fill_16 = true := by decide +kernel
def k_L_fill_21 : List En := [(.astore 8, 2, 0, 0, 0, 8, .int), (.iconst 1, 1, 0, 1, 0, 0, .int)]
theorem b_L_fill_21 : isAt "GridStoreLaw" 9 false cL_fill 21 k_L_fill_21 = true := by decide +kernel
def k_L_fill_25 : List En := [(.astore 8, 2, 0, 0, 0, 8, .int), (.iconst 2, 1, 0, 2, 0, 0, .int)]
theorem b_L_fill_25 : isAt "GridStoreLaw" 9 false cL_fill 25 k_L_fill_25 = true := by decide +kernel
def k_L_fill_29 : List En := [(.iconst 0, 1, 0, 0, 0, 0, .int)]
theorem b_L_fill_29 : isAt "GridStoreLaw" 9 false cL_fill 29 k_L_fill_29 = true := by decide +kernel
def k_L_find_0 : List En := [(.aload_n 3, 1, 0, 0, 0, 3, .int), (.iconst 0, 1, 0, 0, 0, 0, .int), (.aload_n 0, 1, 0, 0, 0, 0, .int), (.iload_n 1, 1, 0, 0, 0, 1, .int), (.iload_n 2, 1, 0, 0, 0, 2, .int)]
theorem b_L_find_0 : isAt "GridStoreLaw" 5 false cL_find 0 k_L_find_0 = true := by decide +kernel
def k_L_find_8 : List En := [(.i2l, 1, 0, 0, 0, 0, .int), (.lastore, 1, 0, 0, 0, 0, .int), (.goto 7, 3, 17, 0, 0, 0, .int)]
theorem b_L_find_8 : isAt "GridStoreLaw" 5 false cL_find 8 k_L_find_8 = true := by decide +kernel
def k_L_find_13 : List En := [(.astore 4, 2, 0, 0, 0, 4, .int), (.iconst 1, 1, 0, 1, 0, 0, .int)]
theorem b_L_find_13 : isAt "GridStoreLaw" 5 false cL_find 13 k_L_find_13 = true := by decide +kernel
def k_L_find_17 : List En := [(.iconst 0, 1, 0, 0, 0, 0, .int)]
theorem b_L_find_17 : isAt "GridStoreLaw" 5 false cL_find 17 k_L_find_17 = true := by decide +kernel
def k_L_fold_0 : List En := [(.aload 4, 2, 0, 0, 0, 4, .int), (.iconst 0, 1, 0, 0, 0, 0, .int), (.aload_n 0, 1, 0, 0, 0, 0, .int), (.iload_n 1, 1, 0, 0, 0, 1, .int), (.iload_n 2, 1, 0, 0, 0, 2, .int), (.iload_n 3, 1, 0, 0, 0, 3, .int)]
theorem b_L_fold_0 : isAt "GridStoreLaw" 6 false cL_fold 0 k_L_fold_0 = true := by decide +kernel
def k_L_fold_10 : List En := [(.i2l, 1, 0, 0, 0, 0, .int), (.lastore, 1, 0, 0, 0, 0, .int), (.goto 11, 3, 23, 0, 0, 0, .int)]
theorem b_L_fold_10 : isAt "GridStoreLaw" 6 false cL_fold 10 k_L_fold_10 = true := by decide +kernel
def k_L_fold_15 : List En := [(.astore 5, 2, 0, 0, 0, 5, .int), (.iconst 1, 1, 0, 1, 0, 0, .int)]
theorem b_L_fold_15 : isAt "GridStoreLaw" 6 false cL_fold 15 k_L_fold_15 = true := by decide +kernel
def k_L_fold_19 : List En := [(.astore 5, 2, 0, 0, 0, 5, .int), (.iconst 2, 1, 0, 2, 0, 0, .int)]
theorem b_L_fold_19 : isAt "GridStoreLaw" 6 false cL_fold 19 k_L_fold_19 = true := by decide +kernel
def k_L_fold_23 : List En := [(.iconst 0, 1, 0, 0, 0, 0, .int)]
theorem b_L_fold_23 : isAt "GridStoreLaw" 6 false cL_fold 23 k_L_fold_23 = true := by decide +kernel
def k_L_get_0 : List En := [(.aload 4, 2, 0, 0, 0, 4, .int), (.iconst 0, 1, 0, 0, 0, 0, .int), (.aload_n 0, 1, 0, 0, 0, 0, .int), (.iload_n 1, 1, 0, 0, 0, 1, .int), (.iload_n 2, 1, 0, 0, 0, 2, .int), (.iload_n 3, 1, 0, 0, 0, 3, .int)]
theorem b_L_get_0 : isAt "GridStoreLaw" 6 false cL_get 0 k_L_get_0 = true := by decide +kernel
def k_L_get_10 : List En := [(.i2l, 1, 0, 0, 0, 0, .int), (.lastore, 1, 0, 0, 0, 0, .int), (.goto 11, 3, 23, 0, 0, 0, .int)]
theorem b_L_get_10 : isAt "GridStoreLaw" 6 false cL_get 10 k_L_get_10 = true := by decide +kernel
def k_L_get_15 : List En := [(.astore 5, 2, 0, 0, 0, 5, .int), (.iconst 1, 1, 0, 1, 0, 0, .int)]
theorem b_L_get_15 : isAt "GridStoreLaw" 6 false cL_get 15 k_L_get_15 = true := by decide +kernel
def k_L_get_19 : List En := [(.astore 5, 2, 0, 0, 0, 5, .int), (.iconst 2, 1, 0, 2, 0, 0, .int)]
theorem b_L_get_19 : isAt "GridStoreLaw" 6 false cL_get 19 k_L_get_19 = true := by decide +kernel
def k_L_get_23 : List En := [(.iconst 0, 1, 0, 0, 0, 0, .int)]
theorem b_L_get_23 : isAt "GridStoreLaw" 6 false cL_get 23 k_L_get_23 = true := by decide +kernel
def k_L_grid_0 : List En := [(.aload_n 3, 1, 0, 0, 0, 3, .int), (.iconst 0, 1, 0, 0, 0, 0, .int), (.aload_n 0, 1, 0, 0, 0, 0, .int), (.iload_n 1, 1, 0, 0, 0, 1, .int), (.iload_n 2, 1, 0, 0, 0, 2, .int)]
theorem b_L_grid_0 : isAt "GridStoreLaw" 5 false cL_grid 0 k_L_grid_0 = true := by decide +kernel
def k_L_grid_8 : List En := [(.i2l, 1, 0, 0, 0, 0, .int), (.lastore, 1, 0, 0, 0, 0, .int), (.goto 11, 3, 21, 0, 0, 0, .int)]
theorem b_L_grid_8 : isAt "GridStoreLaw" 5 false cL_grid 8 k_L_grid_8 = true := by decide +kernel
def k_L_grid_13 : List En := [(.astore 4, 2, 0, 0, 0, 4, .int), (.iconst 1, 1, 0, 1, 0, 0, .int)]
theorem b_L_grid_13 : isAt "GridStoreLaw" 5 false cL_grid 13 k_L_grid_13 = true := by decide +kernel
def k_L_grid_17 : List En := [(.astore 4, 2, 0, 0, 0, 4, .int), (.iconst 2, 1, 0, 2, 0, 0, .int)]
theorem b_L_grid_17 : isAt "GridStoreLaw" 5 false cL_grid 17 k_L_grid_17 = true := by decide +kernel
def k_L_grid_21 : List En := [(.iconst 0, 1, 0, 0, 0, 0, .int)]
theorem b_L_grid_21 : isAt "GridStoreLaw" 5 false cL_grid 21 k_L_grid_21 = true := by decide +kernel
def k_L_hole_0 : List En := [(.aload 4, 2, 0, 0, 0, 4, .int), (.iconst 0, 1, 0, 0, 0, 0, .int), (.aload_n 0, 1, 0, 0, 0, 0, .int), (.iload_n 1, 1, 0, 0, 0, 1, .int), (.iload_n 2, 1, 0, 0, 0, 2, .int), (.iload_n 3, 1, 0, 0, 0, 3, .int)]
theorem b_L_hole_0 : isAt "GridStoreLaw" 6 false cL_hole 0 k_L_hole_0 = true := by decide +kernel
def k_L_hole_10 : List En := [(.ifCond .eq 7, 3, 17, 0, 0, 0, .int), (.lconst 1, 1, 0, 0, 0, 0, .int), (.goto 4, 3, 18, 0, 0, 0, .int)]
theorem b_L_hole_10 : isAt "GridStoreLaw" 6 false cL_hole 10 k_L_hole_10 = true := by decide +kernel
def k_L_hole_17 : List En := [(.lconst 0, 1, 0, 0, 0, 0, .int)]
theorem b_L_hole_17 : isAt "GridStoreLaw" 6 false cL_hole 17 k_L_hole_17 = true := by decide +kernel
def k_L_hole_18 : List En := [(.lastore, 1, 0, 0, 0, 0, .int), (.goto 7, 3, 26, 0, 0, 0, .int)]
theorem b_L_hole_18 : isAt "GridStoreLaw" 6 false cL_hole 18 k_L_hole_18 = true := by decide +kernel
def k_L_hole_22 : List En := [(.astore 5, 2, 0, 0, 0, 5, .int), (.iconst 1, 1, 0, 1, 0, 0, .int)]
theorem b_L_hole_22 : isAt "GridStoreLaw" 6 false cL_hole 22 k_L_hole_22 = true := by decide +kernel
def k_L_hole_26 : List En := [(.iconst 0, 1, 0, 0, 0, 0, .int)]
theorem b_L_hole_26 : isAt "GridStoreLaw" 6 false cL_hole 26 k_L_hole_26 = true := by decide +kernel
def k_L_join_0 : List En := [(.aload 5, 2, 0, 0, 0, 5, .int), (.iconst 0, 1, 0, 0, 0, 0, .int), (.aload_n 0, 1, 0, 0, 0, 0, .int), (.iload_n 1, 1, 0, 0, 0, 1, .int), (.iload_n 2, 1, 0, 0, 0, 2, .int), (.iload_n 3, 1, 0, 0, 0, 3, .int), (.iload 4, 2, 0, 0, 0, 4, .int)]
theorem b_L_join_0 : isAt "GridStoreLaw" 7 false cL_join 0 k_L_join_0 = true := by decide +kernel
def k_L_join_12 : List En := [(.i2l, 1, 0, 0, 0, 0, .int), (.lastore, 1, 0, 0, 0, 0, .int), (.goto 11, 3, 25, 0, 0, 0, .int)]
theorem b_L_join_12 : isAt "GridStoreLaw" 7 false cL_join 12 k_L_join_12 = true := by decide +kernel
def k_L_join_17 : List En := [(.astore 6, 2, 0, 0, 0, 6, .int), (.iconst 1, 1, 0, 1, 0, 0, .int)]
theorem b_L_join_17 : isAt "GridStoreLaw" 7 false cL_join 17 k_L_join_17 = true := by decide +kernel
def k_L_join_21 : List En := [(.astore 6, 2, 0, 0, 0, 6, .int), (.iconst 2, 1, 0, 2, 0, 0, .int)]
theorem b_L_join_21 : isAt "GridStoreLaw" 7 false cL_join 21 k_L_join_21 = true := by decide +kernel
def k_L_join_25 : List En := [(.iconst 0, 1, 0, 0, 0, 0, .int)]
theorem b_L_join_25 : isAt "GridStoreLaw" 7 false cL_join 25 k_L_join_25 = true := by decide +kernel
def k_L_keep_0 : List En := [(.aload_n 2, 1, 0, 0, 0, 2, .int), (.iconst 0, 1, 0, 0, 0, 0, .int), (.aload_n 0, 1, 0, 0, 0, 0, .int), (.iload_n 1, 1, 0, 0, 0, 1, .int)]
theorem b_L_keep_0 : isAt "GridStoreLaw" 4 false cL_keep 0 k_L_keep_0 = true := by decide +kernel
def k_L_keep_7 : List En := [(.i2l, 1, 0, 0, 0, 0, .int), (.lastore, 1, 0, 0, 0, 0, .int), (.goto 6, 3, 15, 0, 0, 0, .int)]
theorem b_L_keep_7 : isAt "GridStoreLaw" 4 false cL_keep 7 k_L_keep_7 = true := by decide +kernel
def k_L_keep_12 : List En := [(.astore_n 3, 1, 0, 0, 0, 3, .int), (.iconst 1, 1, 0, 1, 0, 0, .int)]
theorem b_L_keep_12 : isAt "GridStoreLaw" 4 false cL_keep 12 k_L_keep_12 = true := by decide +kernel
def k_L_keep_15 : List En := [(.iconst 0, 1, 0, 0, 0, 0, .int)]
theorem b_L_keep_15 : isAt "GridStoreLaw" 4 false cL_keep 15 k_L_keep_15 = true := by decide +kernel
def k_L_kind_0 : List En := [(.aload 4, 2, 0, 0, 0, 4, .int), (.iconst 0, 1, 0, 0, 0, 0, .int), (.aload_n 0, 1, 0, 0, 0, 0, .int), (.iload_n 1, 1, 0, 0, 0, 1, .int), (.iload_n 2, 1, 0, 0, 0, 2, .int), (.iload_n 3, 1, 0, 0, 0, 3, .int)]
theorem b_L_kind_0 : isAt "GridStoreLaw" 6 false cL_kind 0 k_L_kind_0 = true := by decide +kernel
def k_L_kind_10 : List En := [(.i2l, 1, 0, 0, 0, 0, .int), (.lastore, 1, 0, 0, 0, 0, .int), (.goto 7, 3, 19, 0, 0, 0, .int)]
theorem b_L_kind_10 : isAt "GridStoreLaw" 6 false cL_kind 10 k_L_kind_10 = true := by decide +kernel
def k_L_kind_15 : List En := [(.astore 5, 2, 0, 0, 0, 5, .int), (.iconst 1, 1, 0, 1, 0, 0, .int)]
theorem b_L_kind_15 : isAt "GridStoreLaw" 6 false cL_kind 15 k_L_kind_15 = true := by decide +kernel
def k_L_kind_19 : List En := [(.iconst 0, 1, 0, 0, 0, 0, .int)]
theorem b_L_kind_19 : isAt "GridStoreLaw" 6 false cL_kind 19 k_L_kind_19 = true := by decide +kernel
def k_L_law_3 : List En := [(.dup, 1, 0, 0, 0, 0, .int)]
theorem b_L_law_3 : isAt "GridStoreLaw" 8 false cL_law 3 k_L_law_3 = true := by decide +kernel
def k_L_law_7 : List En := [(.astore_n 1, 1, 0, 0, 0, 1, .int)]
theorem b_L_law_7 : isAt "GridStoreLaw" 8 false cL_law 7 k_L_law_7 = true := by decide +kernel
def k_L_law_11 : List En := [(.dup, 1, 0, 0, 0, 0, .int)]
theorem b_L_law_11 : isAt "GridStoreLaw" 8 false cL_law 11 k_L_law_11 = true := by decide +kernel
def k_L_law_15 : List En := [(.astore_n 2, 1, 0, 0, 0, 2, .int), (.iconst 1, 1, 0, 1, 0, 0, .int)]
theorem b_L_law_15 : isAt "GridStoreLaw" 8 false cL_law 15 k_L_law_15 = true := by decide +kernel
def k_L_law_19 : List En := [(.astore_n 3, 1, 0, 0, 0, 3, .int), (.iconst 0, 1, 0, 0, 0, 0, .int), (.istore 4, 2, 0, 0, 0, 4, .int)]
theorem b_L_law_19 : isAt "GridStoreLaw" 8 false cL_law 19 k_L_law_19 = true := by decide +kernel
theorem d_L_law_26 : decode cL_law 26 = .ok (.arraylength, 1) := by decide +kernel
theorem d_L_law_36 : decode cL_law 36 = .ok (.iaload, 1) := by decide +kernel
def k_L_law_23 : List En := [(.iload 4, 2, 0, 0, 0, 4, .int), (.aload_n 0, 1, 0, 0, 0, 0, .int)]
theorem b_L_law_23 : isAt "GridStoreLaw" 8 false cL_law 23 k_L_law_23 = true := by decide +kernel
def k_L_law_27 : List En := [(.bipush 8, 2, 0, 8, 0, 0, .int), (.isub, 1, 0, 0, 0, 0, .int), (.if_icmp .gt 2185, 3, 2215, 0, 0, 0, .int), (.aload_n 0, 1, 0, 0, 0, 0, .int), (.iload 4, 2, 0, 0, 0, 4, .int)]
theorem b_L_law_27 : isAt "GridStoreLaw" 8 false cL_law 27 k_L_law_27 = true := by decide +kernel
def k_L_law_37 : List En := [(.bipush 31, 2, 0, 31, 0, 0, .int), (.iand, 1, 0, 0, 0, 0, .int)]
theorem b_L_law_37 : isAt "GridStoreLaw" 8 false cL_law 37 k_L_law_37 = true := by decide +kernel
theorem d_L_law_158 : decode cL_law 158 = .ok (.iaload, 1) := by decide +kernel
theorem d_L_law_164 : decode cL_law 164 = .ok (.iaload, 1) := by decide +kernel
def k_L_law_152 : List En := [(.aload_n 1, 1, 0, 0, 0, 1, .int), (.aload_n 0, 1, 0, 0, 0, 0, .int), (.iload 4, 2, 0, 0, 0, 4, .int), (.iconst 1, 1, 0, 1, 0, 0, .int), (.iadd, 1, 0, 0, 0, 0, .int)]
theorem b_L_law_152 : isAt "GridStoreLaw" 8 false cL_law 152 k_L_law_152 = true := by decide +kernel
def k_L_law_159 : List En := [(.aload_n 0, 1, 0, 0, 0, 0, .int), (.iload 4, 2, 0, 0, 0, 4, .int), (.iconst 2, 1, 0, 2, 0, 0, .int), (.iadd, 1, 0, 0, 0, 0, .int)]
theorem b_L_law_159 : isAt "GridStoreLaw" 8 false cL_law 159 k_L_law_159 = true := by decide +kernel
def k_L_law_165 : List En := [(.aload_n 3, 1, 0, 0, 0, 3, .int)]
theorem b_L_law_165 : isAt "GridStoreLaw" 8 false cL_law 165 k_L_law_165 = true := by decide +kernel
theorem d_L_law_177 : decode cL_law 177 = .ok (.iaload, 1) := by decide +kernel
theorem d_L_law_183 : decode cL_law 183 = .ok (.iaload, 1) := by decide +kernel
def k_L_law_169 : List En := [(.istore 5, 2, 0, 0, 0, 5, .int), (.aload_n 2, 1, 0, 0, 0, 2, .int), (.aload_n 0, 1, 0, 0, 0, 0, .int), (.iload 4, 2, 0, 0, 0, 4, .int), (.iconst 1, 1, 0, 1, 0, 0, .int), (.iadd, 1, 0, 0, 0, 0, .int)]
theorem b_L_law_169 : isAt "GridStoreLaw" 8 false cL_law 169 k_L_law_169 = true := by decide +kernel
def k_L_law_178 : List En := [(.aload_n 0, 1, 0, 0, 0, 0, .int), (.iload 4, 2, 0, 0, 0, 4, .int), (.iconst 2, 1, 0, 2, 0, 0, .int), (.iadd, 1, 0, 0, 0, 0, .int)]
theorem b_L_law_178 : isAt "GridStoreLaw" 8 false cL_law 178 k_L_law_178 = true := by decide +kernel
def k_L_law_187 : List En := [(.istore 6, 2, 0, 0, 0, 6, .int), (.aload_n 2, 1, 0, 0, 0, 2, .int)]
theorem b_L_law_187 : isAt "GridStoreLaw" 8 false cL_law 187 k_L_law_187 = true := by decide +kernel
def k_L_law_193 : List En := [(.iload 5, 2, 0, 0, 0, 5, .int), (.if_icmp .eq 5, 3, 200, 0, 0, 0, .int), (.iconst 0, 1, 0, 0, 0, 0, .int)]
theorem b_L_law_193 : isAt "GridStoreLaw" 8 false cL_law 193 k_L_law_193 = true := by decide +kernel
def k_L_law_200 : List En := [(.iload 5, 2, 0, 0, 0, 5, .int), (.ifCond .ne 15, 3, 217, 0, 0, 0, .int), (.aload_n 3, 1, 0, 0, 0, 3, .int), (.iconst 0, 1, 0, 0, 0, 0, .int), (.laload, 1, 0, 0, 0, 0, .int), (.iload 6, 2, 0, 0, 0, 6, .int), (.i2l, 1, 0, 0, 0, 0, .int), (.lcmp, 1, 0, 0, 0, 0, .int), (.ifCond .eq 5, 3, 217, 0, 0, 0, .int), (.iconst 0, 1, 0, 0, 0, 0, .int)]
theorem b_L_law_200 : isAt "GridStoreLaw" 8 false cL_law 200 k_L_law_200 = true := by decide +kernel
def k_L_law_217 : List En := [(.goto 1992, 3, 2209, 0, 0, 0, .int)]
theorem b_L_law_217 : isAt "GridStoreLaw" 8 false cL_law 217 k_L_law_217 = true := by decide +kernel
theorem d_L_law_226 : decode cL_law 226 = .ok (.iaload, 1) := by decide +kernel
theorem d_L_law_232 : decode cL_law 232 = .ok (.iaload, 1) := by decide +kernel
theorem d_L_law_238 : decode cL_law 238 = .ok (.iaload, 1) := by decide +kernel
theorem d_L_law_244 : decode cL_law 244 = .ok (.iaload, 1) := by decide +kernel
theorem d_L_law_250 : decode cL_law 250 = .ok (.iaload, 1) := by decide +kernel
theorem d_L_law_257 : decode cL_law 257 = .ok (.iaload, 1) := by decide +kernel
theorem d_L_law_264 : decode cL_law 264 = .ok (.iaload, 1) := by decide +kernel
def k_L_law_220 : List En := [(.aload_n 1, 1, 0, 0, 0, 1, .int), (.aload_n 0, 1, 0, 0, 0, 0, .int), (.iload 4, 2, 0, 0, 0, 4, .int), (.iconst 1, 1, 0, 1, 0, 0, .int), (.iadd, 1, 0, 0, 0, 0, .int)]
theorem b_L_law_220 : isAt "GridStoreLaw" 8 false cL_law 220 k_L_law_220 = true := by decide +kernel
def k_L_law_227 : List En := [(.aload_n 0, 1, 0, 0, 0, 0, .int), (.iload 4, 2, 0, 0, 0, 4, .int), (.iconst 2, 1, 0, 2, 0, 0, .int), (.iadd, 1, 0, 0, 0, 0, .int)]
theorem b_L_law_227 : isAt "GridStoreLaw" 8 false cL_law 227 k_L_law_227 = true := by decide +kernel
def k_L_law_233 : List En := [(.aload_n 0, 1, 0, 0, 0, 0, .int), (.iload 4, 2, 0, 0, 0, 4, .int), (.iconst 3, 1, 0, 3, 0, 0, .int), (.iadd, 1, 0, 0, 0, 0, .int)]
theorem b_L_law_233 : isAt "GridStoreLaw" 8 false cL_law 233 k_L_law_233 = true := by decide +kernel
def k_L_law_239 : List En := [(.aload_n 0, 1, 0, 0, 0, 0, .int), (.iload 4, 2, 0, 0, 0, 4, .int), (.iconst 4, 1, 0, 4, 0, 0, .int), (.iadd, 1, 0, 0, 0, 0, .int)]
theorem b_L_law_239 : isAt "GridStoreLaw" 8 false cL_law 239 k_L_law_239 = true := by decide +kernel
def k_L_law_245 : List En := [(.aload_n 0, 1, 0, 0, 0, 0, .int), (.iload 4, 2, 0, 0, 0, 4, .int), (.iconst 5, 1, 0, 5, 0, 0, .int), (.iadd, 1, 0, 0, 0, 0, .int)]
theorem b_L_law_245 : isAt "GridStoreLaw" 8 false cL_law 245 k_L_law_245 = true := by decide +kernel
def k_L_law_251 : List En := [(.aload_n 0, 1, 0, 0, 0, 0, .int), (.iload 4, 2, 0, 0, 0, 4, .int), (.bipush 6, 2, 0, 6, 0, 0, .int), (.iadd, 1, 0, 0, 0, 0, .int)]
theorem b_L_law_251 : isAt "GridStoreLaw" 8 false cL_law 251 k_L_law_251 = true := by decide +kernel
def k_L_law_258 : List En := [(.aload_n 0, 1, 0, 0, 0, 0, .int), (.iload 4, 2, 0, 0, 0, 4, .int), (.bipush 7, 2, 0, 7, 0, 0, .int), (.iadd, 1, 0, 0, 0, 0, .int)]
theorem b_L_law_258 : isAt "GridStoreLaw" 8 false cL_law 258 k_L_law_258 = true := by decide +kernel
def k_L_law_265 : List En := [(.ifCond .eq 7, 3, 272, 0, 0, 0, .int), (.iconst 1, 1, 0, 1, 0, 0, .int), (.goto 4, 3, 273, 0, 0, 0, .int)]
theorem b_L_law_265 : isAt "GridStoreLaw" 8 false cL_law 265 k_L_law_265 = true := by decide +kernel
def k_L_law_272 : List En := [(.iconst 0, 1, 0, 0, 0, 0, .int)]
theorem b_L_law_272 : isAt "GridStoreLaw" 8 false cL_law 272 k_L_law_272 = true := by decide +kernel
def k_L_law_273 : List En := [(.aload_n 3, 1, 0, 0, 0, 3, .int)]
theorem b_L_law_273 : isAt "GridStoreLaw" 8 false cL_law 273 k_L_law_273 = true := by decide +kernel
theorem d_L_law_285 : decode cL_law 285 = .ok (.iaload, 1) := by decide +kernel
theorem d_L_law_291 : decode cL_law 291 = .ok (.iaload, 1) := by decide +kernel
theorem d_L_law_297 : decode cL_law 297 = .ok (.iaload, 1) := by decide +kernel
theorem d_L_law_303 : decode cL_law 303 = .ok (.iaload, 1) := by decide +kernel
theorem d_L_law_309 : decode cL_law 309 = .ok (.iaload, 1) := by decide +kernel
theorem d_L_law_316 : decode cL_law 316 = .ok (.iaload, 1) := by decide +kernel
theorem d_L_law_323 : decode cL_law 323 = .ok (.iaload, 1) := by decide +kernel
def k_L_law_277 : List En := [(.istore 5, 2, 0, 0, 0, 5, .int), (.aload_n 2, 1, 0, 0, 0, 2, .int), (.aload_n 0, 1, 0, 0, 0, 0, .int), (.iload 4, 2, 0, 0, 0, 4, .int), (.iconst 1, 1, 0, 1, 0, 0, .int), (.iadd, 1, 0, 0, 0, 0, .int)]
theorem b_L_law_277 : isAt "GridStoreLaw" 8 false cL_law 277 k_L_law_277 = true := by decide +kernel
def k_L_law_286 : List En := [(.aload_n 0, 1, 0, 0, 0, 0, .int), (.iload 4, 2, 0, 0, 0, 4, .int), (.iconst 2, 1, 0, 2, 0, 0, .int), (.iadd, 1, 0, 0, 0, 0, .int)]
theorem b_L_law_286 : isAt "GridStoreLaw" 8 false cL_law 286 k_L_law_286 = true := by decide +kernel
def k_L_law_292 : List En := [(.aload_n 0, 1, 0, 0, 0, 0, .int), (.iload 4, 2, 0, 0, 0, 4, .int), (.iconst 3, 1, 0, 3, 0, 0, .int), (.iadd, 1, 0, 0, 0, 0, .int)]
theorem b_L_law_292 : isAt "GridStoreLaw" 8 false cL_law 292 k_L_law_292 = true := by decide +kernel
def k_L_law_298 : List En := [(.aload_n 0, 1, 0, 0, 0, 0, .int), (.iload 4, 2, 0, 0, 0, 4, .int), (.iconst 4, 1, 0, 4, 0, 0, .int), (.iadd, 1, 0, 0, 0, 0, .int)]
theorem b_L_law_298 : isAt "GridStoreLaw" 8 false cL_law 298 k_L_law_298 = true := by decide +kernel
def k_L_law_304 : List En := [(.aload_n 0, 1, 0, 0, 0, 0, .int), (.iload 4, 2, 0, 0, 0, 4, .int), (.iconst 5, 1, 0, 5, 0, 0, .int), (.iadd, 1, 0, 0, 0, 0, .int)]
theorem b_L_law_304 : isAt "GridStoreLaw" 8 false cL_law 304 k_L_law_304 = true := by decide +kernel
def k_L_law_310 : List En := [(.aload_n 0, 1, 0, 0, 0, 0, .int), (.iload 4, 2, 0, 0, 0, 4, .int), (.bipush 6, 2, 0, 6, 0, 0, .int), (.iadd, 1, 0, 0, 0, 0, .int)]
theorem b_L_law_310 : isAt "GridStoreLaw" 8 false cL_law 310 k_L_law_310 = true := by decide +kernel
def k_L_law_317 : List En := [(.aload_n 0, 1, 0, 0, 0, 0, .int), (.iload 4, 2, 0, 0, 0, 4, .int), (.bipush 7, 2, 0, 7, 0, 0, .int), (.iadd, 1, 0, 0, 0, 0, .int)]
theorem b_L_law_317 : isAt "GridStoreLaw" 8 false cL_law 317 k_L_law_317 = true := by decide +kernel
def k_L_law_324 : List En := [(.ifCond .eq 7, 3, 331, 0, 0, 0, .int), (.iconst 1, 1, 0, 1, 0, 0, .int), (.goto 4, 3, 332, 0, 0, 0, .int)]
theorem b_L_law_324 : isAt "GridStoreLaw" 8 false cL_law 324 k_L_law_324 = true := by decide +kernel
def k_L_law_331 : List En := [(.iconst 0, 1, 0, 0, 0, 0, .int)]
theorem b_L_law_331 : isAt "GridStoreLaw" 8 false cL_law 331 k_L_law_331 = true := by decide +kernel
def k_L_law_335 : List En := [(.istore 6, 2, 0, 0, 0, 6, .int), (.aload_n 2, 1, 0, 0, 0, 2, .int)]
theorem b_L_law_335 : isAt "GridStoreLaw" 8 false cL_law 335 k_L_law_335 = true := by decide +kernel
def k_L_law_341 : List En := [(.iload 5, 2, 0, 0, 0, 5, .int), (.if_icmp .eq 5, 3, 348, 0, 0, 0, .int), (.iconst 0, 1, 0, 0, 0, 0, .int)]
theorem b_L_law_341 : isAt "GridStoreLaw" 8 false cL_law 341 k_L_law_341 = true := by decide +kernel
def k_L_law_348 : List En := [(.iload 5, 2, 0, 0, 0, 5, .int), (.ifCond .ne 15, 3, 365, 0, 0, 0, .int), (.aload_n 3, 1, 0, 0, 0, 3, .int), (.iconst 0, 1, 0, 0, 0, 0, .int), (.laload, 1, 0, 0, 0, 0, .int), (.iload 6, 2, 0, 0, 0, 6, .int), (.i2l, 1, 0, 0, 0, 0, .int), (.lcmp, 1, 0, 0, 0, 0, .int), (.ifCond .eq 5, 3, 365, 0, 0, 0, .int), (.iconst 0, 1, 0, 0, 0, 0, .int)]
theorem b_L_law_348 : isAt "GridStoreLaw" 8 false cL_law 348 k_L_law_348 = true := by decide +kernel
def k_L_law_365 : List En := [(.goto 1844, 3, 2209, 0, 0, 0, .int)]
theorem b_L_law_365 : isAt "GridStoreLaw" 8 false cL_law 365 k_L_law_365 = true := by decide +kernel
theorem d_L_law_374 : decode cL_law 374 = .ok (.iaload, 1) := by decide +kernel
theorem d_L_law_380 : decode cL_law 380 = .ok (.iaload, 1) := by decide +kernel
def k_L_law_368 : List En := [(.aload_n 1, 1, 0, 0, 0, 1, .int), (.aload_n 0, 1, 0, 0, 0, 0, .int), (.iload 4, 2, 0, 0, 0, 4, .int), (.iconst 1, 1, 0, 1, 0, 0, .int), (.iadd, 1, 0, 0, 0, 0, .int)]
theorem b_L_law_368 : isAt "GridStoreLaw" 8 false cL_law 368 k_L_law_368 = true := by decide +kernel
def k_L_law_375 : List En := [(.aload_n 0, 1, 0, 0, 0, 0, .int), (.iload 4, 2, 0, 0, 0, 4, .int), (.iconst 2, 1, 0, 2, 0, 0, .int), (.iadd, 1, 0, 0, 0, 0, .int)]
theorem b_L_law_375 : isAt "GridStoreLaw" 8 false cL_law 375 k_L_law_375 = true := by decide +kernel
def k_L_law_381 : List En := [(.ifCond .eq 7, 3, 388, 0, 0, 0, .int), (.iconst 1, 1, 0, 1, 0, 0, .int), (.goto 4, 3, 389, 0, 0, 0, .int)]
theorem b_L_law_381 : isAt "GridStoreLaw" 8 false cL_law 381 k_L_law_381 = true := by decide +kernel
def k_L_law_388 : List En := [(.iconst 0, 1, 0, 0, 0, 0, .int)]
theorem b_L_law_388 : isAt "GridStoreLaw" 8 false cL_law 388 k_L_law_388 = true := by decide +kernel
def k_L_law_389 : List En := [(.aload_n 3, 1, 0, 0, 0, 3, .int)]
theorem b_L_law_389 : isAt "GridStoreLaw" 8 false cL_law 389 k_L_law_389 = true := by decide +kernel
theorem d_L_law_401 : decode cL_law 401 = .ok (.iaload, 1) := by decide +kernel
theorem d_L_law_407 : decode cL_law 407 = .ok (.iaload, 1) := by decide +kernel
def k_L_law_393 : List En := [(.istore 5, 2, 0, 0, 0, 5, .int), (.aload_n 2, 1, 0, 0, 0, 2, .int), (.aload_n 0, 1, 0, 0, 0, 0, .int), (.iload 4, 2, 0, 0, 0, 4, .int), (.iconst 1, 1, 0, 1, 0, 0, .int), (.iadd, 1, 0, 0, 0, 0, .int)]
theorem b_L_law_393 : isAt "GridStoreLaw" 8 false cL_law 393 k_L_law_393 = true := by decide +kernel
def k_L_law_402 : List En := [(.aload_n 0, 1, 0, 0, 0, 0, .int), (.iload 4, 2, 0, 0, 0, 4, .int), (.iconst 2, 1, 0, 2, 0, 0, .int), (.iadd, 1, 0, 0, 0, 0, .int)]
theorem b_L_law_402 : isAt "GridStoreLaw" 8 false cL_law 402 k_L_law_402 = true := by decide +kernel
def k_L_law_408 : List En := [(.ifCond .eq 7, 3, 415, 0, 0, 0, .int), (.iconst 1, 1, 0, 1, 0, 0, .int), (.goto 4, 3, 416, 0, 0, 0, .int)]
theorem b_L_law_408 : isAt "GridStoreLaw" 8 false cL_law 408 k_L_law_408 = true := by decide +kernel
def k_L_law_415 : List En := [(.iconst 0, 1, 0, 0, 0, 0, .int)]
theorem b_L_law_415 : isAt "GridStoreLaw" 8 false cL_law 415 k_L_law_415 = true := by decide +kernel
def k_L_law_419 : List En := [(.istore 6, 2, 0, 0, 0, 6, .int), (.aload_n 2, 1, 0, 0, 0, 2, .int)]
theorem b_L_law_419 : isAt "GridStoreLaw" 8 false cL_law 419 k_L_law_419 = true := by decide +kernel
def k_L_law_425 : List En := [(.iload 5, 2, 0, 0, 0, 5, .int), (.if_icmp .eq 5, 3, 432, 0, 0, 0, .int), (.iconst 0, 1, 0, 0, 0, 0, .int)]
theorem b_L_law_425 : isAt "GridStoreLaw" 8 false cL_law 425 k_L_law_425 = true := by decide +kernel
def k_L_law_432 : List En := [(.iload 5, 2, 0, 0, 0, 5, .int), (.ifCond .ne 22, 3, 456, 0, 0, 0, .int), (.aload_n 3, 1, 0, 0, 0, 3, .int), (.iconst 0, 1, 0, 0, 0, 0, .int), (.laload, 1, 0, 0, 0, 0, .int), (.iload 6, 2, 0, 0, 0, 6, .int), (.ifCond .eq 7, 3, 449, 0, 0, 0, .int), (.lconst 1, 1, 0, 0, 0, 0, .int), (.goto 4, 3, 450, 0, 0, 0, .int)]
theorem b_L_law_432 : isAt "GridStoreLaw" 8 false cL_law 432 k_L_law_432 = true := by decide +kernel
def k_L_law_449 : List En := [(.lconst 0, 1, 0, 0, 0, 0, .int)]
theorem b_L_law_449 : isAt "GridStoreLaw" 8 false cL_law 449 k_L_law_449 = true := by decide +kernel
def k_L_law_450 : List En := [(.lcmp, 1, 0, 0, 0, 0, .int), (.ifCond .eq 5, 3, 456, 0, 0, 0, .int), (.iconst 0, 1, 0, 0, 0, 0, .int)]
theorem b_L_law_450 : isAt "GridStoreLaw" 8 false cL_law 450 k_L_law_450 = true := by decide +kernel
def k_L_law_456 : List En := [(.goto 1753, 3, 2209, 0, 0, 0, .int)]
theorem b_L_law_456 : isAt "GridStoreLaw" 8 false cL_law 456 k_L_law_456 = true := by decide +kernel
theorem d_L_law_465 : decode cL_law 465 = .ok (.iaload, 1) := by decide +kernel
theorem d_L_law_471 : decode cL_law 471 = .ok (.iaload, 1) := by decide +kernel
def k_L_law_459 : List En := [(.aload_n 1, 1, 0, 0, 0, 1, .int), (.aload_n 0, 1, 0, 0, 0, 0, .int), (.iload 4, 2, 0, 0, 0, 4, .int), (.iconst 1, 1, 0, 1, 0, 0, .int), (.iadd, 1, 0, 0, 0, 0, .int)]
theorem b_L_law_459 : isAt "GridStoreLaw" 8 false cL_law 459 k_L_law_459 = true := by decide +kernel
def k_L_law_466 : List En := [(.aload_n 0, 1, 0, 0, 0, 0, .int), (.iload 4, 2, 0, 0, 0, 4, .int), (.iconst 2, 1, 0, 2, 0, 0, .int), (.iadd, 1, 0, 0, 0, 0, .int)]
theorem b_L_law_466 : isAt "GridStoreLaw" 8 false cL_law 466 k_L_law_466 = true := by decide +kernel
def k_L_law_472 : List En := [(.ifCond .eq 7, 3, 479, 0, 0, 0, .int), (.iconst 1, 1, 0, 1, 0, 0, .int), (.goto 4, 3, 480, 0, 0, 0, .int)]
theorem b_L_law_472 : isAt "GridStoreLaw" 8 false cL_law 472 k_L_law_472 = true := by decide +kernel
def k_L_law_479 : List En := [(.iconst 0, 1, 0, 0, 0, 0, .int)]
theorem b_L_law_479 : isAt "GridStoreLaw" 8 false cL_law 479 k_L_law_479 = true := by decide +kernel
def k_L_law_480 : List En := [(.aload_n 3, 1, 0, 0, 0, 3, .int)]
theorem b_L_law_480 : isAt "GridStoreLaw" 8 false cL_law 480 k_L_law_480 = true := by decide +kernel
theorem d_L_law_492 : decode cL_law 492 = .ok (.iaload, 1) := by decide +kernel
theorem d_L_law_498 : decode cL_law 498 = .ok (.iaload, 1) := by decide +kernel
def k_L_law_484 : List En := [(.istore 5, 2, 0, 0, 0, 5, .int), (.aload_n 2, 1, 0, 0, 0, 2, .int), (.aload_n 0, 1, 0, 0, 0, 0, .int), (.iload 4, 2, 0, 0, 0, 4, .int), (.iconst 1, 1, 0, 1, 0, 0, .int), (.iadd, 1, 0, 0, 0, 0, .int)]
theorem b_L_law_484 : isAt "GridStoreLaw" 8 false cL_law 484 k_L_law_484 = true := by decide +kernel
def k_L_law_493 : List En := [(.aload_n 0, 1, 0, 0, 0, 0, .int), (.iload 4, 2, 0, 0, 0, 4, .int), (.iconst 2, 1, 0, 2, 0, 0, .int), (.iadd, 1, 0, 0, 0, 0, .int)]
theorem b_L_law_493 : isAt "GridStoreLaw" 8 false cL_law 493 k_L_law_493 = true := by decide +kernel
def k_L_law_499 : List En := [(.ifCond .eq 7, 3, 506, 0, 0, 0, .int), (.iconst 1, 1, 0, 1, 0, 0, .int), (.goto 4, 3, 507, 0, 0, 0, .int)]
theorem b_L_law_499 : isAt "GridStoreLaw" 8 false cL_law 499 k_L_law_499 = true := by decide +kernel
def k_L_law_506 : List En := [(.iconst 0, 1, 0, 0, 0, 0, .int)]
theorem b_L_law_506 : isAt "GridStoreLaw" 8 false cL_law 506 k_L_law_506 = true := by decide +kernel
def k_L_law_510 : List En := [(.istore 6, 2, 0, 0, 0, 6, .int), (.aload_n 2, 1, 0, 0, 0, 2, .int)]
theorem b_L_law_510 : isAt "GridStoreLaw" 8 false cL_law 510 k_L_law_510 = true := by decide +kernel
def k_L_law_516 : List En := [(.iload 5, 2, 0, 0, 0, 5, .int), (.if_icmp .eq 5, 3, 523, 0, 0, 0, .int), (.iconst 0, 1, 0, 0, 0, 0, .int)]
theorem b_L_law_516 : isAt "GridStoreLaw" 8 false cL_law 516 k_L_law_516 = true := by decide +kernel
def k_L_law_523 : List En := [(.iload 5, 2, 0, 0, 0, 5, .int), (.ifCond .ne 15, 3, 540, 0, 0, 0, .int), (.aload_n 3, 1, 0, 0, 0, 3, .int), (.iconst 0, 1, 0, 0, 0, 0, .int), (.laload, 1, 0, 0, 0, 0, .int), (.iload 6, 2, 0, 0, 0, 6, .int), (.i2l, 1, 0, 0, 0, 0, .int), (.lcmp, 1, 0, 0, 0, 0, .int), (.ifCond .eq 5, 3, 540, 0, 0, 0, .int), (.iconst 0, 1, 0, 0, 0, 0, .int)]
theorem b_L_law_523 : isAt "GridStoreLaw" 8 false cL_law 523 k_L_law_523 = true := by decide +kernel
def k_L_law_540 : List En := [(.goto 1669, 3, 2209, 0, 0, 0, .int)]
theorem b_L_law_540 : isAt "GridStoreLaw" 8 false cL_law 540 k_L_law_540 = true := by decide +kernel
theorem d_L_law_549 : decode cL_law 549 = .ok (.iaload, 1) := by decide +kernel
theorem d_L_law_555 : decode cL_law 555 = .ok (.iaload, 1) := by decide +kernel
theorem d_L_law_561 : decode cL_law 561 = .ok (.iaload, 1) := by decide +kernel
theorem d_L_law_567 : decode cL_law 567 = .ok (.iaload, 1) := by decide +kernel
def k_L_law_543 : List En := [(.aload_n 1, 1, 0, 0, 0, 1, .int), (.aload_n 0, 1, 0, 0, 0, 0, .int), (.iload 4, 2, 0, 0, 0, 4, .int), (.iconst 1, 1, 0, 1, 0, 0, .int), (.iadd, 1, 0, 0, 0, 0, .int)]
theorem b_L_law_543 : isAt "GridStoreLaw" 8 false cL_law 543 k_L_law_543 = true := by decide +kernel
def k_L_law_550 : List En := [(.aload_n 0, 1, 0, 0, 0, 0, .int), (.iload 4, 2, 0, 0, 0, 4, .int), (.iconst 2, 1, 0, 2, 0, 0, .int), (.iadd, 1, 0, 0, 0, 0, .int)]
theorem b_L_law_550 : isAt "GridStoreLaw" 8 false cL_law 550 k_L_law_550 = true := by decide +kernel
def k_L_law_556 : List En := [(.aload_n 0, 1, 0, 0, 0, 0, .int), (.iload 4, 2, 0, 0, 0, 4, .int), (.iconst 3, 1, 0, 3, 0, 0, .int), (.iadd, 1, 0, 0, 0, 0, .int)]
theorem b_L_law_556 : isAt "GridStoreLaw" 8 false cL_law 556 k_L_law_556 = true := by decide +kernel
def k_L_law_562 : List En := [(.aload_n 0, 1, 0, 0, 0, 0, .int), (.iload 4, 2, 0, 0, 0, 4, .int), (.iconst 4, 1, 0, 4, 0, 0, .int), (.iadd, 1, 0, 0, 0, 0, .int)]
theorem b_L_law_562 : isAt "GridStoreLaw" 8 false cL_law 562 k_L_law_562 = true := by decide +kernel
def k_L_law_568 : List En := [(.aload_n 3, 1, 0, 0, 0, 3, .int)]
theorem b_L_law_568 : isAt "GridStoreLaw" 8 false cL_law 568 k_L_law_568 = true := by decide +kernel
theorem d_L_law_580 : decode cL_law 580 = .ok (.iaload, 1) := by decide +kernel
theorem d_L_law_586 : decode cL_law 586 = .ok (.iaload, 1) := by decide +kernel
theorem d_L_law_592 : decode cL_law 592 = .ok (.iaload, 1) := by decide +kernel
theorem d_L_law_598 : decode cL_law 598 = .ok (.iaload, 1) := by decide +kernel
def k_L_law_572 : List En := [(.istore 5, 2, 0, 0, 0, 5, .int), (.aload_n 2, 1, 0, 0, 0, 2, .int), (.aload_n 0, 1, 0, 0, 0, 0, .int), (.iload 4, 2, 0, 0, 0, 4, .int), (.iconst 1, 1, 0, 1, 0, 0, .int), (.iadd, 1, 0, 0, 0, 0, .int)]
theorem b_L_law_572 : isAt "GridStoreLaw" 8 false cL_law 572 k_L_law_572 = true := by decide +kernel
def k_L_law_581 : List En := [(.aload_n 0, 1, 0, 0, 0, 0, .int), (.iload 4, 2, 0, 0, 0, 4, .int), (.iconst 2, 1, 0, 2, 0, 0, .int), (.iadd, 1, 0, 0, 0, 0, .int)]
theorem b_L_law_581 : isAt "GridStoreLaw" 8 false cL_law 581 k_L_law_581 = true := by decide +kernel
def k_L_law_587 : List En := [(.aload_n 0, 1, 0, 0, 0, 0, .int), (.iload 4, 2, 0, 0, 0, 4, .int), (.iconst 3, 1, 0, 3, 0, 0, .int), (.iadd, 1, 0, 0, 0, 0, .int)]
theorem b_L_law_587 : isAt "GridStoreLaw" 8 false cL_law 587 k_L_law_587 = true := by decide +kernel
def k_L_law_593 : List En := [(.aload_n 0, 1, 0, 0, 0, 0, .int), (.iload 4, 2, 0, 0, 0, 4, .int), (.iconst 4, 1, 0, 4, 0, 0, .int), (.iadd, 1, 0, 0, 0, 0, .int)]
theorem b_L_law_593 : isAt "GridStoreLaw" 8 false cL_law 593 k_L_law_593 = true := by decide +kernel
def k_L_law_602 : List En := [(.istore 6, 2, 0, 0, 0, 6, .int), (.aload_n 2, 1, 0, 0, 0, 2, .int)]
theorem b_L_law_602 : isAt "GridStoreLaw" 8 false cL_law 602 k_L_law_602 = true := by decide +kernel
def k_L_law_608 : List En := [(.iload 5, 2, 0, 0, 0, 5, .int), (.if_icmp .eq 5, 3, 615, 0, 0, 0, .int), (.iconst 0, 1, 0, 0, 0, 0, .int)]
theorem b_L_law_608 : isAt "GridStoreLaw" 8 false cL_law 608 k_L_law_608 = true := by decide +kernel
def k_L_law_615 : List En := [(.iload 5, 2, 0, 0, 0, 5, .int), (.ifCond .ne 22, 3, 639, 0, 0, 0, .int), (.aload_n 3, 1, 0, 0, 0, 3, .int), (.iconst 0, 1, 0, 0, 0, 0, .int), (.laload, 1, 0, 0, 0, 0, .int), (.iload 6, 2, 0, 0, 0, 6, .int), (.ifCond .eq 7, 3, 632, 0, 0, 0, .int), (.lconst 1, 1, 0, 0, 0, 0, .int), (.goto 4, 3, 633, 0, 0, 0, .int)]
theorem b_L_law_615 : isAt "GridStoreLaw" 8 false cL_law 615 k_L_law_615 = true := by decide +kernel
def k_L_law_632 : List En := [(.lconst 0, 1, 0, 0, 0, 0, .int)]
theorem b_L_law_632 : isAt "GridStoreLaw" 8 false cL_law 632 k_L_law_632 = true := by decide +kernel
def k_L_law_633 : List En := [(.lcmp, 1, 0, 0, 0, 0, .int), (.ifCond .eq 5, 3, 639, 0, 0, 0, .int), (.iconst 0, 1, 0, 0, 0, 0, .int)]
theorem b_L_law_633 : isAt "GridStoreLaw" 8 false cL_law 633 k_L_law_633 = true := by decide +kernel
def k_L_law_639 : List En := [(.goto 1570, 3, 2209, 0, 0, 0, .int)]
theorem b_L_law_639 : isAt "GridStoreLaw" 8 false cL_law 639 k_L_law_639 = true := by decide +kernel
theorem d_L_law_648 : decode cL_law 648 = .ok (.iaload, 1) := by decide +kernel
theorem d_L_law_654 : decode cL_law 654 = .ok (.iaload, 1) := by decide +kernel
theorem d_L_law_660 : decode cL_law 660 = .ok (.iaload, 1) := by decide +kernel
def k_L_law_642 : List En := [(.aload_n 1, 1, 0, 0, 0, 1, .int), (.aload_n 0, 1, 0, 0, 0, 0, .int), (.iload 4, 2, 0, 0, 0, 4, .int), (.iconst 1, 1, 0, 1, 0, 0, .int), (.iadd, 1, 0, 0, 0, 0, .int)]
theorem b_L_law_642 : isAt "GridStoreLaw" 8 false cL_law 642 k_L_law_642 = true := by decide +kernel
def k_L_law_649 : List En := [(.aload_n 0, 1, 0, 0, 0, 0, .int), (.iload 4, 2, 0, 0, 0, 4, .int), (.iconst 2, 1, 0, 2, 0, 0, .int), (.iadd, 1, 0, 0, 0, 0, .int)]
theorem b_L_law_649 : isAt "GridStoreLaw" 8 false cL_law 649 k_L_law_649 = true := by decide +kernel
def k_L_law_655 : List En := [(.aload_n 0, 1, 0, 0, 0, 0, .int), (.iload 4, 2, 0, 0, 0, 4, .int), (.iconst 3, 1, 0, 3, 0, 0, .int), (.iadd, 1, 0, 0, 0, 0, .int)]
theorem b_L_law_655 : isAt "GridStoreLaw" 8 false cL_law 655 k_L_law_655 = true := by decide +kernel
def k_L_law_661 : List En := [(.aload_n 3, 1, 0, 0, 0, 3, .int)]
theorem b_L_law_661 : isAt "GridStoreLaw" 8 false cL_law 661 k_L_law_661 = true := by decide +kernel
theorem d_L_law_673 : decode cL_law 673 = .ok (.iaload, 1) := by decide +kernel
theorem d_L_law_679 : decode cL_law 679 = .ok (.iaload, 1) := by decide +kernel
theorem d_L_law_685 : decode cL_law 685 = .ok (.iaload, 1) := by decide +kernel
def k_L_law_665 : List En := [(.istore 5, 2, 0, 0, 0, 5, .int), (.aload_n 2, 1, 0, 0, 0, 2, .int), (.aload_n 0, 1, 0, 0, 0, 0, .int), (.iload 4, 2, 0, 0, 0, 4, .int), (.iconst 1, 1, 0, 1, 0, 0, .int), (.iadd, 1, 0, 0, 0, 0, .int)]
theorem b_L_law_665 : isAt "GridStoreLaw" 8 false cL_law 665 k_L_law_665 = true := by decide +kernel
def k_L_law_674 : List En := [(.aload_n 0, 1, 0, 0, 0, 0, .int), (.iload 4, 2, 0, 0, 0, 4, .int), (.iconst 2, 1, 0, 2, 0, 0, .int), (.iadd, 1, 0, 0, 0, 0, .int)]
theorem b_L_law_674 : isAt "GridStoreLaw" 8 false cL_law 674 k_L_law_674 = true := by decide +kernel
def k_L_law_680 : List En := [(.aload_n 0, 1, 0, 0, 0, 0, .int), (.iload 4, 2, 0, 0, 0, 4, .int), (.iconst 3, 1, 0, 3, 0, 0, .int), (.iadd, 1, 0, 0, 0, 0, .int)]
theorem b_L_law_680 : isAt "GridStoreLaw" 8 false cL_law 680 k_L_law_680 = true := by decide +kernel
def k_L_law_689 : List En := [(.istore 6, 2, 0, 0, 0, 6, .int), (.aload_n 2, 1, 0, 0, 0, 2, .int)]
theorem b_L_law_689 : isAt "GridStoreLaw" 8 false cL_law 689 k_L_law_689 = true := by decide +kernel
def k_L_law_695 : List En := [(.iload 5, 2, 0, 0, 0, 5, .int), (.if_icmp .eq 5, 3, 702, 0, 0, 0, .int), (.iconst 0, 1, 0, 0, 0, 0, .int)]
theorem b_L_law_695 : isAt "GridStoreLaw" 8 false cL_law 695 k_L_law_695 = true := by decide +kernel
def k_L_law_702 : List En := [(.iload 5, 2, 0, 0, 0, 5, .int), (.ifCond .ne 22, 3, 726, 0, 0, 0, .int), (.aload_n 3, 1, 0, 0, 0, 3, .int), (.iconst 0, 1, 0, 0, 0, 0, .int), (.laload, 1, 0, 0, 0, 0, .int), (.iload 6, 2, 0, 0, 0, 6, .int), (.ifCond .eq 7, 3, 719, 0, 0, 0, .int), (.lconst 1, 1, 0, 0, 0, 0, .int), (.goto 4, 3, 720, 0, 0, 0, .int)]
theorem b_L_law_702 : isAt "GridStoreLaw" 8 false cL_law 702 k_L_law_702 = true := by decide +kernel
def k_L_law_719 : List En := [(.lconst 0, 1, 0, 0, 0, 0, .int)]
theorem b_L_law_719 : isAt "GridStoreLaw" 8 false cL_law 719 k_L_law_719 = true := by decide +kernel
def k_L_law_720 : List En := [(.lcmp, 1, 0, 0, 0, 0, .int), (.ifCond .eq 5, 3, 726, 0, 0, 0, .int), (.iconst 0, 1, 0, 0, 0, 0, .int)]
theorem b_L_law_720 : isAt "GridStoreLaw" 8 false cL_law 720 k_L_law_720 = true := by decide +kernel
def k_L_law_726 : List En := [(.goto 1483, 3, 2209, 0, 0, 0, .int)]
theorem b_L_law_726 : isAt "GridStoreLaw" 8 false cL_law 726 k_L_law_726 = true := by decide +kernel
theorem d_L_law_735 : decode cL_law 735 = .ok (.iaload, 1) := by decide +kernel
theorem d_L_law_741 : decode cL_law 741 = .ok (.iaload, 1) := by decide +kernel
theorem d_L_law_747 : decode cL_law 747 = .ok (.iaload, 1) := by decide +kernel
theorem d_L_law_753 : decode cL_law 753 = .ok (.iaload, 1) := by decide +kernel
theorem d_L_law_759 : decode cL_law 759 = .ok (.iaload, 1) := by decide +kernel
theorem d_L_law_766 : decode cL_law 766 = .ok (.iaload, 1) := by decide +kernel
def k_L_law_729 : List En := [(.aload_n 1, 1, 0, 0, 0, 1, .int), (.aload_n 0, 1, 0, 0, 0, 0, .int), (.iload 4, 2, 0, 0, 0, 4, .int), (.iconst 1, 1, 0, 1, 0, 0, .int), (.iadd, 1, 0, 0, 0, 0, .int)]
theorem b_L_law_729 : isAt "GridStoreLaw" 8 false cL_law 729 k_L_law_729 = true := by decide +kernel
def k_L_law_736 : List En := [(.aload_n 0, 1, 0, 0, 0, 0, .int), (.iload 4, 2, 0, 0, 0, 4, .int), (.iconst 2, 1, 0, 2, 0, 0, .int), (.iadd, 1, 0, 0, 0, 0, .int)]
theorem b_L_law_736 : isAt "GridStoreLaw" 8 false cL_law 736 k_L_law_736 = true := by decide +kernel
def k_L_law_742 : List En := [(.aload_n 0, 1, 0, 0, 0, 0, .int), (.iload 4, 2, 0, 0, 0, 4, .int), (.iconst 3, 1, 0, 3, 0, 0, .int), (.iadd, 1, 0, 0, 0, 0, .int)]
theorem b_L_law_742 : isAt "GridStoreLaw" 8 false cL_law 742 k_L_law_742 = true := by decide +kernel
def k_L_law_748 : List En := [(.aload_n 0, 1, 0, 0, 0, 0, .int), (.iload 4, 2, 0, 0, 0, 4, .int), (.iconst 4, 1, 0, 4, 0, 0, .int), (.iadd, 1, 0, 0, 0, 0, .int)]
theorem b_L_law_748 : isAt "GridStoreLaw" 8 false cL_law 748 k_L_law_748 = true := by decide +kernel
def k_L_law_754 : List En := [(.aload_n 0, 1, 0, 0, 0, 0, .int), (.iload 4, 2, 0, 0, 0, 4, .int), (.iconst 5, 1, 0, 5, 0, 0, .int), (.iadd, 1, 0, 0, 0, 0, .int)]
theorem b_L_law_754 : isAt "GridStoreLaw" 8 false cL_law 754 k_L_law_754 = true := by decide +kernel
def k_L_law_760 : List En := [(.aload_n 0, 1, 0, 0, 0, 0, .int), (.iload 4, 2, 0, 0, 0, 4, .int), (.bipush 6, 2, 0, 6, 0, 0, .int), (.iadd, 1, 0, 0, 0, 0, .int)]
theorem b_L_law_760 : isAt "GridStoreLaw" 8 false cL_law 760 k_L_law_760 = true := by decide +kernel
def k_L_law_767 : List En := [(.aload_n 3, 1, 0, 0, 0, 3, .int)]
theorem b_L_law_767 : isAt "GridStoreLaw" 8 false cL_law 767 k_L_law_767 = true := by decide +kernel
theorem d_L_law_779 : decode cL_law 779 = .ok (.iaload, 1) := by decide +kernel
theorem d_L_law_785 : decode cL_law 785 = .ok (.iaload, 1) := by decide +kernel
theorem d_L_law_791 : decode cL_law 791 = .ok (.iaload, 1) := by decide +kernel
theorem d_L_law_797 : decode cL_law 797 = .ok (.iaload, 1) := by decide +kernel
theorem d_L_law_803 : decode cL_law 803 = .ok (.iaload, 1) := by decide +kernel
theorem d_L_law_810 : decode cL_law 810 = .ok (.iaload, 1) := by decide +kernel
def k_L_law_771 : List En := [(.istore 5, 2, 0, 0, 0, 5, .int), (.aload_n 2, 1, 0, 0, 0, 2, .int), (.aload_n 0, 1, 0, 0, 0, 0, .int), (.iload 4, 2, 0, 0, 0, 4, .int), (.iconst 1, 1, 0, 1, 0, 0, .int), (.iadd, 1, 0, 0, 0, 0, .int)]
theorem b_L_law_771 : isAt "GridStoreLaw" 8 false cL_law 771 k_L_law_771 = true := by decide +kernel
def k_L_law_780 : List En := [(.aload_n 0, 1, 0, 0, 0, 0, .int), (.iload 4, 2, 0, 0, 0, 4, .int), (.iconst 2, 1, 0, 2, 0, 0, .int), (.iadd, 1, 0, 0, 0, 0, .int)]
theorem b_L_law_780 : isAt "GridStoreLaw" 8 false cL_law 780 k_L_law_780 = true := by decide +kernel
def k_L_law_786 : List En := [(.aload_n 0, 1, 0, 0, 0, 0, .int), (.iload 4, 2, 0, 0, 0, 4, .int), (.iconst 3, 1, 0, 3, 0, 0, .int), (.iadd, 1, 0, 0, 0, 0, .int)]
theorem b_L_law_786 : isAt "GridStoreLaw" 8 false cL_law 786 k_L_law_786 = true := by decide +kernel
def k_L_law_792 : List En := [(.aload_n 0, 1, 0, 0, 0, 0, .int), (.iload 4, 2, 0, 0, 0, 4, .int), (.iconst 4, 1, 0, 4, 0, 0, .int), (.iadd, 1, 0, 0, 0, 0, .int)]
theorem b_L_law_792 : isAt "GridStoreLaw" 8 false cL_law 792 k_L_law_792 = true := by decide +kernel
def k_L_law_798 : List En := [(.aload_n 0, 1, 0, 0, 0, 0, .int), (.iload 4, 2, 0, 0, 0, 4, .int), (.iconst 5, 1, 0, 5, 0, 0, .int), (.iadd, 1, 0, 0, 0, 0, .int)]
theorem b_L_law_798 : isAt "GridStoreLaw" 8 false cL_law 798 k_L_law_798 = true := by decide +kernel
def k_L_law_804 : List En := [(.aload_n 0, 1, 0, 0, 0, 0, .int), (.iload 4, 2, 0, 0, 0, 4, .int), (.bipush 6, 2, 0, 6, 0, 0, .int), (.iadd, 1, 0, 0, 0, 0, .int)]
theorem b_L_law_804 : isAt "GridStoreLaw" 8 false cL_law 804 k_L_law_804 = true := by decide +kernel
def k_L_law_814 : List En := [(.istore 6, 2, 0, 0, 0, 6, .int), (.aload_n 2, 1, 0, 0, 0, 2, .int)]
theorem b_L_law_814 : isAt "GridStoreLaw" 8 false cL_law 814 k_L_law_814 = true := by decide +kernel
def k_L_law_820 : List En := [(.iload 5, 2, 0, 0, 0, 5, .int), (.if_icmp .eq 5, 3, 827, 0, 0, 0, .int), (.iconst 0, 1, 0, 0, 0, 0, .int)]
theorem b_L_law_820 : isAt "GridStoreLaw" 8 false cL_law 820 k_L_law_820 = true := by decide +kernel
def k_L_law_827 : List En := [(.iload 5, 2, 0, 0, 0, 5, .int), (.ifCond .ne 15, 3, 844, 0, 0, 0, .int), (.aload_n 3, 1, 0, 0, 0, 3, .int), (.iconst 0, 1, 0, 0, 0, 0, .int), (.laload, 1, 0, 0, 0, 0, .int), (.iload 6, 2, 0, 0, 0, 6, .int), (.i2l, 1, 0, 0, 0, 0, .int), (.lcmp, 1, 0, 0, 0, 0, .int), (.ifCond .eq 5, 3, 844, 0, 0, 0, .int), (.iconst 0, 1, 0, 0, 0, 0, .int)]
theorem b_L_law_827 : isAt "GridStoreLaw" 8 false cL_law 827 k_L_law_827 = true := by decide +kernel
def k_L_law_844 : List En := [(.goto 1365, 3, 2209, 0, 0, 0, .int)]
theorem b_L_law_844 : isAt "GridStoreLaw" 8 false cL_law 844 k_L_law_844 = true := by decide +kernel
theorem d_L_law_853 : decode cL_law 853 = .ok (.iaload, 1) := by decide +kernel
theorem d_L_law_859 : decode cL_law 859 = .ok (.iaload, 1) := by decide +kernel
theorem d_L_law_865 : decode cL_law 865 = .ok (.iaload, 1) := by decide +kernel
def k_L_law_847 : List En := [(.aload_n 1, 1, 0, 0, 0, 1, .int), (.aload_n 0, 1, 0, 0, 0, 0, .int), (.iload 4, 2, 0, 0, 0, 4, .int), (.iconst 1, 1, 0, 1, 0, 0, .int), (.iadd, 1, 0, 0, 0, 0, .int)]
theorem b_L_law_847 : isAt "GridStoreLaw" 8 false cL_law 847 k_L_law_847 = true := by decide +kernel
def k_L_law_854 : List En := [(.aload_n 0, 1, 0, 0, 0, 0, .int), (.iload 4, 2, 0, 0, 0, 4, .int), (.iconst 2, 1, 0, 2, 0, 0, .int), (.iadd, 1, 0, 0, 0, 0, .int)]
theorem b_L_law_854 : isAt "GridStoreLaw" 8 false cL_law 854 k_L_law_854 = true := by decide +kernel
def k_L_law_860 : List En := [(.aload_n 0, 1, 0, 0, 0, 0, .int), (.iload 4, 2, 0, 0, 0, 4, .int), (.iconst 3, 1, 0, 3, 0, 0, .int), (.iadd, 1, 0, 0, 0, 0, .int)]
theorem b_L_law_860 : isAt "GridStoreLaw" 8 false cL_law 860 k_L_law_860 = true := by decide +kernel
def k_L_law_866 : List En := [(.aload_n 3, 1, 0, 0, 0, 3, .int)]
theorem b_L_law_866 : isAt "GridStoreLaw" 8 false cL_law 866 k_L_law_866 = true := by decide +kernel
theorem d_L_law_878 : decode cL_law 878 = .ok (.iaload, 1) := by decide +kernel
theorem d_L_law_884 : decode cL_law 884 = .ok (.iaload, 1) := by decide +kernel
theorem d_L_law_890 : decode cL_law 890 = .ok (.iaload, 1) := by decide +kernel
def k_L_law_870 : List En := [(.istore 5, 2, 0, 0, 0, 5, .int), (.aload_n 2, 1, 0, 0, 0, 2, .int), (.aload_n 0, 1, 0, 0, 0, 0, .int), (.iload 4, 2, 0, 0, 0, 4, .int), (.iconst 1, 1, 0, 1, 0, 0, .int), (.iadd, 1, 0, 0, 0, 0, .int)]
theorem b_L_law_870 : isAt "GridStoreLaw" 8 false cL_law 870 k_L_law_870 = true := by decide +kernel
def k_L_law_879 : List En := [(.aload_n 0, 1, 0, 0, 0, 0, .int), (.iload 4, 2, 0, 0, 0, 4, .int), (.iconst 2, 1, 0, 2, 0, 0, .int), (.iadd, 1, 0, 0, 0, 0, .int)]
theorem b_L_law_879 : isAt "GridStoreLaw" 8 false cL_law 879 k_L_law_879 = true := by decide +kernel
def k_L_law_885 : List En := [(.aload_n 0, 1, 0, 0, 0, 0, .int), (.iload 4, 2, 0, 0, 0, 4, .int), (.iconst 3, 1, 0, 3, 0, 0, .int), (.iadd, 1, 0, 0, 0, 0, .int)]
theorem b_L_law_885 : isAt "GridStoreLaw" 8 false cL_law 885 k_L_law_885 = true := by decide +kernel
def k_L_law_894 : List En := [(.istore 6, 2, 0, 0, 0, 6, .int), (.aload_n 2, 1, 0, 0, 0, 2, .int)]
theorem b_L_law_894 : isAt "GridStoreLaw" 8 false cL_law 894 k_L_law_894 = true := by decide +kernel
def k_L_law_900 : List En := [(.iload 5, 2, 0, 0, 0, 5, .int), (.if_icmp .eq 5, 3, 907, 0, 0, 0, .int), (.iconst 0, 1, 0, 0, 0, 0, .int)]
theorem b_L_law_900 : isAt "GridStoreLaw" 8 false cL_law 900 k_L_law_900 = true := by decide +kernel
def k_L_law_907 : List En := [(.iload 5, 2, 0, 0, 0, 5, .int), (.ifCond .ne 22, 3, 931, 0, 0, 0, .int), (.aload_n 3, 1, 0, 0, 0, 3, .int), (.iconst 0, 1, 0, 0, 0, 0, .int), (.laload, 1, 0, 0, 0, 0, .int), (.iload 6, 2, 0, 0, 0, 6, .int), (.ifCond .eq 7, 3, 924, 0, 0, 0, .int), (.lconst 1, 1, 0, 0, 0, 0, .int), (.goto 4, 3, 925, 0, 0, 0, .int)]
theorem b_L_law_907 : isAt "GridStoreLaw" 8 false cL_law 907 k_L_law_907 = true := by decide +kernel
def k_L_law_924 : List En := [(.lconst 0, 1, 0, 0, 0, 0, .int)]
theorem b_L_law_924 : isAt "GridStoreLaw" 8 false cL_law 924 k_L_law_924 = true := by decide +kernel
def k_L_law_925 : List En := [(.lcmp, 1, 0, 0, 0, 0, .int), (.ifCond .eq 5, 3, 931, 0, 0, 0, .int), (.iconst 0, 1, 0, 0, 0, 0, .int)]
theorem b_L_law_925 : isAt "GridStoreLaw" 8 false cL_law 925 k_L_law_925 = true := by decide +kernel
def k_L_law_931 : List En := [(.goto 1278, 3, 2209, 0, 0, 0, .int)]
theorem b_L_law_931 : isAt "GridStoreLaw" 8 false cL_law 931 k_L_law_931 = true := by decide +kernel
theorem d_L_law_940 : decode cL_law 940 = .ok (.iaload, 1) := by decide +kernel
theorem d_L_law_946 : decode cL_law 946 = .ok (.iaload, 1) := by decide +kernel
theorem d_L_law_952 : decode cL_law 952 = .ok (.iaload, 1) := by decide +kernel
def k_L_law_934 : List En := [(.aload_n 1, 1, 0, 0, 0, 1, .int), (.aload_n 0, 1, 0, 0, 0, 0, .int), (.iload 4, 2, 0, 0, 0, 4, .int), (.iconst 1, 1, 0, 1, 0, 0, .int), (.iadd, 1, 0, 0, 0, 0, .int)]
theorem b_L_law_934 : isAt "GridStoreLaw" 8 false cL_law 934 k_L_law_934 = true := by decide +kernel
def k_L_law_941 : List En := [(.aload_n 0, 1, 0, 0, 0, 0, .int), (.iload 4, 2, 0, 0, 0, 4, .int), (.iconst 2, 1, 0, 2, 0, 0, .int), (.iadd, 1, 0, 0, 0, 0, .int)]
theorem b_L_law_941 : isAt "GridStoreLaw" 8 false cL_law 941 k_L_law_941 = true := by decide +kernel
def k_L_law_947 : List En := [(.aload_n 0, 1, 0, 0, 0, 0, .int), (.iload 4, 2, 0, 0, 0, 4, .int), (.iconst 3, 1, 0, 3, 0, 0, .int), (.iadd, 1, 0, 0, 0, 0, .int)]
theorem b_L_law_947 : isAt "GridStoreLaw" 8 false cL_law 947 k_L_law_947 = true := by decide +kernel
def k_L_law_953 : List En := [(.aload_n 3, 1, 0, 0, 0, 3, .int)]
theorem b_L_law_953 : isAt "GridStoreLaw" 8 false cL_law 953 k_L_law_953 = true := by decide +kernel
theorem d_L_law_965 : decode cL_law 965 = .ok (.iaload, 1) := by decide +kernel
theorem d_L_law_971 : decode cL_law 971 = .ok (.iaload, 1) := by decide +kernel
theorem d_L_law_977 : decode cL_law 977 = .ok (.iaload, 1) := by decide +kernel
def k_L_law_957 : List En := [(.istore 5, 2, 0, 0, 0, 5, .int), (.aload_n 2, 1, 0, 0, 0, 2, .int), (.aload_n 0, 1, 0, 0, 0, 0, .int), (.iload 4, 2, 0, 0, 0, 4, .int), (.iconst 1, 1, 0, 1, 0, 0, .int), (.iadd, 1, 0, 0, 0, 0, .int)]
theorem b_L_law_957 : isAt "GridStoreLaw" 8 false cL_law 957 k_L_law_957 = true := by decide +kernel
def k_L_law_966 : List En := [(.aload_n 0, 1, 0, 0, 0, 0, .int), (.iload 4, 2, 0, 0, 0, 4, .int), (.iconst 2, 1, 0, 2, 0, 0, .int), (.iadd, 1, 0, 0, 0, 0, .int)]
theorem b_L_law_966 : isAt "GridStoreLaw" 8 false cL_law 966 k_L_law_966 = true := by decide +kernel
def k_L_law_972 : List En := [(.aload_n 0, 1, 0, 0, 0, 0, .int), (.iload 4, 2, 0, 0, 0, 4, .int), (.iconst 3, 1, 0, 3, 0, 0, .int), (.iadd, 1, 0, 0, 0, 0, .int)]
theorem b_L_law_972 : isAt "GridStoreLaw" 8 false cL_law 972 k_L_law_972 = true := by decide +kernel
def k_L_law_981 : List En := [(.istore 6, 2, 0, 0, 0, 6, .int), (.aload_n 2, 1, 0, 0, 0, 2, .int)]
theorem b_L_law_981 : isAt "GridStoreLaw" 8 false cL_law 981 k_L_law_981 = true := by decide +kernel
def k_L_law_987 : List En := [(.iload 5, 2, 0, 0, 0, 5, .int), (.if_icmp .eq 5, 3, 994, 0, 0, 0, .int), (.iconst 0, 1, 0, 0, 0, 0, .int)]
theorem b_L_law_987 : isAt "GridStoreLaw" 8 false cL_law 987 k_L_law_987 = true := by decide +kernel
def k_L_law_994 : List En := [(.iload 5, 2, 0, 0, 0, 5, .int), (.ifCond .ne 15, 3, 1011, 0, 0, 0, .int), (.aload_n 3, 1, 0, 0, 0, 3, .int), (.iconst 0, 1, 0, 0, 0, 0, .int), (.laload, 1, 0, 0, 0, 0, .int), (.iload 6, 2, 0, 0, 0, 6, .int), (.i2l, 1, 0, 0, 0, 0, .int), (.lcmp, 1, 0, 0, 0, 0, .int), (.ifCond .eq 5, 3, 1011, 0, 0, 0, .int), (.iconst 0, 1, 0, 0, 0, 0, .int)]
theorem b_L_law_994 : isAt "GridStoreLaw" 8 false cL_law 994 k_L_law_994 = true := by decide +kernel
def k_L_law_1011 : List En := [(.goto 1198, 3, 2209, 0, 0, 0, .int)]
theorem b_L_law_1011 : isAt "GridStoreLaw" 8 false cL_law 1011 k_L_law_1011 = true := by decide +kernel
theorem d_L_law_1020 : decode cL_law 1020 = .ok (.iaload, 1) := by decide +kernel
theorem d_L_law_1026 : decode cL_law 1026 = .ok (.iaload, 1) := by decide +kernel
theorem d_L_law_1032 : decode cL_law 1032 = .ok (.iaload, 1) := by decide +kernel
def k_L_law_1014 : List En := [(.aload_n 1, 1, 0, 0, 0, 1, .int), (.aload_n 0, 1, 0, 0, 0, 0, .int), (.iload 4, 2, 0, 0, 0, 4, .int), (.iconst 1, 1, 0, 1, 0, 0, .int), (.iadd, 1, 0, 0, 0, 0, .int)]
theorem b_L_law_1014 : isAt "GridStoreLaw" 8 false cL_law 1014 k_L_law_1014 = true := by decide +kernel
def k_L_law_1021 : List En := [(.aload_n 0, 1, 0, 0, 0, 0, .int), (.iload 4, 2, 0, 0, 0, 4, .int), (.iconst 2, 1, 0, 2, 0, 0, .int), (.iadd, 1, 0, 0, 0, 0, .int)]
theorem b_L_law_1021 : isAt "GridStoreLaw" 8 false cL_law 1021 k_L_law_1021 = true := by decide +kernel
def k_L_law_1027 : List En := [(.aload_n 0, 1, 0, 0, 0, 0, .int), (.iload 4, 2, 0, 0, 0, 4, .int), (.iconst 3, 1, 0, 3, 0, 0, .int), (.iadd, 1, 0, 0, 0, 0, .int)]
theorem b_L_law_1027 : isAt "GridStoreLaw" 8 false cL_law 1027 k_L_law_1027 = true := by decide +kernel
def k_L_law_1033 : List En := [(.aload_n 3, 1, 0, 0, 0, 3, .int)]
theorem b_L_law_1033 : isAt "GridStoreLaw" 8 false cL_law 1033 k_L_law_1033 = true := by decide +kernel
theorem d_L_law_1045 : decode cL_law 1045 = .ok (.iaload, 1) := by decide +kernel
theorem d_L_law_1051 : decode cL_law 1051 = .ok (.iaload, 1) := by decide +kernel
theorem d_L_law_1057 : decode cL_law 1057 = .ok (.iaload, 1) := by decide +kernel
def k_L_law_1037 : List En := [(.istore 5, 2, 0, 0, 0, 5, .int), (.aload_n 2, 1, 0, 0, 0, 2, .int), (.aload_n 0, 1, 0, 0, 0, 0, .int), (.iload 4, 2, 0, 0, 0, 4, .int), (.iconst 1, 1, 0, 1, 0, 0, .int), (.iadd, 1, 0, 0, 0, 0, .int)]
theorem b_L_law_1037 : isAt "GridStoreLaw" 8 false cL_law 1037 k_L_law_1037 = true := by decide +kernel
def k_L_law_1046 : List En := [(.aload_n 0, 1, 0, 0, 0, 0, .int), (.iload 4, 2, 0, 0, 0, 4, .int), (.iconst 2, 1, 0, 2, 0, 0, .int), (.iadd, 1, 0, 0, 0, 0, .int)]
theorem b_L_law_1046 : isAt "GridStoreLaw" 8 false cL_law 1046 k_L_law_1046 = true := by decide +kernel
def k_L_law_1052 : List En := [(.aload_n 0, 1, 0, 0, 0, 0, .int), (.iload 4, 2, 0, 0, 0, 4, .int), (.iconst 3, 1, 0, 3, 0, 0, .int), (.iadd, 1, 0, 0, 0, 0, .int)]
theorem b_L_law_1052 : isAt "GridStoreLaw" 8 false cL_law 1052 k_L_law_1052 = true := by decide +kernel
def k_L_law_1061 : List En := [(.istore 6, 2, 0, 0, 0, 6, .int), (.aload_n 2, 1, 0, 0, 0, 2, .int)]
theorem b_L_law_1061 : isAt "GridStoreLaw" 8 false cL_law 1061 k_L_law_1061 = true := by decide +kernel
def k_L_law_1067 : List En := [(.iload 5, 2, 0, 0, 0, 5, .int), (.if_icmp .eq 5, 3, 1074, 0, 0, 0, .int), (.iconst 0, 1, 0, 0, 0, 0, .int)]
theorem b_L_law_1067 : isAt "GridStoreLaw" 8 false cL_law 1067 k_L_law_1067 = true := by decide +kernel
def k_L_law_1074 : List En := [(.iload 5, 2, 0, 0, 0, 5, .int), (.ifCond .ne 15, 3, 1091, 0, 0, 0, .int), (.aload_n 3, 1, 0, 0, 0, 3, .int), (.iconst 0, 1, 0, 0, 0, 0, .int), (.laload, 1, 0, 0, 0, 0, .int), (.iload 6, 2, 0, 0, 0, 6, .int), (.i2l, 1, 0, 0, 0, 0, .int), (.lcmp, 1, 0, 0, 0, 0, .int), (.ifCond .eq 5, 3, 1091, 0, 0, 0, .int), (.iconst 0, 1, 0, 0, 0, 0, .int)]
theorem b_L_law_1074 : isAt "GridStoreLaw" 8 false cL_law 1074 k_L_law_1074 = true := by decide +kernel
def k_L_law_1091 : List En := [(.goto 1118, 3, 2209, 0, 0, 0, .int)]
theorem b_L_law_1091 : isAt "GridStoreLaw" 8 false cL_law 1091 k_L_law_1091 = true := by decide +kernel
theorem d_L_law_1100 : decode cL_law 1100 = .ok (.iaload, 1) := by decide +kernel
def k_L_law_1094 : List En := [(.aload_n 1, 1, 0, 0, 0, 1, .int), (.aload_n 0, 1, 0, 0, 0, 0, .int), (.iload 4, 2, 0, 0, 0, 4, .int), (.iconst 1, 1, 0, 1, 0, 0, .int), (.iadd, 1, 0, 0, 0, 0, .int)]
theorem b_L_law_1094 : isAt "GridStoreLaw" 8 false cL_law 1094 k_L_law_1094 = true := by decide +kernel
def k_L_law_1101 : List En := [(.aload_n 3, 1, 0, 0, 0, 3, .int)]
theorem b_L_law_1101 : isAt "GridStoreLaw" 8 false cL_law 1101 k_L_law_1101 = true := by decide +kernel
theorem d_L_law_1113 : decode cL_law 1113 = .ok (.iaload, 1) := by decide +kernel
def k_L_law_1105 : List En := [(.istore 5, 2, 0, 0, 0, 5, .int), (.aload_n 2, 1, 0, 0, 0, 2, .int), (.aload_n 0, 1, 0, 0, 0, 0, .int), (.iload 4, 2, 0, 0, 0, 4, .int), (.iconst 1, 1, 0, 1, 0, 0, .int), (.iadd, 1, 0, 0, 0, 0, .int)]
theorem b_L_law_1105 : isAt "GridStoreLaw" 8 false cL_law 1105 k_L_law_1105 = true := by decide +kernel
def k_L_law_1117 : List En := [(.istore 6, 2, 0, 0, 0, 6, .int), (.aload_n 2, 1, 0, 0, 0, 2, .int)]
theorem b_L_law_1117 : isAt "GridStoreLaw" 8 false cL_law 1117 k_L_law_1117 = true := by decide +kernel
def k_L_law_1123 : List En := [(.iload 5, 2, 0, 0, 0, 5, .int), (.if_icmp .eq 5, 3, 1130, 0, 0, 0, .int), (.iconst 0, 1, 0, 0, 0, 0, .int)]
theorem b_L_law_1123 : isAt "GridStoreLaw" 8 false cL_law 1123 k_L_law_1123 = true := by decide +kernel
def k_L_law_1130 : List En := [(.iload 5, 2, 0, 0, 0, 5, .int), (.ifCond .ne 15, 3, 1147, 0, 0, 0, .int), (.aload_n 3, 1, 0, 0, 0, 3, .int), (.iconst 0, 1, 0, 0, 0, 0, .int), (.laload, 1, 0, 0, 0, 0, .int), (.iload 6, 2, 0, 0, 0, 6, .int), (.i2l, 1, 0, 0, 0, 0, .int), (.lcmp, 1, 0, 0, 0, 0, .int), (.ifCond .eq 5, 3, 1147, 0, 0, 0, .int), (.iconst 0, 1, 0, 0, 0, 0, .int)]
theorem b_L_law_1130 : isAt "GridStoreLaw" 8 false cL_law 1130 k_L_law_1130 = true := by decide +kernel
def k_L_law_1147 : List En := [(.goto 1062, 3, 2209, 0, 0, 0, .int)]
theorem b_L_law_1147 : isAt "GridStoreLaw" 8 false cL_law 1147 k_L_law_1147 = true := by decide +kernel
theorem d_L_law_1156 : decode cL_law 1156 = .ok (.iaload, 1) := by decide +kernel
theorem d_L_law_1162 : decode cL_law 1162 = .ok (.iaload, 1) := by decide +kernel
def k_L_law_1150 : List En := [(.aload_n 1, 1, 0, 0, 0, 1, .int), (.aload_n 0, 1, 0, 0, 0, 0, .int), (.iload 4, 2, 0, 0, 0, 4, .int), (.iconst 1, 1, 0, 1, 0, 0, .int), (.iadd, 1, 0, 0, 0, 0, .int)]
theorem b_L_law_1150 : isAt "GridStoreLaw" 8 false cL_law 1150 k_L_law_1150 = true := by decide +kernel
def k_L_law_1157 : List En := [(.aload_n 0, 1, 0, 0, 0, 0, .int), (.iload 4, 2, 0, 0, 0, 4, .int), (.iconst 2, 1, 0, 2, 0, 0, .int), (.iadd, 1, 0, 0, 0, 0, .int)]
theorem b_L_law_1157 : isAt "GridStoreLaw" 8 false cL_law 1157 k_L_law_1157 = true := by decide +kernel
def k_L_law_1163 : List En := [(.aload_n 3, 1, 0, 0, 0, 3, .int)]
theorem b_L_law_1163 : isAt "GridStoreLaw" 8 false cL_law 1163 k_L_law_1163 = true := by decide +kernel
theorem d_L_law_1175 : decode cL_law 1175 = .ok (.iaload, 1) := by decide +kernel
theorem d_L_law_1181 : decode cL_law 1181 = .ok (.iaload, 1) := by decide +kernel
def k_L_law_1167 : List En := [(.istore 5, 2, 0, 0, 0, 5, .int), (.aload_n 2, 1, 0, 0, 0, 2, .int), (.aload_n 0, 1, 0, 0, 0, 0, .int), (.iload 4, 2, 0, 0, 0, 4, .int), (.iconst 1, 1, 0, 1, 0, 0, .int), (.iadd, 1, 0, 0, 0, 0, .int)]
theorem b_L_law_1167 : isAt "GridStoreLaw" 8 false cL_law 1167 k_L_law_1167 = true := by decide +kernel
def k_L_law_1176 : List En := [(.aload_n 0, 1, 0, 0, 0, 0, .int), (.iload 4, 2, 0, 0, 0, 4, .int), (.iconst 2, 1, 0, 2, 0, 0, .int), (.iadd, 1, 0, 0, 0, 0, .int)]
theorem b_L_law_1176 : isAt "GridStoreLaw" 8 false cL_law 1176 k_L_law_1176 = true := by decide +kernel
def k_L_law_1185 : List En := [(.istore 6, 2, 0, 0, 0, 6, .int), (.aload_n 2, 1, 0, 0, 0, 2, .int)]
theorem b_L_law_1185 : isAt "GridStoreLaw" 8 false cL_law 1185 k_L_law_1185 = true := by decide +kernel
def k_L_law_1191 : List En := [(.iload 5, 2, 0, 0, 0, 5, .int), (.if_icmp .eq 5, 3, 1198, 0, 0, 0, .int), (.iconst 0, 1, 0, 0, 0, 0, .int)]
theorem b_L_law_1191 : isAt "GridStoreLaw" 8 false cL_law 1191 k_L_law_1191 = true := by decide +kernel
def k_L_law_1198 : List En := [(.iload 5, 2, 0, 0, 0, 5, .int), (.ifCond .ne 15, 3, 1215, 0, 0, 0, .int), (.aload_n 3, 1, 0, 0, 0, 3, .int), (.iconst 0, 1, 0, 0, 0, 0, .int), (.laload, 1, 0, 0, 0, 0, .int), (.iload 6, 2, 0, 0, 0, 6, .int), (.i2l, 1, 0, 0, 0, 0, .int), (.lcmp, 1, 0, 0, 0, 0, .int), (.ifCond .eq 5, 3, 1215, 0, 0, 0, .int), (.iconst 0, 1, 0, 0, 0, 0, .int)]
theorem b_L_law_1198 : isAt "GridStoreLaw" 8 false cL_law 1198 k_L_law_1198 = true := by decide +kernel
def k_L_law_1215 : List En := [(.goto 994, 3, 2209, 0, 0, 0, .int)]
theorem b_L_law_1215 : isAt "GridStoreLaw" 8 false cL_law 1215 k_L_law_1215 = true := by decide +kernel
theorem d_L_law_1224 : decode cL_law 1224 = .ok (.iaload, 1) := by decide +kernel
theorem d_L_law_1230 : decode cL_law 1230 = .ok (.iaload, 1) := by decide +kernel
theorem d_L_law_1236 : decode cL_law 1236 = .ok (.iaload, 1) := by decide +kernel
theorem d_L_law_1242 : decode cL_law 1242 = .ok (.iaload, 1) := by decide +kernel
def k_L_law_1218 : List En := [(.aload_n 1, 1, 0, 0, 0, 1, .int), (.aload_n 0, 1, 0, 0, 0, 0, .int), (.iload 4, 2, 0, 0, 0, 4, .int), (.iconst 1, 1, 0, 1, 0, 0, .int), (.iadd, 1, 0, 0, 0, 0, .int)]
theorem b_L_law_1218 : isAt "GridStoreLaw" 8 false cL_law 1218 k_L_law_1218 = true := by decide +kernel
def k_L_law_1225 : List En := [(.aload_n 0, 1, 0, 0, 0, 0, .int), (.iload 4, 2, 0, 0, 0, 4, .int), (.iconst 2, 1, 0, 2, 0, 0, .int), (.iadd, 1, 0, 0, 0, 0, .int)]
theorem b_L_law_1225 : isAt "GridStoreLaw" 8 false cL_law 1225 k_L_law_1225 = true := by decide +kernel
def k_L_law_1231 : List En := [(.aload_n 0, 1, 0, 0, 0, 0, .int), (.iload 4, 2, 0, 0, 0, 4, .int), (.iconst 3, 1, 0, 3, 0, 0, .int), (.iadd, 1, 0, 0, 0, 0, .int)]
theorem b_L_law_1231 : isAt "GridStoreLaw" 8 false cL_law 1231 k_L_law_1231 = true := by decide +kernel
def k_L_law_1237 : List En := [(.aload_n 0, 1, 0, 0, 0, 0, .int), (.iload 4, 2, 0, 0, 0, 4, .int), (.iconst 4, 1, 0, 4, 0, 0, .int), (.iadd, 1, 0, 0, 0, 0, .int)]
theorem b_L_law_1237 : isAt "GridStoreLaw" 8 false cL_law 1237 k_L_law_1237 = true := by decide +kernel
def k_L_law_1243 : List En := [(.aload_n 3, 1, 0, 0, 0, 3, .int)]
theorem b_L_law_1243 : isAt "GridStoreLaw" 8 false cL_law 1243 k_L_law_1243 = true := by decide +kernel
theorem d_L_law_1255 : decode cL_law 1255 = .ok (.iaload, 1) := by decide +kernel
theorem d_L_law_1261 : decode cL_law 1261 = .ok (.iaload, 1) := by decide +kernel
theorem d_L_law_1267 : decode cL_law 1267 = .ok (.iaload, 1) := by decide +kernel
theorem d_L_law_1273 : decode cL_law 1273 = .ok (.iaload, 1) := by decide +kernel
def k_L_law_1247 : List En := [(.istore 5, 2, 0, 0, 0, 5, .int), (.aload_n 2, 1, 0, 0, 0, 2, .int), (.aload_n 0, 1, 0, 0, 0, 0, .int), (.iload 4, 2, 0, 0, 0, 4, .int), (.iconst 1, 1, 0, 1, 0, 0, .int), (.iadd, 1, 0, 0, 0, 0, .int)]
theorem b_L_law_1247 : isAt "GridStoreLaw" 8 false cL_law 1247 k_L_law_1247 = true := by decide +kernel
def k_L_law_1256 : List En := [(.aload_n 0, 1, 0, 0, 0, 0, .int), (.iload 4, 2, 0, 0, 0, 4, .int), (.iconst 2, 1, 0, 2, 0, 0, .int), (.iadd, 1, 0, 0, 0, 0, .int)]
theorem b_L_law_1256 : isAt "GridStoreLaw" 8 false cL_law 1256 k_L_law_1256 = true := by decide +kernel
def k_L_law_1262 : List En := [(.aload_n 0, 1, 0, 0, 0, 0, .int), (.iload 4, 2, 0, 0, 0, 4, .int), (.iconst 3, 1, 0, 3, 0, 0, .int), (.iadd, 1, 0, 0, 0, 0, .int)]
theorem b_L_law_1262 : isAt "GridStoreLaw" 8 false cL_law 1262 k_L_law_1262 = true := by decide +kernel
def k_L_law_1268 : List En := [(.aload_n 0, 1, 0, 0, 0, 0, .int), (.iload 4, 2, 0, 0, 0, 4, .int), (.iconst 4, 1, 0, 4, 0, 0, .int), (.iadd, 1, 0, 0, 0, 0, .int)]
theorem b_L_law_1268 : isAt "GridStoreLaw" 8 false cL_law 1268 k_L_law_1268 = true := by decide +kernel
def k_L_law_1277 : List En := [(.istore 6, 2, 0, 0, 0, 6, .int), (.aload_n 2, 1, 0, 0, 0, 2, .int)]
theorem b_L_law_1277 : isAt "GridStoreLaw" 8 false cL_law 1277 k_L_law_1277 = true := by decide +kernel
def k_L_law_1283 : List En := [(.iload 5, 2, 0, 0, 0, 5, .int), (.if_icmp .eq 5, 3, 1290, 0, 0, 0, .int), (.iconst 0, 1, 0, 0, 0, 0, .int)]
theorem b_L_law_1283 : isAt "GridStoreLaw" 8 false cL_law 1283 k_L_law_1283 = true := by decide +kernel
def k_L_law_1290 : List En := [(.iload 5, 2, 0, 0, 0, 5, .int), (.ifCond .ne 15, 3, 1307, 0, 0, 0, .int), (.aload_n 3, 1, 0, 0, 0, 3, .int), (.iconst 0, 1, 0, 0, 0, 0, .int), (.laload, 1, 0, 0, 0, 0, .int), (.iload 6, 2, 0, 0, 0, 6, .int), (.i2l, 1, 0, 0, 0, 0, .int), (.lcmp, 1, 0, 0, 0, 0, .int), (.ifCond .eq 5, 3, 1307, 0, 0, 0, .int), (.iconst 0, 1, 0, 0, 0, 0, .int)]
theorem b_L_law_1290 : isAt "GridStoreLaw" 8 false cL_law 1290 k_L_law_1290 = true := by decide +kernel
def k_L_law_1307 : List En := [(.goto 902, 3, 2209, 0, 0, 0, .int)]
theorem b_L_law_1307 : isAt "GridStoreLaw" 8 false cL_law 1307 k_L_law_1307 = true := by decide +kernel
theorem d_L_law_1316 : decode cL_law 1316 = .ok (.iaload, 1) := by decide +kernel
theorem d_L_law_1322 : decode cL_law 1322 = .ok (.iaload, 1) := by decide +kernel
theorem d_L_law_1328 : decode cL_law 1328 = .ok (.iaload, 1) := by decide +kernel
def k_L_law_1310 : List En := [(.aload_n 1, 1, 0, 0, 0, 1, .int), (.aload_n 0, 1, 0, 0, 0, 0, .int), (.iload 4, 2, 0, 0, 0, 4, .int), (.iconst 1, 1, 0, 1, 0, 0, .int), (.iadd, 1, 0, 0, 0, 0, .int)]
theorem b_L_law_1310 : isAt "GridStoreLaw" 8 false cL_law 1310 k_L_law_1310 = true := by decide +kernel
def k_L_law_1317 : List En := [(.aload_n 0, 1, 0, 0, 0, 0, .int), (.iload 4, 2, 0, 0, 0, 4, .int), (.iconst 2, 1, 0, 2, 0, 0, .int), (.iadd, 1, 0, 0, 0, 0, .int)]
theorem b_L_law_1317 : isAt "GridStoreLaw" 8 false cL_law 1317 k_L_law_1317 = true := by decide +kernel
def k_L_law_1323 : List En := [(.aload_n 0, 1, 0, 0, 0, 0, .int), (.iload 4, 2, 0, 0, 0, 4, .int), (.iconst 3, 1, 0, 3, 0, 0, .int), (.iadd, 1, 0, 0, 0, 0, .int)]
theorem b_L_law_1323 : isAt "GridStoreLaw" 8 false cL_law 1323 k_L_law_1323 = true := by decide +kernel
def k_L_law_1329 : List En := [(.aload_n 3, 1, 0, 0, 0, 3, .int)]
theorem b_L_law_1329 : isAt "GridStoreLaw" 8 false cL_law 1329 k_L_law_1329 = true := by decide +kernel
theorem d_L_law_1341 : decode cL_law 1341 = .ok (.iaload, 1) := by decide +kernel
theorem d_L_law_1347 : decode cL_law 1347 = .ok (.iaload, 1) := by decide +kernel
theorem d_L_law_1353 : decode cL_law 1353 = .ok (.iaload, 1) := by decide +kernel
def k_L_law_1333 : List En := [(.istore 5, 2, 0, 0, 0, 5, .int), (.aload_n 2, 1, 0, 0, 0, 2, .int), (.aload_n 0, 1, 0, 0, 0, 0, .int), (.iload 4, 2, 0, 0, 0, 4, .int), (.iconst 1, 1, 0, 1, 0, 0, .int), (.iadd, 1, 0, 0, 0, 0, .int)]
theorem b_L_law_1333 : isAt "GridStoreLaw" 8 false cL_law 1333 k_L_law_1333 = true := by decide +kernel
def k_L_law_1342 : List En := [(.aload_n 0, 1, 0, 0, 0, 0, .int), (.iload 4, 2, 0, 0, 0, 4, .int), (.iconst 2, 1, 0, 2, 0, 0, .int), (.iadd, 1, 0, 0, 0, 0, .int)]
theorem b_L_law_1342 : isAt "GridStoreLaw" 8 false cL_law 1342 k_L_law_1342 = true := by decide +kernel
def k_L_law_1348 : List En := [(.aload_n 0, 1, 0, 0, 0, 0, .int), (.iload 4, 2, 0, 0, 0, 4, .int), (.iconst 3, 1, 0, 3, 0, 0, .int), (.iadd, 1, 0, 0, 0, 0, .int)]
theorem b_L_law_1348 : isAt "GridStoreLaw" 8 false cL_law 1348 k_L_law_1348 = true := by decide +kernel
def k_L_law_1357 : List En := [(.istore 6, 2, 0, 0, 0, 6, .int), (.aload_n 2, 1, 0, 0, 0, 2, .int)]
theorem b_L_law_1357 : isAt "GridStoreLaw" 8 false cL_law 1357 k_L_law_1357 = true := by decide +kernel
def k_L_law_1363 : List En := [(.iload 5, 2, 0, 0, 0, 5, .int), (.if_icmp .eq 5, 3, 1370, 0, 0, 0, .int), (.iconst 0, 1, 0, 0, 0, 0, .int)]
theorem b_L_law_1363 : isAt "GridStoreLaw" 8 false cL_law 1363 k_L_law_1363 = true := by decide +kernel
def k_L_law_1370 : List En := [(.iload 5, 2, 0, 0, 0, 5, .int), (.ifCond .ne 15, 3, 1387, 0, 0, 0, .int), (.aload_n 3, 1, 0, 0, 0, 3, .int), (.iconst 0, 1, 0, 0, 0, 0, .int), (.laload, 1, 0, 0, 0, 0, .int), (.iload 6, 2, 0, 0, 0, 6, .int), (.i2l, 1, 0, 0, 0, 0, .int), (.lcmp, 1, 0, 0, 0, 0, .int), (.ifCond .eq 5, 3, 1387, 0, 0, 0, .int), (.iconst 0, 1, 0, 0, 0, 0, .int)]
theorem b_L_law_1370 : isAt "GridStoreLaw" 8 false cL_law 1370 k_L_law_1370 = true := by decide +kernel
def k_L_law_1387 : List En := [(.goto 822, 3, 2209, 0, 0, 0, .int)]
theorem b_L_law_1387 : isAt "GridStoreLaw" 8 false cL_law 1387 k_L_law_1387 = true := by decide +kernel
theorem d_L_law_1396 : decode cL_law 1396 = .ok (.iaload, 1) := by decide +kernel
theorem d_L_law_1402 : decode cL_law 1402 = .ok (.iaload, 1) := by decide +kernel
def k_L_law_1390 : List En := [(.aload_n 1, 1, 0, 0, 0, 1, .int), (.aload_n 0, 1, 0, 0, 0, 0, .int), (.iload 4, 2, 0, 0, 0, 4, .int), (.iconst 1, 1, 0, 1, 0, 0, .int), (.iadd, 1, 0, 0, 0, 0, .int)]
theorem b_L_law_1390 : isAt "GridStoreLaw" 8 false cL_law 1390 k_L_law_1390 = true := by decide +kernel
def k_L_law_1397 : List En := [(.aload_n 0, 1, 0, 0, 0, 0, .int), (.iload 4, 2, 0, 0, 0, 4, .int), (.iconst 2, 1, 0, 2, 0, 0, .int), (.iadd, 1, 0, 0, 0, 0, .int)]
theorem b_L_law_1397 : isAt "GridStoreLaw" 8 false cL_law 1397 k_L_law_1397 = true := by decide +kernel
def k_L_law_1403 : List En := [(.ifCond .eq 7, 3, 1410, 0, 0, 0, .int), (.iconst 1, 1, 0, 1, 0, 0, .int), (.goto 4, 3, 1411, 0, 0, 0, .int)]
theorem b_L_law_1403 : isAt "GridStoreLaw" 8 false cL_law 1403 k_L_law_1403 = true := by decide +kernel
def k_L_law_1410 : List En := [(.iconst 0, 1, 0, 0, 0, 0, .int)]
theorem b_L_law_1410 : isAt "GridStoreLaw" 8 false cL_law 1410 k_L_law_1410 = true := by decide +kernel
def k_L_law_1411 : List En := [(.aload_n 3, 1, 0, 0, 0, 3, .int)]
theorem b_L_law_1411 : isAt "GridStoreLaw" 8 false cL_law 1411 k_L_law_1411 = true := by decide +kernel
theorem d_L_law_1423 : decode cL_law 1423 = .ok (.iaload, 1) := by decide +kernel
theorem d_L_law_1429 : decode cL_law 1429 = .ok (.iaload, 1) := by decide +kernel
def k_L_law_1415 : List En := [(.istore 5, 2, 0, 0, 0, 5, .int), (.aload_n 2, 1, 0, 0, 0, 2, .int), (.aload_n 0, 1, 0, 0, 0, 0, .int), (.iload 4, 2, 0, 0, 0, 4, .int), (.iconst 1, 1, 0, 1, 0, 0, .int), (.iadd, 1, 0, 0, 0, 0, .int)]
theorem b_L_law_1415 : isAt "GridStoreLaw" 8 false cL_law 1415 k_L_law_1415 = true := by decide +kernel
def k_L_law_1424 : List En := [(.aload_n 0, 1, 0, 0, 0, 0, .int), (.iload 4, 2, 0, 0, 0, 4, .int), (.iconst 2, 1, 0, 2, 0, 0, .int), (.iadd, 1, 0, 0, 0, 0, .int)]
theorem b_L_law_1424 : isAt "GridStoreLaw" 8 false cL_law 1424 k_L_law_1424 = true := by decide +kernel
def k_L_law_1430 : List En := [(.ifCond .eq 7, 3, 1437, 0, 0, 0, .int), (.iconst 1, 1, 0, 1, 0, 0, .int), (.goto 4, 3, 1438, 0, 0, 0, .int)]
theorem b_L_law_1430 : isAt "GridStoreLaw" 8 false cL_law 1430 k_L_law_1430 = true := by decide +kernel
def k_L_law_1437 : List En := [(.iconst 0, 1, 0, 0, 0, 0, .int)]
theorem b_L_law_1437 : isAt "GridStoreLaw" 8 false cL_law 1437 k_L_law_1437 = true := by decide +kernel
def k_L_law_1441 : List En := [(.istore 6, 2, 0, 0, 0, 6, .int), (.aload_n 2, 1, 0, 0, 0, 2, .int)]
theorem b_L_law_1441 : isAt "GridStoreLaw" 8 false cL_law 1441 k_L_law_1441 = true := by decide +kernel
def k_L_law_1447 : List En := [(.iload 5, 2, 0, 0, 0, 5, .int), (.if_icmp .eq 5, 3, 1454, 0, 0, 0, .int), (.iconst 0, 1, 0, 0, 0, 0, .int)]
theorem b_L_law_1447 : isAt "GridStoreLaw" 8 false cL_law 1447 k_L_law_1447 = true := by decide +kernel
def k_L_law_1454 : List En := [(.iload 5, 2, 0, 0, 0, 5, .int), (.ifCond .ne 22, 3, 1478, 0, 0, 0, .int), (.aload_n 3, 1, 0, 0, 0, 3, .int), (.iconst 0, 1, 0, 0, 0, 0, .int), (.laload, 1, 0, 0, 0, 0, .int), (.iload 6, 2, 0, 0, 0, 6, .int), (.ifCond .eq 7, 3, 1471, 0, 0, 0, .int), (.lconst 1, 1, 0, 0, 0, 0, .int), (.goto 4, 3, 1472, 0, 0, 0, .int)]
theorem b_L_law_1454 : isAt "GridStoreLaw" 8 false cL_law 1454 k_L_law_1454 = true := by decide +kernel
def k_L_law_1471 : List En := [(.lconst 0, 1, 0, 0, 0, 0, .int)]
theorem b_L_law_1471 : isAt "GridStoreLaw" 8 false cL_law 1471 k_L_law_1471 = true := by decide +kernel
def k_L_law_1472 : List En := [(.lcmp, 1, 0, 0, 0, 0, .int), (.ifCond .eq 5, 3, 1478, 0, 0, 0, .int), (.iconst 0, 1, 0, 0, 0, 0, .int)]
theorem b_L_law_1472 : isAt "GridStoreLaw" 8 false cL_law 1472 k_L_law_1472 = true := by decide +kernel
def k_L_law_1478 : List En := [(.goto 731, 3, 2209, 0, 0, 0, .int)]
theorem b_L_law_1478 : isAt "GridStoreLaw" 8 false cL_law 1478 k_L_law_1478 = true := by decide +kernel
theorem d_L_law_1487 : decode cL_law 1487 = .ok (.iaload, 1) := by decide +kernel
theorem d_L_law_1493 : decode cL_law 1493 = .ok (.iaload, 1) := by decide +kernel
theorem d_L_law_1499 : decode cL_law 1499 = .ok (.iaload, 1) := by decide +kernel
theorem d_L_law_1505 : decode cL_law 1505 = .ok (.iaload, 1) := by decide +kernel
def k_L_law_1481 : List En := [(.aload_n 1, 1, 0, 0, 0, 1, .int), (.aload_n 0, 1, 0, 0, 0, 0, .int), (.iload 4, 2, 0, 0, 0, 4, .int), (.iconst 1, 1, 0, 1, 0, 0, .int), (.iadd, 1, 0, 0, 0, 0, .int)]
theorem b_L_law_1481 : isAt "GridStoreLaw" 8 false cL_law 1481 k_L_law_1481 = true := by decide +kernel
def k_L_law_1488 : List En := [(.aload_n 0, 1, 0, 0, 0, 0, .int), (.iload 4, 2, 0, 0, 0, 4, .int), (.iconst 2, 1, 0, 2, 0, 0, .int), (.iadd, 1, 0, 0, 0, 0, .int)]
theorem b_L_law_1488 : isAt "GridStoreLaw" 8 false cL_law 1488 k_L_law_1488 = true := by decide +kernel
def k_L_law_1494 : List En := [(.aload_n 0, 1, 0, 0, 0, 0, .int), (.iload 4, 2, 0, 0, 0, 4, .int), (.iconst 3, 1, 0, 3, 0, 0, .int), (.iadd, 1, 0, 0, 0, 0, .int)]
theorem b_L_law_1494 : isAt "GridStoreLaw" 8 false cL_law 1494 k_L_law_1494 = true := by decide +kernel
def k_L_law_1500 : List En := [(.aload_n 0, 1, 0, 0, 0, 0, .int), (.iload 4, 2, 0, 0, 0, 4, .int), (.iconst 4, 1, 0, 4, 0, 0, .int), (.iadd, 1, 0, 0, 0, 0, .int)]
theorem b_L_law_1500 : isAt "GridStoreLaw" 8 false cL_law 1500 k_L_law_1500 = true := by decide +kernel
def k_L_law_1506 : List En := [(.aload_n 3, 1, 0, 0, 0, 3, .int)]
theorem b_L_law_1506 : isAt "GridStoreLaw" 8 false cL_law 1506 k_L_law_1506 = true := by decide +kernel
theorem d_L_law_1518 : decode cL_law 1518 = .ok (.iaload, 1) := by decide +kernel
theorem d_L_law_1524 : decode cL_law 1524 = .ok (.iaload, 1) := by decide +kernel
theorem d_L_law_1530 : decode cL_law 1530 = .ok (.iaload, 1) := by decide +kernel
theorem d_L_law_1536 : decode cL_law 1536 = .ok (.iaload, 1) := by decide +kernel
def k_L_law_1510 : List En := [(.istore 5, 2, 0, 0, 0, 5, .int), (.aload_n 2, 1, 0, 0, 0, 2, .int), (.aload_n 0, 1, 0, 0, 0, 0, .int), (.iload 4, 2, 0, 0, 0, 4, .int), (.iconst 1, 1, 0, 1, 0, 0, .int), (.iadd, 1, 0, 0, 0, 0, .int)]
theorem b_L_law_1510 : isAt "GridStoreLaw" 8 false cL_law 1510 k_L_law_1510 = true := by decide +kernel
def k_L_law_1519 : List En := [(.aload_n 0, 1, 0, 0, 0, 0, .int), (.iload 4, 2, 0, 0, 0, 4, .int), (.iconst 2, 1, 0, 2, 0, 0, .int), (.iadd, 1, 0, 0, 0, 0, .int)]
theorem b_L_law_1519 : isAt "GridStoreLaw" 8 false cL_law 1519 k_L_law_1519 = true := by decide +kernel
def k_L_law_1525 : List En := [(.aload_n 0, 1, 0, 0, 0, 0, .int), (.iload 4, 2, 0, 0, 0, 4, .int), (.iconst 3, 1, 0, 3, 0, 0, .int), (.iadd, 1, 0, 0, 0, 0, .int)]
theorem b_L_law_1525 : isAt "GridStoreLaw" 8 false cL_law 1525 k_L_law_1525 = true := by decide +kernel
def k_L_law_1531 : List En := [(.aload_n 0, 1, 0, 0, 0, 0, .int), (.iload 4, 2, 0, 0, 0, 4, .int), (.iconst 4, 1, 0, 4, 0, 0, .int), (.iadd, 1, 0, 0, 0, 0, .int)]
theorem b_L_law_1531 : isAt "GridStoreLaw" 8 false cL_law 1531 k_L_law_1531 = true := by decide +kernel
def k_L_law_1540 : List En := [(.lstore 6, 2, 0, 0, 0, 6, .int), (.aload_n 2, 1, 0, 0, 0, 2, .int)]
theorem b_L_law_1540 : isAt "GridStoreLaw" 8 false cL_law 1540 k_L_law_1540 = true := by decide +kernel
def k_L_law_1546 : List En := [(.iload 5, 2, 0, 0, 0, 5, .int), (.if_icmp .eq 5, 3, 1553, 0, 0, 0, .int), (.iconst 0, 1, 0, 0, 0, 0, .int)]
theorem b_L_law_1546 : isAt "GridStoreLaw" 8 false cL_law 1546 k_L_law_1546 = true := by decide +kernel
def k_L_law_1553 : List En := [(.iload 5, 2, 0, 0, 0, 5, .int), (.ifCond .ne 14, 3, 1569, 0, 0, 0, .int), (.aload_n 3, 1, 0, 0, 0, 3, .int), (.iconst 0, 1, 0, 0, 0, 0, .int), (.laload, 1, 0, 0, 0, 0, .int), (.lload 6, 2, 0, 0, 0, 6, .int), (.lcmp, 1, 0, 0, 0, 0, .int), (.ifCond .eq 5, 3, 1569, 0, 0, 0, .int), (.iconst 0, 1, 0, 0, 0, 0, .int)]
theorem b_L_law_1553 : isAt "GridStoreLaw" 8 false cL_law 1553 k_L_law_1553 = true := by decide +kernel
def k_L_law_1569 : List En := [(.goto 640, 3, 2209, 0, 0, 0, .int)]
theorem b_L_law_1569 : isAt "GridStoreLaw" 8 false cL_law 1569 k_L_law_1569 = true := by decide +kernel
theorem d_L_law_1578 : decode cL_law 1578 = .ok (.iaload, 1) := by decide +kernel
theorem d_L_law_1584 : decode cL_law 1584 = .ok (.iaload, 1) := by decide +kernel
theorem d_L_law_1590 : decode cL_law 1590 = .ok (.iaload, 1) := by decide +kernel
theorem d_L_law_1596 : decode cL_law 1596 = .ok (.iaload, 1) := by decide +kernel
def k_L_law_1572 : List En := [(.aload_n 1, 1, 0, 0, 0, 1, .int), (.aload_n 0, 1, 0, 0, 0, 0, .int), (.iload 4, 2, 0, 0, 0, 4, .int), (.iconst 1, 1, 0, 1, 0, 0, .int), (.iadd, 1, 0, 0, 0, 0, .int)]
theorem b_L_law_1572 : isAt "GridStoreLaw" 8 false cL_law 1572 k_L_law_1572 = true := by decide +kernel
def k_L_law_1579 : List En := [(.aload_n 0, 1, 0, 0, 0, 0, .int), (.iload 4, 2, 0, 0, 0, 4, .int), (.iconst 2, 1, 0, 2, 0, 0, .int), (.iadd, 1, 0, 0, 0, 0, .int)]
theorem b_L_law_1579 : isAt "GridStoreLaw" 8 false cL_law 1579 k_L_law_1579 = true := by decide +kernel
def k_L_law_1585 : List En := [(.aload_n 0, 1, 0, 0, 0, 0, .int), (.iload 4, 2, 0, 0, 0, 4, .int), (.iconst 3, 1, 0, 3, 0, 0, .int), (.iadd, 1, 0, 0, 0, 0, .int)]
theorem b_L_law_1585 : isAt "GridStoreLaw" 8 false cL_law 1585 k_L_law_1585 = true := by decide +kernel
def k_L_law_1591 : List En := [(.aload_n 0, 1, 0, 0, 0, 0, .int), (.iload 4, 2, 0, 0, 0, 4, .int), (.iconst 4, 1, 0, 4, 0, 0, .int), (.iadd, 1, 0, 0, 0, 0, .int)]
theorem b_L_law_1591 : isAt "GridStoreLaw" 8 false cL_law 1591 k_L_law_1591 = true := by decide +kernel
def k_L_law_1597 : List En := [(.aload_n 3, 1, 0, 0, 0, 3, .int)]
theorem b_L_law_1597 : isAt "GridStoreLaw" 8 false cL_law 1597 k_L_law_1597 = true := by decide +kernel
theorem d_L_law_1609 : decode cL_law 1609 = .ok (.iaload, 1) := by decide +kernel
theorem d_L_law_1615 : decode cL_law 1615 = .ok (.iaload, 1) := by decide +kernel
theorem d_L_law_1621 : decode cL_law 1621 = .ok (.iaload, 1) := by decide +kernel
theorem d_L_law_1627 : decode cL_law 1627 = .ok (.iaload, 1) := by decide +kernel
def k_L_law_1601 : List En := [(.istore 5, 2, 0, 0, 0, 5, .int), (.aload_n 2, 1, 0, 0, 0, 2, .int), (.aload_n 0, 1, 0, 0, 0, 0, .int), (.iload 4, 2, 0, 0, 0, 4, .int), (.iconst 1, 1, 0, 1, 0, 0, .int), (.iadd, 1, 0, 0, 0, 0, .int)]
theorem b_L_law_1601 : isAt "GridStoreLaw" 8 false cL_law 1601 k_L_law_1601 = true := by decide +kernel
def k_L_law_1610 : List En := [(.aload_n 0, 1, 0, 0, 0, 0, .int), (.iload 4, 2, 0, 0, 0, 4, .int), (.iconst 2, 1, 0, 2, 0, 0, .int), (.iadd, 1, 0, 0, 0, 0, .int)]
theorem b_L_law_1610 : isAt "GridStoreLaw" 8 false cL_law 1610 k_L_law_1610 = true := by decide +kernel
def k_L_law_1616 : List En := [(.aload_n 0, 1, 0, 0, 0, 0, .int), (.iload 4, 2, 0, 0, 0, 4, .int), (.iconst 3, 1, 0, 3, 0, 0, .int), (.iadd, 1, 0, 0, 0, 0, .int)]
theorem b_L_law_1616 : isAt "GridStoreLaw" 8 false cL_law 1616 k_L_law_1616 = true := by decide +kernel
def k_L_law_1622 : List En := [(.aload_n 0, 1, 0, 0, 0, 0, .int), (.iload 4, 2, 0, 0, 0, 4, .int), (.iconst 4, 1, 0, 4, 0, 0, .int), (.iadd, 1, 0, 0, 0, 0, .int)]
theorem b_L_law_1622 : isAt "GridStoreLaw" 8 false cL_law 1622 k_L_law_1622 = true := by decide +kernel
def k_L_law_1631 : List En := [(.istore 6, 2, 0, 0, 0, 6, .int), (.aload_n 2, 1, 0, 0, 0, 2, .int)]
theorem b_L_law_1631 : isAt "GridStoreLaw" 8 false cL_law 1631 k_L_law_1631 = true := by decide +kernel
def k_L_law_1637 : List En := [(.iload 5, 2, 0, 0, 0, 5, .int), (.if_icmp .eq 5, 3, 1644, 0, 0, 0, .int), (.iconst 0, 1, 0, 0, 0, 0, .int)]
theorem b_L_law_1637 : isAt "GridStoreLaw" 8 false cL_law 1637 k_L_law_1637 = true := by decide +kernel
def k_L_law_1644 : List En := [(.iload 5, 2, 0, 0, 0, 5, .int), (.ifCond .ne 15, 3, 1661, 0, 0, 0, .int), (.aload_n 3, 1, 0, 0, 0, 3, .int), (.iconst 0, 1, 0, 0, 0, 0, .int), (.laload, 1, 0, 0, 0, 0, .int), (.iload 6, 2, 0, 0, 0, 6, .int), (.i2l, 1, 0, 0, 0, 0, .int), (.lcmp, 1, 0, 0, 0, 0, .int), (.ifCond .eq 5, 3, 1661, 0, 0, 0, .int), (.iconst 0, 1, 0, 0, 0, 0, .int)]
theorem b_L_law_1644 : isAt "GridStoreLaw" 8 false cL_law 1644 k_L_law_1644 = true := by decide +kernel
def k_L_law_1661 : List En := [(.goto 548, 3, 2209, 0, 0, 0, .int)]
theorem b_L_law_1661 : isAt "GridStoreLaw" 8 false cL_law 1661 k_L_law_1661 = true := by decide +kernel
theorem d_L_law_1670 : decode cL_law 1670 = .ok (.iaload, 1) := by decide +kernel
theorem d_L_law_1676 : decode cL_law 1676 = .ok (.iaload, 1) := by decide +kernel
def k_L_law_1664 : List En := [(.aload_n 1, 1, 0, 0, 0, 1, .int), (.aload_n 0, 1, 0, 0, 0, 0, .int), (.iload 4, 2, 0, 0, 0, 4, .int), (.iconst 1, 1, 0, 1, 0, 0, .int), (.iadd, 1, 0, 0, 0, 0, .int)]
theorem b_L_law_1664 : isAt "GridStoreLaw" 8 false cL_law 1664 k_L_law_1664 = true := by decide +kernel
def k_L_law_1671 : List En := [(.aload_n 0, 1, 0, 0, 0, 0, .int), (.iload 4, 2, 0, 0, 0, 4, .int), (.iconst 2, 1, 0, 2, 0, 0, .int), (.iadd, 1, 0, 0, 0, 0, .int)]
theorem b_L_law_1671 : isAt "GridStoreLaw" 8 false cL_law 1671 k_L_law_1671 = true := by decide +kernel
def k_L_law_1677 : List En := [(.aload_n 3, 1, 0, 0, 0, 3, .int)]
theorem b_L_law_1677 : isAt "GridStoreLaw" 8 false cL_law 1677 k_L_law_1677 = true := by decide +kernel
theorem d_L_law_1689 : decode cL_law 1689 = .ok (.iaload, 1) := by decide +kernel
theorem d_L_law_1695 : decode cL_law 1695 = .ok (.iaload, 1) := by decide +kernel
def k_L_law_1681 : List En := [(.istore 5, 2, 0, 0, 0, 5, .int), (.aload_n 2, 1, 0, 0, 0, 2, .int), (.aload_n 0, 1, 0, 0, 0, 0, .int), (.iload 4, 2, 0, 0, 0, 4, .int), (.iconst 1, 1, 0, 1, 0, 0, .int), (.iadd, 1, 0, 0, 0, 0, .int)]
theorem b_L_law_1681 : isAt "GridStoreLaw" 8 false cL_law 1681 k_L_law_1681 = true := by decide +kernel
def k_L_law_1690 : List En := [(.aload_n 0, 1, 0, 0, 0, 0, .int), (.iload 4, 2, 0, 0, 0, 4, .int), (.iconst 2, 1, 0, 2, 0, 0, .int), (.iadd, 1, 0, 0, 0, 0, .int)]
theorem b_L_law_1690 : isAt "GridStoreLaw" 8 false cL_law 1690 k_L_law_1690 = true := by decide +kernel
def k_L_law_1699 : List En := [(.istore 6, 2, 0, 0, 0, 6, .int), (.aload_n 2, 1, 0, 0, 0, 2, .int)]
theorem b_L_law_1699 : isAt "GridStoreLaw" 8 false cL_law 1699 k_L_law_1699 = true := by decide +kernel
def k_L_law_1705 : List En := [(.iload 5, 2, 0, 0, 0, 5, .int), (.if_icmp .eq 5, 3, 1712, 0, 0, 0, .int), (.iconst 0, 1, 0, 0, 0, 0, .int)]
theorem b_L_law_1705 : isAt "GridStoreLaw" 8 false cL_law 1705 k_L_law_1705 = true := by decide +kernel
def k_L_law_1712 : List En := [(.iload 5, 2, 0, 0, 0, 5, .int), (.ifCond .ne 15, 3, 1729, 0, 0, 0, .int), (.aload_n 3, 1, 0, 0, 0, 3, .int), (.iconst 0, 1, 0, 0, 0, 0, .int), (.laload, 1, 0, 0, 0, 0, .int), (.iload 6, 2, 0, 0, 0, 6, .int), (.i2l, 1, 0, 0, 0, 0, .int), (.lcmp, 1, 0, 0, 0, 0, .int), (.ifCond .eq 5, 3, 1729, 0, 0, 0, .int), (.iconst 0, 1, 0, 0, 0, 0, .int)]
theorem b_L_law_1712 : isAt "GridStoreLaw" 8 false cL_law 1712 k_L_law_1712 = true := by decide +kernel
def k_L_law_1729 : List En := [(.goto 480, 3, 2209, 0, 0, 0, .int)]
theorem b_L_law_1729 : isAt "GridStoreLaw" 8 false cL_law 1729 k_L_law_1729 = true := by decide +kernel
theorem d_L_law_1738 : decode cL_law 1738 = .ok (.iaload, 1) := by decide +kernel
theorem d_L_law_1744 : decode cL_law 1744 = .ok (.iaload, 1) := by decide +kernel
theorem d_L_law_1750 : decode cL_law 1750 = .ok (.iaload, 1) := by decide +kernel
def k_L_law_1732 : List En := [(.aload_n 1, 1, 0, 0, 0, 1, .int), (.aload_n 0, 1, 0, 0, 0, 0, .int), (.iload 4, 2, 0, 0, 0, 4, .int), (.iconst 1, 1, 0, 1, 0, 0, .int), (.iadd, 1, 0, 0, 0, 0, .int)]
theorem b_L_law_1732 : isAt "GridStoreLaw" 8 false cL_law 1732 k_L_law_1732 = true := by decide +kernel
def k_L_law_1739 : List En := [(.aload_n 0, 1, 0, 0, 0, 0, .int), (.iload 4, 2, 0, 0, 0, 4, .int), (.iconst 2, 1, 0, 2, 0, 0, .int), (.iadd, 1, 0, 0, 0, 0, .int)]
theorem b_L_law_1739 : isAt "GridStoreLaw" 8 false cL_law 1739 k_L_law_1739 = true := by decide +kernel
def k_L_law_1745 : List En := [(.aload_n 0, 1, 0, 0, 0, 0, .int), (.iload 4, 2, 0, 0, 0, 4, .int), (.iconst 3, 1, 0, 3, 0, 0, .int), (.iadd, 1, 0, 0, 0, 0, .int)]
theorem b_L_law_1745 : isAt "GridStoreLaw" 8 false cL_law 1745 k_L_law_1745 = true := by decide +kernel
def k_L_law_1751 : List En := [(.aload_n 3, 1, 0, 0, 0, 3, .int)]
theorem b_L_law_1751 : isAt "GridStoreLaw" 8 false cL_law 1751 k_L_law_1751 = true := by decide +kernel
theorem d_L_law_1763 : decode cL_law 1763 = .ok (.iaload, 1) := by decide +kernel
theorem d_L_law_1769 : decode cL_law 1769 = .ok (.iaload, 1) := by decide +kernel
theorem d_L_law_1775 : decode cL_law 1775 = .ok (.iaload, 1) := by decide +kernel
def k_L_law_1755 : List En := [(.istore 5, 2, 0, 0, 0, 5, .int), (.aload_n 2, 1, 0, 0, 0, 2, .int), (.aload_n 0, 1, 0, 0, 0, 0, .int), (.iload 4, 2, 0, 0, 0, 4, .int), (.iconst 1, 1, 0, 1, 0, 0, .int), (.iadd, 1, 0, 0, 0, 0, .int)]
theorem b_L_law_1755 : isAt "GridStoreLaw" 8 false cL_law 1755 k_L_law_1755 = true := by decide +kernel
def k_L_law_1764 : List En := [(.aload_n 0, 1, 0, 0, 0, 0, .int), (.iload 4, 2, 0, 0, 0, 4, .int), (.iconst 2, 1, 0, 2, 0, 0, .int), (.iadd, 1, 0, 0, 0, 0, .int)]
theorem b_L_law_1764 : isAt "GridStoreLaw" 8 false cL_law 1764 k_L_law_1764 = true := by decide +kernel
def k_L_law_1770 : List En := [(.aload_n 0, 1, 0, 0, 0, 0, .int), (.iload 4, 2, 0, 0, 0, 4, .int), (.iconst 3, 1, 0, 3, 0, 0, .int), (.iadd, 1, 0, 0, 0, 0, .int)]
theorem b_L_law_1770 : isAt "GridStoreLaw" 8 false cL_law 1770 k_L_law_1770 = true := by decide +kernel
def k_L_law_1779 : List En := [(.istore 6, 2, 0, 0, 0, 6, .int), (.aload_n 2, 1, 0, 0, 0, 2, .int)]
theorem b_L_law_1779 : isAt "GridStoreLaw" 8 false cL_law 1779 k_L_law_1779 = true := by decide +kernel
def k_L_law_1785 : List En := [(.iload 5, 2, 0, 0, 0, 5, .int), (.if_icmp .eq 5, 3, 1792, 0, 0, 0, .int), (.iconst 0, 1, 0, 0, 0, 0, .int)]
theorem b_L_law_1785 : isAt "GridStoreLaw" 8 false cL_law 1785 k_L_law_1785 = true := by decide +kernel
def k_L_law_1792 : List En := [(.iload 5, 2, 0, 0, 0, 5, .int), (.ifCond .ne 15, 3, 1809, 0, 0, 0, .int), (.aload_n 3, 1, 0, 0, 0, 3, .int), (.iconst 0, 1, 0, 0, 0, 0, .int), (.laload, 1, 0, 0, 0, 0, .int), (.iload 6, 2, 0, 0, 0, 6, .int), (.i2l, 1, 0, 0, 0, 0, .int), (.lcmp, 1, 0, 0, 0, 0, .int), (.ifCond .eq 5, 3, 1809, 0, 0, 0, .int), (.iconst 0, 1, 0, 0, 0, 0, .int)]
theorem b_L_law_1792 : isAt "GridStoreLaw" 8 false cL_law 1792 k_L_law_1792 = true := by decide +kernel
def k_L_law_1809 : List En := [(.goto 400, 3, 2209, 0, 0, 0, .int)]
theorem b_L_law_1809 : isAt "GridStoreLaw" 8 false cL_law 1809 k_L_law_1809 = true := by decide +kernel
theorem d_L_law_1818 : decode cL_law 1818 = .ok (.iaload, 1) := by decide +kernel
theorem d_L_law_1824 : decode cL_law 1824 = .ok (.iaload, 1) := by decide +kernel
def k_L_law_1812 : List En := [(.aload_n 1, 1, 0, 0, 0, 1, .int), (.aload_n 0, 1, 0, 0, 0, 0, .int), (.iload 4, 2, 0, 0, 0, 4, .int), (.iconst 1, 1, 0, 1, 0, 0, .int), (.iadd, 1, 0, 0, 0, 0, .int)]
theorem b_L_law_1812 : isAt "GridStoreLaw" 8 false cL_law 1812 k_L_law_1812 = true := by decide +kernel
def k_L_law_1819 : List En := [(.aload_n 0, 1, 0, 0, 0, 0, .int), (.iload 4, 2, 0, 0, 0, 4, .int), (.iconst 2, 1, 0, 2, 0, 0, .int), (.iadd, 1, 0, 0, 0, 0, .int)]
theorem b_L_law_1819 : isAt "GridStoreLaw" 8 false cL_law 1819 k_L_law_1819 = true := by decide +kernel
def k_L_law_1825 : List En := [(.ifCond .eq 7, 3, 1832, 0, 0, 0, .int), (.iconst 1, 1, 0, 1, 0, 0, .int), (.goto 4, 3, 1833, 0, 0, 0, .int)]
theorem b_L_law_1825 : isAt "GridStoreLaw" 8 false cL_law 1825 k_L_law_1825 = true := by decide +kernel
def k_L_law_1832 : List En := [(.iconst 0, 1, 0, 0, 0, 0, .int)]
theorem b_L_law_1832 : isAt "GridStoreLaw" 8 false cL_law 1832 k_L_law_1832 = true := by decide +kernel
theorem d_L_law_1838 : decode cL_law 1838 = .ok (.iaload, 1) := by decide +kernel
def k_L_law_1833 : List En := [(.aload_n 0, 1, 0, 0, 0, 0, .int), (.iload 4, 2, 0, 0, 0, 4, .int), (.iconst 3, 1, 0, 3, 0, 0, .int), (.iadd, 1, 0, 0, 0, 0, .int)]
theorem b_L_law_1833 : isAt "GridStoreLaw" 8 false cL_law 1833 k_L_law_1833 = true := by decide +kernel
def k_L_law_1839 : List En := [(.aload_n 3, 1, 0, 0, 0, 3, .int)]
theorem b_L_law_1839 : isAt "GridStoreLaw" 8 false cL_law 1839 k_L_law_1839 = true := by decide +kernel
theorem d_L_law_1851 : decode cL_law 1851 = .ok (.iaload, 1) := by decide +kernel
theorem d_L_law_1857 : decode cL_law 1857 = .ok (.iaload, 1) := by decide +kernel
def k_L_law_1843 : List En := [(.istore 5, 2, 0, 0, 0, 5, .int), (.aload_n 2, 1, 0, 0, 0, 2, .int), (.aload_n 0, 1, 0, 0, 0, 0, .int), (.iload 4, 2, 0, 0, 0, 4, .int), (.iconst 1, 1, 0, 1, 0, 0, .int), (.iadd, 1, 0, 0, 0, 0, .int)]
theorem b_L_law_1843 : isAt "GridStoreLaw" 8 false cL_law 1843 k_L_law_1843 = true := by decide +kernel
def k_L_law_1852 : List En := [(.aload_n 0, 1, 0, 0, 0, 0, .int), (.iload 4, 2, 0, 0, 0, 4, .int), (.iconst 2, 1, 0, 2, 0, 0, .int), (.iadd, 1, 0, 0, 0, 0, .int)]
theorem b_L_law_1852 : isAt "GridStoreLaw" 8 false cL_law 1852 k_L_law_1852 = true := by decide +kernel
def k_L_law_1858 : List En := [(.ifCond .eq 7, 3, 1865, 0, 0, 0, .int), (.iconst 1, 1, 0, 1, 0, 0, .int), (.goto 4, 3, 1866, 0, 0, 0, .int)]
theorem b_L_law_1858 : isAt "GridStoreLaw" 8 false cL_law 1858 k_L_law_1858 = true := by decide +kernel
def k_L_law_1865 : List En := [(.iconst 0, 1, 0, 0, 0, 0, .int)]
theorem b_L_law_1865 : isAt "GridStoreLaw" 8 false cL_law 1865 k_L_law_1865 = true := by decide +kernel
theorem d_L_law_1871 : decode cL_law 1871 = .ok (.iaload, 1) := by decide +kernel
def k_L_law_1866 : List En := [(.aload_n 0, 1, 0, 0, 0, 0, .int), (.iload 4, 2, 0, 0, 0, 4, .int), (.iconst 3, 1, 0, 3, 0, 0, .int), (.iadd, 1, 0, 0, 0, 0, .int)]
theorem b_L_law_1866 : isAt "GridStoreLaw" 8 false cL_law 1866 k_L_law_1866 = true := by decide +kernel
def k_L_law_1875 : List En := [(.istore 6, 2, 0, 0, 0, 6, .int), (.aload_n 2, 1, 0, 0, 0, 2, .int)]
theorem b_L_law_1875 : isAt "GridStoreLaw" 8 false cL_law 1875 k_L_law_1875 = true := by decide +kernel
def k_L_law_1881 : List En := [(.iload 5, 2, 0, 0, 0, 5, .int), (.if_icmp .eq 5, 3, 1888, 0, 0, 0, .int), (.iconst 0, 1, 0, 0, 0, 0, .int)]
theorem b_L_law_1881 : isAt "GridStoreLaw" 8 false cL_law 1881 k_L_law_1881 = true := by decide +kernel
def k_L_law_1888 : List En := [(.iload 5, 2, 0, 0, 0, 5, .int), (.ifCond .ne 15, 3, 1905, 0, 0, 0, .int), (.aload_n 3, 1, 0, 0, 0, 3, .int), (.iconst 0, 1, 0, 0, 0, 0, .int), (.laload, 1, 0, 0, 0, 0, .int), (.iload 6, 2, 0, 0, 0, 6, .int), (.i2l, 1, 0, 0, 0, 0, .int), (.lcmp, 1, 0, 0, 0, 0, .int), (.ifCond .eq 5, 3, 1905, 0, 0, 0, .int), (.iconst 0, 1, 0, 0, 0, 0, .int)]
theorem b_L_law_1888 : isAt "GridStoreLaw" 8 false cL_law 1888 k_L_law_1888 = true := by decide +kernel
def k_L_law_1905 : List En := [(.goto 304, 3, 2209, 0, 0, 0, .int)]
theorem b_L_law_1905 : isAt "GridStoreLaw" 8 false cL_law 1905 k_L_law_1905 = true := by decide +kernel
theorem d_L_law_1914 : decode cL_law 1914 = .ok (.iaload, 1) := by decide +kernel
theorem d_L_law_1920 : decode cL_law 1920 = .ok (.iaload, 1) := by decide +kernel
theorem d_L_law_1926 : decode cL_law 1926 = .ok (.iaload, 1) := by decide +kernel
theorem d_L_law_1932 : decode cL_law 1932 = .ok (.iaload, 1) := by decide +kernel
def k_L_law_1908 : List En := [(.aload_n 1, 1, 0, 0, 0, 1, .int), (.aload_n 0, 1, 0, 0, 0, 0, .int), (.iload 4, 2, 0, 0, 0, 4, .int), (.iconst 1, 1, 0, 1, 0, 0, .int), (.iadd, 1, 0, 0, 0, 0, .int)]
theorem b_L_law_1908 : isAt "GridStoreLaw" 8 false cL_law 1908 k_L_law_1908 = true := by decide +kernel
def k_L_law_1915 : List En := [(.aload_n 0, 1, 0, 0, 0, 0, .int), (.iload 4, 2, 0, 0, 0, 4, .int), (.iconst 2, 1, 0, 2, 0, 0, .int), (.iadd, 1, 0, 0, 0, 0, .int)]
theorem b_L_law_1915 : isAt "GridStoreLaw" 8 false cL_law 1915 k_L_law_1915 = true := by decide +kernel
def k_L_law_1921 : List En := [(.aload_n 0, 1, 0, 0, 0, 0, .int), (.iload 4, 2, 0, 0, 0, 4, .int), (.iconst 3, 1, 0, 3, 0, 0, .int), (.iadd, 1, 0, 0, 0, 0, .int)]
theorem b_L_law_1921 : isAt "GridStoreLaw" 8 false cL_law 1921 k_L_law_1921 = true := by decide +kernel
def k_L_law_1927 : List En := [(.aload_n 0, 1, 0, 0, 0, 0, .int), (.iload 4, 2, 0, 0, 0, 4, .int), (.iconst 4, 1, 0, 4, 0, 0, .int), (.iadd, 1, 0, 0, 0, 0, .int)]
theorem b_L_law_1927 : isAt "GridStoreLaw" 8 false cL_law 1927 k_L_law_1927 = true := by decide +kernel
def k_L_law_1933 : List En := [(.aload_n 3, 1, 0, 0, 0, 3, .int)]
theorem b_L_law_1933 : isAt "GridStoreLaw" 8 false cL_law 1933 k_L_law_1933 = true := by decide +kernel
theorem d_L_law_1945 : decode cL_law 1945 = .ok (.iaload, 1) := by decide +kernel
theorem d_L_law_1951 : decode cL_law 1951 = .ok (.iaload, 1) := by decide +kernel
theorem d_L_law_1957 : decode cL_law 1957 = .ok (.iaload, 1) := by decide +kernel
theorem d_L_law_1963 : decode cL_law 1963 = .ok (.iaload, 1) := by decide +kernel
def k_L_law_1937 : List En := [(.istore 5, 2, 0, 0, 0, 5, .int), (.aload_n 2, 1, 0, 0, 0, 2, .int), (.aload_n 0, 1, 0, 0, 0, 0, .int), (.iload 4, 2, 0, 0, 0, 4, .int), (.iconst 1, 1, 0, 1, 0, 0, .int), (.iadd, 1, 0, 0, 0, 0, .int)]
theorem b_L_law_1937 : isAt "GridStoreLaw" 8 false cL_law 1937 k_L_law_1937 = true := by decide +kernel
def k_L_law_1946 : List En := [(.aload_n 0, 1, 0, 0, 0, 0, .int), (.iload 4, 2, 0, 0, 0, 4, .int), (.iconst 2, 1, 0, 2, 0, 0, .int), (.iadd, 1, 0, 0, 0, 0, .int)]
theorem b_L_law_1946 : isAt "GridStoreLaw" 8 false cL_law 1946 k_L_law_1946 = true := by decide +kernel
def k_L_law_1952 : List En := [(.aload_n 0, 1, 0, 0, 0, 0, .int), (.iload 4, 2, 0, 0, 0, 4, .int), (.iconst 3, 1, 0, 3, 0, 0, .int), (.iadd, 1, 0, 0, 0, 0, .int)]
theorem b_L_law_1952 : isAt "GridStoreLaw" 8 false cL_law 1952 k_L_law_1952 = true := by decide +kernel
def k_L_law_1958 : List En := [(.aload_n 0, 1, 0, 0, 0, 0, .int), (.iload 4, 2, 0, 0, 0, 4, .int), (.iconst 4, 1, 0, 4, 0, 0, .int), (.iadd, 1, 0, 0, 0, 0, .int)]
theorem b_L_law_1958 : isAt "GridStoreLaw" 8 false cL_law 1958 k_L_law_1958 = true := by decide +kernel
def k_L_law_1967 : List En := [(.istore 6, 2, 0, 0, 0, 6, .int), (.aload_n 2, 1, 0, 0, 0, 2, .int)]
theorem b_L_law_1967 : isAt "GridStoreLaw" 8 false cL_law 1967 k_L_law_1967 = true := by decide +kernel
def k_L_law_1973 : List En := [(.iload 5, 2, 0, 0, 0, 5, .int), (.if_icmp .eq 5, 3, 1980, 0, 0, 0, .int), (.iconst 0, 1, 0, 0, 0, 0, .int)]
theorem b_L_law_1973 : isAt "GridStoreLaw" 8 false cL_law 1973 k_L_law_1973 = true := by decide +kernel
def k_L_law_1980 : List En := [(.iload 5, 2, 0, 0, 0, 5, .int), (.ifCond .ne 15, 3, 1997, 0, 0, 0, .int), (.aload_n 3, 1, 0, 0, 0, 3, .int), (.iconst 0, 1, 0, 0, 0, 0, .int), (.laload, 1, 0, 0, 0, 0, .int), (.iload 6, 2, 0, 0, 0, 6, .int), (.i2l, 1, 0, 0, 0, 0, .int), (.lcmp, 1, 0, 0, 0, 0, .int), (.ifCond .eq 5, 3, 1997, 0, 0, 0, .int), (.iconst 0, 1, 0, 0, 0, 0, .int)]
theorem b_L_law_1980 : isAt "GridStoreLaw" 8 false cL_law 1980 k_L_law_1980 = true := by decide +kernel
def k_L_law_1997 : List En := [(.goto 212, 3, 2209, 0, 0, 0, .int)]
theorem b_L_law_1997 : isAt "GridStoreLaw" 8 false cL_law 1997 k_L_law_1997 = true := by decide +kernel
theorem d_L_law_2006 : decode cL_law 2006 = .ok (.iaload, 1) := by decide +kernel
theorem d_L_law_2012 : decode cL_law 2012 = .ok (.iaload, 1) := by decide +kernel
theorem d_L_law_2018 : decode cL_law 2018 = .ok (.iaload, 1) := by decide +kernel
def k_L_law_2000 : List En := [(.aload_n 1, 1, 0, 0, 0, 1, .int), (.aload_n 0, 1, 0, 0, 0, 0, .int), (.iload 4, 2, 0, 0, 0, 4, .int), (.iconst 1, 1, 0, 1, 0, 0, .int), (.iadd, 1, 0, 0, 0, 0, .int)]
theorem b_L_law_2000 : isAt "GridStoreLaw" 8 false cL_law 2000 k_L_law_2000 = true := by decide +kernel
def k_L_law_2007 : List En := [(.aload_n 0, 1, 0, 0, 0, 0, .int), (.iload 4, 2, 0, 0, 0, 4, .int), (.iconst 2, 1, 0, 2, 0, 0, .int), (.iadd, 1, 0, 0, 0, 0, .int)]
theorem b_L_law_2007 : isAt "GridStoreLaw" 8 false cL_law 2007 k_L_law_2007 = true := by decide +kernel
def k_L_law_2013 : List En := [(.aload_n 0, 1, 0, 0, 0, 0, .int), (.iload 4, 2, 0, 0, 0, 4, .int), (.iconst 3, 1, 0, 3, 0, 0, .int), (.iadd, 1, 0, 0, 0, 0, .int)]
theorem b_L_law_2013 : isAt "GridStoreLaw" 8 false cL_law 2013 k_L_law_2013 = true := by decide +kernel
def k_L_law_2019 : List En := [(.aload_n 3, 1, 0, 0, 0, 3, .int)]
theorem b_L_law_2019 : isAt "GridStoreLaw" 8 false cL_law 2019 k_L_law_2019 = true := by decide +kernel
theorem d_L_law_2031 : decode cL_law 2031 = .ok (.iaload, 1) := by decide +kernel
theorem d_L_law_2037 : decode cL_law 2037 = .ok (.iaload, 1) := by decide +kernel
theorem d_L_law_2043 : decode cL_law 2043 = .ok (.iaload, 1) := by decide +kernel
def k_L_law_2023 : List En := [(.istore 5, 2, 0, 0, 0, 5, .int), (.aload_n 2, 1, 0, 0, 0, 2, .int), (.aload_n 0, 1, 0, 0, 0, 0, .int), (.iload 4, 2, 0, 0, 0, 4, .int), (.iconst 1, 1, 0, 1, 0, 0, .int), (.iadd, 1, 0, 0, 0, 0, .int)]
theorem b_L_law_2023 : isAt "GridStoreLaw" 8 false cL_law 2023 k_L_law_2023 = true := by decide +kernel
def k_L_law_2032 : List En := [(.aload_n 0, 1, 0, 0, 0, 0, .int), (.iload 4, 2, 0, 0, 0, 4, .int), (.iconst 2, 1, 0, 2, 0, 0, .int), (.iadd, 1, 0, 0, 0, 0, .int)]
theorem b_L_law_2032 : isAt "GridStoreLaw" 8 false cL_law 2032 k_L_law_2032 = true := by decide +kernel
def k_L_law_2038 : List En := [(.aload_n 0, 1, 0, 0, 0, 0, .int), (.iload 4, 2, 0, 0, 0, 4, .int), (.iconst 3, 1, 0, 3, 0, 0, .int), (.iadd, 1, 0, 0, 0, 0, .int)]
theorem b_L_law_2038 : isAt "GridStoreLaw" 8 false cL_law 2038 k_L_law_2038 = true := by decide +kernel
def k_L_law_2047 : List En := [(.istore 6, 2, 0, 0, 0, 6, .int), (.aload_n 2, 1, 0, 0, 0, 2, .int)]
theorem b_L_law_2047 : isAt "GridStoreLaw" 8 false cL_law 2047 k_L_law_2047 = true := by decide +kernel
def k_L_law_2053 : List En := [(.iload 5, 2, 0, 0, 0, 5, .int), (.if_icmp .eq 5, 3, 2060, 0, 0, 0, .int), (.iconst 0, 1, 0, 0, 0, 0, .int)]
theorem b_L_law_2053 : isAt "GridStoreLaw" 8 false cL_law 2053 k_L_law_2053 = true := by decide +kernel
def k_L_law_2060 : List En := [(.iload 5, 2, 0, 0, 0, 5, .int), (.ifCond .ne 15, 3, 2077, 0, 0, 0, .int), (.aload_n 3, 1, 0, 0, 0, 3, .int), (.iconst 0, 1, 0, 0, 0, 0, .int), (.laload, 1, 0, 0, 0, 0, .int), (.iload 6, 2, 0, 0, 0, 6, .int), (.i2l, 1, 0, 0, 0, 0, .int), (.lcmp, 1, 0, 0, 0, 0, .int), (.ifCond .eq 5, 3, 2077, 0, 0, 0, .int), (.iconst 0, 1, 0, 0, 0, 0, .int)]
theorem b_L_law_2060 : isAt "GridStoreLaw" 8 false cL_law 2060 k_L_law_2060 = true := by decide +kernel
def k_L_law_2077 : List En := [(.goto 132, 3, 2209, 0, 0, 0, .int)]
theorem b_L_law_2077 : isAt "GridStoreLaw" 8 false cL_law 2077 k_L_law_2077 = true := by decide +kernel
theorem d_L_law_2086 : decode cL_law 2086 = .ok (.iaload, 1) := by decide +kernel
theorem d_L_law_2092 : decode cL_law 2092 = .ok (.iaload, 1) := by decide +kernel
theorem d_L_law_2098 : decode cL_law 2098 = .ok (.iaload, 1) := by decide +kernel
theorem d_L_law_2104 : decode cL_law 2104 = .ok (.iaload, 1) := by decide +kernel
theorem d_L_law_2110 : decode cL_law 2110 = .ok (.iaload, 1) := by decide +kernel
def k_L_law_2080 : List En := [(.aload_n 1, 1, 0, 0, 0, 1, .int), (.aload_n 0, 1, 0, 0, 0, 0, .int), (.iload 4, 2, 0, 0, 0, 4, .int), (.iconst 1, 1, 0, 1, 0, 0, .int), (.iadd, 1, 0, 0, 0, 0, .int)]
theorem b_L_law_2080 : isAt "GridStoreLaw" 8 false cL_law 2080 k_L_law_2080 = true := by decide +kernel
def k_L_law_2087 : List En := [(.aload_n 0, 1, 0, 0, 0, 0, .int), (.iload 4, 2, 0, 0, 0, 4, .int), (.iconst 2, 1, 0, 2, 0, 0, .int), (.iadd, 1, 0, 0, 0, 0, .int)]
theorem b_L_law_2087 : isAt "GridStoreLaw" 8 false cL_law 2087 k_L_law_2087 = true := by decide +kernel
def k_L_law_2093 : List En := [(.aload_n 0, 1, 0, 0, 0, 0, .int), (.iload 4, 2, 0, 0, 0, 4, .int), (.iconst 3, 1, 0, 3, 0, 0, .int), (.iadd, 1, 0, 0, 0, 0, .int)]
theorem b_L_law_2093 : isAt "GridStoreLaw" 8 false cL_law 2093 k_L_law_2093 = true := by decide +kernel
def k_L_law_2099 : List En := [(.aload_n 0, 1, 0, 0, 0, 0, .int), (.iload 4, 2, 0, 0, 0, 4, .int), (.iconst 4, 1, 0, 4, 0, 0, .int), (.iadd, 1, 0, 0, 0, 0, .int)]
theorem b_L_law_2099 : isAt "GridStoreLaw" 8 false cL_law 2099 k_L_law_2099 = true := by decide +kernel
def k_L_law_2105 : List En := [(.aload_n 0, 1, 0, 0, 0, 0, .int), (.iload 4, 2, 0, 0, 0, 4, .int), (.iconst 5, 1, 0, 5, 0, 0, .int), (.iadd, 1, 0, 0, 0, 0, .int)]
theorem b_L_law_2105 : isAt "GridStoreLaw" 8 false cL_law 2105 k_L_law_2105 = true := by decide +kernel
def k_L_law_2111 : List En := [(.aload_n 3, 1, 0, 0, 0, 3, .int)]
theorem b_L_law_2111 : isAt "GridStoreLaw" 8 false cL_law 2111 k_L_law_2111 = true := by decide +kernel
theorem d_L_law_2123 : decode cL_law 2123 = .ok (.iaload, 1) := by decide +kernel
theorem d_L_law_2129 : decode cL_law 2129 = .ok (.iaload, 1) := by decide +kernel
theorem d_L_law_2135 : decode cL_law 2135 = .ok (.iaload, 1) := by decide +kernel
theorem d_L_law_2141 : decode cL_law 2141 = .ok (.iaload, 1) := by decide +kernel
theorem d_L_law_2147 : decode cL_law 2147 = .ok (.iaload, 1) := by decide +kernel
def k_L_law_2115 : List En := [(.istore 5, 2, 0, 0, 0, 5, .int), (.aload_n 2, 1, 0, 0, 0, 2, .int), (.aload_n 0, 1, 0, 0, 0, 0, .int), (.iload 4, 2, 0, 0, 0, 4, .int), (.iconst 1, 1, 0, 1, 0, 0, .int), (.iadd, 1, 0, 0, 0, 0, .int)]
theorem b_L_law_2115 : isAt "GridStoreLaw" 8 false cL_law 2115 k_L_law_2115 = true := by decide +kernel
def k_L_law_2124 : List En := [(.aload_n 0, 1, 0, 0, 0, 0, .int), (.iload 4, 2, 0, 0, 0, 4, .int), (.iconst 2, 1, 0, 2, 0, 0, .int), (.iadd, 1, 0, 0, 0, 0, .int)]
theorem b_L_law_2124 : isAt "GridStoreLaw" 8 false cL_law 2124 k_L_law_2124 = true := by decide +kernel
def k_L_law_2130 : List En := [(.aload_n 0, 1, 0, 0, 0, 0, .int), (.iload 4, 2, 0, 0, 0, 4, .int), (.iconst 3, 1, 0, 3, 0, 0, .int), (.iadd, 1, 0, 0, 0, 0, .int)]
theorem b_L_law_2130 : isAt "GridStoreLaw" 8 false cL_law 2130 k_L_law_2130 = true := by decide +kernel
def k_L_law_2136 : List En := [(.aload_n 0, 1, 0, 0, 0, 0, .int), (.iload 4, 2, 0, 0, 0, 4, .int), (.iconst 4, 1, 0, 4, 0, 0, .int), (.iadd, 1, 0, 0, 0, 0, .int)]
theorem b_L_law_2136 : isAt "GridStoreLaw" 8 false cL_law 2136 k_L_law_2136 = true := by decide +kernel
def k_L_law_2142 : List En := [(.aload_n 0, 1, 0, 0, 0, 0, .int), (.iload 4, 2, 0, 0, 0, 4, .int), (.iconst 5, 1, 0, 5, 0, 0, .int), (.iadd, 1, 0, 0, 0, 0, .int)]
theorem b_L_law_2142 : isAt "GridStoreLaw" 8 false cL_law 2142 k_L_law_2142 = true := by decide +kernel
def k_L_law_2151 : List En := [(.istore 6, 2, 0, 0, 0, 6, .int), (.aload_n 2, 1, 0, 0, 0, 2, .int)]
theorem b_L_law_2151 : isAt "GridStoreLaw" 8 false cL_law 2151 k_L_law_2151 = true := by decide +kernel
def k_L_law_2157 : List En := [(.iload 5, 2, 0, 0, 0, 5, .int), (.if_icmp .eq 5, 3, 2164, 0, 0, 0, .int), (.iconst 0, 1, 0, 0, 0, 0, .int)]
theorem b_L_law_2157 : isAt "GridStoreLaw" 8 false cL_law 2157 k_L_law_2157 = true := by decide +kernel
def k_L_law_2164 : List En := [(.iload 5, 2, 0, 0, 0, 5, .int), (.ifCond .ne 15, 3, 2181, 0, 0, 0, .int), (.aload_n 3, 1, 0, 0, 0, 3, .int), (.iconst 0, 1, 0, 0, 0, 0, .int), (.laload, 1, 0, 0, 0, 0, .int), (.iload 6, 2, 0, 0, 0, 6, .int), (.i2l, 1, 0, 0, 0, 0, .int), (.lcmp, 1, 0, 0, 0, 0, .int), (.ifCond .eq 5, 3, 2181, 0, 0, 0, .int), (.iconst 0, 1, 0, 0, 0, 0, .int)]
theorem b_L_law_2164 : isAt "GridStoreLaw" 8 false cL_law 2164 k_L_law_2164 = true := by decide +kernel
def k_L_law_2181 : List En := [(.goto 28, 3, 2209, 0, 0, 0, .int)]
theorem b_L_law_2181 : isAt "GridStoreLaw" 8 false cL_law 2181 k_L_law_2181 = true := by decide +kernel
theorem d_L_law_2190 : decode cL_law 2190 = .ok (.iaload, 1) := by decide +kernel
def k_L_law_2184 : List En := [(.aload_n 1, 1, 0, 0, 0, 1, .int), (.aload_n 0, 1, 0, 0, 0, 0, .int), (.iload 4, 2, 0, 0, 0, 4, .int), (.iconst 1, 1, 0, 1, 0, 0, .int), (.iadd, 1, 0, 0, 0, 0, .int)]
theorem b_L_law_2184 : isAt "GridStoreLaw" 8 false cL_law 2184 k_L_law_2184 = true := by decide +kernel
theorem d_L_law_2200 : decode cL_law 2200 = .ok (.iaload, 1) := by decide +kernel
def k_L_law_2194 : List En := [(.aload_n 2, 1, 0, 0, 0, 2, .int), (.aload_n 0, 1, 0, 0, 0, 0, .int), (.iload 4, 2, 0, 0, 0, 4, .int), (.iconst 1, 1, 0, 1, 0, 0, .int), (.iadd, 1, 0, 0, 0, 0, .int)]
theorem b_L_law_2194 : isAt "GridStoreLaw" 8 false cL_law 2194 k_L_law_2194 = true := by decide +kernel
def k_L_law_2204 : List En := [(.if_icmp .eq 5, 3, 2209, 0, 0, 0, .int), (.iconst 0, 1, 0, 0, 0, 0, .int)]
theorem b_L_law_2204 : isAt "GridStoreLaw" 8 false cL_law 2204 k_L_law_2204 = true := by decide +kernel
def k_L_law_2209 : List En := [(.iinc 4 8, 3, 0, 8, 0, 4, .int), (.goto (-2189), 3, 23, 0, 0, 0, .int)]
theorem b_L_law_2209 : isAt "GridStoreLaw" 8 false cL_law 2209 k_L_law_2209 = true := by decide +kernel
def k_L_law_2215 : List En := [(.iconst 1, 1, 0, 1, 0, 0, .int)]
theorem b_L_law_2215 : isAt "GridStoreLaw" 8 false cL_law 2215 k_L_law_2215 = true := by decide +kernel
def k_L_lose_0 : List En := [(.aload_n 3, 1, 0, 0, 0, 3, .int), (.iconst 0, 1, 0, 0, 0, 0, .int), (.aload_n 0, 1, 0, 0, 0, 0, .int), (.iload_n 1, 1, 0, 0, 0, 1, .int), (.iload_n 2, 1, 0, 0, 0, 2, .int)]
theorem b_L_lose_0 : isAt "GridStoreLaw" 5 false cL_lose 0 k_L_lose_0 = true := by decide +kernel
def k_L_lose_8 : List En := [(.ifCond .eq 7, 3, 15, 0, 0, 0, .int), (.lconst 1, 1, 0, 0, 0, 0, .int), (.goto 4, 3, 16, 0, 0, 0, .int)]
theorem b_L_lose_8 : isAt "GridStoreLaw" 5 false cL_lose 8 k_L_lose_8 = true := by decide +kernel
def k_L_lose_15 : List En := [(.lconst 0, 1, 0, 0, 0, 0, .int)]
theorem b_L_lose_15 : isAt "GridStoreLaw" 5 false cL_lose 15 k_L_lose_15 = true := by decide +kernel
def k_L_lose_16 : List En := [(.lastore, 1, 0, 0, 0, 0, .int), (.goto 7, 3, 24, 0, 0, 0, .int)]
theorem b_L_lose_16 : isAt "GridStoreLaw" 5 false cL_lose 16 k_L_lose_16 = true := by decide +kernel
def k_L_lose_20 : List En := [(.astore 4, 2, 0, 0, 0, 4, .int), (.iconst 1, 1, 0, 1, 0, 0, .int)]
theorem b_L_lose_20 : isAt "GridStoreLaw" 5 false cL_lose 20 k_L_lose_20 = true := by decide +kernel
def k_L_lose_24 : List En := [(.iconst 0, 1, 0, 0, 0, 0, .int)]
theorem b_L_lose_24 : isAt "GridStoreLaw" 5 false cL_lose 24 k_L_lose_24 = true := by decide +kernel
def k_L_many_0 : List En := [(.aload 5, 2, 0, 0, 0, 5, .int), (.iconst 0, 1, 0, 0, 0, 0, .int), (.aload_n 0, 1, 0, 0, 0, 0, .int), (.iload_n 1, 1, 0, 0, 0, 1, .int), (.iload_n 2, 1, 0, 0, 0, 2, .int), (.iload_n 3, 1, 0, 0, 0, 3, .int), (.iload 4, 2, 0, 0, 0, 4, .int)]
theorem b_L_many_0 : isAt "GridStoreLaw" 7 false cL_many 0 k_L_many_0 = true := by decide +kernel
def k_L_many_12 : List En := [(.i2l, 1, 0, 0, 0, 0, .int), (.lastore, 1, 0, 0, 0, 0, .int), (.goto 11, 3, 25, 0, 0, 0, .int)]
theorem b_L_many_12 : isAt "GridStoreLaw" 7 false cL_many 12 k_L_many_12 = true := by decide +kernel
def k_L_many_17 : List En := [(.astore 6, 2, 0, 0, 0, 6, .int), (.iconst 1, 1, 0, 1, 0, 0, .int)]
theorem b_L_many_17 : isAt "GridStoreLaw" 7 false cL_many 17 k_L_many_17 = true := by decide +kernel
def k_L_many_21 : List En := [(.astore 6, 2, 0, 0, 0, 6, .int), (.iconst 2, 1, 0, 2, 0, 0, .int)]
theorem b_L_many_21 : isAt "GridStoreLaw" 7 false cL_many 21 k_L_many_21 = true := by decide +kernel
def k_L_many_25 : List En := [(.iconst 0, 1, 0, 0, 0, 0, .int)]
theorem b_L_many_25 : isAt "GridStoreLaw" 7 false cL_many 25 k_L_many_25 = true := by decide +kernel
def k_L_read_0 : List En := [(.aload 6, 2, 0, 0, 0, 6, .int), (.iconst 0, 1, 0, 0, 0, 0, .int), (.aload_n 0, 1, 0, 0, 0, 0, .int), (.iload_n 1, 1, 0, 0, 0, 1, .int), (.iload_n 2, 1, 0, 0, 0, 2, .int), (.iload_n 3, 1, 0, 0, 0, 3, .int), (.iload 4, 2, 0, 0, 0, 4, .int), (.iload 5, 2, 0, 0, 0, 5, .int)]
theorem b_L_read_0 : isAt "GridStoreLaw" 8 false cL_read 0 k_L_read_0 = true := by decide +kernel
def k_L_read_14 : List En := [(.i2l, 1, 0, 0, 0, 0, .int), (.lastore, 1, 0, 0, 0, 0, .int), (.goto 11, 3, 27, 0, 0, 0, .int)]
theorem b_L_read_14 : isAt "GridStoreLaw" 8 false cL_read 14 k_L_read_14 = true := by decide +kernel
def k_L_read_19 : List En := [(.astore 7, 2, 0, 0, 0, 7, .int), (.iconst 1, 1, 0, 1, 0, 0, .int)]
theorem b_L_read_19 : isAt "GridStoreLaw" 8 false cL_read 19 k_L_read_19 = true := by decide +kernel
def k_L_read_23 : List En := [(.astore 7, 2, 0, 0, 0, 7, .int), (.iconst 2, 1, 0, 2, 0, 0, .int)]
theorem b_L_read_23 : isAt "GridStoreLaw" 8 false cL_read 23 k_L_read_23 = true := by decide +kernel
def k_L_read_27 : List En := [(.iconst 0, 1, 0, 0, 0, 0, .int)]
theorem b_L_read_27 : isAt "GridStoreLaw" 8 false cL_read 27 k_L_read_27 = true := by decide +kernel
def k_L_set_0 : List En := [(.aload 5, 2, 0, 0, 0, 5, .int), (.iconst 0, 1, 0, 0, 0, 0, .int), (.aload_n 0, 1, 0, 0, 0, 0, .int), (.iload_n 1, 1, 0, 0, 0, 1, .int), (.iload_n 2, 1, 0, 0, 0, 2, .int), (.iload_n 3, 1, 0, 0, 0, 3, .int), (.iload 4, 2, 0, 0, 0, 4, .int)]
theorem b_L_set_0 : isAt "GridStoreLaw" 7 false cL_set 0 k_L_set_0 = true := by decide +kernel
def k_L_set_12 : List En := [(.ifCond .eq 7, 3, 19, 0, 0, 0, .int), (.lconst 1, 1, 0, 0, 0, 0, .int), (.goto 4, 3, 20, 0, 0, 0, .int)]
theorem b_L_set_12 : isAt "GridStoreLaw" 7 false cL_set 12 k_L_set_12 = true := by decide +kernel
def k_L_set_19 : List En := [(.lconst 0, 1, 0, 0, 0, 0, .int)]
theorem b_L_set_19 : isAt "GridStoreLaw" 7 false cL_set 19 k_L_set_19 = true := by decide +kernel
def k_L_set_20 : List En := [(.lastore, 1, 0, 0, 0, 0, .int), (.goto 7, 3, 28, 0, 0, 0, .int)]
theorem b_L_set_20 : isAt "GridStoreLaw" 7 false cL_set 20 k_L_set_20 = true := by decide +kernel
def k_L_set_24 : List En := [(.astore 6, 2, 0, 0, 0, 6, .int), (.iconst 1, 1, 0, 1, 0, 0, .int)]
theorem b_L_set_24 : isAt "GridStoreLaw" 7 false cL_set 24 k_L_set_24 = true := by decide +kernel
def k_L_set_28 : List En := [(.iconst 0, 1, 0, 0, 0, 0, .int)]
theorem b_L_set_28 : isAt "GridStoreLaw" 7 false cL_set 28 k_L_set_28 = true := by decide +kernel
def k_L_size_0 : List En := [(.aload_n 3, 1, 0, 0, 0, 3, .int), (.iconst 0, 1, 0, 0, 0, 0, .int), (.aload_n 0, 1, 0, 0, 0, 0, .int), (.iload_n 1, 1, 0, 0, 0, 1, .int), (.iload_n 2, 1, 0, 0, 0, 2, .int)]
theorem b_L_size_0 : isAt "GridStoreLaw" 5 false cL_size 0 k_L_size_0 = true := by decide +kernel
def k_L_size_8 : List En := [(.i2l, 1, 0, 0, 0, 0, .int), (.lastore, 1, 0, 0, 0, 0, .int), (.goto 7, 3, 17, 0, 0, 0, .int)]
theorem b_L_size_8 : isAt "GridStoreLaw" 5 false cL_size 8 k_L_size_8 = true := by decide +kernel
def k_L_size_13 : List En := [(.astore 4, 2, 0, 0, 0, 4, .int), (.iconst 1, 1, 0, 1, 0, 0, .int)]
theorem b_L_size_13 : isAt "GridStoreLaw" 5 false cL_size 13 k_L_size_13 = true := by decide +kernel
def k_L_size_17 : List En := [(.iconst 0, 1, 0, 0, 0, 0, .int)]
theorem b_L_size_17 : isAt "GridStoreLaw" 5 false cL_size 17 k_L_size_17 = true := by decide +kernel
def k_L_slide_0 : List En := [(.aload 4, 2, 0, 0, 0, 4, .int), (.iconst 0, 1, 0, 0, 0, 0, .int), (.aload_n 0, 1, 0, 0, 0, 0, .int), (.iload_n 1, 1, 0, 0, 0, 1, .int), (.iload_n 2, 1, 0, 0, 0, 2, .int), (.iload_n 3, 1, 0, 0, 0, 3, .int)]
theorem b_L_slide_0 : isAt "GridStoreLaw" 6 false cL_slide 0 k_L_slide_0 = true := by decide +kernel
def k_L_slide_10 : List En := [(.i2l, 1, 0, 0, 0, 0, .int), (.lastore, 1, 0, 0, 0, 0, .int), (.goto 11, 3, 23, 0, 0, 0, .int)]
theorem b_L_slide_10 : isAt "GridStoreLaw" 6 false cL_slide 10 k_L_slide_10 = true := by decide +kernel
def k_L_slide_15 : List En := [(.astore 5, 2, 0, 0, 0, 5, .int), (.iconst 1, 1, 0, 1, 0, 0, .int)]
theorem b_L_slide_15 : isAt "GridStoreLaw" 6 false cL_slide 15 k_L_slide_15 = true := by decide +kernel
def k_L_slide_19 : List En := [(.astore 5, 2, 0, 0, 0, 5, .int), (.iconst 2, 1, 0, 2, 0, 0, .int)]
theorem b_L_slide_19 : isAt "GridStoreLaw" 6 false cL_slide 19 k_L_slide_19 = true := by decide +kernel
def k_L_slide_23 : List En := [(.iconst 0, 1, 0, 0, 0, 0, .int)]
theorem b_L_slide_23 : isAt "GridStoreLaw" 6 false cL_slide 23 k_L_slide_23 = true := by decide +kernel
def k_L_sum_0 : List En := [(.aload 5, 2, 0, 0, 0, 5, .int), (.iconst 0, 1, 0, 0, 0, 0, .int), (.aload_n 0, 1, 0, 0, 0, 0, .int), (.iload_n 1, 1, 0, 0, 0, 1, .int), (.iload_n 2, 1, 0, 0, 0, 2, .int), (.iload_n 3, 1, 0, 0, 0, 3, .int), (.iload 4, 2, 0, 0, 0, 4, .int)]
theorem b_L_sum_0 : isAt "GridStoreLaw" 7 false cL_sum 0 k_L_sum_0 = true := by decide +kernel
def k_L_sum_12 : List En := [(.lastore, 1, 0, 0, 0, 0, .int), (.goto 11, 3, 24, 0, 0, 0, .int)]
theorem b_L_sum_12 : isAt "GridStoreLaw" 7 false cL_sum 12 k_L_sum_12 = true := by decide +kernel
def k_L_sum_16 : List En := [(.astore 6, 2, 0, 0, 0, 6, .int), (.iconst 1, 1, 0, 1, 0, 0, .int)]
theorem b_L_sum_16 : isAt "GridStoreLaw" 7 false cL_sum 16 k_L_sum_16 = true := by decide +kernel
def k_L_sum_20 : List En := [(.astore 6, 2, 0, 0, 0, 6, .int), (.iconst 2, 1, 0, 2, 0, 0, .int)]
theorem b_L_sum_20 : isAt "GridStoreLaw" 7 false cL_sum 20 k_L_sum_20 = true := by decide +kernel
def k_L_sum_24 : List En := [(.iconst 0, 1, 0, 0, 0, 0, .int)]
theorem b_L_sum_24 : isAt "GridStoreLaw" 7 false cL_sum 24 k_L_sum_24 = true := by decide +kernel
def k_L_view_0 : List En := [(.aload 8, 2, 0, 0, 0, 8, .int), (.iconst 0, 1, 0, 0, 0, 0, .int), (.aload_n 0, 1, 0, 0, 0, 0, .int), (.iload_n 1, 1, 0, 0, 0, 1, .int), (.iload_n 2, 1, 0, 0, 0, 2, .int), (.iload_n 3, 1, 0, 0, 0, 3, .int), (.iload 4, 2, 0, 0, 0, 4, .int), (.iload 5, 2, 0, 0, 0, 5, .int), (.iload 6, 2, 0, 0, 0, 6, .int), (.iload 7, 2, 0, 0, 0, 7, .int)]
theorem b_L_view_0 : isAt "GridStoreLaw" 10 false cL_view 0 k_L_view_0 = true := by decide +kernel
def k_L_view_18 : List En := [(.i2l, 1, 0, 0, 0, 0, .int), (.lastore, 1, 0, 0, 0, 0, .int), (.goto 15, 3, 35, 0, 0, 0, .int)]
theorem b_L_view_18 : isAt "GridStoreLaw" 10 false cL_view 18 k_L_view_18 = true := by decide +kernel
def k_L_view_23 : List En := [(.astore 9, 2, 0, 0, 0, 9, .int), (.iconst 1, 1, 0, 1, 0, 0, .int)]
theorem b_L_view_23 : isAt "GridStoreLaw" 10 false cL_view 23 k_L_view_23 = true := by decide +kernel
def k_L_view_27 : List En := [(.astore 9, 2, 0, 0, 0, 9, .int), (.iconst 2, 1, 0, 2, 0, 0, .int)]
theorem b_L_view_27 : isAt "GridStoreLaw" 10 false cL_view 27 k_L_view_27 = true := by decide +kernel
def k_L_view_31 : List En := [(.astore 9, 2, 0, 0, 0, 9, .int), (.iconst 3, 1, 0, 3, 0, 0, .int)]
theorem b_L_view_31 : isAt "GridStoreLaw" 10 false cL_view 31 k_L_view_31 = true := by decide +kernel
def k_L_view_35 : List En := [(.iconst 0, 1, 0, 0, 0, 0, .int)]
theorem b_L_view_35 : isAt "GridStoreLaw" 10 false cL_view 35 k_L_view_35 = true := by decide +kernel
def k_L_was_0 : List En := [(.aload 5, 2, 0, 0, 0, 5, .int), (.iconst 0, 1, 0, 0, 0, 0, .int), (.aload_n 0, 1, 0, 0, 0, 0, .int), (.iload_n 1, 1, 0, 0, 0, 1, .int), (.iload_n 2, 1, 0, 0, 0, 2, .int), (.iload_n 3, 1, 0, 0, 0, 3, .int), (.iload 4, 2, 0, 0, 0, 4, .int)]
theorem b_L_was_0 : isAt "GridStoreLaw" 7 false cL_was 0 k_L_was_0 = true := by decide +kernel
def k_L_was_12 : List En := [(.i2l, 1, 0, 0, 0, 0, .int), (.lastore, 1, 0, 0, 0, 0, .int), (.goto 11, 3, 25, 0, 0, 0, .int)]
theorem b_L_was_12 : isAt "GridStoreLaw" 7 false cL_was 12 k_L_was_12 = true := by decide +kernel
def k_L_was_17 : List En := [(.astore 6, 2, 0, 0, 0, 6, .int), (.iconst 1, 1, 0, 1, 0, 0, .int)]
theorem b_L_was_17 : isAt "GridStoreLaw" 7 false cL_was 17 k_L_was_17 = true := by decide +kernel
def k_L_was_21 : List En := [(.astore 6, 2, 0, 0, 0, 6, .int), (.iconst 2, 1, 0, 2, 0, 0, .int)]
theorem b_L_was_21 : isAt "GridStoreLaw" 7 false cL_was 21 k_L_was_21 = true := by decide +kernel
def k_L_was_25 : List En := [(.iconst 0, 1, 0, 0, 0, 0, .int)]
theorem b_L_was_25 : isAt "GridStoreLaw" 7 false cL_was 25 k_L_was_25 = true := by decide +kernel
theorem d_L_back_5 : decode cL_back 5 = .ok (.invokevirtual 59, 3) := by decide +kernel
theorem c_L_59 : ckV "GridStoreLaw" 59 2 mX5_back = true := by decide +kernel
theorem d_L_back_16 : decode cL_back 16 = .ok (.ireturn, 1) := by decide +kernel
theorem d_L_back_18 : decode cL_back 18 = .ok (.ireturn, 1) := by decide +kernel
theorem d_L_close_5 : decode cL_close 5 = .ok (.invokevirtual 23, 3) := by decide +kernel
theorem c_L_23 : ckV "GridStoreLaw" 23 2 mX5_close = true := by decide +kernel
theorem d_L_close_23 : decode cL_close 23 = .ok (.ireturn, 1) := by decide +kernel
theorem d_L_close_25 : decode cL_close 25 = .ok (.ireturn, 1) := by decide +kernel
theorem d_L_coarse_7 : decode cL_coarse 7 = .ok (.invokevirtual 92, 3) := by decide +kernel
theorem c_L_92 : ckV "GridStoreLaw" 92 3 mX5_coarse = true := by decide +kernel
theorem d_L_coarse_18 : decode cL_coarse 18 = .ok (.ireturn, 1) := by decide +kernel
theorem d_L_coarse_22 : decode cL_coarse 22 = .ok (.ireturn, 1) := by decide +kernel
theorem d_L_coarse_24 : decode cL_coarse 24 = .ok (.ireturn, 1) := by decide +kernel
theorem d_L_differ_7 : decode cL_differ 7 = .ok (.invokevirtual 66, 3) := by decide +kernel
theorem c_L_66 : ckV "GridStoreLaw" 66 3 mX5_differ = true := by decide +kernel
theorem d_L_differ_18 : decode cL_differ 18 = .ok (.ireturn, 1) := by decide +kernel
theorem d_L_differ_20 : decode cL_differ 20 = .ok (.ireturn, 1) := by decide +kernel
theorem d_L_dig_7 : decode cL_dig 7 = .ok (.invokevirtual 35, 3) := by decide +kernel
theorem c_L_35 : ckV "GridStoreLaw" 35 3 mX5_dig = true := by decide +kernel
theorem d_L_dig_25 : decode cL_dig 25 = .ok (.ireturn, 1) := by decide +kernel
theorem d_L_dig_27 : decode cL_dig 27 = .ok (.ireturn, 1) := by decide +kernel
theorem d_L_fill_13 : decode cL_fill 13 = .ok (.invokevirtual 39, 3) := by decide +kernel
theorem c_L_39 : ckV "GridStoreLaw" 39 6 mX5_fill = true := by decide +kernel
theorem d_L_fill_24 : decode cL_fill 24 = .ok (.ireturn, 1) := by decide +kernel
theorem d_L_fill_28 : decode cL_fill 28 = .ok (.ireturn, 1) := by decide +kernel
theorem d_L_fill_30 : decode cL_fill 30 = .ok (.ireturn, 1) := by decide +kernel
theorem d_L_find_5 : decode cL_find 5 = .ok (.invokevirtual 79, 3) := by decide +kernel
theorem c_L_79 : ckV "GridStoreLaw" 79 2 mX5_find = true := by decide +kernel
theorem d_L_find_16 : decode cL_find 16 = .ok (.ireturn, 1) := by decide +kernel
theorem d_L_find_18 : decode cL_find 18 = .ok (.ireturn, 1) := by decide +kernel
theorem d_L_fold_7 : decode cL_fold 7 = .ok (.invokevirtual 85, 3) := by decide +kernel
theorem c_L_85 : ckV "GridStoreLaw" 85 3 mX5_fold = true := by decide +kernel
theorem d_L_fold_18 : decode cL_fold 18 = .ok (.ireturn, 1) := by decide +kernel
theorem d_L_fold_22 : decode cL_fold 22 = .ok (.ireturn, 1) := by decide +kernel
theorem d_L_fold_24 : decode cL_fold 24 = .ok (.ireturn, 1) := by decide +kernel
theorem d_L_get_7 : decode cL_get 7 = .ok (.invokevirtual 46, 3) := by decide +kernel
theorem c_L_46 : ckV "GridStoreLaw" 46 3 mX5_get = true := by decide +kernel
theorem d_L_get_18 : decode cL_get 18 = .ok (.ireturn, 1) := by decide +kernel
theorem d_L_get_22 : decode cL_get 22 = .ok (.ireturn, 1) := by decide +kernel
theorem d_L_get_24 : decode cL_get 24 = .ok (.ireturn, 1) := by decide +kernel
theorem d_L_grid_5 : decode cL_grid 5 = .ok (.invokevirtual 7, 3) := by decide +kernel
theorem c_L_7 : ckV "GridStoreLaw" 7 2 mX5_grid = true := by decide +kernel
theorem d_L_grid_16 : decode cL_grid 16 = .ok (.ireturn, 1) := by decide +kernel
theorem d_L_grid_20 : decode cL_grid 20 = .ok (.ireturn, 1) := by decide +kernel
theorem d_L_grid_22 : decode cL_grid 22 = .ok (.ireturn, 1) := by decide +kernel
theorem d_L_hole_7 : decode cL_hole 7 = .ok (.invokevirtual 43, 3) := by decide +kernel
theorem c_L_43 : ckV "GridStoreLaw" 43 3 mX5_hole = true := by decide +kernel
theorem d_L_hole_25 : decode cL_hole 25 = .ok (.ireturn, 1) := by decide +kernel
theorem d_L_hole_27 : decode cL_hole 27 = .ok (.ireturn, 1) := by decide +kernel
theorem d_L_join_9 : decode cL_join 9 = .ok (.invokevirtual 89, 3) := by decide +kernel
theorem c_L_89 : ckV "GridStoreLaw" 89 4 mX5_join = true := by decide +kernel
theorem d_L_join_20 : decode cL_join 20 = .ok (.ireturn, 1) := by decide +kernel
theorem d_L_join_24 : decode cL_join 24 = .ok (.ireturn, 1) := by decide +kernel
theorem d_L_join_26 : decode cL_join 26 = .ok (.ireturn, 1) := by decide +kernel
theorem d_L_keep_4 : decode cL_keep 4 = .ok (.invokevirtual 55, 3) := by decide +kernel
theorem c_L_55 : ckV "GridStoreLaw" 55 1 mX5_keep = true := by decide +kernel
theorem d_L_keep_14 : decode cL_keep 14 = .ok (.ireturn, 1) := by decide +kernel
theorem d_L_keep_16 : decode cL_keep 16 = .ok (.ireturn, 1) := by decide +kernel
theorem d_L_kind_7 : decode cL_kind 7 = .ok (.invokevirtual 52, 3) := by decide +kernel
theorem c_L_52 : ckV "GridStoreLaw" 52 3 mX5_kind = true := by decide +kernel
theorem d_L_kind_18 : decode cL_kind 18 = .ok (.ireturn, 1) := by decide +kernel
theorem d_L_kind_20 : decode cL_kind 20 = .ok (.ireturn, 1) := by decide +kernel
theorem d_L_law_0 : decode cL_law 0 = .ok (.new 8, 3) := by decide +kernel
theorem d_L_law_3 : decode cL_law 3 = .ok (.dup, 1) := by decide +kernel
theorem n_L_8 : ckN "GridStoreLaw" 8 5 [.null, .null, .null, .null, .int 0, .int 0] = true := by decide +kernel
theorem d_L_law_4 : decode cL_law 4 = .ok (.invokespecial 99, 3) := by decide +kernel
theorem c_L_99 : ckI "GridStoreLaw" 99 0 mX5_init = true := by decide +kernel
theorem d_L_law_8 : decode cL_law 8 = .ok (.new 100, 3) := by decide +kernel
theorem d_L_law_11 : decode cL_law 11 = .ok (.dup, 1) := by decide +kernel
theorem n_L_100 : ckN "GridStoreLaw" 100 6 [.int 0, .null, .null, .null, .null, .int 0, .null, .null, .null, .null, .null, .null, .null, .null, .null, .null, .null, .null, .int 0, .int 0, .null] = true := by decide +kernel
theorem d_L_law_12 : decode cL_law 12 = .ok (.invokespecial 102, 3) := by decide +kernel
theorem c_L_102 : ckI "GridStoreLaw" 102 0 mX6_init = true := by decide +kernel
theorem d_L_law_17 : decode cL_law 17 = .ok (.newarray .long, 2) := by decide +kernel
theorem d_L_law_40 : decode cL_law 40 = .ok (.tableswitch 2169 0 23 #[112, 180, 328, 419, 503, 602, 689, 807, 894, 974, 1054, 1110, 1178, 1270, 1350, 1441, 1532, 1624, 1692, 1772, 1868, 1960, 2040, 2144], 112) := by decide +kernel
theorem d_L_law_166 : decode cL_law 166 = .ok (.invokestatic 103, 3) := by decide +kernel
-- wrapper L_grid at L_law 166
theorem d_L_law_184 : decode cL_law 184 = .ok (.invokevirtual 108, 3) := by decide +kernel
theorem c_L_108 : ckV "GridStoreLaw" 108 2 mX6_grid = true := by decide +kernel
theorem d_L_law_190 : decode cL_law 190 = .ok (.invokevirtual 109, 3) := by decide +kernel
theorem c_L_109 : ckV "GridStoreLaw" 109 0 mX6_thrown = true := by decide +kernel
theorem d_L_law_199 : decode cL_law 199 = .ok (.ireturn, 1) := by decide +kernel
theorem d_L_law_216 : decode cL_law 216 = .ok (.ireturn, 1) := by decide +kernel
theorem d_L_law_274 : decode cL_law 274 = .ok (.invokestatic 113, 3) := by decide +kernel
-- wrapper L_view at L_law 274
theorem d_L_law_332 : decode cL_law 332 = .ok (.invokevirtual 116, 3) := by decide +kernel
theorem c_L_116 : ckV "GridStoreLaw" 116 7 mX6_view = true := by decide +kernel
theorem d_L_law_338 : decode cL_law 338 = .ok (.invokevirtual 109, 3) := by decide +kernel
theorem d_L_law_347 : decode cL_law 347 = .ok (.ireturn, 1) := by decide +kernel
theorem d_L_law_364 : decode cL_law 364 = .ok (.ireturn, 1) := by decide +kernel
theorem d_L_law_390 : decode cL_law 390 = .ok (.invokestatic 117, 3) := by decide +kernel
-- wrapper L_close at L_law 390
theorem d_L_law_416 : decode cL_law 416 = .ok (.invokevirtual 120, 3) := by decide +kernel
theorem c_L_120 : ckV "GridStoreLaw" 120 2 mX6_close = true := by decide +kernel
theorem d_L_law_422 : decode cL_law 422 = .ok (.invokevirtual 109, 3) := by decide +kernel
theorem d_L_law_431 : decode cL_law 431 = .ok (.ireturn, 1) := by decide +kernel
theorem d_L_law_455 : decode cL_law 455 = .ok (.ireturn, 1) := by decide +kernel
theorem d_L_law_481 : decode cL_law 481 = .ok (.invokestatic 121, 3) := by decide +kernel
-- wrapper L_size at L_law 481
theorem d_L_law_507 : decode cL_law 507 = .ok (.invokevirtual 123, 3) := by decide +kernel
theorem c_L_123 : ckV "GridStoreLaw" 123 2 mX6_size = true := by decide +kernel
theorem d_L_law_513 : decode cL_law 513 = .ok (.invokevirtual 109, 3) := by decide +kernel
theorem d_L_law_522 : decode cL_law 522 = .ok (.ireturn, 1) := by decide +kernel
theorem d_L_law_539 : decode cL_law 539 = .ok (.ireturn, 1) := by decide +kernel
theorem d_L_law_569 : decode cL_law 569 = .ok (.invokestatic 124, 3) := by decide +kernel
-- wrapper L_set at L_law 569
theorem d_L_law_599 : decode cL_law 599 = .ok (.invokevirtual 127, 3) := by decide +kernel
theorem c_L_127 : ckV "GridStoreLaw" 127 4 mX6_set = true := by decide +kernel
theorem d_L_law_605 : decode cL_law 605 = .ok (.invokevirtual 109, 3) := by decide +kernel
theorem d_L_law_614 : decode cL_law 614 = .ok (.ireturn, 1) := by decide +kernel
theorem d_L_law_638 : decode cL_law 638 = .ok (.ireturn, 1) := by decide +kernel
theorem d_L_law_662 : decode cL_law 662 = .ok (.invokestatic 128, 3) := by decide +kernel
-- wrapper L_dig at L_law 662
theorem d_L_law_686 : decode cL_law 686 = .ok (.invokevirtual 131, 3) := by decide +kernel
theorem c_L_131 : ckV "GridStoreLaw" 131 3 mX6_dig = true := by decide +kernel
theorem d_L_law_692 : decode cL_law 692 = .ok (.invokevirtual 109, 3) := by decide +kernel
theorem d_L_law_701 : decode cL_law 701 = .ok (.ireturn, 1) := by decide +kernel
theorem d_L_law_725 : decode cL_law 725 = .ok (.ireturn, 1) := by decide +kernel
theorem d_L_law_768 : decode cL_law 768 = .ok (.invokestatic 132, 3) := by decide +kernel
-- wrapper L_fill at L_law 768
theorem d_L_law_811 : decode cL_law 811 = .ok (.invokevirtual 135, 3) := by decide +kernel
theorem c_L_135 : ckV "GridStoreLaw" 135 6 mX6_fill = true := by decide +kernel
theorem d_L_law_817 : decode cL_law 817 = .ok (.invokevirtual 109, 3) := by decide +kernel
theorem d_L_law_826 : decode cL_law 826 = .ok (.ireturn, 1) := by decide +kernel
theorem d_L_law_843 : decode cL_law 843 = .ok (.ireturn, 1) := by decide +kernel
theorem d_L_law_867 : decode cL_law 867 = .ok (.invokestatic 136, 3) := by decide +kernel
-- wrapper L_hole at L_law 867
theorem d_L_law_891 : decode cL_law 891 = .ok (.invokevirtual 138, 3) := by decide +kernel
theorem c_L_138 : ckV "GridStoreLaw" 138 3 mX6_hole = true := by decide +kernel
theorem d_L_law_897 : decode cL_law 897 = .ok (.invokevirtual 109, 3) := by decide +kernel
theorem d_L_law_906 : decode cL_law 906 = .ok (.ireturn, 1) := by decide +kernel
theorem d_L_law_930 : decode cL_law 930 = .ok (.ireturn, 1) := by decide +kernel
theorem d_L_law_954 : decode cL_law 954 = .ok (.invokestatic 139, 3) := by decide +kernel
-- wrapper L_get at L_law 954
theorem d_L_law_978 : decode cL_law 978 = .ok (.invokevirtual 141, 3) := by decide +kernel
theorem c_L_141 : ckV "GridStoreLaw" 141 3 mX6_get = true := by decide +kernel
theorem d_L_law_984 : decode cL_law 984 = .ok (.invokevirtual 109, 3) := by decide +kernel
theorem d_L_law_993 : decode cL_law 993 = .ok (.ireturn, 1) := by decide +kernel
theorem d_L_law_1010 : decode cL_law 1010 = .ok (.ireturn, 1) := by decide +kernel
theorem d_L_law_1034 : decode cL_law 1034 = .ok (.invokestatic 142, 3) := by decide +kernel
-- wrapper L_kind at L_law 1034
theorem d_L_law_1058 : decode cL_law 1058 = .ok (.invokevirtual 144, 3) := by decide +kernel
theorem c_L_144 : ckV "GridStoreLaw" 144 3 mX6_kind = true := by decide +kernel
theorem d_L_law_1064 : decode cL_law 1064 = .ok (.invokevirtual 109, 3) := by decide +kernel
theorem d_L_law_1073 : decode cL_law 1073 = .ok (.ireturn, 1) := by decide +kernel
theorem d_L_law_1090 : decode cL_law 1090 = .ok (.ireturn, 1) := by decide +kernel
theorem d_L_law_1102 : decode cL_law 1102 = .ok (.invokestatic 145, 3) := by decide +kernel
-- wrapper L_keep at L_law 1102
theorem d_L_law_1114 : decode cL_law 1114 = .ok (.invokevirtual 148, 3) := by decide +kernel
theorem c_L_148 : ckV "GridStoreLaw" 148 1 mX6_keep = true := by decide +kernel
theorem d_L_law_1120 : decode cL_law 1120 = .ok (.invokevirtual 109, 3) := by decide +kernel
theorem d_L_law_1129 : decode cL_law 1129 = .ok (.ireturn, 1) := by decide +kernel
theorem d_L_law_1146 : decode cL_law 1146 = .ok (.ireturn, 1) := by decide +kernel
theorem d_L_law_1164 : decode cL_law 1164 = .ok (.invokestatic 149, 3) := by decide +kernel
-- wrapper L_back at L_law 1164
theorem d_L_law_1182 : decode cL_law 1182 = .ok (.invokevirtual 151, 3) := by decide +kernel
theorem c_L_151 : ckV "GridStoreLaw" 151 2 mX6_back = true := by decide +kernel
theorem d_L_law_1188 : decode cL_law 1188 = .ok (.invokevirtual 109, 3) := by decide +kernel
theorem d_L_law_1197 : decode cL_law 1197 = .ok (.ireturn, 1) := by decide +kernel
theorem d_L_law_1214 : decode cL_law 1214 = .ok (.ireturn, 1) := by decide +kernel
theorem d_L_law_1244 : decode cL_law 1244 = .ok (.invokestatic 152, 3) := by decide +kernel
-- wrapper L_was at L_law 1244
theorem d_L_law_1274 : decode cL_law 1274 = .ok (.invokevirtual 154, 3) := by decide +kernel
theorem c_L_154 : ckV "GridStoreLaw" 154 4 mX6_was = true := by decide +kernel
theorem d_L_law_1280 : decode cL_law 1280 = .ok (.invokevirtual 109, 3) := by decide +kernel
theorem d_L_law_1289 : decode cL_law 1289 = .ok (.ireturn, 1) := by decide +kernel
theorem d_L_law_1306 : decode cL_law 1306 = .ok (.ireturn, 1) := by decide +kernel
theorem d_L_law_1330 : decode cL_law 1330 = .ok (.invokestatic 155, 3) := by decide +kernel
-- wrapper L_differ at L_law 1330
theorem d_L_law_1354 : decode cL_law 1354 = .ok (.invokevirtual 157, 3) := by decide +kernel
theorem c_L_157 : ckV "GridStoreLaw" 157 3 mX6_differ = true := by decide +kernel
theorem d_L_law_1360 : decode cL_law 1360 = .ok (.invokevirtual 109, 3) := by decide +kernel
theorem d_L_law_1369 : decode cL_law 1369 = .ok (.ireturn, 1) := by decide +kernel
theorem d_L_law_1386 : decode cL_law 1386 = .ok (.ireturn, 1) := by decide +kernel
theorem d_L_law_1412 : decode cL_law 1412 = .ok (.invokestatic 158, 3) := by decide +kernel
-- wrapper L_lose at L_law 1412
theorem d_L_law_1438 : decode cL_law 1438 = .ok (.invokevirtual 160, 3) := by decide +kernel
theorem c_L_160 : ckV "GridStoreLaw" 160 2 mX6_lose = true := by decide +kernel
theorem d_L_law_1444 : decode cL_law 1444 = .ok (.invokevirtual 109, 3) := by decide +kernel
theorem d_L_law_1453 : decode cL_law 1453 = .ok (.ireturn, 1) := by decide +kernel
theorem d_L_law_1477 : decode cL_law 1477 = .ok (.ireturn, 1) := by decide +kernel
theorem d_L_law_1507 : decode cL_law 1507 = .ok (.invokestatic 161, 3) := by decide +kernel
-- wrapper L_sum at L_law 1507
theorem d_L_law_1537 : decode cL_law 1537 = .ok (.invokevirtual 163, 3) := by decide +kernel
theorem c_L_163 : ckV "GridStoreLaw" 163 4 mX6_sum = true := by decide +kernel
theorem d_L_law_1543 : decode cL_law 1543 = .ok (.invokevirtual 109, 3) := by decide +kernel
theorem d_L_law_1552 : decode cL_law 1552 = .ok (.ireturn, 1) := by decide +kernel
theorem d_L_law_1568 : decode cL_law 1568 = .ok (.ireturn, 1) := by decide +kernel
theorem d_L_law_1598 : decode cL_law 1598 = .ok (.invokestatic 164, 3) := by decide +kernel
-- wrapper L_many at L_law 1598
theorem d_L_law_1628 : decode cL_law 1628 = .ok (.invokevirtual 166, 3) := by decide +kernel
theorem c_L_166 : ckV "GridStoreLaw" 166 4 mX6_many = true := by decide +kernel
theorem d_L_law_1634 : decode cL_law 1634 = .ok (.invokevirtual 109, 3) := by decide +kernel
theorem d_L_law_1643 : decode cL_law 1643 = .ok (.ireturn, 1) := by decide +kernel
theorem d_L_law_1660 : decode cL_law 1660 = .ok (.ireturn, 1) := by decide +kernel
theorem d_L_law_1678 : decode cL_law 1678 = .ok (.invokestatic 167, 3) := by decide +kernel
-- wrapper L_find at L_law 1678
theorem d_L_law_1696 : decode cL_law 1696 = .ok (.invokevirtual 169, 3) := by decide +kernel
theorem c_L_169 : ckV "GridStoreLaw" 169 2 mX6_find = true := by decide +kernel
theorem d_L_law_1702 : decode cL_law 1702 = .ok (.invokevirtual 109, 3) := by decide +kernel
theorem d_L_law_1711 : decode cL_law 1711 = .ok (.ireturn, 1) := by decide +kernel
theorem d_L_law_1728 : decode cL_law 1728 = .ok (.ireturn, 1) := by decide +kernel
theorem d_L_law_1752 : decode cL_law 1752 = .ok (.invokestatic 170, 3) := by decide +kernel
-- wrapper L_slide at L_law 1752
theorem d_L_law_1776 : decode cL_law 1776 = .ok (.invokevirtual 172, 3) := by decide +kernel
theorem c_L_172 : ckV "GridStoreLaw" 172 3 mX6_slide = true := by decide +kernel
theorem d_L_law_1782 : decode cL_law 1782 = .ok (.invokevirtual 109, 3) := by decide +kernel
theorem d_L_law_1791 : decode cL_law 1791 = .ok (.ireturn, 1) := by decide +kernel
theorem d_L_law_1808 : decode cL_law 1808 = .ok (.ireturn, 1) := by decide +kernel
theorem d_L_law_1840 : decode cL_law 1840 = .ok (.invokestatic 173, 3) := by decide +kernel
-- wrapper L_fold at L_law 1840
theorem d_L_law_1872 : decode cL_law 1872 = .ok (.invokevirtual 176, 3) := by decide +kernel
theorem c_L_176 : ckV "GridStoreLaw" 176 3 mX6_fold = true := by decide +kernel
theorem d_L_law_1878 : decode cL_law 1878 = .ok (.invokevirtual 109, 3) := by decide +kernel
theorem d_L_law_1887 : decode cL_law 1887 = .ok (.ireturn, 1) := by decide +kernel
theorem d_L_law_1904 : decode cL_law 1904 = .ok (.ireturn, 1) := by decide +kernel
theorem d_L_law_1934 : decode cL_law 1934 = .ok (.invokestatic 177, 3) := by decide +kernel
-- wrapper L_join at L_law 1934
theorem d_L_law_1964 : decode cL_law 1964 = .ok (.invokevirtual 179, 3) := by decide +kernel
theorem c_L_179 : ckV "GridStoreLaw" 179 4 mX6_join = true := by decide +kernel
theorem d_L_law_1970 : decode cL_law 1970 = .ok (.invokevirtual 109, 3) := by decide +kernel
theorem d_L_law_1979 : decode cL_law 1979 = .ok (.ireturn, 1) := by decide +kernel
theorem d_L_law_1996 : decode cL_law 1996 = .ok (.ireturn, 1) := by decide +kernel
theorem d_L_law_2020 : decode cL_law 2020 = .ok (.invokestatic 180, 3) := by decide +kernel
-- wrapper L_coarse at L_law 2020
theorem d_L_law_2044 : decode cL_law 2044 = .ok (.invokevirtual 182, 3) := by decide +kernel
theorem c_L_182 : ckV "GridStoreLaw" 182 3 mX6_coarse = true := by decide +kernel
theorem d_L_law_2050 : decode cL_law 2050 = .ok (.invokevirtual 109, 3) := by decide +kernel
theorem d_L_law_2059 : decode cL_law 2059 = .ok (.ireturn, 1) := by decide +kernel
theorem d_L_law_2076 : decode cL_law 2076 = .ok (.ireturn, 1) := by decide +kernel
theorem d_L_law_2112 : decode cL_law 2112 = .ok (.invokestatic 183, 3) := by decide +kernel
-- wrapper L_read at L_law 2112
theorem d_L_law_2148 : decode cL_law 2148 = .ok (.invokevirtual 186, 3) := by decide +kernel
theorem c_L_186 : ckV "GridStoreLaw" 186 5 mX6_read = true := by decide +kernel
theorem d_L_law_2154 : decode cL_law 2154 = .ok (.invokevirtual 109, 3) := by decide +kernel
theorem d_L_law_2163 : decode cL_law 2163 = .ok (.ireturn, 1) := by decide +kernel
theorem d_L_law_2180 : decode cL_law 2180 = .ok (.ireturn, 1) := by decide +kernel
theorem d_L_law_2191 : decode cL_law 2191 = .ok (.invokevirtual 187, 3) := by decide +kernel
theorem c_L_187 : ckV "GridStoreLaw" 187 1 mX5_count = true := by decide +kernel
theorem d_L_law_2201 : decode cL_law 2201 = .ok (.invokevirtual 190, 3) := by decide +kernel
theorem c_L_190 : ckV "GridStoreLaw" 190 1 mX6_count = true := by decide +kernel
theorem d_L_law_2208 : decode cL_law 2208 = .ok (.ireturn, 1) := by decide +kernel
theorem d_L_law_2216 : decode cL_law 2216 = .ok (.ireturn, 1) := by decide +kernel
theorem d_L_lose_5 : decode cL_lose 5 = .ok (.invokevirtual 69, 3) := by decide +kernel
theorem c_L_69 : ckV "GridStoreLaw" 69 2 mX5_lose = true := by decide +kernel
theorem d_L_lose_23 : decode cL_lose 23 = .ok (.ireturn, 1) := by decide +kernel
theorem d_L_lose_25 : decode cL_lose 25 = .ok (.ireturn, 1) := by decide +kernel
theorem d_L_many_9 : decode cL_many 9 = .ok (.invokevirtual 76, 3) := by decide +kernel
theorem c_L_76 : ckV "GridStoreLaw" 76 4 mX5_many = true := by decide +kernel
theorem d_L_many_20 : decode cL_many 20 = .ok (.ireturn, 1) := by decide +kernel
theorem d_L_many_24 : decode cL_many 24 = .ok (.ireturn, 1) := by decide +kernel
theorem d_L_many_26 : decode cL_many 26 = .ok (.ireturn, 1) := by decide +kernel
theorem d_L_read_11 : decode cL_read 11 = .ok (.invokevirtual 95, 3) := by decide +kernel
theorem c_L_95 : ckV "GridStoreLaw" 95 5 mX5_read = true := by decide +kernel
theorem d_L_read_22 : decode cL_read 22 = .ok (.ireturn, 1) := by decide +kernel
theorem d_L_read_26 : decode cL_read 26 = .ok (.ireturn, 1) := by decide +kernel
theorem d_L_read_28 : decode cL_read 28 = .ok (.ireturn, 1) := by decide +kernel
theorem d_L_set_9 : decode cL_set 9 = .ok (.invokevirtual 31, 3) := by decide +kernel
theorem c_L_31 : ckV "GridStoreLaw" 31 4 mX5_set = true := by decide +kernel
theorem d_L_set_27 : decode cL_set 27 = .ok (.ireturn, 1) := by decide +kernel
theorem d_L_set_29 : decode cL_set 29 = .ok (.ireturn, 1) := by decide +kernel
theorem d_L_size_5 : decode cL_size 5 = .ok (.invokevirtual 27, 3) := by decide +kernel
theorem c_L_27 : ckV "GridStoreLaw" 27 2 mX5_size = true := by decide +kernel
theorem d_L_size_16 : decode cL_size 16 = .ok (.ireturn, 1) := by decide +kernel
theorem d_L_size_18 : decode cL_size 18 = .ok (.ireturn, 1) := by decide +kernel
theorem d_L_slide_7 : decode cL_slide 7 = .ok (.invokevirtual 82, 3) := by decide +kernel
theorem c_L_82 : ckV "GridStoreLaw" 82 3 mX5_slide = true := by decide +kernel
theorem d_L_slide_18 : decode cL_slide 18 = .ok (.ireturn, 1) := by decide +kernel
theorem d_L_slide_22 : decode cL_slide 22 = .ok (.ireturn, 1) := by decide +kernel
theorem d_L_slide_24 : decode cL_slide 24 = .ok (.ireturn, 1) := by decide +kernel
theorem d_L_sum_9 : decode cL_sum 9 = .ok (.invokevirtual 72, 3) := by decide +kernel
theorem c_L_72 : ckV "GridStoreLaw" 72 4 mX5_sum = true := by decide +kernel
theorem d_L_sum_19 : decode cL_sum 19 = .ok (.ireturn, 1) := by decide +kernel
theorem d_L_sum_23 : decode cL_sum 23 = .ok (.ireturn, 1) := by decide +kernel
theorem d_L_sum_25 : decode cL_sum 25 = .ok (.ireturn, 1) := by decide +kernel
theorem d_L_view_15 : decode cL_view 15 = .ok (.invokevirtual 17, 3) := by decide +kernel
theorem c_L_17 : ckV "GridStoreLaw" 17 7 mX5_view = true := by decide +kernel
theorem d_L_view_26 : decode cL_view 26 = .ok (.ireturn, 1) := by decide +kernel
theorem d_L_view_30 : decode cL_view 30 = .ok (.ireturn, 1) := by decide +kernel
theorem d_L_view_34 : decode cL_view 34 = .ok (.ireturn, 1) := by decide +kernel
theorem d_L_view_36 : decode cL_view 36 = .ok (.ireturn, 1) := by decide +kernel
theorem d_L_was_9 : decode cL_was 9 = .ok (.invokevirtual 62, 3) := by decide +kernel
theorem c_L_62 : ckV "GridStoreLaw" 62 4 mX5_was = true := by decide +kernel
theorem d_L_was_20 : decode cL_was 20 = .ok (.ireturn, 1) := by decide +kernel
theorem d_L_was_24 : decode cL_was 24 = .ok (.ireturn, 1) := by decide +kernel
theorem d_L_was_26 : decode cL_was 26 = .ok (.ireturn, 1) := by decide +kernel
