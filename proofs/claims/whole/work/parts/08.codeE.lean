def rs_J6_bitCount_0f7a4 : Rs := rf_J6 []
def bk_J6_bitCount_0f7a4_0 : List It := [(.iload_n 0, 1, 0, 0, 0, 0), (.iload_n 0, 1, 0, 0, 0, 0), (.iconst 1, 1, 0, 0, 0, 1), (.iushr, 1, 0, 0, 0, 0), (.ldc_w 265, 3, 0, 0, 0, 1431655765), (.iand, 1, 0, 0, 0, 0), (.isub, 1, 0, 0, 0, 0), (.istore_n 0, 1, 0, 0, 0, 0), (.iload_n 0, 1, 0, 0, 0, 0), (.ldc_w 266, 3, 0, 0, 0, 858993459), (.iand, 1, 0, 0, 0, 0), (.iload_n 0, 1, 0, 0, 0, 0), (.iconst 2, 1, 0, 0, 0, 2), (.iushr, 1, 0, 0, 0, 0), (.ldc_w 266, 3, 0, 0, 0, 858993459), (.iand, 1, 0, 0, 0, 0), (.iadd, 1, 0, 0, 0, 0), (.istore_n 0, 1, 0, 0, 0, 0), (.iload_n 0, 1, 0, 0, 0, 0), (.iload_n 0, 1, 0, 0, 0, 0), (.iconst 4, 1, 0, 0, 0, 4), (.iushr, 1, 0, 0, 0, 0), (.iadd, 1, 0, 0, 0, 0), (.ldc_w 267, 3, 0, 0, 0, 252645135), (.iand, 1, 0, 0, 0, 0), (.istore_n 0, 1, 0, 0, 0, 0), (.iload_n 0, 1, 0, 0, 0, 0), (.iload_n 0, 1, 0, 0, 0, 0), (.bipush 8, 2, 0, 0, 0, 8), (.iushr, 1, 0, 0, 0, 0), (.iadd, 1, 0, 0, 0, 0), (.istore_n 0, 1, 0, 0, 0, 0), (.iload_n 0, 1, 0, 0, 0, 0), (.iload_n 0, 1, 0, 0, 0, 0), (.bipush 16, 2, 0, 0, 0, 16), (.iushr, 1, 0, 0, 0, 0), (.iadd, 1, 0, 0, 0, 0), (.istore_n 0, 1, 0, 0, 0, 0), (.iload_n 0, 1, 0, 0, 0, 0), (.bipush 63, 2, 0, 0, 0, 63), (.iand, 1, 0, 0, 0, 0), (.ireturn, 1, 0, 0, 0, 0)]
def bl_J6_bitCount_0f7a4 : List (Nat × List It) := [(0, bk_J6_bitCount_0f7a4_0)]
theorem bq_J6_bitCount_0f7a4_0 : lkB bl_J6_bitCount_0f7a4 0 = bk_J6_bitCount_0f7a4_0 := rfl
set_option maxRecDepth 20000 in
theorem ck_J6_bitCount_0f7a4 : ckB rs_J6_bitCount_0f7a4 false 99 1 prog_15_method_49_code bl_J6_bitCount_0f7a4 = true := by decide +kernel

def rs_J9_floorMod_7cf53 : Rs := rf_J9 []
def bk_J9_floorMod_7cf53_0 : List It := [(.iload_n 0, 1, 0, 0, 0, 0), (.iload_n 1, 1, 1, 0, 0, 0), (.irem, 1, 0, 0, 0, 0), (.istore_n 2, 1, 2, 0, 0, 0), (.iload_n 0, 1, 0, 0, 0, 0), (.iload_n 1, 1, 1, 0, 0, 0), (.ixor, 1, 0, 0, 0, 0), (.ifCond .ge 11, 3, 18, 0, 0, 0), (.iload_n 2, 1, 2, 0, 0, 0), (.ifCond .eq 7, 3, 18, 0, 0, 0), (.iload_n 2, 1, 2, 0, 0, 0), (.iload_n 1, 1, 1, 0, 0, 0), (.iadd, 1, 0, 0, 0, 0), (.ireturn, 1, 0, 0, 0, 0)]
def bk_J9_floorMod_7cf53_18 : List It := [(.iload_n 2, 1, 2, 0, 0, 0), (.ireturn, 1, 0, 0, 0, 0)]
def bl_J9_floorMod_7cf53 : List (Nat × List It) := [(0, bk_J9_floorMod_7cf53_0), (18, bk_J9_floorMod_7cf53_18)]
theorem bq_J9_floorMod_7cf53_0 : lkB bl_J9_floorMod_7cf53 0 = bk_J9_floorMod_7cf53_0 := rfl
theorem bq_J9_floorMod_7cf53_18 : lkB bl_J9_floorMod_7cf53 18 = bk_J9_floorMod_7cf53_18 := rfl
set_option maxRecDepth 20000 in
theorem ck_J9_floorMod_7cf53 : ckB rs_J9_floorMod_7cf53 false 99 3 prog_16_method_50_code bl_J9_floorMod_7cf53 = true := by decide +kernel

def rs_J9_abs_0f7a4 : Rs := rf_J9 []
def bk_J9_abs_0f7a4_0 : List It := [(.iload_n 0, 1, 0, 0, 0, 0), (.ifCond .ge 8, 3, 9, 0, 0, 0), (.iload_n 0, 1, 0, 0, 0, 0), (.ineg, 1, 0, 0, 0, 0), (.goto 4, 3, 10, 0, 0, 0)]
def bk_J9_abs_0f7a4_9 : List It := [(.iload_n 0, 1, 0, 0, 0, 0)]
def bk_J9_abs_0f7a4_10 : List It := [(.ireturn, 1, 0, 0, 0, 0)]
def bl_J9_abs_0f7a4 : List (Nat × List It) := [(0, bk_J9_abs_0f7a4_0), (9, bk_J9_abs_0f7a4_9), (10, bk_J9_abs_0f7a4_10)]
theorem bq_J9_abs_0f7a4_0 : lkB bl_J9_abs_0f7a4 0 = bk_J9_abs_0f7a4_0 := rfl
theorem bq_J9_abs_0f7a4_9 : lkB bl_J9_abs_0f7a4 9 = bk_J9_abs_0f7a4_9 := rfl
theorem bq_J9_abs_0f7a4_10 : lkB bl_J9_abs_0f7a4 10 = bk_J9_abs_0f7a4_10 := rfl
set_option maxRecDepth 20000 in
theorem ck_J9_abs_0f7a4 : ckB rs_J9_abs_0f7a4 false 99 1 prog_16_method_59_code bl_J9_abs_0f7a4 = true := by decide +kernel

def rs_J9_max_7cf53 : Rs := rf_J9 []
def bk_J9_max_7cf53_0 : List It := [(.iload_n 0, 1, 0, 0, 0, 0), (.iload_n 1, 1, 1, 0, 0, 0), (.if_icmp .lt 7, 3, 9, 0, 0, 0), (.iload_n 0, 1, 0, 0, 0, 0), (.goto 4, 3, 10, 0, 0, 0)]
def bk_J9_max_7cf53_9 : List It := [(.iload_n 1, 1, 1, 0, 0, 0)]
def bk_J9_max_7cf53_10 : List It := [(.ireturn, 1, 0, 0, 0, 0)]
def bl_J9_max_7cf53 : List (Nat × List It) := [(0, bk_J9_max_7cf53_0), (9, bk_J9_max_7cf53_9), (10, bk_J9_max_7cf53_10)]
theorem bq_J9_max_7cf53_0 : lkB bl_J9_max_7cf53 0 = bk_J9_max_7cf53_0 := rfl
theorem bq_J9_max_7cf53_9 : lkB bl_J9_max_7cf53 9 = bk_J9_max_7cf53_9 := rfl
theorem bq_J9_max_7cf53_10 : lkB bl_J9_max_7cf53 10 = bk_J9_max_7cf53_10 := rfl
set_option maxRecDepth 20000 in
theorem ck_J9_max_7cf53 : ckB rs_J9_max_7cf53 false 99 2 prog_16_method_65_code bl_J9_max_7cf53 = true := by decide +kernel

def rs_J9_min_7cf53 : Rs := rf_J9 []
def bk_J9_min_7cf53_0 : List It := [(.iload_n 0, 1, 0, 0, 0, 0), (.iload_n 1, 1, 1, 0, 0, 0), (.if_icmp .gt 7, 3, 9, 0, 0, 0), (.iload_n 0, 1, 0, 0, 0, 0), (.goto 4, 3, 10, 0, 0, 0)]
def bk_J9_min_7cf53_9 : List It := [(.iload_n 1, 1, 1, 0, 0, 0)]
def bk_J9_min_7cf53_10 : List It := [(.ireturn, 1, 0, 0, 0, 0)]
def bl_J9_min_7cf53 : List (Nat × List It) := [(0, bk_J9_min_7cf53_0), (9, bk_J9_min_7cf53_9), (10, bk_J9_min_7cf53_10)]
theorem bq_J9_min_7cf53_0 : lkB bl_J9_min_7cf53 0 = bk_J9_min_7cf53_0 := rfl
theorem bq_J9_min_7cf53_9 : lkB bl_J9_min_7cf53 9 = bk_J9_min_7cf53_9 := rfl
theorem bq_J9_min_7cf53_10 : lkB bl_J9_min_7cf53 10 = bk_J9_min_7cf53_10 := rfl
set_option maxRecDepth 20000 in
theorem ck_J9_min_7cf53 : ckB rs_J9_min_7cf53 false 99 2 prog_16_method_69_code bl_J9_min_7cf53 = true := by decide +kernel
