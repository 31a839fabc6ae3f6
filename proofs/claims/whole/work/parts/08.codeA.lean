def rs_X0_init : Rs := rf_X0 [(2, 3, 0, 900, 0)]
def bk_X0_init_0 : List It := [(.aload_n 0, 1, 0, 0, 0, 0), (.invokespecial 3, 3, 0, 900, 0, 0), (.aload_n 0, 1, 0, 0, 0, 0), (.ldc 9, 2, 0, 0, 0, (-900009)), (.putfield 10, 3, 0, 7, 0, 0), (.aload_n 0, 1, 0, 0, 0, 0), (.aload_n 1, 1, 1, 0, 0, 0), (.putfield 16, 3, 0, 0, 2, 0), (.aload_n 0, 1, 0, 0, 0, 0), (.aload_n 2, 1, 2, 0, 0, 0), (.putfield 20, 3, 0, 1, 2, 0), (.aload_n 0, 1, 0, 0, 0, 0), (.iload_n 3, 1, 3, 0, 0, 0), (.putfield 23, 3, 0, 2, 0, 0), (.aload_n 0, 1, 0, 0, 0, 0), (.iload 4, 2, 4, 0, 0, 0), (.putfield 26, 3, 0, 3, 0, 0), (.aload_n 0, 1, 0, 0, 0, 0), (.iload 5, 2, 5, 0, 0, 0), (.putfield 29, 3, 0, 4, 0, 0), (.return_, 1, 0, 0, 0, 0)]
def bl_X0_init : List (Nat × List It) := [(0, bk_X0_init_0)]
theorem bq_X0_init_0 : lkB bl_X0_init 0 = bk_X0_init_0 := rfl
set_option maxRecDepth 20000 in
theorem ck_X0_init : ckB rs_X0_init true 0 6 prog_2_method_1_code bl_X0_init = true := by decide +kernel

def rs_X0_works : Rs := rf_X0 []
def bk_X0_works_0 : List It := [(.aload_n 0, 1, 0, 0, 0, 0), (.getfield 32, 3, 0, 5, 1, 0), (.ifCond .ne 27, 3, 31, 0, 0, 0), (.aload_n 0, 1, 0, 0, 0, 0), (.getfield 16, 3, 0, 0, 2, 0), (.getfield 36, 3, 3, 1, 1, 0), (.ifCond .eq 17, 3, 31, 0, 0, 0), (.aload_n 0, 1, 0, 0, 0, 0), (.getfield 20, 3, 0, 1, 2, 0), (.getfield 36, 3, 3, 1, 1, 0), (.ifCond .eq 7, 3, 31, 0, 0, 0), (.iconst 1, 1, 0, 0, 0, 1), (.goto 4, 3, 32, 0, 0, 0)]
def bk_X0_works_31 : List It := [(.iconst 0, 1, 0, 0, 0, 0)]
def bk_X0_works_32 : List It := [(.ireturn, 1, 0, 0, 0, 0)]
def bl_X0_works : List (Nat × List It) := [(0, bk_X0_works_0), (31, bk_X0_works_31), (32, bk_X0_works_32)]
theorem bq_X0_works_0 : lkB bl_X0_works 0 = bk_X0_works_0 := rfl
theorem bq_X0_works_31 : lkB bl_X0_works 31 = bk_X0_works_31 := rfl
theorem bq_X0_works_32 : lkB bl_X0_works 32 = bk_X0_works_32 := rfl
set_option maxRecDepth 20000 in
theorem ck_X0_works : ckB rs_X0_works false 0 1 prog_2_method_2_code bl_X0_works = true := by decide +kernel

def rs_X0_counts : Rs := rf_X0 [(0, 41, 0, 1, 0)]
def bk_X0_counts_0 : List It := [(.aload_n 0, 1, 0, 0, 0, 0), (.invokevirtual 41, 3, 0, 1, 0, 0), (.ifCond .eq 16, 3, 20, 0, 0, 0), (.aload_n 0, 1, 0, 0, 0, 0), (.getfield 10, 3, 0, 7, 0, 0), (.ldc 9, 2, 0, 0, 0, (-900009)), (.if_icmp .eq 7, 3, 20, 0, 0, 0), (.iconst 1, 1, 0, 0, 0, 1), (.goto 4, 3, 21, 0, 0, 0)]
def bk_X0_counts_20 : List It := [(.iconst 0, 1, 0, 0, 0, 0)]
def bk_X0_counts_21 : List It := [(.ireturn, 1, 0, 0, 0, 0)]
def bl_X0_counts : List (Nat × List It) := [(0, bk_X0_counts_0), (20, bk_X0_counts_20), (21, bk_X0_counts_21)]
theorem bq_X0_counts_0 : lkB bl_X0_counts 0 = bk_X0_counts_0 := rfl
theorem bq_X0_counts_20 : lkB bl_X0_counts 20 = bk_X0_counts_20 := rfl
theorem bq_X0_counts_21 : lkB bl_X0_counts 21 = bk_X0_counts_21 := rfl
set_option maxRecDepth 20000 in
theorem ck_X0_counts : ckB rs_X0_counts false 0 1 prog_2_method_3_code bl_X0_counts = true := by decide +kernel

def rs_X0_isAt : Rs := rf_X0 []
def bk_X0_isAt_0 : List It := [(.aload_n 0, 1, 0, 0, 0, 0), (.getfield 16, 3, 0, 0, 2, 0), (.getfield 45, 3, 3, 0, 0, 0), (.iload_n 1, 1, 1, 0, 0, 0), (.if_icmp .eq 14, 3, 22, 0, 0, 0), (.aload_n 0, 1, 0, 0, 0, 0), (.getfield 20, 3, 0, 1, 2, 0), (.getfield 45, 3, 3, 0, 0, 0), (.iload_n 1, 1, 1, 0, 0, 0), (.if_icmp .ne 7, 3, 26, 0, 0, 0)]
def bk_X0_isAt_22 : List It := [(.iconst 1, 1, 0, 0, 0, 1), (.goto 4, 3, 27, 0, 0, 0)]
def bk_X0_isAt_26 : List It := [(.iconst 0, 1, 0, 0, 0, 0)]
def bk_X0_isAt_27 : List It := [(.ireturn, 1, 0, 0, 0, 0)]
def bl_X0_isAt : List (Nat × List It) := [(0, bk_X0_isAt_0), (22, bk_X0_isAt_22), (26, bk_X0_isAt_26), (27, bk_X0_isAt_27)]
theorem bq_X0_isAt_0 : lkB bl_X0_isAt 0 = bk_X0_isAt_0 := rfl
theorem bq_X0_isAt_22 : lkB bl_X0_isAt 22 = bk_X0_isAt_22 := rfl
theorem bq_X0_isAt_26 : lkB bl_X0_isAt 26 = bk_X0_isAt_26 := rfl
theorem bq_X0_isAt_27 : lkB bl_X0_isAt 27 = bk_X0_isAt_27 := rfl
set_option maxRecDepth 20000 in
theorem ck_X0_isAt : ckB rs_X0_isAt false 0 2 prog_2_method_4_code bl_X0_isAt = true := by decide +kernel

def rs_X0_told : Rs := rf_X0 [(0, 52, 2, 16, 4)]
def bk_X0_told_0 : List It := [(.aload_n 0, 1, 0, 0, 0, 0), (.getfield 16, 3, 0, 0, 2, 0), (.getfield 48, 3, 3, 2, 2, 0), (.aload_n 0, 1, 0, 0, 0, 0), (.getfield 23, 3, 0, 2, 0, 0), (.aload_n 0, 1, 0, 0, 0, 0), (.getfield 26, 3, 0, 3, 0, 0), (.invokevirtual 52, 3, 2, 16, 4, 0), (.aload_n 0, 1, 0, 0, 0, 0), (.getfield 20, 3, 0, 1, 2, 0), (.getfield 48, 3, 3, 2, 2, 0), (.aload_n 0, 1, 0, 0, 0, 0), (.getfield 23, 3, 0, 2, 0, 0), (.aload_n 0, 1, 0, 0, 0, 0), (.getfield 26, 3, 0, 3, 0, 0), (.invokevirtual 52, 3, 2, 16, 4, 0), (.isub, 1, 0, 0, 0, 0), (.aload_n 0, 1, 0, 0, 0, 0), (.getfield 58, 3, 0, 6, 0, 0), (.iadd, 1, 0, 0, 0, 0), (.ireturn, 1, 0, 0, 0, 0)]
def bl_X0_told : List (Nat × List It) := [(0, bk_X0_told_0)]
theorem bq_X0_told_0 : lkB bl_X0_told 0 = bk_X0_told_0 := rfl
set_option maxRecDepth 20000 in
theorem ck_X0_told : ckB rs_X0_told false 0 1 prog_2_method_5_code bl_X0_told = true := by decide +kernel

def rs_X0_seesWishes : Rs := rf_X0 [(0, 52, 2, 16, 4)]
def bk_X0_seesWishes_0 : List It := [(.aload_n 0, 1, 0, 0, 0, 0), (.getfield 16, 3, 0, 0, 2, 0), (.getfield 61, 3, 3, 3, 2, 0), (.aload_n 0, 1, 0, 0, 0, 0), (.getfield 23, 3, 0, 2, 0, 0), (.aload_n 0, 1, 0, 0, 0, 0), (.getfield 26, 3, 0, 3, 0, 0), (.invokevirtual 52, 3, 2, 16, 4, 0), (.aload_n 0, 1, 0, 0, 0, 0), (.getfield 20, 3, 0, 1, 2, 0), (.getfield 61, 3, 3, 3, 2, 0), (.aload_n 0, 1, 0, 0, 0, 0), (.getfield 23, 3, 0, 2, 0, 0), (.aload_n 0, 1, 0, 0, 0, 0), (.getfield 26, 3, 0, 3, 0, 0), (.invokevirtual 52, 3, 2, 16, 4, 0), (.if_icmp .eq 7, 3, 43, 0, 0, 0), (.iconst 1, 1, 0, 0, 0, 1), (.goto 4, 3, 44, 0, 0, 0)]
def bk_X0_seesWishes_43 : List It := [(.iconst 0, 1, 0, 0, 0, 0)]
def bk_X0_seesWishes_44 : List It := [(.ireturn, 1, 0, 0, 0, 0)]
def bl_X0_seesWishes : List (Nat × List It) := [(0, bk_X0_seesWishes_0), (43, bk_X0_seesWishes_43), (44, bk_X0_seesWishes_44)]
theorem bq_X0_seesWishes_0 : lkB bl_X0_seesWishes 0 = bk_X0_seesWishes_0 := rfl
theorem bq_X0_seesWishes_43 : lkB bl_X0_seesWishes 43 = bk_X0_seesWishes_43 := rfl
theorem bq_X0_seesWishes_44 : lkB bl_X0_seesWishes 44 = bk_X0_seesWishes_44 := rfl
set_option maxRecDepth 20000 in
theorem ck_X0_seesWishes : ckB rs_X0_seesWishes false 0 1 prog_2_method_6_code bl_X0_seesWishes = true := by decide +kernel

def rs_X1_init : Rs := rf_X1 [(2, 3, 0, 900, 0)]
def bk_X1_init_0 : List It := [(.aload_n 0, 1, 0, 0, 0, 0), (.invokespecial 3, 3, 0, 900, 0, 0), (.aload_n 0, 1, 0, 0, 0, 0), (.ldc 9, 2, 0, 0, 0, (-900009)), (.putfield 10, 3, 1, 5, 0, 0), (.aload_n 0, 1, 0, 0, 0, 0), (.iload_n 1, 1, 1, 0, 0, 0), (.putfield 16, 3, 1, 0, 0, 0), (.aload_n 0, 1, 0, 0, 0, 0), (.iload_n 2, 1, 2, 0, 0, 0), (.putfield 19, 3, 1, 1, 0, 0), (.aload_n 0, 1, 0, 0, 0, 0), (.iload_n 3, 1, 3, 0, 0, 0), (.putfield 22, 3, 1, 2, 0, 0), (.aload_n 0, 1, 0, 0, 0, 0), (.iload 4, 2, 4, 0, 0, 0), (.putfield 25, 3, 1, 3, 0, 0), (.aload_n 0, 1, 0, 0, 0, 0), (.iload 5, 2, 5, 0, 0, 0), (.putfield 28, 3, 1, 4, 0, 0), (.return_, 1, 0, 0, 0, 0)]
def bl_X1_init : List (Nat × List It) := [(0, bk_X1_init_0)]
theorem bq_X1_init_0 : lkB bl_X1_init 0 = bk_X1_init_0 := rfl
set_option maxRecDepth 20000 in
theorem ck_X1_init : ckB rs_X1_init true 1 6 prog_3_method_1_code bl_X1_init = true := by decide +kernel

def rs_X1_hinders : Rs := rf_X1 [(0, 31, 2, 16, 4)]
def bk_X1_hinders_0 : List It := [(.aload_n 1, 1, 1, 0, 0, 0), (.aload_n 0, 1, 0, 0, 0, 0), (.getfield 19, 3, 1, 1, 0, 0), (.aload_n 0, 1, 0, 0, 0, 0), (.getfield 22, 3, 1, 2, 0, 0), (.invokevirtual 31, 3, 2, 16, 4, 0), (.istore_n 2, 1, 2, 0, 0, 0), (.iload_n 2, 1, 2, 0, 0, 0), (.aload_n 0, 1, 0, 0, 0, 0), (.getfield 25, 3, 1, 3, 0, 0), (.if_icmp .lt 28, 3, 46, 0, 0, 0), (.iload_n 2, 1, 2, 0, 0, 0), (.aload_n 0, 1, 0, 0, 0, 0), (.getfield 28, 3, 1, 4, 0, 0), (.if_icmp .gt 20, 3, 46, 0, 0, 0), (.aload_n 0, 1, 0, 0, 0, 0), (.getfield 10, 3, 1, 5, 0, 0), (.ldc 9, 2, 0, 0, 0, (-900009)), (.if_icmp .eq 15, 3, 50, 0, 0, 0), (.iload_n 2, 1, 2, 0, 0, 0), (.aload_n 0, 1, 0, 0, 0, 0), (.getfield 10, 3, 1, 5, 0, 0), (.if_icmp .eq 7, 3, 50, 0, 0, 0)]
def bk_X1_hinders_46 : List It := [(.iconst 1, 1, 0, 0, 0, 1), (.goto 4, 3, 51, 0, 0, 0)]
def bk_X1_hinders_50 : List It := [(.iconst 0, 1, 0, 0, 0, 0)]
def bk_X1_hinders_51 : List It := [(.ireturn, 1, 0, 0, 0, 0)]
def bl_X1_hinders : List (Nat × List It) := [(0, bk_X1_hinders_0), (46, bk_X1_hinders_46), (50, bk_X1_hinders_50), (51, bk_X1_hinders_51)]
theorem bq_X1_hinders_0 : lkB bl_X1_hinders 0 = bk_X1_hinders_0 := rfl
theorem bq_X1_hinders_46 : lkB bl_X1_hinders 46 = bk_X1_hinders_46 := rfl
theorem bq_X1_hinders_50 : lkB bl_X1_hinders 50 = bk_X1_hinders_50 := rfl
theorem bq_X1_hinders_51 : lkB bl_X1_hinders 51 = bk_X1_hinders_51 := rfl
set_option maxRecDepth 20000 in
theorem ck_X1_hinders : ckB rs_X1_hinders false 1 3 prog_3_method_2_code bl_X1_hinders = true := by decide +kernel

def rs_X2_init : Rs := rf_X2 [(2, 1, 0, 900, 0)]
def bk_X2_init_0 : List It := [(.aload_n 0, 1, 0, 0, 0, 0), (.invokespecial 1, 3, 0, 900, 0, 0), (.aload_n 0, 1, 0, 0, 0, 0), (.aload_n 1, 1, 1, 0, 0, 0), (.putfield 7, 3, 2, 0, 2, 0), (.aload_n 0, 1, 0, 0, 0, 0), (.aload_n 2, 1, 2, 0, 0, 0), (.putfield 13, 3, 2, 1, 2, 0), (.aload_n 0, 1, 0, 0, 0, 0), (.iload_n 3, 1, 3, 0, 0, 0), (.putfield 16, 3, 2, 2, 0, 0), (.aload_n 0, 1, 0, 0, 0, 0), (.iload 4, 2, 4, 0, 0, 0), (.putfield 20, 3, 2, 3, 0, 0), (.return_, 1, 0, 0, 0, 0)]
def bl_X2_init : List (Nat × List It) := [(0, bk_X2_init_0)]
theorem bq_X2_init_0 : lkB bl_X2_init 0 = bk_X2_init_0 := rfl
set_option maxRecDepth 20000 in
theorem ck_X2_init : ckB rs_X2_init true 2 5 prog_4_method_1_code bl_X2_init = true := by decide +kernel

def rs_X2_isIn : Rs := rf_X2 []
def bk_X2_isIn_0 : List It := [(.aload_n 0, 1, 0, 0, 0, 0), (.getfield 7, 3, 2, 0, 2, 0), (.getfield 23, 3, 3, 1, 1, 0), (.ifCond .eq 17, 3, 24, 0, 0, 0), (.aload_n 0, 1, 0, 0, 0, 0), (.getfield 13, 3, 2, 1, 2, 0), (.getfield 23, 3, 3, 1, 1, 0), (.ifCond .eq 7, 3, 24, 0, 0, 0), (.iconst 1, 1, 0, 0, 0, 1), (.goto 4, 3, 25, 0, 0, 0)]
def bk_X2_isIn_24 : List It := [(.iconst 0, 1, 0, 0, 0, 0)]
def bk_X2_isIn_25 : List It := [(.ireturn, 1, 0, 0, 0, 0)]
def bl_X2_isIn : List (Nat × List It) := [(0, bk_X2_isIn_0), (24, bk_X2_isIn_24), (25, bk_X2_isIn_25)]
theorem bq_X2_isIn_0 : lkB bl_X2_isIn 0 = bk_X2_isIn_0 := rfl
theorem bq_X2_isIn_24 : lkB bl_X2_isIn 24 = bk_X2_isIn_24 := rfl
theorem bq_X2_isIn_25 : lkB bl_X2_isIn 25 = bk_X2_isIn_25 := rfl
set_option maxRecDepth 20000 in
theorem ck_X2_isIn : ckB rs_X2_isIn false 2 1 prog_4_method_2_code bl_X2_isIn = true := by decide +kernel

def rs_X2_allows : Rs := rf_X2 [(1, 29, 2, 192, 0)]
def bk_X2_allows_0 : List It := [(.aload_n 0, 1, 0, 0, 0, 0), (.getfield 16, 3, 2, 2, 0, 0), (.ifCond .le 23, 3, 27, 0, 0, 0), (.iload_n 1, 1, 1, 0, 0, 0), (.aload_n 0, 1, 0, 0, 0, 0), (.getfield 20, 3, 2, 3, 0, 0), (.isub, 1, 0, 0, 0, 0), (.aload_n 0, 1, 0, 0, 0, 0), (.getfield 16, 3, 2, 2, 0, 0), (.invokestatic 29, 3, 2, 192, 0, 0), (.ifCond .ne 7, 3, 27, 0, 0, 0), (.iconst 1, 1, 0, 0, 0, 1), (.goto 4, 3, 28, 0, 0, 0)]
def bk_X2_allows_27 : List It := [(.iconst 0, 1, 0, 0, 0, 0)]
def bk_X2_allows_28 : List It := [(.ireturn, 1, 0, 0, 0, 0)]
def bl_X2_allows : List (Nat × List It) := [(0, bk_X2_allows_0), (27, bk_X2_allows_27), (28, bk_X2_allows_28)]
theorem bq_X2_allows_0 : lkB bl_X2_allows 0 = bk_X2_allows_0 := rfl
theorem bq_X2_allows_27 : lkB bl_X2_allows 27 = bk_X2_allows_27 := rfl
theorem bq_X2_allows_28 : lkB bl_X2_allows 28 = bk_X2_allows_28 := rfl
set_option maxRecDepth 20000 in
theorem ck_X2_allows : ckB rs_X2_allows false 2 2 prog_4_method_3_code bl_X2_allows = true := by decide +kernel

def rs_X3_init : Rs := rf_X3 [(2, 3, 0, 900, 0), (2, 17, 0, 14, 0)]
def bk_X3_init_0 : List It := [(.aload_n 0, 1, 0, 0, 0, 0), (.invokespecial 3, 3, 0, 900, 0, 0)]
def bk_X3_init_4 : List It := [(.aload_n 0, 1, 0, 0, 0, 0), (.iconst 1, 1, 0, 0, 0, 1), (.putfield 9, 3, 3, 1, 1, 0)]
def bk_X3_init_9 : List It := [(.aload_n 0, 1, 0, 0, 0, 0), (.new 15, 3, 4, 3, 0, 0), (.dup, 1, 0, 0, 0, 0), (.invokespecial 17, 3, 0, 14, 0, 0)]
def bk_X3_init_17 : List It := [(.putfield 18, 3, 3, 2, 2, 0)]
def bk_X3_init_20 : List It := [(.aload_n 0, 1, 0, 0, 0, 0), (.new 15, 3, 4, 3, 0, 0), (.dup, 1, 0, 0, 0, 0), (.invokespecial 17, 3, 0, 14, 0, 0)]
def bk_X3_init_28 : List It := [(.putfield 22, 3, 3, 3, 2, 0)]
def bk_X3_init_31 : List It := [(.aload_n 0, 1, 0, 0, 0, 0), (.iconst 3, 1, 0, 0, 0, 3), (.newarray .int, 2, 100, 0, 0, 0), (.putfield 25, 3, 3, 5, 2, 0)]
def bk_X3_init_38 : List It := [(.aload_n 0, 1, 0, 0, 0, 0), (.iconst 3, 1, 0, 0, 0, 3), (.newarray .int, 2, 101, 0, 0, 0), (.dup, 1, 0, 0, 0, 0), (.iconst 0, 1, 0, 0, 0, 0), (.iconst 1, 1, 0, 0, 0, 1), (.iastore, 1, 0, 0, 0, 0), (.dup, 1, 0, 0, 0, 0), (.iconst 1, 1, 0, 0, 0, 1), (.iconst 1, 1, 0, 0, 0, 1), (.iastore, 1, 0, 0, 0, 0), (.dup, 1, 0, 0, 0, 0), (.iconst 2, 1, 0, 0, 0, 2), (.iconst 1, 1, 0, 0, 0, 1), (.iastore, 1, 0, 0, 0, 0), (.putfield 29, 3, 3, 6, 2, 0)]
def bk_X3_init_57 : List It := [(.aload_n 0, 1, 0, 0, 0, 0), (.iload_n 1, 1, 1, 0, 0, 0), (.putfield 32, 3, 3, 0, 0, 0)]
def bk_X3_init_62 : List It := [(.return_, 1, 0, 0, 0, 0)]
def bl_X3_init : List (Nat × List It) := [(0, bk_X3_init_0), (4, bk_X3_init_4), (9, bk_X3_init_9), (17, bk_X3_init_17), (20, bk_X3_init_20), (28, bk_X3_init_28), (31, bk_X3_init_31), (38, bk_X3_init_38), (57, bk_X3_init_57), (62, bk_X3_init_62)]
theorem bq_X3_init_0 : lkB bl_X3_init 0 = bk_X3_init_0 := rfl
theorem bq_X3_init_4 : lkB bl_X3_init 4 = bk_X3_init_4 := rfl
theorem bq_X3_init_9 : lkB bl_X3_init 9 = bk_X3_init_9 := rfl
theorem bq_X3_init_17 : lkB bl_X3_init 17 = bk_X3_init_17 := rfl
theorem bq_X3_init_20 : lkB bl_X3_init 20 = bk_X3_init_20 := rfl
theorem bq_X3_init_28 : lkB bl_X3_init 28 = bk_X3_init_28 := rfl
theorem bq_X3_init_31 : lkB bl_X3_init 31 = bk_X3_init_31 := rfl
theorem bq_X3_init_38 : lkB bl_X3_init 38 = bk_X3_init_38 := rfl
theorem bq_X3_init_57 : lkB bl_X3_init 57 = bk_X3_init_57 := rfl
theorem bq_X3_init_62 : lkB bl_X3_init 62 = bk_X3_init_62 := rfl
set_option maxRecDepth 20000 in
theorem ck_X3_init : ckB rs_X3_init true 3 2 prog_5_method_1_code bl_X3_init = true := by decide +kernel

def rs_X3_costIn : Rs := rf_X3 [(1, 36, 1, 193, 0)]
def bk_X3_costIn_0 : List It := [(.iconst 0, 1, 0, 0, 0, 0), (.istore_n 2, 1, 2, 0, 0, 0), (.iconst 0, 1, 0, 0, 0, 0), (.istore_n 3, 1, 3, 0, 0, 0)]
def bk_X3_costIn_4 : List It := [(.iload_n 3, 1, 3, 0, 0, 0), (.iconst 3, 1, 0, 0, 0, 3), (.if_icmp .ge 28, 3, 34, 0, 0, 0), (.iload_n 2, 1, 2, 0, 0, 0), (.aload_n 0, 1, 0, 0, 0, 0), (.getfield 25, 3, 3, 5, 2, 0), (.iload_n 3, 1, 3, 0, 0, 0), (.iaload, 1, 0, 0, 0, 0), (.invokestatic 36, 3, 1, 193, 0, 0), (.aload_n 1, 1, 1, 0, 0, 0), (.getfield 29, 3, 3, 6, 2, 0), (.iload_n 3, 1, 3, 0, 0, 0), (.iaload, 1, 0, 0, 0, 0), (.imul, 1, 0, 0, 0, 0), (.iadd, 1, 0, 0, 0, 0), (.istore_n 2, 1, 2, 0, 0, 0), (.iinc 3 1, 3, 3, 0, 0, 1), (.goto (-27), 3, 4, 0, 0, 0)]
def bk_X3_costIn_34 : List It := [(.iload_n 2, 1, 2, 0, 0, 0), (.ireturn, 1, 0, 0, 0, 0)]
def bl_X3_costIn : List (Nat × List It) := [(0, bk_X3_costIn_0), (4, bk_X3_costIn_4), (34, bk_X3_costIn_34)]
theorem bq_X3_costIn_0 : lkB bl_X3_costIn 0 = bk_X3_costIn_0 := rfl
theorem bq_X3_costIn_4 : lkB bl_X3_costIn 4 = bk_X3_costIn_4 := rfl
theorem bq_X3_costIn_34 : lkB bl_X3_costIn 34 = bk_X3_costIn_34 := rfl
set_option maxRecDepth 20000 in
theorem ck_X3_costIn : ckB rs_X3_costIn false 3 4 prog_5_method_2_code bl_X3_costIn = true := by decide +kernel

def rs_X3_wayTo : Rs := rf_X3 []
def bk_X3_wayTo_0 : List It := [(.iconst 2, 1, 0, 0, 0, 2), (.aload_n 0, 1, 0, 0, 0, 0), (.getfield 18, 3, 3, 2, 2, 0), (.getfield 42, 3, 4, 1, 0, 0), (.imul, 1, 0, 0, 0, 0), (.iload_n 1, 1, 1, 0, 0, 0), (.isub, 1, 0, 0, 0, 0), (.istore_n 3, 1, 3, 0, 0, 0), (.iconst 2, 1, 0, 0, 0, 2), (.aload_n 0, 1, 0, 0, 0, 0), (.getfield 18, 3, 3, 2, 2, 0), (.getfield 45, 3, 4, 2, 0, 0), (.imul, 1, 0, 0, 0, 0), (.iload_n 2, 1, 2, 0, 0, 0), (.isub, 1, 0, 0, 0, 0), (.istore 4, 2, 4, 0, 0, 0), (.iload_n 3, 1, 3, 0, 0, 0), (.iload_n 3, 1, 3, 0, 0, 0), (.imul, 1, 0, 0, 0, 0), (.iload 4, 2, 4, 0, 0, 0), (.iload 4, 2, 4, 0, 0, 0), (.imul, 1, 0, 0, 0, 0), (.iadd, 1, 0, 0, 0, 0), (.ireturn, 1, 0, 0, 0, 0)]
def bl_X3_wayTo : List (Nat × List It) := [(0, bk_X3_wayTo_0)]
theorem bq_X3_wayTo_0 : lkB bl_X3_wayTo 0 = bk_X3_wayTo_0 := rfl
set_option maxRecDepth 20000 in
theorem ck_X3_wayTo : ckB rs_X3_wayTo false 3 5 prog_5_method_3_code bl_X3_wayTo = true := by decide +kernel

def rs_X4_init : Rs := rf_X4 [(2, 1, 0, 900, 0)]
def bk_X4_init_0 : List It := [(.aload_n 0, 1, 0, 0, 0, 0), (.invokespecial 1, 3, 0, 900, 0, 0), (.return_, 1, 0, 0, 0, 0)]
def bl_X4_init : List (Nat × List It) := [(0, bk_X4_init_0)]
theorem bq_X4_init_0 : lkB bl_X4_init 0 = bk_X4_init_0 := rfl
set_option maxRecDepth 20000 in
theorem ck_X4_init : ckB rs_X4_init true 4 1 prog_6_method_1_code bl_X4_init = true := by decide +kernel

def rs_X4_become : Rs := rf_X4 []
def bk_X4_become_0 : List It := [(.aload_n 0, 1, 0, 0, 0, 0), (.iload_n 1, 1, 1, 0, 0, 0), (.putfield 7, 3, 4, 0, 0, 0), (.aload_n 0, 1, 0, 0, 0, 0), (.iload_n 2, 1, 2, 0, 0, 0), (.putfield 13, 3, 4, 1, 0, 0), (.aload_n 0, 1, 0, 0, 0, 0), (.iload_n 3, 1, 3, 0, 0, 0), (.putfield 16, 3, 4, 2, 0, 0), (.return_, 1, 0, 0, 0, 0)]
def bl_X4_become : List (Nat × List It) := [(0, bk_X4_become_0)]
theorem bq_X4_become_0 : lkB bl_X4_become 0 = bk_X4_become_0 := rfl
set_option maxRecDepth 20000 in
theorem ck_X4_become : ckB rs_X4_become false 4 4 prog_6_method_2_code bl_X4_become = true := by decide +kernel

def rs_X4_heightAt : Rs := rf_X4 []
def bk_X4_heightAt_0 : List It := [(.aload_n 0, 1, 0, 0, 0, 0), (.getfield 7, 3, 4, 0, 0, 0), (.aload_n 0, 1, 0, 0, 0, 0), (.getfield 13, 3, 4, 1, 0, 0), (.iload_n 1, 1, 1, 0, 0, 0), (.imul, 1, 0, 0, 0, 0), (.iadd, 1, 0, 0, 0, 0), (.aload_n 0, 1, 0, 0, 0, 0), (.getfield 16, 3, 4, 2, 0, 0), (.iload_n 2, 1, 2, 0, 0, 0), (.imul, 1, 0, 0, 0, 0), (.iadd, 1, 0, 0, 0, 0), (.ireturn, 1, 0, 0, 0, 0)]
def bl_X4_heightAt : List (Nat × List It) := [(0, bk_X4_heightAt_0)]
theorem bq_X4_heightAt_0 : lkB bl_X4_heightAt 0 = bk_X4_heightAt_0 := rfl
set_option maxRecDepth 20000 in
theorem ck_X4_heightAt : ckB rs_X4_heightAt false 4 3 prog_6_method_3_code bl_X4_heightAt = true := by decide +kernel

def rs_X5_init : Rs := rf_X5 [(2, 3, 0, 900, 0)]
def bk_X5_init_0 : List It := [(.aload_n 0, 1, 0, 0, 0, 0), (.invokespecial 3, 3, 0, 900, 0, 0)]
def bk_X5_init_4 : List It := [(.aload_n 0, 1, 0, 0, 0, 0), (.bipush 7, 2, 0, 0, 0, 7), (.newarray .int, 2, 102, 0, 0, 0), (.putfield 9, 3, 5, 0, 2, 0)]
def bk_X5_init_12 : List It := [(.aload_n 0, 1, 0, 0, 0, 0), (.bipush 7, 2, 0, 0, 0, 7), (.newarray .int, 2, 103, 0, 0, 0), (.putfield 15, 3, 5, 2, 2, 0)]
def bk_X5_init_20 : List It := [(.aload_n 0, 1, 0, 0, 0, 0), (.iconst 4, 1, 0, 0, 0, 4), (.newarray .int, 2, 104, 0, 0, 0), (.putfield 18, 3, 5, 3, 2, 0)]
def bk_X5_init_27 : List It := [(.aload_n 0, 1, 0, 0, 0, 0), (.iconst 4, 1, 0, 0, 0, 4), (.newarray .int, 2, 105, 0, 0, 0), (.putfield 21, 3, 5, 4, 2, 0)]
def bk_X5_init_34 : List It := [(.return_, 1, 0, 0, 0, 0)]
def bl_X5_init : List (Nat × List It) := [(0, bk_X5_init_0), (4, bk_X5_init_4), (12, bk_X5_init_12), (20, bk_X5_init_20), (27, bk_X5_init_27), (34, bk_X5_init_34)]
theorem bq_X5_init_0 : lkB bl_X5_init 0 = bk_X5_init_0 := rfl
theorem bq_X5_init_4 : lkB bl_X5_init 4 = bk_X5_init_4 := rfl
theorem bq_X5_init_12 : lkB bl_X5_init 12 = bk_X5_init_12 := rfl
theorem bq_X5_init_20 : lkB bl_X5_init 20 = bk_X5_init_20 := rfl
theorem bq_X5_init_27 : lkB bl_X5_init 27 = bk_X5_init_27 := rfl
theorem bq_X5_init_34 : lkB bl_X5_init 34 = bk_X5_init_34 := rfl
set_option maxRecDepth 20000 in
theorem ck_X5_init : ckB rs_X5_init true 5 1 prog_7_method_1_code bl_X5_init = true := by decide +kernel

def rs_X5_best : Rs := rf_X5 [(1, 40, 2, 195, 0), (0, 50, 2, 20, 5)]
def bk_X5_best_0 : List It := [(.aload_n 0, 1, 0, 0, 0, 0), (.iconst 0, 1, 0, 0, 0, 0), (.putfield 24, 3, 5, 1, 0, 0), (.iconst 0, 1, 0, 0, 0, 0), (.istore 5, 2, 5, 0, 0, 0)]
def bk_X5_best_8 : List It := [(.iload 5, 2, 5, 0, 0, 0), (.iload_n 2, 1, 2, 0, 0, 0), (.if_icmp .ge 57, 3, 68, 0, 0, 0), (.aload_n 1, 1, 1, 0, 0, 0), (.iload 5, 2, 5, 0, 0, 0), (.aaload, 1, 0, 0, 0, 0), (.getfield 28, 3, 3, 1, 1, 0), (.ifCond .eq 41, 3, 62, 0, 0, 0), (.aload_n 0, 1, 0, 0, 0, 0), (.getfield 9, 3, 5, 0, 2, 0), (.aload_n 0, 1, 0, 0, 0, 0), (.getfield 24, 3, 5, 1, 0, 0), (.iload 5, 2, 5, 0, 0, 0), (.iastore, 1, 0, 0, 0, 0), (.aload_n 0, 1, 0, 0, 0, 0), (.getfield 15, 3, 5, 2, 2, 0), (.aload_n 0, 1, 0, 0, 0, 0), (.getfield 24, 3, 5, 1, 0, 0), (.aload_n 1, 1, 1, 0, 0, 0), (.iload 5, 2, 5, 0, 0, 0), (.aaload, 1, 0, 0, 0, 0), (.getfield 34, 3, 3, 7, 0, 0), (.ineg, 1, 0, 0, 0, 0), (.iastore, 1, 0, 0, 0, 0), (.aload_n 0, 1, 0, 0, 0, 0), (.dup, 1, 0, 0, 0, 0), (.getfield 24, 3, 5, 1, 0, 0), (.iconst 1, 1, 0, 0, 0, 1), (.iadd, 1, 0, 0, 0, 0), (.putfield 24, 3, 5, 1, 0, 0)]
def bk_X5_best_62 : List It := [(.iinc 5 1, 3, 5, 0, 0, 1), (.goto (-57), 3, 8, 0, 0, 0)]
def bk_X5_best_68 : List It := [(.aload_n 0, 1, 0, 0, 0, 0), (.iload_n 3, 1, 3, 0, 0, 0), (.putfield 37, 3, 5, 5, 0, 0), (.aload_n 0, 1, 0, 0, 0, 0), (.iload 4, 2, 4, 0, 0, 0), (.iconst 4, 1, 0, 0, 0, 4), (.invokestatic 40, 3, 2, 195, 0, 0)]
def bk_X5_best_80 : List It := [(.putfield 46, 3, 5, 6, 0, 0), (.aload_n 0, 1, 0, 0, 0, 0), (.iconst (-1), 1, 0, 0, 0, (-1)), (.putfield 47, 3, 5, 7, 0, 0), (.aload_n 0, 1, 0, 0, 0, 0), (.iconst 0, 1, 0, 0, 0, 0), (.iconst 0, 1, 0, 0, 0, 0), (.invokevirtual 50, 3, 2, 20, 5, 0)]
def bk_X5_best_94 : List It := [(.aload_n 0, 1, 0, 0, 0, 0), (.getfield 47, 3, 5, 7, 0, 0), (.ireturn, 1, 0, 0, 0, 0)]
def bl_X5_best : List (Nat × List It) := [(0, bk_X5_best_0), (8, bk_X5_best_8), (62, bk_X5_best_62), (68, bk_X5_best_68), (80, bk_X5_best_80), (94, bk_X5_best_94)]
theorem bq_X5_best_0 : lkB bl_X5_best 0 = bk_X5_best_0 := rfl
theorem bq_X5_best_8 : lkB bl_X5_best 8 = bk_X5_best_8 := rfl
theorem bq_X5_best_62 : lkB bl_X5_best 62 = bk_X5_best_62 := rfl
theorem bq_X5_best_68 : lkB bl_X5_best 68 = bk_X5_best_68 := rfl
theorem bq_X5_best_80 : lkB bl_X5_best 80 = bk_X5_best_80 := rfl
theorem bq_X5_best_94 : lkB bl_X5_best 94 = bk_X5_best_94 := rfl
set_option maxRecDepth 20000 in
theorem ck_X5_best : ckB rs_X5_best false 5 6 prog_7_method_2_code bl_X5_best = true := by decide +kernel

def rs_X5_coatedIn : Rs := rf_X5 []
def bk_X5_coatedIn_0 : List It := [(.aload_n 0, 1, 0, 0, 0, 0), (.getfield 21, 3, 5, 4, 2, 0), (.iload_n 1, 1, 1, 0, 0, 0), (.iaload, 1, 0, 0, 0, 0), (.ireturn, 1, 0, 0, 0, 0)]
def bl_X5_coatedIn : List (Nat × List It) := [(0, bk_X5_coatedIn_0)]
theorem bq_X5_coatedIn_0 : lkB bl_X5_coatedIn 0 = bk_X5_coatedIn_0 := rfl
set_option maxRecDepth 20000 in
theorem ck_X5_coatedIn : ckB rs_X5_coatedIn false 5 2 prog_7_method_3_code bl_X5_coatedIn = true := by decide +kernel

def rs_X5_follow : Rs := rf_X5 [(1, 54, 5, 901, 0), (0, 60, 2, 21, 5), (0, 50, 2, 20, 5)]
def bk_X5_follow_0 : List It := [(.iload_n 1, 1, 1, 0, 0, 0), (.aload_n 0, 1, 0, 0, 0, 0), (.getfield 46, 3, 5, 6, 0, 0), (.if_icmp .lt 31, 3, 36, 0, 0, 0), (.iload_n 2, 1, 2, 0, 0, 0), (.aload_n 0, 1, 0, 0, 0, 0), (.getfield 47, 3, 5, 7, 0, 0), (.if_icmp .le 22, 3, 35, 0, 0, 0), (.aload_n 0, 1, 0, 0, 0, 0), (.iload_n 2, 1, 2, 0, 0, 0), (.putfield 47, 3, 5, 7, 0, 0), (.aload_n 0, 1, 0, 0, 0, 0), (.getfield 18, 3, 5, 3, 2, 0), (.iconst 0, 1, 0, 0, 0, 0), (.aload_n 0, 1, 0, 0, 0, 0), (.getfield 21, 3, 5, 4, 2, 0), (.iconst 0, 1, 0, 0, 0, 0), (.iconst 4, 1, 0, 0, 0, 4), (.invokestatic 54, 3, 5, 901, 0, 0)]
def bk_X5_follow_35 : List It := [(.return_, 1, 0, 0, 0, 0)]
def bk_X5_follow_36 : List It := [(.iload_n 2, 1, 2, 0, 0, 0), (.istore_n 3, 1, 3, 0, 0, 0), (.iconst 0, 1, 0, 0, 0, 0), (.istore 4, 2, 4, 0, 0, 0)]
def bk_X5_follow_41 : List It := [(.iload 4, 2, 4, 0, 0, 0), (.aload_n 0, 1, 0, 0, 0, 0), (.getfield 24, 3, 5, 1, 0, 0), (.if_icmp .ge 19, 3, 66, 0, 0, 0), (.iload_n 3, 1, 3, 0, 0, 0), (.aload_n 0, 1, 0, 0, 0, 0), (.iload 4, 2, 4, 0, 0, 0), (.iload_n 1, 1, 1, 0, 0, 0), (.invokevirtual 60, 3, 2, 21, 5, 0)]
def bk_X5_follow_58 : List It := [(.iadd, 1, 0, 0, 0, 0), (.istore_n 3, 1, 3, 0, 0, 0), (.iinc 4 1, 3, 4, 0, 0, 1), (.goto (-22), 3, 41, 0, 0, 0)]
def bk_X5_follow_66 : List It := [(.iconst 0, 1, 0, 0, 0, 0), (.istore 4, 2, 4, 0, 0, 0)]
def bk_X5_follow_69 : List It := [(.iload 4, 2, 4, 0, 0, 0), (.aload_n 0, 1, 0, 0, 0, 0), (.getfield 24, 3, 5, 1, 0, 0), (.if_icmp .ge 70, 3, 145, 0, 0, 0), (.aload_n 0, 1, 0, 0, 0, 0), (.getfield 15, 3, 5, 2, 2, 0), (.iload 4, 2, 4, 0, 0, 0), (.iaload, 1, 0, 0, 0, 0), (.istore 5, 2, 5, 0, 0, 0), (.aload_n 0, 1, 0, 0, 0, 0), (.iload 4, 2, 4, 0, 0, 0), (.iload_n 1, 1, 1, 0, 0, 0), (.invokevirtual 60, 3, 2, 21, 5, 0)]
def bk_X5_follow_94 : List It := [(.istore 6, 2, 6, 0, 0, 0), (.aload_n 0, 1, 0, 0, 0, 0), (.getfield 18, 3, 5, 3, 2, 0), (.iload_n 1, 1, 1, 0, 0, 0), (.aload_n 0, 1, 0, 0, 0, 0), (.getfield 9, 3, 5, 0, 2, 0), (.iload 4, 2, 4, 0, 0, 0), (.iaload, 1, 0, 0, 0, 0), (.iastore, 1, 0, 0, 0, 0), (.aload_n 0, 1, 0, 0, 0, 0), (.getfield 15, 3, 5, 2, 2, 0), (.iload 4, 2, 4, 0, 0, 0), (.iload_n 1, 1, 1, 0, 0, 0), (.iconst 1, 1, 0, 0, 0, 1), (.iadd, 1, 0, 0, 0, 0), (.iastore, 1, 0, 0, 0, 0), (.aload_n 0, 1, 0, 0, 0, 0), (.iload_n 1, 1, 1, 0, 0, 0), (.iconst 1, 1, 0, 0, 0, 1), (.iadd, 1, 0, 0, 0, 0), (.iload_n 3, 1, 3, 0, 0, 0), (.iload 6, 2, 6, 0, 0, 0), (.isub, 1, 0, 0, 0, 0), (.invokevirtual 50, 3, 2, 20, 5, 0)]
def bk_X5_follow_130 : List It := [(.aload_n 0, 1, 0, 0, 0, 0), (.getfield 15, 3, 5, 2, 2, 0), (.iload 4, 2, 4, 0, 0, 0), (.iload 5, 2, 5, 0, 0, 0), (.iastore, 1, 0, 0, 0, 0), (.iinc 4 1, 3, 4, 0, 0, 1), (.goto (-73), 3, 69, 0, 0, 0)]
def bk_X5_follow_145 : List It := [(.aload_n 0, 1, 0, 0, 0, 0), (.getfield 18, 3, 5, 3, 2, 0), (.iload_n 1, 1, 1, 0, 0, 0), (.ldc 63, 2, 0, 0, 0, (-900009)), (.iastore, 1, 0, 0, 0, 0), (.aload_n 0, 1, 0, 0, 0, 0), (.iload_n 1, 1, 1, 0, 0, 0), (.iconst 1, 1, 0, 0, 0, 1), (.iadd, 1, 0, 0, 0, 0), (.iload_n 3, 1, 3, 0, 0, 0), (.invokevirtual 50, 3, 2, 20, 5, 0)]
def bk_X5_follow_161 : List It := [(.return_, 1, 0, 0, 0, 0)]
def bl_X5_follow : List (Nat × List It) := [(0, bk_X5_follow_0), (35, bk_X5_follow_35), (36, bk_X5_follow_36), (41, bk_X5_follow_41), (58, bk_X5_follow_58), (66, bk_X5_follow_66), (69, bk_X5_follow_69), (94, bk_X5_follow_94), (130, bk_X5_follow_130), (145, bk_X5_follow_145), (161, bk_X5_follow_161)]
theorem bq_X5_follow_0 : lkB bl_X5_follow 0 = bk_X5_follow_0 := rfl
theorem bq_X5_follow_35 : lkB bl_X5_follow 35 = bk_X5_follow_35 := rfl
theorem bq_X5_follow_36 : lkB bl_X5_follow 36 = bk_X5_follow_36 := rfl
theorem bq_X5_follow_41 : lkB bl_X5_follow 41 = bk_X5_follow_41 := rfl
theorem bq_X5_follow_58 : lkB bl_X5_follow 58 = bk_X5_follow_58 := rfl
theorem bq_X5_follow_66 : lkB bl_X5_follow 66 = bk_X5_follow_66 := rfl
theorem bq_X5_follow_69 : lkB bl_X5_follow 69 = bk_X5_follow_69 := rfl
theorem bq_X5_follow_94 : lkB bl_X5_follow 94 = bk_X5_follow_94 := rfl
theorem bq_X5_follow_130 : lkB bl_X5_follow 130 = bk_X5_follow_130 := rfl
theorem bq_X5_follow_145 : lkB bl_X5_follow 145 = bk_X5_follow_145 := rfl
theorem bq_X5_follow_161 : lkB bl_X5_follow 161 = bk_X5_follow_161 := rfl
set_option maxRecDepth 20000 in
theorem ck_X5_follow : ckB rs_X5_follow false 5 7 prog_7_method_4_code bl_X5_follow = true := by decide +kernel

def rs_X5_lightOf : Rs := rf_X5 [(1, 64, 2, 194, 0)]
def bk_X5_lightOf_0 : List It := [(.iconst 0, 1, 0, 0, 0, 0), (.bipush 100, 2, 0, 0, 0, 100), (.aload_n 0, 1, 0, 0, 0, 0), (.getfield 37, 3, 5, 5, 0, 0), (.iload_n 2, 1, 2, 0, 0, 0), (.aload_n 0, 1, 0, 0, 0, 0), (.getfield 15, 3, 5, 2, 2, 0), (.iload_n 1, 1, 1, 0, 0, 0), (.iaload, 1, 0, 0, 0, 0), (.isub, 1, 0, 0, 0, 0), (.imul, 1, 0, 0, 0, 0), (.isub, 1, 0, 0, 0, 0), (.invokestatic 64, 3, 2, 194, 0, 0)]
def bk_X5_lightOf_20 : List It := [(.ireturn, 1, 0, 0, 0, 0)]
def bl_X5_lightOf : List (Nat × List It) := [(0, bk_X5_lightOf_0), (20, bk_X5_lightOf_20)]
theorem bq_X5_lightOf_0 : lkB bl_X5_lightOf 0 = bk_X5_lightOf_0 := rfl
theorem bq_X5_lightOf_20 : lkB bl_X5_lightOf 20 = bk_X5_lightOf_20 := rfl
set_option maxRecDepth 20000 in
theorem ck_X5_lightOf : ckB rs_X5_lightOf false 5 3 prog_7_method_5_code bl_X5_lightOf = true := by decide +kernel

def rs_X6_init : Rs := rf_X6 [(2, 5, 0, 900, 0), (2, 14, 1, 34, 0)]
def bk_X6_init_0 : List It := [(.aload_n 0, 1, 0, 0, 0, 0), (.invokespecial 5, 3, 0, 900, 0, 0)]
def bk_X6_init_4 : List It := [(.aload_n 0, 1, 0, 0, 0, 0), (.iconst 3, 1, 0, 0, 0, 3), (.anewarray 11, 3, 27, 0, 0, 0), (.dup, 1, 0, 0, 0, 0), (.iconst 0, 1, 0, 0, 0, 0), (.new 11, 3, 8, 6, 0, 0), (.dup, 1, 0, 0, 0, 0), (.ldc 13, 2, 0, 0, 0, 2147483647), (.invokespecial 14, 3, 1, 34, 0, 0)]
def bk_X6_init_20 : List It := [(.aastore, 1, 0, 0, 0, 0), (.dup, 1, 0, 0, 0, 0), (.iconst 1, 1, 0, 0, 0, 1), (.new 11, 3, 8, 6, 0, 0), (.dup, 1, 0, 0, 0, 0), (.ldc 17, 2, 0, 0, 0, 2147483629), (.invokespecial 14, 3, 1, 34, 0, 0)]
def bk_X6_init_32 : List It := [(.aastore, 1, 0, 0, 0, 0), (.dup, 1, 0, 0, 0, 0), (.iconst 2, 1, 0, 0, 0, 2), (.new 11, 3, 8, 6, 0, 0), (.dup, 1, 0, 0, 0, 0), (.ldc 18, 2, 0, 0, 0, 2147483587), (.invokespecial 14, 3, 1, 34, 0, 0)]
def bk_X6_init_44 : List It := [(.aastore, 1, 0, 0, 0, 0), (.putfield 19, 3, 6, 0, 2, 0)]
def bk_X6_init_48 : List It := [(.aload_n 0, 1, 0, 0, 0, 0), (.bipush 19, 2, 0, 0, 0, 19), (.newarray .int, 2, 106, 0, 0, 0), (.putfield 23, 3, 6, 1, 2, 0)]
def bk_X6_init_56 : List It := [(.return_, 1, 0, 0, 0, 0)]
def bl_X6_init : List (Nat × List It) := [(0, bk_X6_init_0), (4, bk_X6_init_4), (20, bk_X6_init_20), (32, bk_X6_init_32), (44, bk_X6_init_44), (48, bk_X6_init_48), (56, bk_X6_init_56)]
theorem bq_X6_init_0 : lkB bl_X6_init 0 = bk_X6_init_0 := rfl
theorem bq_X6_init_4 : lkB bl_X6_init 4 = bk_X6_init_4 := rfl
theorem bq_X6_init_20 : lkB bl_X6_init 20 = bk_X6_init_20 := rfl
theorem bq_X6_init_32 : lkB bl_X6_init 32 = bk_X6_init_32 := rfl
theorem bq_X6_init_44 : lkB bl_X6_init 44 = bk_X6_init_44 := rfl
theorem bq_X6_init_48 : lkB bl_X6_init 48 = bk_X6_init_48 := rfl
theorem bq_X6_init_56 : lkB bl_X6_init 56 = bk_X6_init_56 := rfl
set_option maxRecDepth 20000 in
theorem ck_X6_init : ckB rs_X6_init true 6 1 prog_8_method_1_code bl_X6_init = true := by decide +kernel

def rs_X6_clear : Rs := rf_X6 [(0, 27, 0, 35, 8)]
def bk_X6_clear_0 : List It := [(.iconst 0, 1, 0, 0, 0, 0), (.istore_n 1, 1, 1, 0, 0, 0)]
def bk_X6_clear_2 : List It := [(.iload_n 1, 1, 1, 0, 0, 0), (.aload_n 0, 1, 0, 0, 0, 0), (.getfield 19, 3, 6, 0, 2, 0), (.arraylength, 1, 0, 0, 0, 0), (.if_icmp .ge 18, 3, 26, 0, 0, 0), (.aload_n 0, 1, 0, 0, 0, 0), (.getfield 19, 3, 6, 0, 2, 0), (.iload_n 1, 1, 1, 0, 0, 0), (.aaload, 1, 0, 0, 0, 0), (.invokevirtual 27, 3, 0, 35, 8, 0)]
def bk_X6_clear_20 : List It := [(.iinc 1 1, 3, 1, 0, 0, 1), (.goto (-21), 3, 2, 0, 0, 0)]
def bk_X6_clear_26 : List It := [(.return_, 1, 0, 0, 0, 0)]
def bl_X6_clear : List (Nat × List It) := [(0, bk_X6_clear_0), (2, bk_X6_clear_2), (20, bk_X6_clear_20), (26, bk_X6_clear_26)]
theorem bq_X6_clear_0 : lkB bl_X6_clear 0 = bk_X6_clear_0 := rfl
theorem bq_X6_clear_2 : lkB bl_X6_clear 2 = bk_X6_clear_2 := rfl
theorem bq_X6_clear_20 : lkB bl_X6_clear 20 = bk_X6_clear_20 := rfl
theorem bq_X6_clear_26 : lkB bl_X6_clear 26 = bk_X6_clear_26 := rfl
set_option maxRecDepth 20000 in
theorem ck_X6_clear : ckB rs_X6_clear false 6 2 prog_8_method_2_code bl_X6_clear = true := by decide +kernel

def rs_X6_addEye : Rs := rf_X6 [(0, 51, 5, 25, 6)]
def bk_X6_addEye_0 : List It := [(.aload_n 0, 1, 0, 0, 0, 0), (.aload_n 1, 1, 1, 0, 0, 0), (.getfield 30, 3, 0, 0, 2, 0), (.getfield 36, 3, 3, 0, 0, 0), (.aload_n 1, 1, 1, 0, 0, 0), (.getfield 42, 3, 0, 1, 2, 0), (.getfield 36, 3, 3, 0, 0, 0), (.aload_n 1, 1, 1, 0, 0, 0), (.getfield 45, 3, 0, 2, 0, 0), (.aload_n 1, 1, 1, 0, 0, 0), (.getfield 48, 3, 0, 3, 0, 0), (.iload_n 2, 1, 2, 0, 0, 0), (.invokevirtual 51, 3, 5, 25, 6, 0)]
def bk_X6_addEye_27 : List It := [(.return_, 1, 0, 0, 0, 0)]
def bl_X6_addEye : List (Nat × List It) := [(0, bk_X6_addEye_0), (27, bk_X6_addEye_27)]
theorem bq_X6_addEye_0 : lkB bl_X6_addEye 0 = bk_X6_addEye_0 := rfl
theorem bq_X6_addEye_27 : lkB bl_X6_addEye 27 = bk_X6_addEye_27 := rfl
set_option maxRecDepth 20000 in
theorem ck_X6_addEye : ckB rs_X6_addEye false 6 3 prog_8_method_3_code bl_X6_addEye = true := by decide +kernel

def rs_X6_add : Rs := rf_X6 [(0, 55, 4, 26, 6), (0, 59, 1, 36, 8)]
def bk_X6_add_0 : List It := [(.iconst 0, 1, 0, 0, 0, 0), (.istore 6, 2, 6, 0, 0, 0)]
def bk_X6_add_3 : List It := [(.iload 6, 2, 6, 0, 0, 0), (.bipush 19, 2, 0, 0, 0, 19), (.if_icmp .ge 17, 3, 24, 0, 0, 0), (.aload_n 0, 1, 0, 0, 0, 0), (.getfield 23, 3, 6, 1, 2, 0), (.iload 6, 2, 6, 0, 0, 0), (.iconst 0, 1, 0, 0, 0, 0), (.iastore, 1, 0, 0, 0, 0), (.iinc 6 1, 3, 6, 0, 0, 1), (.goto (-18), 3, 3, 0, 0, 0)]
def bk_X6_add_24 : List It := [(.aload_n 0, 1, 0, 0, 0, 0), (.iload_n 1, 1, 1, 0, 0, 0), (.iload_n 3, 1, 3, 0, 0, 0), (.iload 4, 2, 4, 0, 0, 0), (.iconst 1, 1, 0, 0, 0, 1), (.invokevirtual 55, 3, 4, 26, 6, 0)]
def bk_X6_add_33 : List It := [(.aload_n 0, 1, 0, 0, 0, 0), (.iload_n 2, 1, 2, 0, 0, 0), (.iload_n 3, 1, 3, 0, 0, 0), (.iload 4, 2, 4, 0, 0, 0), (.iconst (-1), 1, 0, 0, 0, (-1)), (.invokevirtual 55, 3, 4, 26, 6, 0)]
def bk_X6_add_42 : List It := [(.aload_n 0, 1, 0, 0, 0, 0), (.getfield 23, 3, 6, 1, 2, 0), (.bipush 18, 2, 0, 0, 0, 18), (.iload 5, 2, 5, 0, 0, 0), (.iastore, 1, 0, 0, 0, 0), (.iconst 0, 1, 0, 0, 0, 0), (.istore 6, 2, 6, 0, 0, 0)]
def bk_X6_add_54 : List It := [(.iload 6, 2, 6, 0, 0, 0), (.aload_n 0, 1, 0, 0, 0, 0), (.getfield 19, 3, 6, 0, 2, 0), (.arraylength, 1, 0, 0, 0, 0), (.if_icmp .ge 23, 3, 84, 0, 0, 0), (.aload_n 0, 1, 0, 0, 0, 0), (.getfield 19, 3, 6, 0, 2, 0), (.iload 6, 2, 6, 0, 0, 0), (.aaload, 1, 0, 0, 0, 0), (.aload_n 0, 1, 0, 0, 0, 0), (.getfield 23, 3, 6, 1, 2, 0), (.invokevirtual 59, 3, 1, 36, 8, 0)]
def bk_X6_add_78 : List It := [(.iinc 6 1, 3, 6, 0, 0, 1), (.goto (-27), 3, 54, 0, 0, 0)]
def bk_X6_add_84 : List It := [(.return_, 1, 0, 0, 0, 0)]
def bl_X6_add : List (Nat × List It) := [(0, bk_X6_add_0), (3, bk_X6_add_3), (24, bk_X6_add_24), (33, bk_X6_add_33), (42, bk_X6_add_42), (54, bk_X6_add_54), (78, bk_X6_add_78), (84, bk_X6_add_84)]
theorem bq_X6_add_0 : lkB bl_X6_add 0 = bk_X6_add_0 := rfl
theorem bq_X6_add_3 : lkB bl_X6_add 3 = bk_X6_add_3 := rfl
theorem bq_X6_add_24 : lkB bl_X6_add 24 = bk_X6_add_24 := rfl
theorem bq_X6_add_33 : lkB bl_X6_add 33 = bk_X6_add_33 := rfl
theorem bq_X6_add_42 : lkB bl_X6_add 42 = bk_X6_add_42 := rfl
theorem bq_X6_add_54 : lkB bl_X6_add 54 = bk_X6_add_54 := rfl
theorem bq_X6_add_78 : lkB bl_X6_add 78 = bk_X6_add_78 := rfl
theorem bq_X6_add_84 : lkB bl_X6_add 84 = bk_X6_add_84 := rfl
set_option maxRecDepth 20000 in
theorem ck_X6_add : ckB rs_X6_add false 6 7 prog_8_method_4_code bl_X6_add = true := by decide +kernel

def rs_X6_addPoint : Rs := rf_X6 []
def bk_X6_addPoint_0 : List It := [(.iconst 3, 1, 0, 0, 0, 3), (.iload_n 1, 1, 1, 0, 0, 0), (.iconst 1, 1, 0, 0, 0, 1), (.isub, 1, 0, 0, 0, 0), (.imul, 1, 0, 0, 0, 0), (.istore 5, 2, 5, 0, 0, 0), (.iload 5, 2, 5, 0, 0, 0), (.ifCond .lt 56, 3, 65, 0, 0, 0), (.iload 5, 2, 5, 0, 0, 0), (.iconst 2, 1, 0, 0, 0, 2), (.iadd, 1, 0, 0, 0, 0), (.bipush 18, 2, 0, 0, 0, 18), (.if_icmp .ge 47, 3, 65, 0, 0, 0), (.aload_n 0, 1, 0, 0, 0, 0), (.getfield 23, 3, 6, 1, 2, 0), (.iload 5, 2, 5, 0, 0, 0), (.dup2, 1, 0, 0, 0, 0), (.iaload, 1, 0, 0, 0, 0), (.iload 4, 2, 4, 0, 0, 0), (.iadd, 1, 0, 0, 0, 0), (.iastore, 1, 0, 0, 0, 0), (.aload_n 0, 1, 0, 0, 0, 0), (.getfield 23, 3, 6, 1, 2, 0), (.iload 5, 2, 5, 0, 0, 0), (.iconst 1, 1, 0, 0, 0, 1), (.iadd, 1, 0, 0, 0, 0), (.dup2, 1, 0, 0, 0, 0), (.iaload, 1, 0, 0, 0, 0), (.iload 4, 2, 4, 0, 0, 0), (.iload_n 2, 1, 2, 0, 0, 0), (.imul, 1, 0, 0, 0, 0), (.iadd, 1, 0, 0, 0, 0), (.iastore, 1, 0, 0, 0, 0), (.aload_n 0, 1, 0, 0, 0, 0), (.getfield 23, 3, 6, 1, 2, 0), (.iload 5, 2, 5, 0, 0, 0), (.iconst 2, 1, 0, 0, 0, 2), (.iadd, 1, 0, 0, 0, 0), (.dup2, 1, 0, 0, 0, 0), (.iaload, 1, 0, 0, 0, 0), (.iload 4, 2, 4, 0, 0, 0), (.iload_n 3, 1, 3, 0, 0, 0), (.imul, 1, 0, 0, 0, 0), (.iadd, 1, 0, 0, 0, 0), (.iastore, 1, 0, 0, 0, 0)]
def bk_X6_addPoint_65 : List It := [(.return_, 1, 0, 0, 0, 0)]
def bl_X6_addPoint : List (Nat × List It) := [(0, bk_X6_addPoint_0), (65, bk_X6_addPoint_65)]
theorem bq_X6_addPoint_0 : lkB bl_X6_addPoint 0 = bk_X6_addPoint_0 := rfl
theorem bq_X6_addPoint_65 : lkB bl_X6_addPoint 65 = bk_X6_addPoint_65 := rfl
set_option maxRecDepth 20000 in
theorem ck_X6_addPoint : ckB rs_X6_addPoint false 6 6 prog_8_method_5_code bl_X6_addPoint = true := by decide +kernel

def rs_X6_rank : Rs := rf_X6 [(1, 65, 2, 194, 0)]
def bk_X6_rank_0 : List It := [(.iconst 0, 1, 0, 0, 0, 0), (.istore_n 1, 1, 1, 0, 0, 0), (.iconst 0, 1, 0, 0, 0, 0), (.istore_n 2, 1, 2, 0, 0, 0)]
def bk_X6_rank_4 : List It := [(.iload_n 2, 1, 2, 0, 0, 0), (.aload_n 0, 1, 0, 0, 0, 0), (.getfield 19, 3, 6, 0, 2, 0), (.arraylength, 1, 0, 0, 0, 0), (.if_icmp .ge 23, 3, 33, 0, 0, 0), (.iload_n 1, 1, 1, 0, 0, 0), (.aload_n 0, 1, 0, 0, 0, 0), (.getfield 19, 3, 6, 0, 2, 0), (.iload_n 2, 1, 2, 0, 0, 0), (.aaload, 1, 0, 0, 0, 0), (.getfield 62, 3, 8, 4, 0, 0), (.invokestatic 65, 3, 2, 194, 0, 0)]
def bk_X6_rank_26 : List It := [(.istore_n 1, 1, 1, 0, 0, 0), (.iinc 2 1, 3, 2, 0, 0, 1), (.goto (-26), 3, 4, 0, 0, 0)]
def bk_X6_rank_33 : List It := [(.iload_n 1, 1, 1, 0, 0, 0), (.ireturn, 1, 0, 0, 0, 0)]
def bl_X6_rank : List (Nat × List It) := [(0, bk_X6_rank_0), (4, bk_X6_rank_4), (26, bk_X6_rank_26), (33, bk_X6_rank_33)]
theorem bq_X6_rank_0 : lkB bl_X6_rank 0 = bk_X6_rank_0 := rfl
theorem bq_X6_rank_4 : lkB bl_X6_rank 4 = bk_X6_rank_4 := rfl
theorem bq_X6_rank_26 : lkB bl_X6_rank 26 = bk_X6_rank_26 := rfl
theorem bq_X6_rank_33 : lkB bl_X6_rank 33 = bk_X6_rank_33 := rfl
set_option maxRecDepth 20000 in
theorem ck_X6_rank : ckB rs_X6_rank false 6 3 prog_8_method_6_code bl_X6_rank = true := by decide +kernel

def rs_X6_agrees : Rs := rf_X6 [(1, 65, 2, 194, 0), (0, 74, 0, 27, 6)]
def bk_X6_agrees_0 : List It := [(.iconst 0, 1, 0, 0, 0, 0), (.istore_n 1, 1, 1, 0, 0, 0), (.iconst 0, 1, 0, 0, 0, 0), (.istore_n 2, 1, 2, 0, 0, 0)]
def bk_X6_agrees_4 : List It := [(.iload_n 2, 1, 2, 0, 0, 0), (.aload_n 0, 1, 0, 0, 0, 0), (.getfield 19, 3, 6, 0, 2, 0), (.arraylength, 1, 0, 0, 0, 0), (.if_icmp .ge 23, 3, 33, 0, 0, 0), (.iload_n 1, 1, 1, 0, 0, 0), (.aload_n 0, 1, 0, 0, 0, 0), (.getfield 19, 3, 6, 0, 2, 0), (.iload_n 2, 1, 2, 0, 0, 0), (.aaload, 1, 0, 0, 0, 0), (.getfield 71, 3, 8, 5, 0, 0), (.invokestatic 65, 3, 2, 194, 0, 0)]
def bk_X6_agrees_26 : List It := [(.istore_n 1, 1, 1, 0, 0, 0), (.iinc 2 1, 3, 2, 0, 0, 1), (.goto (-26), 3, 4, 0, 0, 0)]
def bk_X6_agrees_33 : List It := [(.iload_n 1, 1, 1, 0, 0, 0), (.aload_n 0, 1, 0, 0, 0, 0), (.invokevirtual 74, 3, 0, 27, 6, 0)]
def bk_X6_agrees_38 : List It := [(.if_icmp .ne 7, 3, 45, 0, 0, 0), (.iconst 1, 1, 0, 0, 0, 1), (.goto 4, 3, 46, 0, 0, 0)]
def bk_X6_agrees_45 : List It := [(.iconst 0, 1, 0, 0, 0, 0)]
def bk_X6_agrees_46 : List It := [(.ireturn, 1, 0, 0, 0, 0)]
def bl_X6_agrees : List (Nat × List It) := [(0, bk_X6_agrees_0), (4, bk_X6_agrees_4), (26, bk_X6_agrees_26), (33, bk_X6_agrees_33), (38, bk_X6_agrees_38), (45, bk_X6_agrees_45), (46, bk_X6_agrees_46)]
theorem bq_X6_agrees_0 : lkB bl_X6_agrees 0 = bk_X6_agrees_0 := rfl
theorem bq_X6_agrees_4 : lkB bl_X6_agrees 4 = bk_X6_agrees_4 := rfl
theorem bq_X6_agrees_26 : lkB bl_X6_agrees 26 = bk_X6_agrees_26 := rfl
theorem bq_X6_agrees_33 : lkB bl_X6_agrees 33 = bk_X6_agrees_33 := rfl
theorem bq_X6_agrees_38 : lkB bl_X6_agrees 38 = bk_X6_agrees_38 := rfl
theorem bq_X6_agrees_45 : lkB bl_X6_agrees 45 = bk_X6_agrees_45 := rfl
theorem bq_X6_agrees_46 : lkB bl_X6_agrees 46 = bk_X6_agrees_46 := rfl
set_option maxRecDepth 20000 in
theorem ck_X6_agrees : ckB rs_X6_agrees false 6 3 prog_8_method_7_code bl_X6_agrees = true := by decide +kernel

def rs_X7_init : Rs := rf_X7 [(2, 3, 0, 900, 0)]
def bk_X7_init_0 : List It := [(.aload_n 0, 1, 0, 0, 0, 0), (.invokespecial 3, 3, 0, 900, 0, 0)]
def bk_X7_init_4 : List It := [(.return_, 1, 0, 0, 0, 0)]
def bl_X7_init : List (Nat × List It) := [(0, bk_X7_init_0), (4, bk_X7_init_4)]
theorem bq_X7_init_0 : lkB bl_X7_init 0 = bk_X7_init_0 := rfl
theorem bq_X7_init_4 : lkB bl_X7_init 4 = bk_X7_init_4 := rfl
set_option maxRecDepth 20000 in
theorem ck_X7_init : ckB rs_X7_init true 7 1 prog_9_method_1_code bl_X7_init = true := by decide +kernel

def rs_X7_near : Rs := rf_X7 [(0, 15, 2, 13, 3)]
def bk_X7_near_0 : List It := [(.iconst 0, 1, 0, 0, 0, 0), (.istore 5, 2, 5, 0, 0, 0), (.iconst 0, 1, 0, 0, 0, 0), (.istore 6, 2, 6, 0, 0, 0)]
def bk_X7_near_6 : List It := [(.iload 6, 2, 6, 0, 0, 0), (.iload_n 1, 1, 1, 0, 0, 0), (.if_icmp .ge 36, 3, 45, 0, 0, 0), (.aload_n 0, 1, 0, 0, 0, 0), (.iload 6, 2, 6, 0, 0, 0), (.aaload, 1, 0, 0, 0, 0), (.getfield 9, 3, 3, 1, 1, 0), (.ifCond .eq 20, 3, 39, 0, 0, 0), (.aload_n 0, 1, 0, 0, 0, 0), (.iload 6, 2, 6, 0, 0, 0), (.aaload, 1, 0, 0, 0, 0), (.iload_n 2, 1, 2, 0, 0, 0), (.iload_n 3, 1, 3, 0, 0, 0), (.invokevirtual 15, 3, 2, 13, 3, 0), (.iload 4, 2, 4, 0, 0, 0), (.if_icmp .gt 6, 3, 39, 0, 0, 0), (.iinc 5 1, 3, 5, 0, 0, 1)]
def bk_X7_near_39 : List It := [(.iinc 6 1, 3, 6, 0, 0, 1), (.goto (-36), 3, 6, 0, 0, 0)]
def bk_X7_near_45 : List It := [(.iload 5, 2, 5, 0, 0, 0), (.ireturn, 1, 0, 0, 0, 0)]
def bl_X7_near : List (Nat × List It) := [(0, bk_X7_near_0), (6, bk_X7_near_6), (39, bk_X7_near_39), (45, bk_X7_near_45)]
theorem bq_X7_near_0 : lkB bl_X7_near 0 = bk_X7_near_0 := rfl
theorem bq_X7_near_6 : lkB bl_X7_near 6 = bk_X7_near_6 := rfl
theorem bq_X7_near_39 : lkB bl_X7_near 39 = bk_X7_near_39 := rfl
theorem bq_X7_near_45 : lkB bl_X7_near 45 = bk_X7_near_45 := rfl
set_option maxRecDepth 20000 in
theorem ck_X7_near : ckB rs_X7_near false 7 7 prog_9_method_2_code bl_X7_near = true := by decide +kernel

def rs_X7_search : Rs := rf_X7 [(1, 43, 1, 33, 0), (1, 47, 5, 30, 0), (0, 51, 3, 32, 7)]
def bk_X7_search_0 : List It := [(.aload_n 0, 1, 0, 0, 0, 0), (.bipush (-40), 2, 0, 0, 0, (-40)), (.putfield 19, 3, 7, 0, 0, 0), (.aload_n 0, 1, 0, 0, 0, 0), (.bipush (-40), 2, 0, 0, 0, (-40)), (.putfield 25, 3, 7, 1, 0, 0), (.aload_n 0, 1, 0, 0, 0, 0), (.iconst 0, 1, 0, 0, 0, 0), (.putfield 28, 3, 7, 2, 0, 0), (.bipush (-40), 2, 0, 0, 0, (-40)), (.istore 4, 2, 4, 0, 0, 0)]
def bk_X7_search_21 : List It := [(.iload 4, 2, 4, 0, 0, 0), (.bipush 40, 2, 0, 0, 0, 40), (.if_icmp .gt 103, 3, 128, 0, 0, 0), (.iconst 0, 1, 0, 0, 0, 0), (.istore 5, 2, 5, 0, 0, 0)]
def bk_X7_search_31 : List It := [(.iload 5, 2, 5, 0, 0, 0), (.iload_n 2, 1, 2, 0, 0, 0), (.if_icmp .ge 88, 3, 122, 0, 0, 0), (.iconst 2, 1, 0, 0, 0, 2), (.aload_n 1, 1, 1, 0, 0, 0), (.iload 5, 2, 5, 0, 0, 0), (.aaload, 1, 0, 0, 0, 0), (.getfield 31, 3, 3, 2, 2, 0), (.getfield 35, 3, 4, 2, 0, 0), (.imul, 1, 0, 0, 0, 0), (.iload 4, 2, 4, 0, 0, 0), (.isub, 1, 0, 0, 0, 0), (.istore 6, 2, 6, 0, 0, 0), (.aload_n 1, 1, 1, 0, 0, 0), (.iload 5, 2, 5, 0, 0, 0), (.aaload, 1, 0, 0, 0, 0), (.getfield 9, 3, 3, 1, 1, 0), (.ifCond .eq 55, 3, 116, 0, 0, 0), (.iload 6, 2, 6, 0, 0, 0), (.iload 6, 2, 6, 0, 0, 0), (.imul, 1, 0, 0, 0, 0), (.iload_n 3, 1, 3, 0, 0, 0), (.if_icmp .gt 46, 3, 116, 0, 0, 0), (.iconst 2, 1, 0, 0, 0, 2), (.aload_n 1, 1, 1, 0, 0, 0), (.iload 5, 2, 5, 0, 0, 0), (.aaload, 1, 0, 0, 0, 0), (.getfield 31, 3, 3, 2, 2, 0), (.getfield 40, 3, 4, 1, 0, 0), (.imul, 1, 0, 0, 0, 0), (.iload_n 3, 1, 3, 0, 0, 0), (.iload 6, 2, 6, 0, 0, 0), (.iload 6, 2, 6, 0, 0, 0), (.imul, 1, 0, 0, 0, 0), (.isub, 1, 0, 0, 0, 0), (.invokestatic 43, 3, 1, 33, 0, 0)]
def bk_X7_search_95 : List It := [(.isub, 1, 0, 0, 0, 0), (.istore 7, 2, 7, 0, 0, 0), (.aload_n 0, 1, 0, 0, 0, 0), (.iload 7, 2, 7, 0, 0, 0), (.iload 4, 2, 4, 0, 0, 0), (.aload_n 1, 1, 1, 0, 0, 0), (.iload_n 2, 1, 2, 0, 0, 0), (.iload 7, 2, 7, 0, 0, 0), (.iload 4, 2, 4, 0, 0, 0), (.iload_n 3, 1, 3, 0, 0, 0), (.invokestatic 47, 3, 5, 30, 0, 0)]
def bk_X7_search_113 : List It := [(.invokevirtual 51, 3, 3, 32, 7, 0)]
def bk_X7_search_116 : List It := [(.iinc 5 1, 3, 5, 0, 0, 1), (.goto (-88), 3, 31, 0, 0, 0)]
def bk_X7_search_122 : List It := [(.iinc 4 1, 3, 4, 0, 0, 1), (.goto (-104), 3, 21, 0, 0, 0)]
def bk_X7_search_128 : List It := [(.return_, 1, 0, 0, 0, 0)]
def bl_X7_search : List (Nat × List It) := [(0, bk_X7_search_0), (21, bk_X7_search_21), (31, bk_X7_search_31), (95, bk_X7_search_95), (113, bk_X7_search_113), (116, bk_X7_search_116), (122, bk_X7_search_122), (128, bk_X7_search_128)]
theorem bq_X7_search_0 : lkB bl_X7_search 0 = bk_X7_search_0 := rfl
theorem bq_X7_search_21 : lkB bl_X7_search 21 = bk_X7_search_21 := rfl
theorem bq_X7_search_31 : lkB bl_X7_search 31 = bk_X7_search_31 := rfl
theorem bq_X7_search_95 : lkB bl_X7_search 95 = bk_X7_search_95 := rfl
theorem bq_X7_search_113 : lkB bl_X7_search 113 = bk_X7_search_113 := rfl
theorem bq_X7_search_116 : lkB bl_X7_search 116 = bk_X7_search_116 := rfl
theorem bq_X7_search_122 : lkB bl_X7_search 122 = bk_X7_search_122 := rfl
theorem bq_X7_search_128 : lkB bl_X7_search 128 = bk_X7_search_128 := rfl
set_option maxRecDepth 20000 in
theorem ck_X7_search : ckB rs_X7_search false 7 8 prog_9_method_3_code bl_X7_search = true := by decide +kernel

def rs_X7_take : Rs := rf_X7 []
def bk_X7_take_0 : List It := [(.iload_n 3, 1, 3, 0, 0, 0), (.aload_n 0, 1, 0, 0, 0, 0), (.getfield 28, 3, 7, 2, 0, 0), (.if_icmp .gt 27, 3, 32, 0, 0, 0), (.iload_n 3, 1, 3, 0, 0, 0), (.aload_n 0, 1, 0, 0, 0, 0), (.getfield 28, 3, 7, 2, 0, 0), (.if_icmp .ne 34, 3, 47, 0, 0, 0), (.iload_n 2, 1, 2, 0, 0, 0), (.aload_n 0, 1, 0, 0, 0, 0), (.getfield 25, 3, 7, 1, 0, 0), (.if_icmp .ne 26, 3, 47, 0, 0, 0), (.iload_n 1, 1, 1, 0, 0, 0), (.aload_n 0, 1, 0, 0, 0, 0), (.getfield 19, 3, 7, 0, 0, 0), (.if_icmp .ge 18, 3, 47, 0, 0, 0)]
def bk_X7_take_32 : List It := [(.aload_n 0, 1, 0, 0, 0, 0), (.iload_n 1, 1, 1, 0, 0, 0), (.putfield 19, 3, 7, 0, 0, 0), (.aload_n 0, 1, 0, 0, 0, 0), (.iload_n 2, 1, 2, 0, 0, 0), (.putfield 25, 3, 7, 1, 0, 0), (.aload_n 0, 1, 0, 0, 0, 0), (.iload_n 3, 1, 3, 0, 0, 0), (.putfield 28, 3, 7, 2, 0, 0)]
def bk_X7_take_47 : List It := [(.return_, 1, 0, 0, 0, 0)]
def bl_X7_take : List (Nat × List It) := [(0, bk_X7_take_0), (32, bk_X7_take_32), (47, bk_X7_take_47)]
theorem bq_X7_take_0 : lkB bl_X7_take 0 = bk_X7_take_0 := rfl
theorem bq_X7_take_32 : lkB bl_X7_take 32 = bk_X7_take_32 := rfl
theorem bq_X7_take_47 : lkB bl_X7_take 47 = bk_X7_take_47 := rfl
set_option maxRecDepth 20000 in
theorem ck_X7_take : ckB rs_X7_take false 7 4 prog_9_method_4_code bl_X7_take = true := by decide +kernel

def rs_X7_rootOf : Rs := rf_X7 []
def bk_X7_rootOf_0 : List It := [(.iconst 0, 1, 0, 0, 0, 0), (.istore_n 1, 1, 1, 0, 0, 0)]
def bk_X7_rootOf_2 : List It := [(.iload_n 1, 1, 1, 0, 0, 0), (.bipush 20, 2, 0, 0, 0, 20), (.if_icmp .ge 20, 3, 25, 0, 0, 0), (.iload_n 1, 1, 1, 0, 0, 0), (.iconst 1, 1, 0, 0, 0, 1), (.iadd, 1, 0, 0, 0, 0), (.iload_n 1, 1, 1, 0, 0, 0), (.iconst 1, 1, 0, 0, 0, 1), (.iadd, 1, 0, 0, 0, 0), (.imul, 1, 0, 0, 0, 0), (.iload_n 0, 1, 0, 0, 0, 0), (.if_icmp .gt 9, 3, 25, 0, 0, 0), (.iinc 1 1, 3, 1, 0, 0, 1), (.goto (-20), 3, 2, 0, 0, 0)]
def bk_X7_rootOf_25 : List It := [(.iload_n 1, 1, 1, 0, 0, 0), (.ireturn, 1, 0, 0, 0, 0)]
def bl_X7_rootOf : List (Nat × List It) := [(0, bk_X7_rootOf_0), (2, bk_X7_rootOf_2), (25, bk_X7_rootOf_25)]
theorem bq_X7_rootOf_0 : lkB bl_X7_rootOf 0 = bk_X7_rootOf_0 := rfl
theorem bq_X7_rootOf_2 : lkB bl_X7_rootOf 2 = bk_X7_rootOf_2 := rfl
theorem bq_X7_rootOf_25 : lkB bl_X7_rootOf 25 = bk_X7_rootOf_25 := rfl
set_option maxRecDepth 20000 in
theorem ck_X7_rootOf : ckB rs_X7_rootOf false 7 2 prog_9_method_5_code bl_X7_rootOf = true := by decide +kernel

def rs_X8_init : Rs := rf_X8 [(2, 1, 0, 900, 0), (1, 24, 2, 194, 0)]
def bk_X8_init_0 : List It := [(.aload_n 0, 1, 0, 0, 0, 0), (.invokespecial 1, 3, 0, 900, 0, 0)]
def bk_X8_init_4 : List It := [(.aload_n 0, 1, 0, 0, 0, 0), (.bipush 19, 2, 0, 0, 0, 19), (.bipush 19, 2, 0, 0, 0, 19), (.multianewarray 9 2, 4, 28, 190, 0, 0), (.putfield 11, 3, 8, 1, 2, 0)]
def bk_X8_init_16 : List It := [(.aload_n 0, 1, 0, 0, 0, 0), (.bipush 19, 2, 0, 0, 0, 19), (.newarray .boolean, 2, 200, 0, 0, 0), (.putfield 16, 3, 8, 2, 2, 0)]
def bk_X8_init_24 : List It := [(.aload_n 0, 1, 0, 0, 0, 0), (.bipush 19, 2, 0, 0, 0, 19), (.newarray .int, 2, 107, 0, 0, 0), (.putfield 20, 3, 8, 3, 2, 0)]
def bk_X8_init_32 : List It := [(.aload_n 0, 1, 0, 0, 0, 0), (.iload_n 1, 1, 1, 0, 0, 0), (.iconst 2, 1, 0, 0, 0, 2), (.invokestatic 24, 3, 2, 194, 0, 0)]
def bk_X8_init_38 : List It := [(.putfield 30, 3, 8, 0, 0, 0)]
def bk_X8_init_41 : List It := [(.return_, 1, 0, 0, 0, 0)]
def bl_X8_init : List (Nat × List It) := [(0, bk_X8_init_0), (4, bk_X8_init_4), (16, bk_X8_init_16), (24, bk_X8_init_24), (32, bk_X8_init_32), (38, bk_X8_init_38), (41, bk_X8_init_41)]
theorem bq_X8_init_0 : lkB bl_X8_init 0 = bk_X8_init_0 := rfl
theorem bq_X8_init_4 : lkB bl_X8_init 4 = bk_X8_init_4 := rfl
theorem bq_X8_init_16 : lkB bl_X8_init 16 = bk_X8_init_16 := rfl
theorem bq_X8_init_24 : lkB bl_X8_init 24 = bk_X8_init_24 := rfl
theorem bq_X8_init_32 : lkB bl_X8_init 32 = bk_X8_init_32 := rfl
theorem bq_X8_init_38 : lkB bl_X8_init 38 = bk_X8_init_38 := rfl
theorem bq_X8_init_41 : lkB bl_X8_init 41 = bk_X8_init_41 := rfl
set_option maxRecDepth 20000 in
theorem ck_X8_init : ckB rs_X8_init true 8 2 prog_10_method_1_code bl_X8_init = true := by decide +kernel

def rs_X8_clear : Rs := rf_X8 []
def bk_X8_clear_0 : List It := [(.iconst 0, 1, 0, 0, 0, 0), (.istore_n 1, 1, 1, 0, 0, 0)]
def bk_X8_clear_2 : List It := [(.iload_n 1, 1, 1, 0, 0, 0), (.bipush 19, 2, 0, 0, 0, 19), (.if_icmp .ge 16, 3, 21, 0, 0, 0), (.aload_n 0, 1, 0, 0, 0, 0), (.getfield 16, 3, 8, 2, 2, 0), (.iload_n 1, 1, 1, 0, 0, 0), (.iconst 0, 1, 0, 0, 0, 0), (.bastore, 1, 0, 0, 0, 0), (.iinc 1 1, 3, 1, 0, 0, 1), (.goto (-16), 3, 2, 0, 0, 0)]
def bk_X8_clear_21 : List It := [(.aload_n 0, 1, 0, 0, 0, 0), (.iconst 0, 1, 0, 0, 0, 0), (.putfield 34, 3, 8, 4, 0, 0), (.aload_n 0, 1, 0, 0, 0, 0), (.iconst 0, 1, 0, 0, 0, 0), (.putfield 37, 3, 8, 5, 0, 0), (.return_, 1, 0, 0, 0, 0)]
def bl_X8_clear : List (Nat × List It) := [(0, bk_X8_clear_0), (2, bk_X8_clear_2), (21, bk_X8_clear_21)]
theorem bq_X8_clear_0 : lkB bl_X8_clear 0 = bk_X8_clear_0 := rfl
theorem bq_X8_clear_2 : lkB bl_X8_clear 2 = bk_X8_clear_2 := rfl
theorem bq_X8_clear_21 : lkB bl_X8_clear 21 = bk_X8_clear_21 := rfl
set_option maxRecDepth 20000 in
theorem ck_X8_clear : ckB rs_X8_clear false 8 2 prog_10_method_2_code bl_X8_clear = true := by decide +kernel

def rs_X8_add : Rs := rf_X8 [(0, 40, 1, 37, 8), (0, 44, 2, 38, 8)]
def bk_X8_add_0 : List It := [(.iconst 0, 1, 0, 0, 0, 0), (.istore_n 2, 1, 2, 0, 0, 0)]
def bk_X8_add_2 : List It := [(.iload_n 2, 1, 2, 0, 0, 0), (.bipush 19, 2, 0, 0, 0, 19), (.if_icmp .ge 18, 3, 23, 0, 0, 0), (.aload_n 0, 1, 0, 0, 0, 0), (.getfield 20, 3, 8, 3, 2, 0), (.iload_n 2, 1, 2, 0, 0, 0), (.aload_n 1, 1, 1, 0, 0, 0), (.iload_n 2, 1, 2, 0, 0, 0), (.iaload, 1, 0, 0, 0, 0), (.iastore, 1, 0, 0, 0, 0), (.iinc 2 1, 3, 2, 0, 0, 1), (.goto (-18), 3, 2, 0, 0, 0)]
def bk_X8_add_23 : List It := [(.iconst 0, 1, 0, 0, 0, 0), (.istore_n 2, 1, 2, 0, 0, 0)]
def bk_X8_add_25 : List It := [(.iload_n 2, 1, 2, 0, 0, 0), (.bipush 19, 2, 0, 0, 0, 19), (.if_icmp .ge 44, 3, 72, 0, 0, 0), (.aload_n 0, 1, 0, 0, 0, 0), (.getfield 20, 3, 8, 3, 2, 0), (.iload_n 2, 1, 2, 0, 0, 0), (.iaload, 1, 0, 0, 0, 0), (.ifCond .eq 29, 3, 66, 0, 0, 0), (.aload_n 0, 1, 0, 0, 0, 0), (.getfield 16, 3, 8, 2, 2, 0), (.iload_n 2, 1, 2, 0, 0, 0), (.baload, 1, 0, 0, 0, 0), (.ifCond .ne 9, 3, 55, 0, 0, 0), (.aload_n 0, 1, 0, 0, 0, 0), (.iload_n 2, 1, 2, 0, 0, 0), (.invokevirtual 40, 3, 1, 37, 8, 0)]
def bk_X8_add_54 : List It := [(.return_, 1, 0, 0, 0, 0)]
def bk_X8_add_55 : List It := [(.aload_n 0, 1, 0, 0, 0, 0), (.aload_n 0, 1, 0, 0, 0, 0), (.getfield 11, 3, 8, 1, 2, 0), (.iload_n 2, 1, 2, 0, 0, 0), (.aaload, 1, 0, 0, 0, 0), (.iload_n 2, 1, 2, 0, 0, 0), (.invokevirtual 44, 3, 2, 38, 8, 0)]
def bk_X8_add_66 : List It := [(.iinc 2 1, 3, 2, 0, 0, 1), (.goto (-44), 3, 25, 0, 0, 0)]
def bk_X8_add_72 : List It := [(.return_, 1, 0, 0, 0, 0)]
def bl_X8_add : List (Nat × List It) := [(0, bk_X8_add_0), (2, bk_X8_add_2), (23, bk_X8_add_23), (25, bk_X8_add_25), (54, bk_X8_add_54), (55, bk_X8_add_55), (66, bk_X8_add_66), (72, bk_X8_add_72)]
theorem bq_X8_add_0 : lkB bl_X8_add 0 = bk_X8_add_0 := rfl
theorem bq_X8_add_2 : lkB bl_X8_add 2 = bk_X8_add_2 := rfl
theorem bq_X8_add_23 : lkB bl_X8_add 23 = bk_X8_add_23 := rfl
theorem bq_X8_add_25 : lkB bl_X8_add 25 = bk_X8_add_25 := rfl
theorem bq_X8_add_54 : lkB bl_X8_add 54 = bk_X8_add_54 := rfl
theorem bq_X8_add_55 : lkB bl_X8_add 55 = bk_X8_add_55 := rfl
theorem bq_X8_add_66 : lkB bl_X8_add 66 = bk_X8_add_66 := rfl
theorem bq_X8_add_72 : lkB bl_X8_add 72 = bk_X8_add_72 := rfl
set_option maxRecDepth 20000 in
theorem ck_X8_add : ckB rs_X8_add false 8 3 prog_10_method_3_code bl_X8_add = true := by decide +kernel

def rs_X8_fill : Rs := rf_X8 []
def bk_X8_fill_0 : List It := [(.aload_n 0, 1, 0, 0, 0, 0), (.getfield 16, 3, 8, 2, 2, 0), (.iload_n 1, 1, 1, 0, 0, 0), (.iconst 1, 1, 0, 0, 0, 1), (.bastore, 1, 0, 0, 0, 0), (.iload_n 1, 1, 1, 0, 0, 0), (.istore_n 2, 1, 2, 0, 0, 0)]
def bk_X8_fill_9 : List It := [(.iload_n 2, 1, 2, 0, 0, 0), (.bipush 19, 2, 0, 0, 0, 19), (.if_icmp .ge 23, 3, 35, 0, 0, 0), (.aload_n 0, 1, 0, 0, 0, 0), (.getfield 11, 3, 8, 1, 2, 0), (.iload_n 1, 1, 1, 0, 0, 0), (.aaload, 1, 0, 0, 0, 0), (.iload_n 2, 1, 2, 0, 0, 0), (.aload_n 0, 1, 0, 0, 0, 0), (.getfield 20, 3, 8, 3, 2, 0), (.iload_n 2, 1, 2, 0, 0, 0), (.iaload, 1, 0, 0, 0, 0), (.iastore, 1, 0, 0, 0, 0), (.iinc 2 1, 3, 2, 0, 0, 1), (.goto (-23), 3, 9, 0, 0, 0)]
def bk_X8_fill_35 : List It := [(.aload_n 0, 1, 0, 0, 0, 0), (.dup, 1, 0, 0, 0, 0), (.getfield 37, 3, 8, 5, 0, 0), (.iconst 1, 1, 0, 0, 0, 1), (.iadd, 1, 0, 0, 0, 0), (.putfield 37, 3, 8, 5, 0, 0), (.iload_n 1, 1, 1, 0, 0, 0), (.bipush 18, 2, 0, 0, 0, 18), (.if_icmp .ge 13, 3, 61, 0, 0, 0), (.aload_n 0, 1, 0, 0, 0, 0), (.dup, 1, 0, 0, 0, 0), (.getfield 34, 3, 8, 4, 0, 0), (.iconst 1, 1, 0, 0, 0, 1), (.iadd, 1, 0, 0, 0, 0), (.putfield 34, 3, 8, 4, 0, 0)]
def bk_X8_fill_61 : List It := [(.return_, 1, 0, 0, 0, 0)]
def bl_X8_fill : List (Nat × List It) := [(0, bk_X8_fill_0), (9, bk_X8_fill_9), (35, bk_X8_fill_35), (61, bk_X8_fill_61)]
theorem bq_X8_fill_0 : lkB bl_X8_fill 0 = bk_X8_fill_0 := rfl
theorem bq_X8_fill_9 : lkB bl_X8_fill 9 = bk_X8_fill_9 := rfl
theorem bq_X8_fill_35 : lkB bl_X8_fill 35 = bk_X8_fill_35 := rfl
theorem bq_X8_fill_61 : lkB bl_X8_fill 61 = bk_X8_fill_61 := rfl
set_option maxRecDepth 20000 in
theorem ck_X8_fill : ckB rs_X8_fill false 8 3 prog_10_method_4_code bl_X8_fill = true := by decide +kernel

def rs_X8_takeOff : Rs := rf_X8 []
def bk_X8_takeOff_0 : List It := [(.aload_n 0, 1, 0, 0, 0, 0), (.getfield 20, 3, 8, 3, 2, 0), (.iload_n 2, 1, 2, 0, 0, 0), (.iaload, 1, 0, 0, 0, 0), (.i2l, 1, 0, 0, 0, 0), (.lstore_n 3, 1, 3, 0, 0, 0), (.aload_n 1, 1, 1, 0, 0, 0), (.iload_n 2, 1, 2, 0, 0, 0), (.iaload, 1, 0, 0, 0, 0), (.i2l, 1, 0, 0, 0, 0), (.lstore 5, 2, 5, 0, 0, 0), (.iload_n 2, 1, 2, 0, 0, 0), (.istore 7, 2, 7, 0, 0, 0)]
def bk_X8_takeOff_17 : List It := [(.iload 7, 2, 7, 0, 0, 0), (.bipush 19, 2, 0, 0, 0, 19), (.if_icmp .ge 42, 3, 63, 0, 0, 0), (.aload_n 0, 1, 0, 0, 0, 0), (.getfield 20, 3, 8, 3, 2, 0), (.iload 7, 2, 7, 0, 0, 0), (.aload_n 0, 1, 0, 0, 0, 0), (.getfield 20, 3, 8, 3, 2, 0), (.iload 7, 2, 7, 0, 0, 0), (.iaload, 1, 0, 0, 0, 0), (.i2l, 1, 0, 0, 0, 0), (.lload 5, 2, 5, 0, 0, 0), (.lmul, 1, 0, 0, 0, 0), (.aload_n 1, 1, 1, 0, 0, 0), (.iload 7, 2, 7, 0, 0, 0), (.iaload, 1, 0, 0, 0, 0), (.i2l, 1, 0, 0, 0, 0), (.lload_n 3, 1, 3, 0, 0, 0), (.lmul, 1, 0, 0, 0, 0), (.lsub, 1, 0, 0, 0, 0), (.aload_n 0, 1, 0, 0, 0, 0), (.getfield 30, 3, 8, 0, 0, 0), (.i2l, 1, 0, 0, 0, 0), (.lrem, 1, 0, 0, 0, 0), (.l2i, 1, 0, 0, 0, 0), (.iastore, 1, 0, 0, 0, 0), (.iinc 7 1, 3, 7, 0, 0, 1), (.goto (-43), 3, 17, 0, 0, 0)]
def bk_X8_takeOff_63 : List It := [(.return_, 1, 0, 0, 0, 0)]
def bl_X8_takeOff : List (Nat × List It) := [(0, bk_X8_takeOff_0), (17, bk_X8_takeOff_17), (63, bk_X8_takeOff_63)]
theorem bq_X8_takeOff_0 : lkB bl_X8_takeOff 0 = bk_X8_takeOff_0 := rfl
theorem bq_X8_takeOff_17 : lkB bl_X8_takeOff 17 = bk_X8_takeOff_17 := rfl
theorem bq_X8_takeOff_63 : lkB bl_X8_takeOff 63 = bk_X8_takeOff_63 := rfl
set_option maxRecDepth 20000 in
theorem ck_X8_takeOff : ckB rs_X8_takeOff false 8 8 prog_10_method_5_code bl_X8_takeOff = true := by decide +kernel

def rs_X9_init : Rs := rf_X9 [(2, 5, 0, 900, 0)]
def bk_X9_init_0 : List It := [(.aload_n 0, 1, 0, 0, 0, 0), (.invokespecial 5, 3, 0, 900, 0, 0)]
def bk_X9_init_4 : List It := [(.aload_n 0, 1, 0, 0, 0, 0), (.bipush 7, 2, 0, 0, 0, 7), (.bipush 7, 2, 0, 0, 0, 7), (.multianewarray 11 2, 4, 30, 191, 0, 0), (.putfield 13, 3, 9, 0, 2, 0)]
def bk_X9_init_16 : List It := [(.aload_n 0, 1, 0, 0, 0, 0), (.bipush 7, 2, 0, 0, 0, 7), (.bipush 7, 2, 0, 0, 0, 7), (.multianewarray 11 2, 4, 31, 192, 0, 0), (.putfield 16, 3, 9, 1, 2, 0)]
def bk_X9_init_28 : List It := [(.aload_n 0, 1, 0, 0, 0, 0), (.bipush 7, 2, 0, 0, 0, 7), (.newarray .int, 2, 108, 0, 0, 0), (.putfield 19, 3, 9, 2, 2, 0)]
def bk_X9_init_36 : List It := [(.aload_n 0, 1, 0, 0, 0, 0), (.bipush 7, 2, 0, 0, 0, 7), (.newarray .int, 2, 109, 0, 0, 0), (.putfield 23, 3, 9, 3, 2, 0)]
def bk_X9_init_44 : List It := [(.return_, 1, 0, 0, 0, 0)]
def bl_X9_init : List (Nat × List It) := [(0, bk_X9_init_0), (4, bk_X9_init_4), (16, bk_X9_init_16), (28, bk_X9_init_28), (36, bk_X9_init_36), (44, bk_X9_init_44)]
theorem bq_X9_init_0 : lkB bl_X9_init 0 = bk_X9_init_0 := rfl
theorem bq_X9_init_4 : lkB bl_X9_init 4 = bk_X9_init_4 := rfl
theorem bq_X9_init_16 : lkB bl_X9_init 16 = bk_X9_init_16 := rfl
theorem bq_X9_init_28 : lkB bl_X9_init 28 = bk_X9_init_28 := rfl
theorem bq_X9_init_36 : lkB bl_X9_init 36 = bk_X9_init_36 := rfl
theorem bq_X9_init_44 : lkB bl_X9_init 44 = bk_X9_init_44 := rfl
set_option maxRecDepth 20000 in
theorem ck_X9_init : ckB rs_X9_init true 9 1 prog_11_method_1_code bl_X9_init = true := by decide +kernel

def rs_X9_begin : Rs := rf_X9 []
def bk_X9_begin_0 : List It := [(.bipush 64, 2, 0, 0, 0, 64), (.istore 4, 2, 4, 0, 0, 0), (.iconst 1, 1, 0, 0, 0, 1), (.iconst 2, 1, 0, 0, 0, 2), (.iload_n 3, 1, 3, 0, 0, 0), (.imul, 1, 0, 0, 0, 0), (.iconst 1, 1, 0, 0, 0, 1), (.iadd, 1, 0, 0, 0, 0), (.ishl, 1, 0, 0, 0, 0), (.iconst 1, 1, 0, 0, 0, 1), (.isub, 1, 0, 0, 0, 0), (.bipush 6, 2, 0, 0, 0, 6), (.iload_n 3, 1, 3, 0, 0, 0), (.isub, 1, 0, 0, 0, 0), (.ishl, 1, 0, 0, 0, 0), (.istore 5, 2, 5, 0, 0, 0), (.iconst 1, 1, 0, 0, 0, 1), (.istore 6, 2, 6, 0, 0, 0), (.iconst 0, 1, 0, 0, 0, 0), (.istore 7, 2, 7, 0, 0, 0)]
def bk_X9_begin_26 : List It := [(.iload 7, 2, 7, 0, 0, 0), (.bipush 7, 2, 0, 0, 0, 7), (.if_icmp .ge 94, 3, 124, 0, 0, 0), (.iload 7, 2, 7, 0, 0, 0), (.iload_n 2, 1, 2, 0, 0, 0), (.if_icmp .ge 17, 3, 53, 0, 0, 0), (.aload_n 1, 1, 1, 0, 0, 0), (.iload 7, 2, 7, 0, 0, 0), (.aaload, 1, 0, 0, 0, 0), (.getfield 26, 3, 3, 1, 1, 0), (.ifCond .eq 7, 3, 53, 0, 0, 0), (.iconst 1, 1, 0, 0, 0, 1), (.goto 4, 3, 54, 0, 0, 0)]
def bk_X9_begin_53 : List It := [(.iconst 0, 1, 0, 0, 0, 0)]
def bk_X9_begin_54 : List It := [(.istore 8, 2, 8, 0, 0, 0), (.aload_n 0, 1, 0, 0, 0, 0), (.getfield 16, 3, 9, 1, 2, 0), (.iconst 0, 1, 0, 0, 0, 0), (.aaload, 1, 0, 0, 0, 0), (.iload 7, 2, 7, 0, 0, 0), (.iload 8, 2, 8, 0, 0, 0), (.ifCond .eq 13, 3, 79, 0, 0, 0), (.iload 6, 2, 6, 0, 0, 0), (.ifCond .ne 8, 3, 79, 0, 0, 0), (.iload 5, 2, 5, 0, 0, 0), (.goto 5, 3, 81, 0, 0, 0)]
def bk_X9_begin_79 : List It := [(.iload 4, 2, 4, 0, 0, 0)]
def bk_X9_begin_81 : List It := [(.iastore, 1, 0, 0, 0, 0), (.iload 8, 2, 8, 0, 0, 0), (.ifCond .eq 6, 3, 90, 0, 0, 0), (.iconst 0, 1, 0, 0, 0, 0), (.istore 6, 2, 6, 0, 0, 0)]
def bk_X9_begin_90 : List It := [(.iconst 0, 1, 0, 0, 0, 0), (.istore 9, 2, 9, 0, 0, 0)]
def bk_X9_begin_93 : List It := [(.iload 9, 2, 9, 0, 0, 0), (.bipush 7, 2, 0, 0, 0, 7), (.if_icmp .ge 21, 3, 118, 0, 0, 0), (.aload_n 0, 1, 0, 0, 0, 0), (.getfield 13, 3, 9, 0, 2, 0), (.iload 7, 2, 7, 0, 0, 0), (.aaload, 1, 0, 0, 0, 0), (.iload 9, 2, 9, 0, 0, 0), (.ldc 32, 2, 0, 0, 0, 33554431), (.iastore, 1, 0, 0, 0, 0), (.iinc 9 1, 3, 9, 0, 0, 1), (.goto (-22), 3, 93, 0, 0, 0)]
def bk_X9_begin_118 : List It := [(.iinc 7 1, 3, 7, 0, 0, 1), (.goto (-95), 3, 26, 0, 0, 0)]
def bk_X9_begin_124 : List It := [(.return_, 1, 0, 0, 0, 0)]
def bl_X9_begin : List (Nat × List It) := [(0, bk_X9_begin_0), (26, bk_X9_begin_26), (53, bk_X9_begin_53), (54, bk_X9_begin_54), (79, bk_X9_begin_79), (81, bk_X9_begin_81), (90, bk_X9_begin_90), (93, bk_X9_begin_93), (118, bk_X9_begin_118), (124, bk_X9_begin_124)]
theorem bq_X9_begin_0 : lkB bl_X9_begin 0 = bk_X9_begin_0 := rfl
theorem bq_X9_begin_26 : lkB bl_X9_begin 26 = bk_X9_begin_26 := rfl
theorem bq_X9_begin_53 : lkB bl_X9_begin 53 = bk_X9_begin_53 := rfl
theorem bq_X9_begin_54 : lkB bl_X9_begin 54 = bk_X9_begin_54 := rfl
theorem bq_X9_begin_79 : lkB bl_X9_begin 79 = bk_X9_begin_79 := rfl
theorem bq_X9_begin_81 : lkB bl_X9_begin 81 = bk_X9_begin_81 := rfl
theorem bq_X9_begin_90 : lkB bl_X9_begin 90 = bk_X9_begin_90 := rfl
theorem bq_X9_begin_93 : lkB bl_X9_begin 93 = bk_X9_begin_93 := rfl
theorem bq_X9_begin_118 : lkB bl_X9_begin 118 = bk_X9_begin_118 := rfl
theorem bq_X9_begin_124 : lkB bl_X9_begin 124 = bk_X9_begin_124 := rfl
set_option maxRecDepth 20000 in
theorem ck_X9_begin : ckB rs_X9_begin false 9 10 prog_11_method_2_code bl_X9_begin = true := by decide +kernel

def rs_X9_admit : Rs := rf_X9 [(0, 33, 1, 10, 2), (0, 49, 3, 44, 9)]
def bk_X9_admit_0 : List It := [(.iconst 0, 1, 0, 0, 0, 0), (.istore_n 2, 1, 2, 0, 0, 0), (.bipush (-12), 2, 0, 0, 0, (-12)), (.istore_n 3, 1, 3, 0, 0, 0)]
def bk_X9_admit_5 : List It := [(.iload_n 3, 1, 3, 0, 0, 0), (.bipush 12, 2, 0, 0, 0, 12), (.if_icmp .gt 26, 3, 34, 0, 0, 0), (.aload_n 1, 1, 1, 0, 0, 0), (.iload_n 3, 1, 3, 0, 0, 0), (.invokevirtual 33, 3, 1, 10, 2, 0)]
def bk_X9_admit_16 : List It := [(.ifCond .eq 12, 3, 28, 0, 0, 0), (.iload_n 2, 1, 2, 0, 0, 0), (.iconst 1, 1, 0, 0, 0, 1), (.iload_n 3, 1, 3, 0, 0, 0), (.bipush 12, 2, 0, 0, 0, 12), (.iadd, 1, 0, 0, 0, 0), (.ishl, 1, 0, 0, 0, 0), (.ior, 1, 0, 0, 0, 0), (.istore_n 2, 1, 2, 0, 0, 0)]
def bk_X9_admit_28 : List It := [(.iinc 3 1, 3, 3, 0, 0, 1), (.goto (-26), 3, 5, 0, 0, 0)]
def bk_X9_admit_34 : List It := [(.aload_n 0, 1, 0, 0, 0, 0), (.aload_n 1, 1, 1, 0, 0, 0), (.getfield 39, 3, 2, 0, 2, 0), (.getfield 42, 3, 3, 0, 0, 0), (.aload_n 1, 1, 1, 0, 0, 0), (.getfield 46, 3, 2, 1, 2, 0), (.getfield 42, 3, 3, 0, 0, 0), (.iload_n 2, 1, 2, 0, 0, 0), (.invokevirtual 49, 3, 3, 44, 9, 0)]
def bk_X9_admit_53 : List It := [(.pop, 1, 0, 0, 0, 0), (.return_, 1, 0, 0, 0, 0)]
def bl_X9_admit : List (Nat × List It) := [(0, bk_X9_admit_0), (5, bk_X9_admit_5), (16, bk_X9_admit_16), (28, bk_X9_admit_28), (34, bk_X9_admit_34), (53, bk_X9_admit_53)]
theorem bq_X9_admit_0 : lkB bl_X9_admit 0 = bk_X9_admit_0 := rfl
theorem bq_X9_admit_5 : lkB bl_X9_admit 5 = bk_X9_admit_5 := rfl
theorem bq_X9_admit_16 : lkB bl_X9_admit 16 = bk_X9_admit_16 := rfl
theorem bq_X9_admit_28 : lkB bl_X9_admit 28 = bk_X9_admit_28 := rfl
theorem bq_X9_admit_34 : lkB bl_X9_admit 34 = bk_X9_admit_34 := rfl
theorem bq_X9_admit_53 : lkB bl_X9_admit 53 = bk_X9_admit_53 := rfl
set_option maxRecDepth 20000 in
theorem ck_X9_admit : ckB rs_X9_admit false 9 4 prog_11_method_3_code bl_X9_admit = true := by decide +kernel

def rs_X9_waysUpTo : Rs := rf_X9 [(0, 59, 0, 46, 9), (0, 63, 1, 48, 9)]
def bk_X9_waysUpTo_0 : List It := [(.aload_n 0, 1, 0, 0, 0, 0), (.iconst 0, 1, 0, 0, 0, 0), (.putfield 53, 3, 9, 4, 0, 0), (.aload_n 0, 1, 0, 0, 0, 0), (.iload_n 1, 1, 1, 0, 0, 0), (.putfield 56, 3, 9, 5, 0, 0), (.aload_n 0, 1, 0, 0, 0, 0), (.invokevirtual 59, 3, 0, 46, 9, 0)]
def bk_X9_waysUpTo_14 : List It := [(.ifCond .eq 8, 3, 22, 0, 0, 0), (.aload_n 0, 1, 0, 0, 0, 0), (.iconst 0, 1, 0, 0, 0, 0), (.invokevirtual 63, 3, 1, 48, 9, 0)]
def bk_X9_waysUpTo_22 : List It := [(.aload_n 0, 1, 0, 0, 0, 0), (.getfield 53, 3, 9, 4, 0, 0), (.ireturn, 1, 0, 0, 0, 0)]
def bl_X9_waysUpTo : List (Nat × List It) := [(0, bk_X9_waysUpTo_0), (14, bk_X9_waysUpTo_14), (22, bk_X9_waysUpTo_22)]
theorem bq_X9_waysUpTo_0 : lkB bl_X9_waysUpTo 0 = bk_X9_waysUpTo_0 := rfl
theorem bq_X9_waysUpTo_14 : lkB bl_X9_waysUpTo 14 = bk_X9_waysUpTo_14 := rfl
theorem bq_X9_waysUpTo_22 : lkB bl_X9_waysUpTo 22 = bk_X9_waysUpTo_22 := rfl
set_option maxRecDepth 20000 in
theorem ck_X9_waysUpTo : ckB rs_X9_waysUpTo false 9 2 prog_11_method_4_code bl_X9_waysUpTo = true := by decide +kernel

def rs_X9_firstOf : Rs := rf_X9 []
def bk_X9_firstOf_0 : List It := [(.aload_n 0, 1, 0, 0, 0, 0), (.getfield 23, 3, 9, 3, 2, 0), (.iload_n 1, 1, 1, 0, 0, 0), (.iaload, 1, 0, 0, 0, 0), (.ireturn, 1, 0, 0, 0, 0)]
def bl_X9_firstOf : List (Nat × List It) := [(0, bk_X9_firstOf_0)]
theorem bq_X9_firstOf_0 : lkB bl_X9_firstOf 0 = bk_X9_firstOf_0 := rfl
set_option maxRecDepth 20000 in
theorem ck_X9_firstOf : ckB rs_X9_firstOf false 9 2 prog_11_method_5_code bl_X9_firstOf = true := by decide +kernel

def rs_X9_restrict : Rs := rf_X9 [(1, 67, 1, 45, 0)]
def bk_X9_restrict_0 : List It := [(.aload_n 0, 1, 0, 0, 0, 0), (.getfield 13, 3, 9, 0, 2, 0), (.iload_n 1, 1, 1, 0, 0, 0), (.aaload, 1, 0, 0, 0, 0), (.iload_n 2, 1, 2, 0, 0, 0), (.iaload, 1, 0, 0, 0, 0), (.iload_n 3, 1, 3, 0, 0, 0), (.iand, 1, 0, 0, 0, 0), (.istore 4, 2, 4, 0, 0, 0), (.iload 4, 2, 4, 0, 0, 0), (.aload_n 0, 1, 0, 0, 0, 0), (.getfield 13, 3, 9, 0, 2, 0), (.iload_n 1, 1, 1, 0, 0, 0), (.aaload, 1, 0, 0, 0, 0), (.iload_n 2, 1, 2, 0, 0, 0), (.iaload, 1, 0, 0, 0, 0), (.if_icmp .ne 5, 3, 27, 0, 0, 0), (.iconst 0, 1, 0, 0, 0, 0), (.ireturn, 1, 0, 0, 0, 0)]
def bk_X9_restrict_27 : List It := [(.aload_n 0, 1, 0, 0, 0, 0), (.getfield 13, 3, 9, 0, 2, 0), (.iload_n 1, 1, 1, 0, 0, 0), (.aaload, 1, 0, 0, 0, 0), (.iload_n 2, 1, 2, 0, 0, 0), (.iload 4, 2, 4, 0, 0, 0), (.iastore, 1, 0, 0, 0, 0), (.aload_n 0, 1, 0, 0, 0, 0), (.getfield 13, 3, 9, 0, 2, 0), (.iload_n 2, 1, 2, 0, 0, 0), (.aaload, 1, 0, 0, 0, 0), (.iload_n 1, 1, 1, 0, 0, 0), (.iload 4, 2, 4, 0, 0, 0), (.invokestatic 67, 3, 1, 45, 0, 0)]
def bk_X9_restrict_49 : List It := [(.iastore, 1, 0, 0, 0, 0), (.iconst 1, 1, 0, 0, 0, 1), (.ireturn, 1, 0, 0, 0, 0)]
def bl_X9_restrict : List (Nat × List It) := [(0, bk_X9_restrict_0), (27, bk_X9_restrict_27), (49, bk_X9_restrict_49)]
theorem bq_X9_restrict_0 : lkB bl_X9_restrict 0 = bk_X9_restrict_0 := rfl
theorem bq_X9_restrict_27 : lkB bl_X9_restrict 27 = bk_X9_restrict_27 := rfl
theorem bq_X9_restrict_49 : lkB bl_X9_restrict 49 = bk_X9_restrict_49 := rfl
set_option maxRecDepth 20000 in
theorem ck_X9_restrict : ckB rs_X9_restrict false 9 5 prog_11_method_6_code bl_X9_restrict = true := by decide +kernel

def rs_X9_turned : Rs := rf_X9 []
def bk_X9_turned_0 : List It := [(.iconst 0, 1, 0, 0, 0, 0), (.istore_n 1, 1, 1, 0, 0, 0), (.bipush (-12), 2, 0, 0, 0, (-12)), (.istore_n 2, 1, 2, 0, 0, 0)]
def bk_X9_turned_5 : List It := [(.iload_n 2, 1, 2, 0, 0, 0), (.bipush 12, 2, 0, 0, 0, 12), (.if_icmp .gt 30, 3, 38, 0, 0, 0), (.iload_n 0, 1, 0, 0, 0, 0), (.iload_n 2, 1, 2, 0, 0, 0), (.bipush 12, 2, 0, 0, 0, 12), (.iadd, 1, 0, 0, 0, 0), (.ishr, 1, 0, 0, 0, 0), (.iconst 1, 1, 0, 0, 0, 1), (.iand, 1, 0, 0, 0, 0), (.iconst 1, 1, 0, 0, 0, 1), (.if_icmp .ne 12, 3, 32, 0, 0, 0), (.iload_n 1, 1, 1, 0, 0, 0), (.iconst 1, 1, 0, 0, 0, 1), (.bipush 12, 2, 0, 0, 0, 12), (.iload_n 2, 1, 2, 0, 0, 0), (.isub, 1, 0, 0, 0, 0), (.ishl, 1, 0, 0, 0, 0), (.ior, 1, 0, 0, 0, 0), (.istore_n 1, 1, 1, 0, 0, 0)]
def bk_X9_turned_32 : List It := [(.iinc 2 1, 3, 2, 0, 0, 1), (.goto (-30), 3, 5, 0, 0, 0)]
def bk_X9_turned_38 : List It := [(.iload_n 1, 1, 1, 0, 0, 0), (.ireturn, 1, 0, 0, 0, 0)]
def bl_X9_turned : List (Nat × List It) := [(0, bk_X9_turned_0), (5, bk_X9_turned_5), (32, bk_X9_turned_32), (38, bk_X9_turned_38)]
theorem bq_X9_turned_0 : lkB bl_X9_turned 0 = bk_X9_turned_0 := rfl
theorem bq_X9_turned_5 : lkB bl_X9_turned 5 = bk_X9_turned_5 := rfl
theorem bq_X9_turned_32 : lkB bl_X9_turned 32 = bk_X9_turned_32 := rfl
theorem bq_X9_turned_38 : lkB bl_X9_turned 38 = bk_X9_turned_38 := rfl
set_option maxRecDepth 20000 in
theorem ck_X9_turned : ckB rs_X9_turned false 9 3 prog_11_method_7_code bl_X9_turned = true := by decide +kernel

def rs_X9_settleByThirds : Rs := rf_X9 [(1, 71, 2, 47, 0), (0, 49, 3, 44, 9)]
def bk_X9_settleByThirds_0 : List It := [(.iconst 1, 1, 0, 0, 0, 1), (.istore_n 1, 1, 1, 0, 0, 0), (.iconst 0, 1, 0, 0, 0, 0), (.istore_n 2, 1, 2, 0, 0, 0)]
def bk_X9_settleByThirds_4 : List It := [(.iload_n 2, 1, 2, 0, 0, 0), (.sipush 1000, 3, 0, 0, 0, 1000), (.if_icmp .ge 139, 3, 147, 0, 0, 0), (.iload_n 1, 1, 1, 0, 0, 0), (.ifCond .eq 135, 3, 147, 0, 0, 0), (.iconst 0, 1, 0, 0, 0, 0), (.istore_n 1, 1, 1, 0, 0, 0), (.iconst 0, 1, 0, 0, 0, 0), (.istore_n 3, 1, 3, 0, 0, 0)]
def bk_X9_settleByThirds_19 : List It := [(.iload_n 3, 1, 3, 0, 0, 0), (.bipush 7, 2, 0, 0, 0, 7), (.if_icmp .ge 119, 3, 141, 0, 0, 0), (.iconst 0, 1, 0, 0, 0, 0), (.istore 4, 2, 4, 0, 0, 0)]
def bk_X9_settleByThirds_28 : List It := [(.iload 4, 2, 4, 0, 0, 0), (.bipush 6, 2, 0, 0, 0, 6), (.if_icmp .ge 103, 3, 135, 0, 0, 0), (.iload 4, 2, 4, 0, 0, 0), (.iconst 1, 1, 0, 0, 0, 1), (.iadd, 1, 0, 0, 0, 0), (.istore 5, 2, 5, 0, 0, 0)]
def bk_X9_settleByThirds_41 : List It := [(.iload 5, 2, 5, 0, 0, 0), (.bipush 7, 2, 0, 0, 0, 7), (.if_icmp .ge 84, 3, 129, 0, 0, 0), (.aload_n 0, 1, 0, 0, 0, 0), (.getfield 13, 3, 9, 0, 2, 0), (.iload 4, 2, 4, 0, 0, 0), (.aaload, 1, 0, 0, 0, 0), (.iload 5, 2, 5, 0, 0, 0), (.iaload, 1, 0, 0, 0, 0), (.ifCond .ne 5, 3, 63, 0, 0, 0), (.iconst 0, 1, 0, 0, 0, 0), (.ireturn, 1, 0, 0, 0, 0)]
def bk_X9_settleByThirds_63 : List It := [(.aload_n 0, 1, 0, 0, 0, 0), (.getfield 13, 3, 9, 0, 2, 0), (.iload 4, 2, 4, 0, 0, 0), (.aaload, 1, 0, 0, 0, 0), (.iload_n 3, 1, 3, 0, 0, 0), (.iaload, 1, 0, 0, 0, 0), (.ldc 32, 2, 0, 0, 0, 33554431), (.if_icmp .eq 49, 3, 123, 0, 0, 0), (.aload_n 0, 1, 0, 0, 0, 0), (.getfield 13, 3, 9, 0, 2, 0), (.iload_n 3, 1, 3, 0, 0, 0), (.aaload, 1, 0, 0, 0, 0), (.iload 5, 2, 5, 0, 0, 0), (.iaload, 1, 0, 0, 0, 0), (.ldc 32, 2, 0, 0, 0, 33554431), (.if_icmp .eq 35, 3, 123, 0, 0, 0), (.iload_n 1, 1, 1, 0, 0, 0), (.aload_n 0, 1, 0, 0, 0, 0), (.iload 4, 2, 4, 0, 0, 0), (.iload 5, 2, 5, 0, 0, 0), (.aload_n 0, 1, 0, 0, 0, 0), (.getfield 13, 3, 9, 0, 2, 0), (.iload 4, 2, 4, 0, 0, 0), (.aaload, 1, 0, 0, 0, 0), (.iload_n 3, 1, 3, 0, 0, 0), (.iaload, 1, 0, 0, 0, 0), (.aload_n 0, 1, 0, 0, 0, 0), (.getfield 13, 3, 9, 0, 2, 0), (.iload_n 3, 1, 3, 0, 0, 0), (.aaload, 1, 0, 0, 0, 0), (.iload 5, 2, 5, 0, 0, 0), (.iaload, 1, 0, 0, 0, 0), (.invokestatic 71, 3, 2, 47, 0, 0)]
def bk_X9_settleByThirds_118 : List It := [(.invokevirtual 49, 3, 3, 44, 9, 0)]
def bk_X9_settleByThirds_121 : List It := [(.ior, 1, 0, 0, 0, 0), (.istore_n 1, 1, 1, 0, 0, 0)]
def bk_X9_settleByThirds_123 : List It := [(.iinc 5 1, 3, 5, 0, 0, 1), (.goto (-85), 3, 41, 0, 0, 0)]
def bk_X9_settleByThirds_129 : List It := [(.iinc 4 1, 3, 4, 0, 0, 1), (.goto (-104), 3, 28, 0, 0, 0)]
def bk_X9_settleByThirds_135 : List It := [(.iinc 3 1, 3, 3, 0, 0, 1), (.goto (-119), 3, 19, 0, 0, 0)]
def bk_X9_settleByThirds_141 : List It := [(.iinc 2 1, 3, 2, 0, 0, 1), (.goto (-140), 3, 4, 0, 0, 0)]
def bk_X9_settleByThirds_147 : List It := [(.iconst 1, 1, 0, 0, 0, 1), (.ireturn, 1, 0, 0, 0, 0)]
def bl_X9_settleByThirds : List (Nat × List It) := [(0, bk_X9_settleByThirds_0), (4, bk_X9_settleByThirds_4), (19, bk_X9_settleByThirds_19), (28, bk_X9_settleByThirds_28), (41, bk_X9_settleByThirds_41), (63, bk_X9_settleByThirds_63), (118, bk_X9_settleByThirds_118), (121, bk_X9_settleByThirds_121), (123, bk_X9_settleByThirds_123), (129, bk_X9_settleByThirds_129), (135, bk_X9_settleByThirds_135), (141, bk_X9_settleByThirds_141), (147, bk_X9_settleByThirds_147)]
theorem bq_X9_settleByThirds_0 : lkB bl_X9_settleByThirds 0 = bk_X9_settleByThirds_0 := rfl
theorem bq_X9_settleByThirds_4 : lkB bl_X9_settleByThirds 4 = bk_X9_settleByThirds_4 := rfl
theorem bq_X9_settleByThirds_19 : lkB bl_X9_settleByThirds 19 = bk_X9_settleByThirds_19 := rfl
theorem bq_X9_settleByThirds_28 : lkB bl_X9_settleByThirds 28 = bk_X9_settleByThirds_28 := rfl
theorem bq_X9_settleByThirds_41 : lkB bl_X9_settleByThirds 41 = bk_X9_settleByThirds_41 := rfl
theorem bq_X9_settleByThirds_63 : lkB bl_X9_settleByThirds 63 = bk_X9_settleByThirds_63 := rfl
theorem bq_X9_settleByThirds_118 : lkB bl_X9_settleByThirds 118 = bk_X9_settleByThirds_118 := rfl
theorem bq_X9_settleByThirds_121 : lkB bl_X9_settleByThirds 121 = bk_X9_settleByThirds_121 := rfl
theorem bq_X9_settleByThirds_123 : lkB bl_X9_settleByThirds 123 = bk_X9_settleByThirds_123 := rfl
theorem bq_X9_settleByThirds_129 : lkB bl_X9_settleByThirds 129 = bk_X9_settleByThirds_129 := rfl
theorem bq_X9_settleByThirds_135 : lkB bl_X9_settleByThirds 135 = bk_X9_settleByThirds_135 := rfl
theorem bq_X9_settleByThirds_141 : lkB bl_X9_settleByThirds 141 = bk_X9_settleByThirds_141 := rfl
theorem bq_X9_settleByThirds_147 : lkB bl_X9_settleByThirds 147 = bk_X9_settleByThirds_147 := rfl
set_option maxRecDepth 20000 in
theorem ck_X9_settleByThirds : ckB rs_X9_settleByThirds false 9 6 prog_11_method_8_code bl_X9_settleByThirds = true := by decide +kernel

def rs_X9_sums : Rs := rf_X9 []
def bk_X9_sums_0 : List It := [(.iconst 0, 1, 0, 0, 0, 0), (.istore_n 2, 1, 2, 0, 0, 0), (.bipush (-12), 2, 0, 0, 0, (-12)), (.istore_n 3, 1, 3, 0, 0, 0)]
def bk_X9_sums_5 : List It := [(.iload_n 3, 1, 3, 0, 0, 0), (.bipush 12, 2, 0, 0, 0, 12), (.if_icmp .gt 38, 3, 46, 0, 0, 0), (.iload_n 0, 1, 0, 0, 0, 0), (.iload_n 3, 1, 3, 0, 0, 0), (.bipush 12, 2, 0, 0, 0, 12), (.iadd, 1, 0, 0, 0, 0), (.ishr, 1, 0, 0, 0, 0), (.iconst 1, 1, 0, 0, 0, 1), (.iand, 1, 0, 0, 0, 0), (.iconst 1, 1, 0, 0, 0, 1), (.if_icmp .ne 20, 3, 40, 0, 0, 0), (.iload_n 2, 1, 2, 0, 0, 0), (.iload_n 3, 1, 3, 0, 0, 0), (.ifCond .ge 10, 3, 35, 0, 0, 0), (.iload_n 1, 1, 1, 0, 0, 0), (.iload_n 3, 1, 3, 0, 0, 0), (.ineg, 1, 0, 0, 0, 0), (.ishr, 1, 0, 0, 0, 0), (.goto 6, 3, 38, 0, 0, 0)]
def bk_X9_sums_35 : List It := [(.iload_n 1, 1, 1, 0, 0, 0), (.iload_n 3, 1, 3, 0, 0, 0), (.ishl, 1, 0, 0, 0, 0)]
def bk_X9_sums_38 : List It := [(.ior, 1, 0, 0, 0, 0), (.istore_n 2, 1, 2, 0, 0, 0)]
def bk_X9_sums_40 : List It := [(.iinc 3 1, 3, 3, 0, 0, 1), (.goto (-38), 3, 5, 0, 0, 0)]
def bk_X9_sums_46 : List It := [(.iload_n 2, 1, 2, 0, 0, 0), (.ldc 32, 2, 0, 0, 0, 33554431), (.iand, 1, 0, 0, 0, 0), (.ireturn, 1, 0, 0, 0, 0)]
def bl_X9_sums : List (Nat × List It) := [(0, bk_X9_sums_0), (5, bk_X9_sums_5), (35, bk_X9_sums_35), (38, bk_X9_sums_38), (40, bk_X9_sums_40), (46, bk_X9_sums_46)]
theorem bq_X9_sums_0 : lkB bl_X9_sums 0 = bk_X9_sums_0 := rfl
theorem bq_X9_sums_5 : lkB bl_X9_sums 5 = bk_X9_sums_5 := rfl
theorem bq_X9_sums_35 : lkB bl_X9_sums 35 = bk_X9_sums_35 := rfl
theorem bq_X9_sums_38 : lkB bl_X9_sums 38 = bk_X9_sums_38 := rfl
theorem bq_X9_sums_40 : lkB bl_X9_sums 40 = bk_X9_sums_40 := rfl
theorem bq_X9_sums_46 : lkB bl_X9_sums 46 = bk_X9_sums_46 := rfl
set_option maxRecDepth 20000 in
theorem ck_X9_sums : ckB rs_X9_sums false 9 4 prog_11_method_9_code bl_X9_sums = true := by decide +kernel

def rs_X9_join : Rs := rf_X9 [(1, 75, 5, 901, 0), (0, 81, 2, 49, 9), (0, 63, 1, 48, 9)]
def bk_X9_join_0 : List It := [(.iload_n 1, 1, 1, 0, 0, 0), (.bipush 7, 2, 0, 0, 0, 7), (.if_icmp .lt 36, 3, 39, 0, 0, 0), (.aload_n 0, 1, 0, 0, 0, 0), (.getfield 53, 3, 9, 4, 0, 0), (.ifCond .ne 18, 3, 28, 0, 0, 0), (.aload_n 0, 1, 0, 0, 0, 0), (.getfield 19, 3, 9, 2, 2, 0), (.iconst 0, 1, 0, 0, 0, 0), (.aload_n 0, 1, 0, 0, 0, 0), (.getfield 23, 3, 9, 3, 2, 0), (.iconst 0, 1, 0, 0, 0, 0), (.bipush 7, 2, 0, 0, 0, 7), (.invokestatic 75, 3, 5, 901, 0, 0)]
def bk_X9_join_28 : List It := [(.aload_n 0, 1, 0, 0, 0, 0), (.dup, 1, 0, 0, 0, 0), (.getfield 53, 3, 9, 4, 0, 0), (.iconst 1, 1, 0, 0, 0, 1), (.iadd, 1, 0, 0, 0, 0), (.putfield 53, 3, 9, 4, 0, 0), (.return_, 1, 0, 0, 0, 0)]
def bk_X9_join_39 : List It := [(.bipush (-6), 2, 0, 0, 0, (-6)), (.istore_n 2, 1, 2, 0, 0, 0)]
def bk_X9_join_42 : List It := [(.iload_n 2, 1, 2, 0, 0, 0), (.bipush 6, 2, 0, 0, 0, 6), (.if_icmp .gt 62, 3, 107, 0, 0, 0), (.aload_n 0, 1, 0, 0, 0, 0), (.getfield 53, 3, 9, 4, 0, 0), (.aload_n 0, 1, 0, 0, 0, 0), (.getfield 56, 3, 9, 5, 0, 0), (.if_icmp .ge 51, 3, 107, 0, 0, 0), (.aload_n 0, 1, 0, 0, 0, 0), (.getfield 16, 3, 9, 1, 2, 0), (.iload_n 1, 1, 1, 0, 0, 0), (.aaload, 1, 0, 0, 0, 0), (.iload_n 1, 1, 1, 0, 0, 0), (.iaload, 1, 0, 0, 0, 0), (.iload_n 2, 1, 2, 0, 0, 0), (.bipush 6, 2, 0, 0, 0, 6), (.iadd, 1, 0, 0, 0, 0), (.ishr, 1, 0, 0, 0, 0), (.iconst 1, 1, 0, 0, 0, 1), (.iand, 1, 0, 0, 0, 0), (.iconst 1, 1, 0, 0, 0, 1), (.if_icmp .ne 26, 3, 101, 0, 0, 0), (.aload_n 0, 1, 0, 0, 0, 0), (.iload_n 1, 1, 1, 0, 0, 0), (.iload_n 2, 1, 2, 0, 0, 0), (.invokevirtual 81, 3, 2, 49, 9, 0)]
def bk_X9_join_84 : List It := [(.ifCond .eq 17, 3, 101, 0, 0, 0), (.aload_n 0, 1, 0, 0, 0, 0), (.getfield 19, 3, 9, 2, 2, 0), (.iload_n 1, 1, 1, 0, 0, 0), (.iload_n 2, 1, 2, 0, 0, 0), (.iastore, 1, 0, 0, 0, 0), (.aload_n 0, 1, 0, 0, 0, 0), (.iload_n 1, 1, 1, 0, 0, 0), (.iconst 1, 1, 0, 0, 0, 1), (.iadd, 1, 0, 0, 0, 0), (.invokevirtual 63, 3, 1, 48, 9, 0)]
def bk_X9_join_101 : List It := [(.iinc 2 1, 3, 2, 0, 0, 1), (.goto (-62), 3, 42, 0, 0, 0)]
def bk_X9_join_107 : List It := [(.return_, 1, 0, 0, 0, 0)]
def bl_X9_join : List (Nat × List It) := [(0, bk_X9_join_0), (28, bk_X9_join_28), (39, bk_X9_join_39), (42, bk_X9_join_42), (84, bk_X9_join_84), (101, bk_X9_join_101), (107, bk_X9_join_107)]
theorem bq_X9_join_0 : lkB bl_X9_join 0 = bk_X9_join_0 := rfl
theorem bq_X9_join_28 : lkB bl_X9_join 28 = bk_X9_join_28 := rfl
theorem bq_X9_join_39 : lkB bl_X9_join 39 = bk_X9_join_39 := rfl
theorem bq_X9_join_42 : lkB bl_X9_join 42 = bk_X9_join_42 := rfl
theorem bq_X9_join_84 : lkB bl_X9_join 84 = bk_X9_join_84 := rfl
theorem bq_X9_join_101 : lkB bl_X9_join 101 = bk_X9_join_101 := rfl
theorem bq_X9_join_107 : lkB bl_X9_join 107 = bk_X9_join_107 := rfl
set_option maxRecDepth 20000 in
theorem ck_X9_join : ckB rs_X9_join false 9 3 prog_11_method_10_code bl_X9_join = true := by decide +kernel

def rs_X9_narrow : Rs := rf_X9 []
def bk_X9_narrow_0 : List It := [(.iload_n 1, 1, 1, 0, 0, 0), (.iconst 1, 1, 0, 0, 0, 1), (.iadd, 1, 0, 0, 0, 0), (.istore_n 3, 1, 3, 0, 0, 0)]
def bk_X9_narrow_4 : List It := [(.iload_n 3, 1, 3, 0, 0, 0), (.bipush 7, 2, 0, 0, 0, 7), (.if_icmp .ge 52, 3, 59, 0, 0, 0), (.aload_n 0, 1, 0, 0, 0, 0), (.getfield 16, 3, 9, 1, 2, 0), (.iload_n 1, 1, 1, 0, 0, 0), (.aaload, 1, 0, 0, 0, 0), (.iload_n 3, 1, 3, 0, 0, 0), (.iaload, 1, 0, 0, 0, 0), (.aload_n 0, 1, 0, 0, 0, 0), (.getfield 13, 3, 9, 0, 2, 0), (.iload_n 1, 1, 1, 0, 0, 0), (.aaload, 1, 0, 0, 0, 0), (.iload_n 3, 1, 3, 0, 0, 0), (.iaload, 1, 0, 0, 0, 0), (.bipush 6, 2, 0, 0, 0, 6), (.iload_n 2, 1, 2, 0, 0, 0), (.isub, 1, 0, 0, 0, 0), (.ishr, 1, 0, 0, 0, 0), (.iand, 1, 0, 0, 0, 0), (.istore 4, 2, 4, 0, 0, 0), (.iload 4, 2, 4, 0, 0, 0), (.ifCond .ne 5, 3, 41, 0, 0, 0), (.iconst 0, 1, 0, 0, 0, 0), (.ireturn, 1, 0, 0, 0, 0)]
def bk_X9_narrow_41 : List It := [(.aload_n 0, 1, 0, 0, 0, 0), (.getfield 16, 3, 9, 1, 2, 0), (.iload_n 1, 1, 1, 0, 0, 0), (.iconst 1, 1, 0, 0, 0, 1), (.iadd, 1, 0, 0, 0, 0), (.aaload, 1, 0, 0, 0, 0), (.iload_n 3, 1, 3, 0, 0, 0), (.iload 4, 2, 4, 0, 0, 0), (.iastore, 1, 0, 0, 0, 0), (.iinc 3 1, 3, 3, 0, 0, 1), (.goto (-52), 3, 4, 0, 0, 0)]
def bk_X9_narrow_59 : List It := [(.iconst 1, 1, 0, 0, 0, 1), (.ireturn, 1, 0, 0, 0, 0)]
def bl_X9_narrow : List (Nat × List It) := [(0, bk_X9_narrow_0), (4, bk_X9_narrow_4), (41, bk_X9_narrow_41), (59, bk_X9_narrow_59)]
theorem bq_X9_narrow_0 : lkB bl_X9_narrow 0 = bk_X9_narrow_0 := rfl
theorem bq_X9_narrow_4 : lkB bl_X9_narrow 4 = bk_X9_narrow_4 := rfl
theorem bq_X9_narrow_41 : lkB bl_X9_narrow 41 = bk_X9_narrow_41 := rfl
theorem bq_X9_narrow_59 : lkB bl_X9_narrow 59 = bk_X9_narrow_59 := rfl
set_option maxRecDepth 20000 in
theorem ck_X9_narrow : ckB rs_X9_narrow false 9 5 prog_11_method_11_code bl_X9_narrow = true := by decide +kernel

def rs_X10_init : Rs := rf_X10 [(2, 3, 0, 900, 0)]
def bk_X10_init_0 : List It := [(.aload_n 0, 1, 0, 0, 0, 0), (.invokespecial 3, 3, 0, 900, 0, 0)]
def bk_X10_init_4 : List It := [(.aload_n 0, 1, 0, 0, 0, 0), (.bipush 7, 2, 0, 0, 0, 7), (.anewarray 9, 3, 29, 0, 0, 0), (.putfield 11, 3, 10, 0, 2, 0)]
def bk_X10_init_13 : List It := [(.aload_n 0, 1, 0, 0, 0, 0), (.sipush 128, 3, 0, 0, 0, 128), (.newarray .int, 2, 110, 0, 0, 0), (.putfield 17, 3, 10, 2, 2, 0)]
def bk_X10_init_22 : List It := [(.aload_n 0, 1, 0, 0, 0, 0), (.bipush 7, 2, 0, 0, 0, 7), (.newarray .int, 2, 111, 0, 0, 0), (.putfield 21, 3, 10, 3, 2, 0)]
def bk_X10_init_30 : List It := [(.return_, 1, 0, 0, 0, 0)]
def bl_X10_init : List (Nat × List It) := [(0, bk_X10_init_0), (4, bk_X10_init_4), (13, bk_X10_init_13), (22, bk_X10_init_22), (30, bk_X10_init_30)]
theorem bq_X10_init_0 : lkB bl_X10_init 0 = bk_X10_init_0 := rfl
theorem bq_X10_init_4 : lkB bl_X10_init 4 = bk_X10_init_4 := rfl
theorem bq_X10_init_13 : lkB bl_X10_init 13 = bk_X10_init_13 := rfl
theorem bq_X10_init_22 : lkB bl_X10_init 22 = bk_X10_init_22 := rfl
theorem bq_X10_init_30 : lkB bl_X10_init 30 = bk_X10_init_30 := rfl
set_option maxRecDepth 20000 in
theorem ck_X10_init : ckB rs_X10_init true 10 1 prog_12_method_1_code bl_X10_init = true := by decide +kernel

def rs_X10_best : Rs := rf_X10 [(0, 31, 1, 53, 10), (0, 35, 2, 54, 10)]
def bk_X10_best_0 : List It := [(.aload_n 0, 1, 0, 0, 0, 0), (.iconst 0, 1, 0, 0, 0, 0), (.putfield 24, 3, 10, 1, 0, 0), (.iconst 0, 1, 0, 0, 0, 0), (.istore_n 3, 1, 3, 0, 0, 0)]
def bk_X10_best_7 : List It := [(.iload_n 3, 1, 3, 0, 0, 0), (.iload_n 2, 1, 2, 0, 0, 0), (.if_icmp .ge 40, 3, 49, 0, 0, 0), (.aload_n 1, 1, 1, 0, 0, 0), (.iload_n 3, 1, 3, 0, 0, 0), (.aaload, 1, 0, 0, 0, 0), (.getfield 28, 3, 3, 1, 1, 0), (.ifCond .eq 25, 3, 43, 0, 0, 0), (.aload_n 0, 1, 0, 0, 0, 0), (.getfield 11, 3, 10, 0, 2, 0), (.aload_n 0, 1, 0, 0, 0, 0), (.getfield 24, 3, 10, 1, 0, 0), (.aload_n 1, 1, 1, 0, 0, 0), (.iload_n 3, 1, 3, 0, 0, 0), (.aaload, 1, 0, 0, 0, 0), (.aastore, 1, 0, 0, 0, 0), (.aload_n 0, 1, 0, 0, 0, 0), (.dup, 1, 0, 0, 0, 0), (.getfield 24, 3, 10, 1, 0, 0), (.iconst 1, 1, 0, 0, 0, 1), (.iadd, 1, 0, 0, 0, 0), (.putfield 24, 3, 10, 1, 0, 0)]
def bk_X10_best_43 : List It := [(.iinc 3 1, 3, 3, 0, 0, 1), (.goto (-39), 3, 7, 0, 0, 0)]
def bk_X10_best_49 : List It := [(.iconst 1, 1, 0, 0, 0, 1), (.aload_n 0, 1, 0, 0, 0, 0), (.getfield 24, 3, 10, 1, 0, 0), (.ishl, 1, 0, 0, 0, 0), (.iconst 1, 1, 0, 0, 0, 1), (.isub, 1, 0, 0, 0, 0), (.istore_n 3, 1, 3, 0, 0, 0), (.aload_n 0, 1, 0, 0, 0, 0), (.getfield 17, 3, 10, 2, 2, 0), (.iload_n 3, 1, 3, 0, 0, 0), (.iconst 0, 1, 0, 0, 0, 0), (.iastore, 1, 0, 0, 0, 0), (.iload_n 3, 1, 3, 0, 0, 0), (.iconst 1, 1, 0, 0, 0, 1), (.isub, 1, 0, 0, 0, 0), (.istore 4, 2, 4, 0, 0, 0)]
def bk_X10_best_70 : List It := [(.iload 4, 2, 4, 0, 0, 0), (.ifCond .lt 32, 3, 104, 0, 0, 0), (.aload_n 0, 1, 0, 0, 0, 0), (.iload 4, 2, 4, 0, 0, 0), (.invokevirtual 31, 3, 1, 53, 10, 0)]
def bk_X10_best_81 : List It := [(.istore 5, 2, 5, 0, 0, 0), (.aload_n 0, 1, 0, 0, 0, 0), (.getfield 17, 3, 10, 2, 2, 0), (.iload 4, 2, 4, 0, 0, 0), (.aload_n 0, 1, 0, 0, 0, 0), (.iload 4, 2, 4, 0, 0, 0), (.iload 5, 2, 5, 0, 0, 0), (.invokevirtual 35, 3, 2, 54, 10, 0)]
def bk_X10_best_97 : List It := [(.iastore, 1, 0, 0, 0, 0), (.iinc 4 (-1), 3, 4, 0, 0, (-1)), (.goto (-31), 3, 70, 0, 0, 0)]
def bk_X10_best_104 : List It := [(.iconst 0, 1, 0, 0, 0, 0), (.istore 4, 2, 4, 0, 0, 0), (.iconst 0, 1, 0, 0, 0, 0), (.istore 5, 2, 5, 0, 0, 0)]
def bk_X10_best_110 : List It := [(.iload 5, 2, 5, 0, 0, 0), (.aload_n 0, 1, 0, 0, 0, 0), (.getfield 24, 3, 10, 1, 0, 0), (.if_icmp .ge 51, 3, 167, 0, 0, 0), (.aload_n 0, 1, 0, 0, 0, 0), (.iload 4, 2, 4, 0, 0, 0), (.invokevirtual 31, 3, 1, 53, 10, 0)]
def bk_X10_best_125 : List It := [(.istore 6, 2, 6, 0, 0, 0), (.aload_n 0, 1, 0, 0, 0, 0), (.getfield 21, 3, 10, 3, 2, 0), (.aload_n 0, 1, 0, 0, 0, 0), (.getfield 11, 3, 10, 0, 2, 0), (.iload 5, 2, 5, 0, 0, 0), (.aaload, 1, 0, 0, 0, 0), (.getfield 39, 3, 3, 0, 0, 0), (.aload_n 0, 1, 0, 0, 0, 0), (.getfield 11, 3, 10, 0, 2, 0), (.iload 6, 2, 6, 0, 0, 0), (.aaload, 1, 0, 0, 0, 0), (.getfield 39, 3, 3, 0, 0, 0), (.iastore, 1, 0, 0, 0, 0), (.iload 4, 2, 4, 0, 0, 0), (.iconst 1, 1, 0, 0, 0, 1), (.iload 6, 2, 6, 0, 0, 0), (.ishl, 1, 0, 0, 0, 0), (.ior, 1, 0, 0, 0, 0), (.istore 4, 2, 4, 0, 0, 0), (.iinc 5 1, 3, 5, 0, 0, 1), (.goto (-54), 3, 110, 0, 0, 0)]
def bk_X10_best_167 : List It := [(.aload_n 0, 1, 0, 0, 0, 0), (.getfield 17, 3, 10, 2, 2, 0), (.iconst 0, 1, 0, 0, 0, 0), (.iaload, 1, 0, 0, 0, 0), (.ireturn, 1, 0, 0, 0, 0)]
def bl_X10_best : List (Nat × List It) := [(0, bk_X10_best_0), (7, bk_X10_best_7), (43, bk_X10_best_43), (49, bk_X10_best_49), (70, bk_X10_best_70), (81, bk_X10_best_81), (97, bk_X10_best_97), (104, bk_X10_best_104), (110, bk_X10_best_110), (125, bk_X10_best_125), (167, bk_X10_best_167)]
theorem bq_X10_best_0 : lkB bl_X10_best 0 = bk_X10_best_0 := rfl
theorem bq_X10_best_7 : lkB bl_X10_best 7 = bk_X10_best_7 := rfl
theorem bq_X10_best_43 : lkB bl_X10_best 43 = bk_X10_best_43 := rfl
theorem bq_X10_best_49 : lkB bl_X10_best 49 = bk_X10_best_49 := rfl
theorem bq_X10_best_70 : lkB bl_X10_best 70 = bk_X10_best_70 := rfl
theorem bq_X10_best_81 : lkB bl_X10_best 81 = bk_X10_best_81 := rfl
theorem bq_X10_best_97 : lkB bl_X10_best 97 = bk_X10_best_97 := rfl
theorem bq_X10_best_104 : lkB bl_X10_best 104 = bk_X10_best_104 := rfl
theorem bq_X10_best_110 : lkB bl_X10_best 110 = bk_X10_best_110 := rfl
theorem bq_X10_best_125 : lkB bl_X10_best 125 = bk_X10_best_125 := rfl
theorem bq_X10_best_167 : lkB bl_X10_best 167 = bk_X10_best_167 := rfl
set_option maxRecDepth 20000 in
theorem ck_X10_best : ckB rs_X10_best false 10 7 prog_12_method_2_code bl_X10_best = true := by decide +kernel

def rs_X10_holeOf : Rs := rf_X10 []
def bk_X10_holeOf_0 : List It := [(.aload_n 0, 1, 0, 0, 0, 0), (.getfield 21, 3, 10, 3, 2, 0), (.iload_n 1, 1, 1, 0, 0, 0), (.iaload, 1, 0, 0, 0, 0), (.ireturn, 1, 0, 0, 0, 0)]
def bl_X10_holeOf : List (Nat × List It) := [(0, bk_X10_holeOf_0)]
theorem bq_X10_holeOf_0 : lkB bl_X10_holeOf 0 = bk_X10_holeOf_0 := rfl
set_option maxRecDepth 20000 in
theorem ck_X10_holeOf : ckB rs_X10_holeOf false 10 2 prog_12_method_3_code bl_X10_holeOf = true := by decide +kernel

def rs_X10_firstBest : Rs := rf_X10 [(0, 35, 2, 54, 10)]
def bk_X10_firstBest_0 : List It := [(.iconst 0, 1, 0, 0, 0, 0), (.istore_n 2, 1, 2, 0, 0, 0), (.ldc 42, 2, 0, 0, 0, 1048576), (.istore_n 3, 1, 3, 0, 0, 0), (.iconst 0, 1, 0, 0, 0, 0), (.istore 4, 2, 4, 0, 0, 0)]
def bk_X10_firstBest_8 : List It := [(.iload 4, 2, 4, 0, 0, 0), (.aload_n 0, 1, 0, 0, 0, 0), (.getfield 24, 3, 10, 1, 0, 0), (.if_icmp .ge 40, 3, 54, 0, 0, 0), (.iload_n 1, 1, 1, 0, 0, 0), (.iload 4, 2, 4, 0, 0, 0), (.ishr, 1, 0, 0, 0, 0), (.iconst 1, 1, 0, 0, 0, 1), (.iand, 1, 0, 0, 0, 0), (.ifCond .ne 25, 3, 48, 0, 0, 0), (.aload_n 0, 1, 0, 0, 0, 0), (.iload_n 1, 1, 1, 0, 0, 0), (.iload 4, 2, 4, 0, 0, 0), (.invokevirtual 35, 3, 2, 54, 10, 0)]
def bk_X10_firstBest_33 : List It := [(.iload_n 3, 1, 3, 0, 0, 0), (.if_icmp .ge 14, 3, 48, 0, 0, 0), (.iload 4, 2, 4, 0, 0, 0), (.istore_n 2, 1, 2, 0, 0, 0), (.aload_n 0, 1, 0, 0, 0, 0), (.iload_n 1, 1, 1, 0, 0, 0), (.iload 4, 2, 4, 0, 0, 0), (.invokevirtual 35, 3, 2, 54, 10, 0)]
def bk_X10_firstBest_47 : List It := [(.istore_n 3, 1, 3, 0, 0, 0)]
def bk_X10_firstBest_48 : List It := [(.iinc 4 1, 3, 4, 0, 0, 1), (.goto (-43), 3, 8, 0, 0, 0)]
def bk_X10_firstBest_54 : List It := [(.iload_n 2, 1, 2, 0, 0, 0), (.ireturn, 1, 0, 0, 0, 0)]
def bl_X10_firstBest : List (Nat × List It) := [(0, bk_X10_firstBest_0), (8, bk_X10_firstBest_8), (33, bk_X10_firstBest_33), (47, bk_X10_firstBest_47), (48, bk_X10_firstBest_48), (54, bk_X10_firstBest_54)]
theorem bq_X10_firstBest_0 : lkB bl_X10_firstBest 0 = bk_X10_firstBest_0 := rfl
theorem bq_X10_firstBest_8 : lkB bl_X10_firstBest 8 = bk_X10_firstBest_8 := rfl
theorem bq_X10_firstBest_33 : lkB bl_X10_firstBest 33 = bk_X10_firstBest_33 := rfl
theorem bq_X10_firstBest_47 : lkB bl_X10_firstBest 47 = bk_X10_firstBest_47 := rfl
theorem bq_X10_firstBest_48 : lkB bl_X10_firstBest 48 = bk_X10_firstBest_48 := rfl
theorem bq_X10_firstBest_54 : lkB bl_X10_firstBest 54 = bk_X10_firstBest_54 := rfl
set_option maxRecDepth 20000 in
theorem ck_X10_firstBest : ckB rs_X10_firstBest false 10 5 prog_12_method_4_code bl_X10_firstBest = true := by decide +kernel

def rs_X10_costWith : Rs := rf_X10 [(1, 43, 1, 191, 0), (0, 48, 1, 12, 3)]
def bk_X10_costWith_0 : List It := [(.aload_n 0, 1, 0, 0, 0, 0), (.getfield 11, 3, 10, 0, 2, 0), (.iload_n 1, 1, 1, 0, 0, 0), (.invokestatic 43, 3, 1, 191, 0, 0)]
def bk_X10_costWith_8 : List It := [(.aaload, 1, 0, 0, 0, 0), (.aload_n 0, 1, 0, 0, 0, 0), (.getfield 11, 3, 10, 0, 2, 0), (.iload_n 2, 1, 2, 0, 0, 0), (.aaload, 1, 0, 0, 0, 0), (.invokevirtual 48, 3, 1, 12, 3, 0)]
def bk_X10_costWith_18 : List It := [(.aload_n 0, 1, 0, 0, 0, 0), (.getfield 17, 3, 10, 2, 2, 0), (.iload_n 1, 1, 1, 0, 0, 0), (.iconst 1, 1, 0, 0, 0, 1), (.iload_n 2, 1, 2, 0, 0, 0), (.ishl, 1, 0, 0, 0, 0), (.ior, 1, 0, 0, 0, 0), (.iaload, 1, 0, 0, 0, 0), (.iadd, 1, 0, 0, 0, 0), (.ireturn, 1, 0, 0, 0, 0)]
def bl_X10_costWith : List (Nat × List It) := [(0, bk_X10_costWith_0), (8, bk_X10_costWith_8), (18, bk_X10_costWith_18)]
theorem bq_X10_costWith_0 : lkB bl_X10_costWith 0 = bk_X10_costWith_0 := rfl
theorem bq_X10_costWith_8 : lkB bl_X10_costWith 8 = bk_X10_costWith_8 := rfl
theorem bq_X10_costWith_18 : lkB bl_X10_costWith 18 = bk_X10_costWith_18 := rfl
set_option maxRecDepth 20000 in
theorem ck_X10_costWith : ckB rs_X10_costWith false 10 3 prog_12_method_5_code bl_X10_costWith = true := by decide +kernel
