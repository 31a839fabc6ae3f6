def rs_X12_liars : Rs := rf_X12 [(0, 234, 0, 153, 12)]
def bk_X12_liars_0 : List It := [(.aload_n 0, 1, 0, 0, 0, 0), (.invokevirtual 234, 3, 0, 153, 12, 0)]
def bk_X12_liars_4 : List It := [(.istore_n 1, 1, 1, 0, 0, 0), (.iconst 0, 1, 0, 0, 0, 0), (.istore_n 2, 1, 2, 0, 0, 0), (.iconst 0, 1, 0, 0, 0, 0), (.istore_n 3, 1, 3, 0, 0, 0)]
def bk_X12_liars_9 : List It := [(.iload_n 3, 1, 3, 0, 0, 0), (.aload_n 0, 1, 0, 0, 0, 0), (.getfield 146, 3, 12, 4, 0, 0), (.if_icmp .ge 17, 3, 31, 0, 0, 0), (.iload_n 2, 1, 2, 0, 0, 0), (.iload_n 1, 1, 1, 0, 0, 0), (.iload_n 3, 1, 3, 0, 0, 0), (.ishr, 1, 0, 0, 0, 0), (.iconst 1, 1, 0, 0, 0, 1), (.iand, 1, 0, 0, 0, 0), (.iadd, 1, 0, 0, 0, 0), (.istore_n 2, 1, 2, 0, 0, 0), (.iinc 3 1, 3, 3, 0, 0, 1), (.goto (-19), 3, 9, 0, 0, 0)]
def bk_X12_liars_31 : List It := [(.iload_n 2, 1, 2, 0, 0, 0), (.ireturn, 1, 0, 0, 0, 0)]
def bl_X12_liars : List (Nat × List It) := [(0, bk_X12_liars_0), (4, bk_X12_liars_4), (9, bk_X12_liars_9), (31, bk_X12_liars_31)]
theorem bq_X12_liars_0 : lkB bl_X12_liars 0 = bk_X12_liars_0 := rfl
theorem bq_X12_liars_4 : lkB bl_X12_liars 4 = bk_X12_liars_4 := rfl
theorem bq_X12_liars_9 : lkB bl_X12_liars 9 = bk_X12_liars_9 := rfl
theorem bq_X12_liars_31 : lkB bl_X12_liars 31 = bk_X12_liars_31 := rfl
set_option maxRecDepth 20000 in
theorem ck_X12_liars : ckB rs_X12_liars false 12 4 prog_14_method_42_code bl_X12_liars = true := by decide +kernel

def rs_X12_liar : Rs := rf_X12 [(0, 234, 0, 153, 12), (1, 223, 2, 145, 0)]
def bk_X12_liar_0 : List It := [(.aload_n 0, 1, 0, 0, 0, 0), (.invokevirtual 234, 3, 0, 153, 12, 0)]
def bk_X12_liar_4 : List It := [(.iload_n 1, 1, 1, 0, 0, 0), (.invokestatic 223, 3, 2, 145, 0, 0)]
def bk_X12_liar_8 : List It := [(.ireturn, 1, 0, 0, 0, 0)]
def bl_X12_liar : List (Nat × List It) := [(0, bk_X12_liar_0), (4, bk_X12_liar_4), (8, bk_X12_liar_8)]
theorem bq_X12_liar_0 : lkB bl_X12_liar 0 = bk_X12_liar_0 := rfl
theorem bq_X12_liar_4 : lkB bl_X12_liar 4 = bk_X12_liar_4 := rfl
theorem bq_X12_liar_8 : lkB bl_X12_liar 8 = bk_X12_liar_8 := rfl
set_option maxRecDepth 20000 in
theorem ck_X12_liar : ckB rs_X12_liar false 12 2 prog_14_method_43_code bl_X12_liar = true := by decide +kernel

def rs_X12_leg : Rs := rf_X12 [(0, 126, 1, 116, 12), (1, 149, 2, 125, 0), (1, 121, 3, 115, 0)]
def bk_X12_leg_0 : List It := [(.aload_n 0, 1, 0, 0, 0, 0), (.iload_n 1, 1, 1, 0, 0, 0), (.invokevirtual 126, 3, 1, 116, 12, 0)]
def bk_X12_leg_5 : List It := [(.ifCond .ne 6, 3, 11, 0, 0, 0), (.ldc 130, 2, 0, 0, 0, (-900001)), (.ireturn, 1, 0, 0, 0, 0)]
def bk_X12_leg_11 : List It := [(.iload_n 2, 1, 2, 0, 0, 0), (.iload_n 3, 1, 3, 0, 0, 0), (.invokestatic 149, 3, 2, 125, 0, 0)]
def bk_X12_leg_16 : List It := [(.ifCond .eq 33, 3, 49, 0, 0, 0), (.iload 4, 2, 4, 0, 0, 0), (.i2l, 1, 0, 0, 0, 0), (.ldc2_w 237, 3, 0, 0, 0, (-999)), (.ldc2_w 239, 3, 0, 0, 0, 999), (.invokestatic 121, 3, 3, 115, 0, 0)]
def bk_X12_leg_31 : List It := [(.ifCond .eq 18, 3, 49, 0, 0, 0), (.iload 5, 2, 5, 0, 0, 0), (.i2l, 1, 0, 0, 0, 0), (.iload 4, 2, 4, 0, 0, 0), (.i2l, 1, 0, 0, 0, 0), (.ldc2_w 239, 3, 0, 0, 0, 999), (.invokestatic 121, 3, 3, 115, 0, 0)]
def bk_X12_leg_46 : List It := [(.ifCond .ne 6, 3, 52, 0, 0, 0)]
def bk_X12_leg_49 : List It := [(.ldc 139, 2, 0, 0, 0, (-900002)), (.ireturn, 1, 0, 0, 0, 0)]
def bk_X12_leg_52 : List It := [(.iconst 0, 1, 0, 0, 0, 0), (.istore 6, 2, 6, 0, 0, 0), (.iconst 0, 1, 0, 0, 0, 0), (.istore 7, 2, 7, 0, 0, 0)]
def bk_X12_leg_58 : List It := [(.iload 7, 2, 7, 0, 0, 0), (.aload_n 0, 1, 0, 0, 0, 0), (.getfield 241, 3, 12, 16, 0, 0), (.if_icmp .ge 30, 3, 94, 0, 0, 0), (.iload 6, 2, 6, 0, 0, 0), (.aload_n 0, 1, 0, 0, 0, 0), (.getfield 51, 3, 12, 17, 2, 0), (.iload 7, 2, 7, 0, 0, 0), (.iaload, 1, 0, 0, 0, 0), (.iload_n 1, 1, 1, 0, 0, 0), (.if_icmp .ne 7, 3, 84, 0, 0, 0), (.iconst 1, 1, 0, 0, 0, 1), (.goto 4, 3, 85, 0, 0, 0)]
def bk_X12_leg_84 : List It := [(.iconst 0, 1, 0, 0, 0, 0)]
def bk_X12_leg_85 : List It := [(.iadd, 1, 0, 0, 0, 0), (.istore 6, 2, 6, 0, 0, 0), (.iinc 7 1, 3, 7, 0, 0, 1), (.goto (-33), 3, 58, 0, 0, 0)]
def bk_X12_leg_94 : List It := [(.iload 6, 2, 6, 0, 0, 0), (.iconst 3, 1, 0, 0, 0, 3), (.if_icmp .ne 6, 3, 103, 0, 0, 0), (.ldc 153, 2, 0, 0, 0, (-900003)), (.ireturn, 1, 0, 0, 0, 0)]
def bk_X12_leg_103 : List It := [(.aload_n 0, 1, 0, 0, 0, 0), (.getfield 51, 3, 12, 17, 2, 0), (.aload_n 0, 1, 0, 0, 0, 0), (.getfield 241, 3, 12, 16, 0, 0), (.iload_n 1, 1, 1, 0, 0, 0), (.iastore, 1, 0, 0, 0, 0), (.aload_n 0, 1, 0, 0, 0, 0), (.getfield 54, 3, 12, 18, 2, 0), (.aload_n 0, 1, 0, 0, 0, 0), (.getfield 241, 3, 12, 16, 0, 0), (.iload_n 2, 1, 2, 0, 0, 0), (.iastore, 1, 0, 0, 0, 0), (.aload_n 0, 1, 0, 0, 0, 0), (.getfield 57, 3, 12, 19, 2, 0), (.aload_n 0, 1, 0, 0, 0, 0), (.getfield 241, 3, 12, 16, 0, 0), (.iload_n 3, 1, 3, 0, 0, 0), (.iastore, 1, 0, 0, 0, 0), (.aload_n 0, 1, 0, 0, 0, 0), (.getfield 60, 3, 12, 20, 2, 0), (.aload_n 0, 1, 0, 0, 0, 0), (.getfield 241, 3, 12, 16, 0, 0), (.iload 4, 2, 4, 0, 0, 0), (.iastore, 1, 0, 0, 0, 0), (.aload_n 0, 1, 0, 0, 0, 0), (.getfield 63, 3, 12, 21, 2, 0), (.aload_n 0, 1, 0, 0, 0, 0), (.getfield 241, 3, 12, 16, 0, 0), (.iload 5, 2, 5, 0, 0, 0), (.iastore, 1, 0, 0, 0, 0), (.aload_n 0, 1, 0, 0, 0, 0), (.getfield 66, 3, 12, 22, 2, 0), (.aload_n 0, 1, 0, 0, 0, 0), (.getfield 241, 3, 12, 16, 0, 0), (.ldc 154, 2, 0, 0, 0, (-900009)), (.iastore, 1, 0, 0, 0, 0), (.aload_n 0, 1, 0, 0, 0, 0), (.dup, 1, 0, 0, 0, 0), (.getfield 241, 3, 12, 16, 0, 0), (.iconst 1, 1, 0, 0, 0, 1), (.iadd, 1, 0, 0, 0, 0), (.putfield 241, 3, 12, 16, 0, 0), (.aload_n 0, 1, 0, 0, 0, 0), (.getfield 241, 3, 12, 16, 0, 0), (.iconst 1, 1, 0, 0, 0, 1), (.isub, 1, 0, 0, 0, 0), (.ireturn, 1, 0, 0, 0, 0)]
def bl_X12_leg : List (Nat × List It) := [(0, bk_X12_leg_0), (5, bk_X12_leg_5), (11, bk_X12_leg_11), (16, bk_X12_leg_16), (31, bk_X12_leg_31), (46, bk_X12_leg_46), (49, bk_X12_leg_49), (52, bk_X12_leg_52), (58, bk_X12_leg_58), (84, bk_X12_leg_84), (85, bk_X12_leg_85), (94, bk_X12_leg_94), (103, bk_X12_leg_103)]
theorem bq_X12_leg_0 : lkB bl_X12_leg 0 = bk_X12_leg_0 := rfl
theorem bq_X12_leg_5 : lkB bl_X12_leg 5 = bk_X12_leg_5 := rfl
theorem bq_X12_leg_11 : lkB bl_X12_leg 11 = bk_X12_leg_11 := rfl
theorem bq_X12_leg_16 : lkB bl_X12_leg 16 = bk_X12_leg_16 := rfl
theorem bq_X12_leg_31 : lkB bl_X12_leg 31 = bk_X12_leg_31 := rfl
theorem bq_X12_leg_46 : lkB bl_X12_leg 46 = bk_X12_leg_46 := rfl
theorem bq_X12_leg_49 : lkB bl_X12_leg 49 = bk_X12_leg_49 := rfl
theorem bq_X12_leg_52 : lkB bl_X12_leg 52 = bk_X12_leg_52 := rfl
theorem bq_X12_leg_58 : lkB bl_X12_leg 58 = bk_X12_leg_58 := rfl
theorem bq_X12_leg_84 : lkB bl_X12_leg 84 = bk_X12_leg_84 := rfl
theorem bq_X12_leg_85 : lkB bl_X12_leg 85 = bk_X12_leg_85 := rfl
theorem bq_X12_leg_94 : lkB bl_X12_leg 94 = bk_X12_leg_94 := rfl
theorem bq_X12_leg_103 : lkB bl_X12_leg 103 = bk_X12_leg_103 := rfl
set_option maxRecDepth 20000 in
theorem ck_X12_leg : ckB rs_X12_leg false 12 8 prog_14_method_44_code bl_X12_leg = true := by decide +kernel

def rs_X12_stick : Rs := rf_X12 [(1, 121, 3, 115, 0)]
def bk_X12_stick_0 : List It := [(.iload_n 1, 1, 1, 0, 0, 0), (.i2l, 1, 0, 0, 0, 0), (.lconst 0, 1, 0, 0, 0, 0), (.aload_n 0, 1, 0, 0, 0, 0), (.getfield 241, 3, 12, 16, 0, 0), (.iconst 1, 1, 0, 0, 0, 1), (.isub, 1, 0, 0, 0, 0), (.i2l, 1, 0, 0, 0, 0), (.invokestatic 121, 3, 3, 115, 0, 0)]
def bk_X12_stick_13 : List It := [(.ifCond .ne 6, 3, 19, 0, 0, 0), (.ldc 130, 2, 0, 0, 0, (-900001)), (.ireturn, 1, 0, 0, 0, 0)]
def bk_X12_stick_19 : List It := [(.iload_n 2, 1, 2, 0, 0, 0), (.ldc 154, 2, 0, 0, 0, (-900009)), (.if_icmp .eq 28, 3, 50, 0, 0, 0), (.iload_n 2, 1, 2, 0, 0, 0), (.i2l, 1, 0, 0, 0, 0), (.aload_n 0, 1, 0, 0, 0, 0), (.getfield 60, 3, 12, 20, 2, 0), (.iload_n 1, 1, 1, 0, 0, 0), (.iaload, 1, 0, 0, 0, 0), (.i2l, 1, 0, 0, 0, 0), (.aload_n 0, 1, 0, 0, 0, 0), (.getfield 63, 3, 12, 21, 2, 0), (.iload_n 1, 1, 1, 0, 0, 0), (.iaload, 1, 0, 0, 0, 0), (.i2l, 1, 0, 0, 0, 0), (.invokestatic 121, 3, 3, 115, 0, 0)]
def bk_X12_stick_44 : List It := [(.ifCond .ne 6, 3, 50, 0, 0, 0), (.ldc 139, 2, 0, 0, 0, (-900002)), (.ireturn, 1, 0, 0, 0, 0)]
def bk_X12_stick_50 : List It := [(.aload_n 0, 1, 0, 0, 0, 0), (.getfield 66, 3, 12, 22, 2, 0), (.iload_n 1, 1, 1, 0, 0, 0), (.iaload, 1, 0, 0, 0, 0), (.istore_n 3, 1, 3, 0, 0, 0), (.aload_n 0, 1, 0, 0, 0, 0), (.getfield 66, 3, 12, 22, 2, 0), (.iload_n 1, 1, 1, 0, 0, 0), (.iload_n 2, 1, 2, 0, 0, 0), (.iastore, 1, 0, 0, 0, 0), (.iload_n 3, 1, 3, 0, 0, 0), (.ireturn, 1, 0, 0, 0, 0)]
def bl_X12_stick : List (Nat × List It) := [(0, bk_X12_stick_0), (13, bk_X12_stick_13), (19, bk_X12_stick_19), (44, bk_X12_stick_44), (50, bk_X12_stick_50)]
theorem bq_X12_stick_0 : lkB bl_X12_stick 0 = bk_X12_stick_0 := rfl
theorem bq_X12_stick_13 : lkB bl_X12_stick 13 = bk_X12_stick_13 := rfl
theorem bq_X12_stick_19 : lkB bl_X12_stick 19 = bk_X12_stick_19 := rfl
theorem bq_X12_stick_44 : lkB bl_X12_stick 44 = bk_X12_stick_44 := rfl
theorem bq_X12_stick_50 : lkB bl_X12_stick 50 = bk_X12_stick_50 := rfl
set_option maxRecDepth 20000 in
theorem ck_X12_stick : ckB rs_X12_stick false 12 4 prog_14_method_45_code bl_X12_stick = true := by decide +kernel

def rs_X12_barOf : Rs := rf_X12 [(0, 217, 3, 123, 12), (1, 121, 3, 115, 0)]
def bk_X12_barOf_0 : List It := [(.iconst 0, 1, 0, 0, 0, 0), (.istore_n 2, 1, 2, 0, 0, 0)]
def bk_X12_barOf_2 : List It := [(.iload_n 2, 1, 2, 0, 0, 0), (.aload_n 0, 1, 0, 0, 0, 0), (.getfield 241, 3, 12, 16, 0, 0), (.if_icmp .ge 82, 3, 89, 0, 0, 0), (.aload_n 0, 1, 0, 0, 0, 0), (.getfield 51, 3, 12, 17, 2, 0), (.iload_n 2, 1, 2, 0, 0, 0), (.iaload, 1, 0, 0, 0, 0), (.iload_n 1, 1, 1, 0, 0, 0), (.if_icmp .ne 66, 3, 83, 0, 0, 0), (.aload_n 0, 1, 0, 0, 0, 0), (.iload_n 1, 1, 1, 0, 0, 0), (.aload_n 0, 1, 0, 0, 0, 0), (.getfield 54, 3, 12, 18, 2, 0), (.iload_n 2, 1, 2, 0, 0, 0), (.iaload, 1, 0, 0, 0, 0), (.aload_n 0, 1, 0, 0, 0, 0), (.getfield 57, 3, 12, 19, 2, 0), (.iload_n 2, 1, 2, 0, 0, 0), (.iaload, 1, 0, 0, 0, 0), (.invokevirtual 217, 3, 3, 123, 12, 0)]
def bk_X12_barOf_37 : List It := [(.istore_n 3, 1, 3, 0, 0, 0), (.iload_n 3, 1, 3, 0, 0, 0), (.i2l, 1, 0, 0, 0, 0), (.aload_n 0, 1, 0, 0, 0, 0), (.getfield 60, 3, 12, 20, 2, 0), (.iload_n 2, 1, 2, 0, 0, 0), (.iaload, 1, 0, 0, 0, 0), (.i2l, 1, 0, 0, 0, 0), (.aload_n 0, 1, 0, 0, 0, 0), (.getfield 63, 3, 12, 21, 2, 0), (.iload_n 2, 1, 2, 0, 0, 0), (.iaload, 1, 0, 0, 0, 0), (.i2l, 1, 0, 0, 0, 0), (.invokestatic 121, 3, 3, 115, 0, 0)]
def bk_X12_barOf_57 : List It := [(.ifCond .eq 24, 3, 81, 0, 0, 0), (.aload_n 0, 1, 0, 0, 0, 0), (.getfield 66, 3, 12, 22, 2, 0), (.iload_n 2, 1, 2, 0, 0, 0), (.iaload, 1, 0, 0, 0, 0), (.ldc 154, 2, 0, 0, 0, (-900009)), (.if_icmp .eq 15, 3, 83, 0, 0, 0), (.aload_n 0, 1, 0, 0, 0, 0), (.getfield 66, 3, 12, 22, 2, 0), (.iload_n 2, 1, 2, 0, 0, 0), (.iaload, 1, 0, 0, 0, 0), (.iload_n 3, 1, 3, 0, 0, 0), (.if_icmp .eq 5, 3, 83, 0, 0, 0)]
def bk_X12_barOf_81 : List It := [(.iload_n 2, 1, 2, 0, 0, 0), (.ireturn, 1, 0, 0, 0, 0)]
def bk_X12_barOf_83 : List It := [(.iinc 2 1, 3, 2, 0, 0, 1), (.goto (-84), 3, 2, 0, 0, 0)]
def bk_X12_barOf_89 : List It := [(.ldc 154, 2, 0, 0, 0, (-900009)), (.ireturn, 1, 0, 0, 0, 0)]
def bl_X12_barOf : List (Nat × List It) := [(0, bk_X12_barOf_0), (2, bk_X12_barOf_2), (37, bk_X12_barOf_37), (57, bk_X12_barOf_57), (81, bk_X12_barOf_81), (83, bk_X12_barOf_83), (89, bk_X12_barOf_89)]
theorem bq_X12_barOf_0 : lkB bl_X12_barOf 0 = bk_X12_barOf_0 := rfl
theorem bq_X12_barOf_2 : lkB bl_X12_barOf 2 = bk_X12_barOf_2 := rfl
theorem bq_X12_barOf_37 : lkB bl_X12_barOf 37 = bk_X12_barOf_37 := rfl
theorem bq_X12_barOf_57 : lkB bl_X12_barOf 57 = bk_X12_barOf_57 := rfl
theorem bq_X12_barOf_81 : lkB bl_X12_barOf 81 = bk_X12_barOf_81 := rfl
theorem bq_X12_barOf_83 : lkB bl_X12_barOf 83 = bk_X12_barOf_83 := rfl
theorem bq_X12_barOf_89 : lkB bl_X12_barOf 89 = bk_X12_barOf_89 := rfl
set_option maxRecDepth 20000 in
theorem ck_X12_barOf : ckB rs_X12_barOf false 12 4 prog_14_method_46_code bl_X12_barOf = true := by decide +kernel

def rs_X12_bars : Rs := rf_X12 [(0, 126, 1, 116, 12), (0, 244, 1, 158, 12)]
def bk_X12_bars_0 : List It := [(.aload_n 0, 1, 0, 0, 0, 0), (.iload_n 1, 1, 1, 0, 0, 0), (.invokevirtual 126, 3, 1, 116, 12, 0)]
def bk_X12_bars_5 : List It := [(.ifCond .eq 11, 3, 16, 0, 0, 0), (.aload_n 0, 1, 0, 0, 0, 0), (.iload_n 1, 1, 1, 0, 0, 0), (.invokevirtual 244, 3, 1, 158, 12, 0)]
def bk_X12_bars_13 : List It := [(.goto 5, 3, 18, 0, 0, 0)]
def bk_X12_bars_16 : List It := [(.ldc 130, 2, 0, 0, 0, (-900001))]
def bk_X12_bars_18 : List It := [(.ireturn, 1, 0, 0, 0, 0)]
def bl_X12_bars : List (Nat × List It) := [(0, bk_X12_bars_0), (5, bk_X12_bars_5), (13, bk_X12_bars_13), (16, bk_X12_bars_16), (18, bk_X12_bars_18)]
theorem bq_X12_bars_0 : lkB bl_X12_bars 0 = bk_X12_bars_0 := rfl
theorem bq_X12_bars_5 : lkB bl_X12_bars 5 = bk_X12_bars_5 := rfl
theorem bq_X12_bars_13 : lkB bl_X12_bars 13 = bk_X12_bars_13 := rfl
theorem bq_X12_bars_16 : lkB bl_X12_bars 16 = bk_X12_bars_16 := rfl
theorem bq_X12_bars_18 : lkB bl_X12_bars 18 = bk_X12_bars_18 := rfl
set_option maxRecDepth 20000 in
theorem ck_X12_bars : ckB rs_X12_bars false 12 2 prog_14_method_47_code bl_X12_bars = true := by decide +kernel

def rs_X12_set : Rs := rf_X12 [(0, 126, 1, 116, 12), (0, 244, 1, 158, 12)]
def bk_X12_set_0 : List It := [(.aload_n 0, 1, 0, 0, 0, 0), (.iload_n 1, 1, 1, 0, 0, 0), (.invokevirtual 126, 3, 1, 116, 12, 0)]
def bk_X12_set_5 : List It := [(.ifCond .ne 6, 3, 11, 0, 0, 0), (.ldc 130, 2, 0, 0, 0, (-900001)), (.ireturn, 1, 0, 0, 0, 0)]
def bk_X12_set_11 : List It := [(.aload_n 0, 1, 0, 0, 0, 0), (.iload_n 1, 1, 1, 0, 0, 0), (.invokevirtual 244, 3, 1, 158, 12, 0)]
def bk_X12_set_16 : List It := [(.ldc 154, 2, 0, 0, 0, (-900009)), (.if_icmp .eq 6, 3, 24, 0, 0, 0), (.ldc 153, 2, 0, 0, 0, (-900003)), (.ireturn, 1, 0, 0, 0, 0)]
def bk_X12_set_24 : List It := [(.iconst 3, 1, 0, 0, 0, 3), (.iload_n 1, 1, 1, 0, 0, 0), (.imul, 1, 0, 0, 0, 0), (.istore_n 2, 1, 2, 0, 0, 0)]
def bk_X12_set_28 : List It := [(.iload_n 2, 1, 2, 0, 0, 0), (.iconst 3, 1, 0, 0, 0, 3), (.iload_n 1, 1, 1, 0, 0, 0), (.imul, 1, 0, 0, 0, 0), (.iconst 3, 1, 0, 0, 0, 3), (.iadd, 1, 0, 0, 0, 0), (.if_icmp .ge 21, 3, 55, 0, 0, 0), (.aload_n 0, 1, 0, 0, 0, 0), (.getfield 13, 3, 12, 2, 2, 0), (.iload_n 2, 1, 2, 0, 0, 0), (.aload_n 0, 1, 0, 0, 0, 0), (.getfield 17, 3, 12, 3, 2, 0), (.iload_n 2, 1, 2, 0, 0, 0), (.iaload, 1, 0, 0, 0, 0), (.iastore, 1, 0, 0, 0, 0), (.iinc 2 1, 3, 2, 0, 0, 1), (.goto (-24), 3, 28, 0, 0, 0)]
def bk_X12_set_55 : List It := [(.iconst 1, 1, 0, 0, 0, 1), (.ireturn, 1, 0, 0, 0, 0)]
def bl_X12_set : List (Nat × List It) := [(0, bk_X12_set_0), (5, bk_X12_set_5), (11, bk_X12_set_11), (16, bk_X12_set_16), (24, bk_X12_set_24), (28, bk_X12_set_28), (55, bk_X12_set_55)]
theorem bq_X12_set_0 : lkB bl_X12_set 0 = bk_X12_set_0 := rfl
theorem bq_X12_set_5 : lkB bl_X12_set 5 = bk_X12_set_5 := rfl
theorem bq_X12_set_11 : lkB bl_X12_set 11 = bk_X12_set_11 := rfl
theorem bq_X12_set_16 : lkB bl_X12_set 16 = bk_X12_set_16 := rfl
theorem bq_X12_set_24 : lkB bl_X12_set 24 = bk_X12_set_24 := rfl
theorem bq_X12_set_28 : lkB bl_X12_set 28 = bk_X12_set_28 := rfl
theorem bq_X12_set_55 : lkB bl_X12_set 55 = bk_X12_set_55 := rfl
set_option maxRecDepth 20000 in
theorem ck_X12_set : ckB rs_X12_set false 12 3 prog_14_method_48_code bl_X12_set = true := by decide +kernel

def rs_X12_pair : Rs := rf_X12 [(0, 126, 1, 116, 12), (1, 121, 3, 115, 0)]
def bk_X12_pair_0 : List It := [(.aload_n 0, 1, 0, 0, 0, 0), (.iload_n 1, 1, 1, 0, 0, 0), (.invokevirtual 126, 3, 1, 116, 12, 0)]
def bk_X12_pair_5 : List It := [(.ifCond .eq 11, 3, 16, 0, 0, 0), (.aload_n 0, 1, 0, 0, 0, 0), (.iload_n 2, 1, 2, 0, 0, 0), (.invokevirtual 126, 3, 1, 116, 12, 0)]
def bk_X12_pair_13 : List It := [(.ifCond .ne 6, 3, 19, 0, 0, 0)]
def bk_X12_pair_16 : List It := [(.ldc 130, 2, 0, 0, 0, (-900001)), (.ireturn, 1, 0, 0, 0, 0)]
def bk_X12_pair_19 : List It := [(.iload_n 3, 1, 3, 0, 0, 0), (.i2l, 1, 0, 0, 0, 0), (.ldc2_w 140, 3, 0, 0, 0, 2), (.ldc2_w 247, 3, 0, 0, 0, 60), (.invokestatic 121, 3, 3, 115, 0, 0)]
def bk_X12_pair_30 : List It := [(.ifCond .eq 17, 3, 47, 0, 0, 0), (.iload 4, 2, 4, 0, 0, 0), (.i2l, 1, 0, 0, 0, 0), (.lconst 0, 1, 0, 0, 0, 0), (.iload_n 3, 1, 3, 0, 0, 0), (.iconst 1, 1, 0, 0, 0, 1), (.isub, 1, 0, 0, 0, 0), (.i2l, 1, 0, 0, 0, 0), (.invokestatic 121, 3, 3, 115, 0, 0)]
def bk_X12_pair_44 : List It := [(.ifCond .ne 6, 3, 50, 0, 0, 0)]
def bk_X12_pair_47 : List It := [(.ldc 139, 2, 0, 0, 0, (-900002)), (.ireturn, 1, 0, 0, 0, 0)]
def bk_X12_pair_50 : List It := [(.iload_n 1, 1, 1, 0, 0, 0), (.iload_n 2, 1, 2, 0, 0, 0), (.if_icmp .ne 6, 3, 58, 0, 0, 0), (.ldc 153, 2, 0, 0, 0, (-900003)), (.ireturn, 1, 0, 0, 0, 0)]
def bk_X12_pair_58 : List It := [(.aload_n 0, 1, 0, 0, 0, 0), (.getfield 249, 3, 12, 23, 0, 0), (.bipush 20, 2, 0, 0, 0, 20), (.if_icmp .ne 6, 3, 70, 0, 0, 0), (.ldc 125, 2, 0, 0, 0, (-900004)), (.ireturn, 1, 0, 0, 0, 0)]
def bk_X12_pair_70 : List It := [(.aload_n 0, 1, 0, 0, 0, 0), (.getfield 69, 3, 12, 24, 2, 0), (.aload_n 0, 1, 0, 0, 0, 0), (.getfield 249, 3, 12, 23, 0, 0), (.iload_n 1, 1, 1, 0, 0, 0), (.iastore, 1, 0, 0, 0, 0), (.aload_n 0, 1, 0, 0, 0, 0), (.getfield 72, 3, 12, 25, 2, 0), (.aload_n 0, 1, 0, 0, 0, 0), (.getfield 249, 3, 12, 23, 0, 0), (.iload_n 2, 1, 2, 0, 0, 0), (.iastore, 1, 0, 0, 0, 0), (.aload_n 0, 1, 0, 0, 0, 0), (.getfield 75, 3, 12, 26, 2, 0), (.aload_n 0, 1, 0, 0, 0, 0), (.getfield 249, 3, 12, 23, 0, 0), (.iload_n 3, 1, 3, 0, 0, 0), (.iastore, 1, 0, 0, 0, 0), (.aload_n 0, 1, 0, 0, 0, 0), (.getfield 78, 3, 12, 27, 2, 0), (.aload_n 0, 1, 0, 0, 0, 0), (.getfield 249, 3, 12, 23, 0, 0), (.iload 4, 2, 4, 0, 0, 0), (.iastore, 1, 0, 0, 0, 0), (.aload_n 0, 1, 0, 0, 0, 0), (.dup, 1, 0, 0, 0, 0), (.getfield 249, 3, 12, 23, 0, 0), (.iconst 1, 1, 0, 0, 0, 1), (.iadd, 1, 0, 0, 0, 0), (.putfield 249, 3, 12, 23, 0, 0), (.aload_n 0, 1, 0, 0, 0, 0), (.getfield 249, 3, 12, 23, 0, 0), (.iconst 1, 1, 0, 0, 0, 1), (.isub, 1, 0, 0, 0, 0), (.ireturn, 1, 0, 0, 0, 0)]
def bl_X12_pair : List (Nat × List It) := [(0, bk_X12_pair_0), (5, bk_X12_pair_5), (13, bk_X12_pair_13), (16, bk_X12_pair_16), (19, bk_X12_pair_19), (30, bk_X12_pair_30), (44, bk_X12_pair_44), (47, bk_X12_pair_47), (50, bk_X12_pair_50), (58, bk_X12_pair_58), (70, bk_X12_pair_70)]
theorem bq_X12_pair_0 : lkB bl_X12_pair 0 = bk_X12_pair_0 := rfl
theorem bq_X12_pair_5 : lkB bl_X12_pair 5 = bk_X12_pair_5 := rfl
theorem bq_X12_pair_13 : lkB bl_X12_pair 13 = bk_X12_pair_13 := rfl
theorem bq_X12_pair_16 : lkB bl_X12_pair 16 = bk_X12_pair_16 := rfl
theorem bq_X12_pair_19 : lkB bl_X12_pair 19 = bk_X12_pair_19 := rfl
theorem bq_X12_pair_30 : lkB bl_X12_pair 30 = bk_X12_pair_30 := rfl
theorem bq_X12_pair_44 : lkB bl_X12_pair 44 = bk_X12_pair_44 := rfl
theorem bq_X12_pair_47 : lkB bl_X12_pair 47 = bk_X12_pair_47 := rfl
theorem bq_X12_pair_50 : lkB bl_X12_pair 50 = bk_X12_pair_50 := rfl
theorem bq_X12_pair_58 : lkB bl_X12_pair 58 = bk_X12_pair_58 := rfl
theorem bq_X12_pair_70 : lkB bl_X12_pair 70 = bk_X12_pair_70 := rfl
set_option maxRecDepth 20000 in
theorem ck_X12_pair : ckB rs_X12_pair false 12 5 prog_14_method_49_code bl_X12_pair = true := by decide +kernel

def rs_X12_drop : Rs := rf_X12 [(1, 121, 3, 115, 0)]
def bk_X12_drop_0 : List It := [(.iload_n 1, 1, 1, 0, 0, 0), (.i2l, 1, 0, 0, 0, 0), (.lconst 0, 1, 0, 0, 0, 0), (.aload_n 0, 1, 0, 0, 0, 0), (.getfield 249, 3, 12, 23, 0, 0), (.iconst 1, 1, 0, 0, 0, 1), (.isub, 1, 0, 0, 0, 0), (.i2l, 1, 0, 0, 0, 0), (.invokestatic 121, 3, 3, 115, 0, 0)]
def bk_X12_drop_13 : List It := [(.ifCond .ne 6, 3, 19, 0, 0, 0), (.ldc 130, 2, 0, 0, 0, (-900001)), (.ireturn, 1, 0, 0, 0, 0)]
def bk_X12_drop_19 : List It := [(.aload_n 0, 1, 0, 0, 0, 0), (.getfield 75, 3, 12, 26, 2, 0), (.iload_n 1, 1, 1, 0, 0, 0), (.iaload, 1, 0, 0, 0, 0), (.istore_n 2, 1, 2, 0, 0, 0), (.aload_n 0, 1, 0, 0, 0, 0), (.dup, 1, 0, 0, 0, 0), (.getfield 249, 3, 12, 23, 0, 0), (.iconst 1, 1, 0, 0, 0, 1), (.isub, 1, 0, 0, 0, 0), (.putfield 249, 3, 12, 23, 0, 0), (.iload_n 1, 1, 1, 0, 0, 0), (.istore_n 3, 1, 3, 0, 0, 0)]
def bk_X12_drop_38 : List It := [(.iload_n 3, 1, 3, 0, 0, 0), (.aload_n 0, 1, 0, 0, 0, 0), (.getfield 249, 3, 12, 23, 0, 0), (.if_icmp .ge 65, 3, 108, 0, 0, 0), (.aload_n 0, 1, 0, 0, 0, 0), (.getfield 69, 3, 12, 24, 2, 0), (.iload_n 3, 1, 3, 0, 0, 0), (.aload_n 0, 1, 0, 0, 0, 0), (.getfield 69, 3, 12, 24, 2, 0), (.iload_n 3, 1, 3, 0, 0, 0), (.iconst 1, 1, 0, 0, 0, 1), (.iadd, 1, 0, 0, 0, 0), (.iaload, 1, 0, 0, 0, 0), (.iastore, 1, 0, 0, 0, 0), (.aload_n 0, 1, 0, 0, 0, 0), (.getfield 72, 3, 12, 25, 2, 0), (.iload_n 3, 1, 3, 0, 0, 0), (.aload_n 0, 1, 0, 0, 0, 0), (.getfield 72, 3, 12, 25, 2, 0), (.iload_n 3, 1, 3, 0, 0, 0), (.iconst 1, 1, 0, 0, 0, 1), (.iadd, 1, 0, 0, 0, 0), (.iaload, 1, 0, 0, 0, 0), (.iastore, 1, 0, 0, 0, 0), (.aload_n 0, 1, 0, 0, 0, 0), (.getfield 75, 3, 12, 26, 2, 0), (.iload_n 3, 1, 3, 0, 0, 0), (.aload_n 0, 1, 0, 0, 0, 0), (.getfield 75, 3, 12, 26, 2, 0), (.iload_n 3, 1, 3, 0, 0, 0), (.iconst 1, 1, 0, 0, 0, 1), (.iadd, 1, 0, 0, 0, 0), (.iaload, 1, 0, 0, 0, 0), (.iastore, 1, 0, 0, 0, 0), (.aload_n 0, 1, 0, 0, 0, 0), (.getfield 78, 3, 12, 27, 2, 0), (.iload_n 3, 1, 3, 0, 0, 0), (.aload_n 0, 1, 0, 0, 0, 0), (.getfield 78, 3, 12, 27, 2, 0), (.iload_n 3, 1, 3, 0, 0, 0), (.iconst 1, 1, 0, 0, 0, 1), (.iadd, 1, 0, 0, 0, 0), (.iaload, 1, 0, 0, 0, 0), (.iastore, 1, 0, 0, 0, 0), (.iinc 3 1, 3, 3, 0, 0, 1), (.goto (-67), 3, 38, 0, 0, 0)]
def bk_X12_drop_108 : List It := [(.iload_n 2, 1, 2, 0, 0, 0), (.ireturn, 1, 0, 0, 0, 0)]
def bl_X12_drop : List (Nat × List It) := [(0, bk_X12_drop_0), (13, bk_X12_drop_13), (19, bk_X12_drop_19), (38, bk_X12_drop_38), (108, bk_X12_drop_108)]
theorem bq_X12_drop_0 : lkB bl_X12_drop 0 = bk_X12_drop_0 := rfl
theorem bq_X12_drop_13 : lkB bl_X12_drop 13 = bk_X12_drop_13 := rfl
theorem bq_X12_drop_19 : lkB bl_X12_drop 19 = bk_X12_drop_19 := rfl
theorem bq_X12_drop_38 : lkB bl_X12_drop 38 = bk_X12_drop_38 := rfl
theorem bq_X12_drop_108 : lkB bl_X12_drop 108 = bk_X12_drop_108 := rfl
set_option maxRecDepth 20000 in
theorem ck_X12_drop : ckB rs_X12_drop false 12 4 prog_14_method_50_code bl_X12_drop = true := by decide +kernel

def rs_X12_reach : Rs := rf_X12 [(1, 121, 3, 115, 0)]
def bk_X12_reach_0 : List It := [(.iload_n 1, 1, 1, 0, 0, 0), (.i2l, 1, 0, 0, 0, 0), (.lconst 0, 1, 0, 0, 0, 0), (.ldc2_w 252, 3, 0, 0, 0, 6), (.invokestatic 121, 3, 3, 115, 0, 0)]
def bk_X12_reach_9 : List It := [(.ifCond .ne 6, 3, 15, 0, 0, 0), (.ldc 139, 2, 0, 0, 0, (-900002)), (.ireturn, 1, 0, 0, 0, 0)]
def bk_X12_reach_15 : List It := [(.aload_n 0, 1, 0, 0, 0, 0), (.getfield 81, 3, 12, 28, 0, 0), (.istore_n 2, 1, 2, 0, 0, 0), (.aload_n 0, 1, 0, 0, 0, 0), (.iload_n 1, 1, 1, 0, 0, 0), (.putfield 81, 3, 12, 28, 0, 0), (.iload_n 2, 1, 2, 0, 0, 0), (.ireturn, 1, 0, 0, 0, 0)]
def bl_X12_reach : List (Nat × List It) := [(0, bk_X12_reach_0), (9, bk_X12_reach_9), (15, bk_X12_reach_15)]
theorem bq_X12_reach_0 : lkB bl_X12_reach 0 = bk_X12_reach_0 := rfl
theorem bq_X12_reach_9 : lkB bl_X12_reach 9 = bk_X12_reach_9 := rfl
theorem bq_X12_reach_15 : lkB bl_X12_reach 15 = bk_X12_reach_15 := rfl
set_option maxRecDepth 20000 in
theorem ck_X12_reach : ckB rs_X12_reach false 12 3 prog_14_method_51_code bl_X12_reach = true := by decide +kernel

def rs_X12_isPaired : Rs := rf_X12 []
def bk_X12_isPaired_0 : List It := [(.aload_n 0, 1, 0, 0, 0, 0), (.getfield 7, 3, 12, 1, 2, 0), (.aload_n 0, 1, 0, 0, 0, 0), (.getfield 69, 3, 12, 24, 2, 0), (.iload_n 1, 1, 1, 0, 0, 0), (.iaload, 1, 0, 0, 0, 0), (.baload, 1, 0, 0, 0, 0), (.ifCond .eq 21, 3, 32, 0, 0, 0), (.aload_n 0, 1, 0, 0, 0, 0), (.getfield 7, 3, 12, 1, 2, 0), (.aload_n 0, 1, 0, 0, 0, 0), (.getfield 72, 3, 12, 25, 2, 0), (.iload_n 1, 1, 1, 0, 0, 0), (.iaload, 1, 0, 0, 0, 0), (.baload, 1, 0, 0, 0, 0), (.ifCond .eq 7, 3, 32, 0, 0, 0), (.iconst 1, 1, 0, 0, 0, 1), (.goto 4, 3, 33, 0, 0, 0)]
def bk_X12_isPaired_32 : List It := [(.iconst 0, 1, 0, 0, 0, 0)]
def bk_X12_isPaired_33 : List It := [(.ireturn, 1, 0, 0, 0, 0)]
def bl_X12_isPaired : List (Nat × List It) := [(0, bk_X12_isPaired_0), (32, bk_X12_isPaired_32), (33, bk_X12_isPaired_33)]
theorem bq_X12_isPaired_0 : lkB bl_X12_isPaired 0 = bk_X12_isPaired_0 := rfl
theorem bq_X12_isPaired_32 : lkB bl_X12_isPaired 32 = bk_X12_isPaired_32 := rfl
theorem bq_X12_isPaired_33 : lkB bl_X12_isPaired 33 = bk_X12_isPaired_33 := rfl
set_option maxRecDepth 20000 in
theorem ck_X12_isPaired : ckB rs_X12_isPaired false 12 2 prog_14_method_52_code bl_X12_isPaired = true := by decide +kernel

def rs_X12_firstIn : Rs := rf_X12 []
def bk_X12_firstIn_0 : List It := [(.iconst 0, 1, 0, 0, 0, 0), (.istore_n 1, 1, 1, 0, 0, 0)]
def bk_X12_firstIn_2 : List It := [(.iload_n 1, 1, 1, 0, 0, 0), (.aload_n 0, 1, 0, 0, 0, 0), (.getfield 118, 3, 12, 0, 0, 0), (.if_icmp .ge 18, 3, 25, 0, 0, 0), (.aload_n 0, 1, 0, 0, 0, 0), (.getfield 7, 3, 12, 1, 2, 0), (.iload_n 1, 1, 1, 0, 0, 0), (.baload, 1, 0, 0, 0, 0), (.ifCond .ne 9, 3, 25, 0, 0, 0), (.iinc 1 1, 3, 1, 0, 0, 1), (.goto (-20), 3, 2, 0, 0, 0)]
def bk_X12_firstIn_25 : List It := [(.iload_n 1, 1, 1, 0, 0, 0), (.ireturn, 1, 0, 0, 0, 0)]
def bl_X12_firstIn : List (Nat × List It) := [(0, bk_X12_firstIn_0), (2, bk_X12_firstIn_2), (25, bk_X12_firstIn_25)]
theorem bq_X12_firstIn_0 : lkB bl_X12_firstIn 0 = bk_X12_firstIn_0 := rfl
theorem bq_X12_firstIn_2 : lkB bl_X12_firstIn 2 = bk_X12_firstIn_2 := rfl
theorem bq_X12_firstIn_25 : lkB bl_X12_firstIn 25 = bk_X12_firstIn_25 := rfl
set_option maxRecDepth 20000 in
theorem ck_X12_firstIn : ckB rs_X12_firstIn false 12 2 prog_14_method_53_code bl_X12_firstIn = true := by decide +kernel

def rs_X12_layPartsBy : Rs := rf_X12 [(0, 254, 1, 164, 12)]
def bk_X12_layPartsBy_0 : List It := [(.iconst 0, 1, 0, 0, 0, 0), (.istore_n 2, 1, 2, 0, 0, 0)]
def bk_X12_layPartsBy_2 : List It := [(.iload_n 2, 1, 2, 0, 0, 0), (.aload_n 0, 1, 0, 0, 0, 0), (.getfield 118, 3, 12, 0, 0, 0), (.if_icmp .ge 30, 3, 37, 0, 0, 0), (.aload_n 0, 1, 0, 0, 0, 0), (.getfield 85, 3, 12, 29, 2, 0), (.iload_n 2, 1, 2, 0, 0, 0), (.aload_n 0, 1, 0, 0, 0, 0), (.getfield 7, 3, 12, 1, 2, 0), (.iload_n 2, 1, 2, 0, 0, 0), (.baload, 1, 0, 0, 0, 0), (.ifCond .eq 7, 3, 28, 0, 0, 0), (.iload_n 2, 1, 2, 0, 0, 0), (.goto 5, 3, 30, 0, 0, 0)]
def bk_X12_layPartsBy_28 : List It := [(.ldc 154, 2, 0, 0, 0, (-900009))]
def bk_X12_layPartsBy_30 : List It := [(.iastore, 1, 0, 0, 0, 0), (.iinc 2 1, 3, 2, 0, 0, 1), (.goto (-32), 3, 2, 0, 0, 0)]
def bk_X12_layPartsBy_37 : List It := [(.iconst 0, 1, 0, 0, 0, 0), (.istore_n 2, 1, 2, 0, 0, 0)]
def bk_X12_layPartsBy_39 : List It := [(.iload_n 2, 1, 2, 0, 0, 0), (.aload_n 0, 1, 0, 0, 0, 0), (.getfield 118, 3, 12, 0, 0, 0), (.if_icmp .ge 106, 3, 150, 0, 0, 0), (.iconst 0, 1, 0, 0, 0, 0), (.istore_n 3, 1, 3, 0, 0, 0)]
def bk_X12_layPartsBy_49 : List It := [(.iload_n 3, 1, 3, 0, 0, 0), (.iload_n 1, 1, 1, 0, 0, 0), (.if_icmp .ge 93, 3, 144, 0, 0, 0), (.aload_n 0, 1, 0, 0, 0, 0), (.iload_n 3, 1, 3, 0, 0, 0), (.invokevirtual 254, 3, 1, 164, 12, 0)]
def bk_X12_layPartsBy_59 : List It := [(.ifCond .eq 79, 3, 138, 0, 0, 0), (.aload_n 0, 1, 0, 0, 0, 0), (.getfield 85, 3, 12, 29, 2, 0), (.aload_n 0, 1, 0, 0, 0, 0), (.getfield 69, 3, 12, 24, 2, 0), (.iload_n 3, 1, 3, 0, 0, 0), (.iaload, 1, 0, 0, 0, 0), (.iaload, 1, 0, 0, 0, 0), (.istore 4, 2, 4, 0, 0, 0), (.aload_n 0, 1, 0, 0, 0, 0), (.getfield 85, 3, 12, 29, 2, 0), (.aload_n 0, 1, 0, 0, 0, 0), (.getfield 72, 3, 12, 25, 2, 0), (.iload_n 3, 1, 3, 0, 0, 0), (.iaload, 1, 0, 0, 0, 0), (.iaload, 1, 0, 0, 0, 0), (.istore 5, 2, 5, 0, 0, 0), (.aload_n 0, 1, 0, 0, 0, 0), (.getfield 85, 3, 12, 29, 2, 0), (.aload_n 0, 1, 0, 0, 0, 0), (.getfield 69, 3, 12, 24, 2, 0), (.iload_n 3, 1, 3, 0, 0, 0), (.iaload, 1, 0, 0, 0, 0), (.iload 4, 2, 4, 0, 0, 0), (.iload 5, 2, 5, 0, 0, 0), (.if_icmp .ge 8, 3, 110, 0, 0, 0), (.iload 4, 2, 4, 0, 0, 0), (.goto 5, 3, 112, 0, 0, 0)]
def bk_X12_layPartsBy_110 : List It := [(.iload 5, 2, 5, 0, 0, 0)]
def bk_X12_layPartsBy_112 : List It := [(.iastore, 1, 0, 0, 0, 0), (.aload_n 0, 1, 0, 0, 0, 0), (.getfield 85, 3, 12, 29, 2, 0), (.aload_n 0, 1, 0, 0, 0, 0), (.getfield 72, 3, 12, 25, 2, 0), (.iload_n 3, 1, 3, 0, 0, 0), (.iaload, 1, 0, 0, 0, 0), (.iload 4, 2, 4, 0, 0, 0), (.iload 5, 2, 5, 0, 0, 0), (.if_icmp .ge 8, 3, 135, 0, 0, 0), (.iload 4, 2, 4, 0, 0, 0), (.goto 5, 3, 137, 0, 0, 0)]
def bk_X12_layPartsBy_135 : List It := [(.iload 5, 2, 5, 0, 0, 0)]
def bk_X12_layPartsBy_137 : List It := [(.iastore, 1, 0, 0, 0, 0)]
def bk_X12_layPartsBy_138 : List It := [(.iinc 3 1, 3, 3, 0, 0, 1), (.goto (-92), 3, 49, 0, 0, 0)]
def bk_X12_layPartsBy_144 : List It := [(.iinc 2 1, 3, 2, 0, 0, 1), (.goto (-108), 3, 39, 0, 0, 0)]
def bk_X12_layPartsBy_150 : List It := [(.return_, 1, 0, 0, 0, 0)]
def bl_X12_layPartsBy : List (Nat × List It) := [(0, bk_X12_layPartsBy_0), (2, bk_X12_layPartsBy_2), (28, bk_X12_layPartsBy_28), (30, bk_X12_layPartsBy_30), (37, bk_X12_layPartsBy_37), (39, bk_X12_layPartsBy_39), (49, bk_X12_layPartsBy_49), (59, bk_X12_layPartsBy_59), (110, bk_X12_layPartsBy_110), (112, bk_X12_layPartsBy_112), (135, bk_X12_layPartsBy_135), (137, bk_X12_layPartsBy_137), (138, bk_X12_layPartsBy_138), (144, bk_X12_layPartsBy_144), (150, bk_X12_layPartsBy_150)]
theorem bq_X12_layPartsBy_0 : lkB bl_X12_layPartsBy 0 = bk_X12_layPartsBy_0 := rfl
theorem bq_X12_layPartsBy_2 : lkB bl_X12_layPartsBy 2 = bk_X12_layPartsBy_2 := rfl
theorem bq_X12_layPartsBy_28 : lkB bl_X12_layPartsBy 28 = bk_X12_layPartsBy_28 := rfl
theorem bq_X12_layPartsBy_30 : lkB bl_X12_layPartsBy 30 = bk_X12_layPartsBy_30 := rfl
theorem bq_X12_layPartsBy_37 : lkB bl_X12_layPartsBy 37 = bk_X12_layPartsBy_37 := rfl
theorem bq_X12_layPartsBy_39 : lkB bl_X12_layPartsBy 39 = bk_X12_layPartsBy_39 := rfl
theorem bq_X12_layPartsBy_49 : lkB bl_X12_layPartsBy 49 = bk_X12_layPartsBy_49 := rfl
theorem bq_X12_layPartsBy_59 : lkB bl_X12_layPartsBy 59 = bk_X12_layPartsBy_59 := rfl
theorem bq_X12_layPartsBy_110 : lkB bl_X12_layPartsBy 110 = bk_X12_layPartsBy_110 := rfl
theorem bq_X12_layPartsBy_112 : lkB bl_X12_layPartsBy 112 = bk_X12_layPartsBy_112 := rfl
theorem bq_X12_layPartsBy_135 : lkB bl_X12_layPartsBy 135 = bk_X12_layPartsBy_135 := rfl
theorem bq_X12_layPartsBy_137 : lkB bl_X12_layPartsBy 137 = bk_X12_layPartsBy_137 := rfl
theorem bq_X12_layPartsBy_138 : lkB bl_X12_layPartsBy 138 = bk_X12_layPartsBy_138 := rfl
theorem bq_X12_layPartsBy_144 : lkB bl_X12_layPartsBy 144 = bk_X12_layPartsBy_144 := rfl
theorem bq_X12_layPartsBy_150 : lkB bl_X12_layPartsBy 150 = bk_X12_layPartsBy_150 := rfl
set_option maxRecDepth 20000 in
theorem ck_X12_layPartsBy : ckB rs_X12_layPartsBy false 12 6 prog_14_method_54_code bl_X12_layPartsBy = true := by decide +kernel

def rs_X12_fits : Rs := rf_X12 [(0, 254, 1, 164, 12)]
def bk_X12_fits_0 : List It := [(.iconst 1, 1, 0, 0, 0, 1), (.istore_n 3, 1, 3, 0, 0, 0), (.aload_n 0, 1, 0, 0, 0, 0), (.getfield 94, 3, 12, 32, 2, 0), (.iload_n 1, 1, 1, 0, 0, 0), (.iaload, 1, 0, 0, 0, 0), (.istore 4, 2, 4, 0, 0, 0), (.iconst 0, 1, 0, 0, 0, 0), (.istore 5, 2, 5, 0, 0, 0)]
def bk_X12_fits_13 : List It := [(.iload 5, 2, 5, 0, 0, 0), (.iload_n 2, 1, 2, 0, 0, 0), (.if_icmp .ge 167, 3, 183, 0, 0, 0), (.iload_n 3, 1, 3, 0, 0, 0), (.ifCond .eq 163, 3, 183, 0, 0, 0), (.aload_n 0, 1, 0, 0, 0, 0), (.iload 5, 2, 5, 0, 0, 0), (.invokevirtual 254, 3, 1, 164, 12, 0)]
def bk_X12_fits_29 : List It := [(.ifCond .eq 148, 3, 177, 0, 0, 0), (.aload_n 0, 1, 0, 0, 0, 0), (.getfield 69, 3, 12, 24, 2, 0), (.iload 5, 2, 5, 0, 0, 0), (.iaload, 1, 0, 0, 0, 0), (.iload 4, 2, 4, 0, 0, 0), (.if_icmp .eq 15, 3, 56, 0, 0, 0), (.aload_n 0, 1, 0, 0, 0, 0), (.getfield 72, 3, 12, 25, 2, 0), (.iload 5, 2, 5, 0, 0, 0), (.iaload, 1, 0, 0, 0, 0), (.iload 4, 2, 4, 0, 0, 0), (.if_icmp .ne 124, 3, 177, 0, 0, 0)]
def bk_X12_fits_56 : List It := [(.aload_n 0, 1, 0, 0, 0, 0), (.getfield 69, 3, 12, 24, 2, 0), (.iload 5, 2, 5, 0, 0, 0), (.iaload, 1, 0, 0, 0, 0), (.iload 4, 2, 4, 0, 0, 0), (.if_icmp .ne 13, 3, 78, 0, 0, 0), (.aload_n 0, 1, 0, 0, 0, 0), (.getfield 72, 3, 12, 25, 2, 0), (.iload 5, 2, 5, 0, 0, 0), (.iaload, 1, 0, 0, 0, 0), (.goto 10, 3, 85, 0, 0, 0)]
def bk_X12_fits_78 : List It := [(.aload_n 0, 1, 0, 0, 0, 0), (.getfield 69, 3, 12, 24, 2, 0), (.iload 5, 2, 5, 0, 0, 0), (.iaload, 1, 0, 0, 0, 0)]
def bk_X12_fits_85 : List It := [(.istore 6, 2, 6, 0, 0, 0), (.iload 6, 2, 6, 0, 0, 0), (.iload 4, 2, 4, 0, 0, 0), (.if_icmp .ge 24, 3, 115, 0, 0, 0), (.aload_n 0, 1, 0, 0, 0, 0), (.getfield 85, 3, 12, 29, 2, 0), (.iload 6, 2, 6, 0, 0, 0), (.iaload, 1, 0, 0, 0, 0), (.aload_n 0, 1, 0, 0, 0, 0), (.getfield 85, 3, 12, 29, 2, 0), (.iload 4, 2, 4, 0, 0, 0), (.iaload, 1, 0, 0, 0, 0), (.if_icmp .ne 7, 3, 115, 0, 0, 0), (.iconst 1, 1, 0, 0, 0, 1), (.goto 4, 3, 116, 0, 0, 0)]
def bk_X12_fits_115 : List It := [(.iconst 0, 1, 0, 0, 0, 0)]
def bk_X12_fits_116 : List It := [(.istore 7, 2, 7, 0, 0, 0), (.aload_n 0, 1, 0, 0, 0, 0), (.getfield 88, 3, 12, 30, 2, 0), (.aload_n 0, 1, 0, 0, 0, 0), (.getfield 72, 3, 12, 25, 2, 0), (.iload 5, 2, 5, 0, 0, 0), (.iaload, 1, 0, 0, 0, 0), (.iaload, 1, 0, 0, 0, 0), (.aload_n 0, 1, 0, 0, 0, 0), (.getfield 88, 3, 12, 30, 2, 0), (.aload_n 0, 1, 0, 0, 0, 0), (.getfield 69, 3, 12, 24, 2, 0), (.iload 5, 2, 5, 0, 0, 0), (.iaload, 1, 0, 0, 0, 0), (.iaload, 1, 0, 0, 0, 0), (.isub, 1, 0, 0, 0, 0), (.aload_n 0, 1, 0, 0, 0, 0), (.getfield 78, 3, 12, 27, 2, 0), (.iload 5, 2, 5, 0, 0, 0), (.iaload, 1, 0, 0, 0, 0), (.isub, 1, 0, 0, 0, 0), (.istore 8, 2, 8, 0, 0, 0), (.iload 7, 2, 7, 0, 0, 0), (.ifCond .eq 16, 3, 171, 0, 0, 0), (.iload 8, 2, 8, 0, 0, 0), (.aload_n 0, 1, 0, 0, 0, 0), (.getfield 75, 3, 12, 26, 2, 0), (.iload 5, 2, 5, 0, 0, 0), (.iaload, 1, 0, 0, 0, 0), (.irem, 1, 0, 0, 0, 0), (.ifCond .ne 7, 3, 175, 0, 0, 0)]
def bk_X12_fits_171 : List It := [(.iconst 1, 1, 0, 0, 0, 1), (.goto 4, 3, 176, 0, 0, 0)]
def bk_X12_fits_175 : List It := [(.iconst 0, 1, 0, 0, 0, 0)]
def bk_X12_fits_176 : List It := [(.istore_n 3, 1, 3, 0, 0, 0)]
def bk_X12_fits_177 : List It := [(.iinc 5 1, 3, 5, 0, 0, 1), (.goto (-167), 3, 13, 0, 0, 0)]
def bk_X12_fits_183 : List It := [(.iload_n 3, 1, 3, 0, 0, 0), (.ireturn, 1, 0, 0, 0, 0)]
def bl_X12_fits : List (Nat × List It) := [(0, bk_X12_fits_0), (13, bk_X12_fits_13), (29, bk_X12_fits_29), (56, bk_X12_fits_56), (78, bk_X12_fits_78), (85, bk_X12_fits_85), (115, bk_X12_fits_115), (116, bk_X12_fits_116), (171, bk_X12_fits_171), (175, bk_X12_fits_175), (176, bk_X12_fits_176), (177, bk_X12_fits_177), (183, bk_X12_fits_183)]
theorem bq_X12_fits_0 : lkB bl_X12_fits 0 = bk_X12_fits_0 := rfl
theorem bq_X12_fits_13 : lkB bl_X12_fits 13 = bk_X12_fits_13 := rfl
theorem bq_X12_fits_29 : lkB bl_X12_fits 29 = bk_X12_fits_29 := rfl
theorem bq_X12_fits_56 : lkB bl_X12_fits 56 = bk_X12_fits_56 := rfl
theorem bq_X12_fits_78 : lkB bl_X12_fits 78 = bk_X12_fits_78 := rfl
theorem bq_X12_fits_85 : lkB bl_X12_fits 85 = bk_X12_fits_85 := rfl
theorem bq_X12_fits_115 : lkB bl_X12_fits 115 = bk_X12_fits_115 := rfl
theorem bq_X12_fits_116 : lkB bl_X12_fits 116 = bk_X12_fits_116 := rfl
theorem bq_X12_fits_171 : lkB bl_X12_fits 171 = bk_X12_fits_171 := rfl
theorem bq_X12_fits_175 : lkB bl_X12_fits 175 = bk_X12_fits_175 := rfl
theorem bq_X12_fits_176 : lkB bl_X12_fits 176 = bk_X12_fits_176 := rfl
theorem bq_X12_fits_177 : lkB bl_X12_fits 177 = bk_X12_fits_177 := rfl
theorem bq_X12_fits_183 : lkB bl_X12_fits 183 = bk_X12_fits_183 := rfl
set_option maxRecDepth 20000 in
theorem ck_X12_fits : ckB rs_X12_fits false 12 9 prog_14_method_55_code bl_X12_fits = true := by decide +kernel

def rs_X12_waysOf : Rs := rf_X12 [(0, 257, 0, 165, 12), (0, 260, 2, 167, 12)]
def bk_X12_waysOf_0 : List It := [(.iconst 0, 1, 0, 0, 0, 0), (.istore_n 3, 1, 3, 0, 0, 0), (.iconst 0, 1, 0, 0, 0, 0), (.istore 4, 2, 4, 0, 0, 0)]
def bk_X12_waysOf_5 : List It := [(.iload 4, 2, 4, 0, 0, 0), (.aload_n 0, 1, 0, 0, 0, 0), (.getfield 118, 3, 12, 0, 0, 0), (.if_icmp .ge 31, 3, 42, 0, 0, 0), (.aload_n 0, 1, 0, 0, 0, 0), (.getfield 85, 3, 12, 29, 2, 0), (.iload 4, 2, 4, 0, 0, 0), (.iaload, 1, 0, 0, 0, 0), (.iload_n 1, 1, 1, 0, 0, 0), (.if_icmp .ne 14, 3, 36, 0, 0, 0), (.aload_n 0, 1, 0, 0, 0, 0), (.getfield 94, 3, 12, 32, 2, 0), (.iload_n 3, 1, 3, 0, 0, 0), (.iload 4, 2, 4, 0, 0, 0), (.iastore, 1, 0, 0, 0, 0), (.iinc 3 1, 3, 3, 0, 0, 1)]
def bk_X12_waysOf_36 : List It := [(.iinc 4 1, 3, 4, 0, 0, 1), (.goto (-34), 3, 5, 0, 0, 0)]
def bk_X12_waysOf_42 : List It := [(.iconst 0, 1, 0, 0, 0, 0), (.istore 4, 2, 4, 0, 0, 0), (.iconst 0, 1, 0, 0, 0, 0), (.istore 5, 2, 5, 0, 0, 0), (.aload_n 0, 1, 0, 0, 0, 0), (.invokevirtual 257, 3, 0, 165, 12, 0)]
def bk_X12_waysOf_52 : List It := [(.istore 6, 2, 6, 0, 0, 0), (.aload_n 0, 1, 0, 0, 0, 0), (.getfield 88, 3, 12, 30, 2, 0), (.aload_n 0, 1, 0, 0, 0, 0), (.getfield 94, 3, 12, 32, 2, 0), (.iconst 0, 1, 0, 0, 0, 0), (.iaload, 1, 0, 0, 0, 0), (.aload_n 0, 1, 0, 0, 0, 0), (.getfield 94, 3, 12, 32, 2, 0), (.iconst 0, 1, 0, 0, 0, 0), (.iaload, 1, 0, 0, 0, 0), (.iload 6, 2, 6, 0, 0, 0), (.if_icmp .ne 7, 3, 79, 0, 0, 0), (.iconst 0, 1, 0, 0, 0, 0), (.goto 8, 3, 84, 0, 0, 0)]
def bk_X12_waysOf_79 : List It := [(.aload_n 0, 1, 0, 0, 0, 0), (.getfield 81, 3, 12, 28, 0, 0), (.ineg, 1, 0, 0, 0, 0)]
def bk_X12_waysOf_84 : List It := [(.iconst 1, 1, 0, 0, 0, 1), (.isub, 1, 0, 0, 0, 0), (.iastore, 1, 0, 0, 0, 0)]
def bk_X12_waysOf_87 : List It := [(.iload 5, 2, 5, 0, 0, 0), (.ifCond .lt 165, 3, 254, 0, 0, 0), (.iload 4, 2, 4, 0, 0, 0), (.sipush 1001, 3, 0, 0, 0, 1001), (.if_icmp .ge 157, 3, 254, 0, 0, 0), (.aload_n 0, 1, 0, 0, 0, 0), (.getfield 94, 3, 12, 32, 2, 0), (.iload 5, 2, 5, 0, 0, 0), (.iaload, 1, 0, 0, 0, 0), (.istore 7, 2, 7, 0, 0, 0), (.aload_n 0, 1, 0, 0, 0, 0), (.getfield 88, 3, 12, 30, 2, 0), (.iload 7, 2, 7, 0, 0, 0), (.dup2, 1, 0, 0, 0, 0), (.iaload, 1, 0, 0, 0, 0), (.iconst 1, 1, 0, 0, 0, 1), (.iadd, 1, 0, 0, 0, 0), (.iastore, 1, 0, 0, 0, 0), (.aload_n 0, 1, 0, 0, 0, 0), (.getfield 88, 3, 12, 30, 2, 0), (.iload 7, 2, 7, 0, 0, 0), (.iaload, 1, 0, 0, 0, 0), (.iload 7, 2, 7, 0, 0, 0), (.iload 6, 2, 6, 0, 0, 0), (.if_icmp .ne 7, 3, 138, 0, 0, 0), (.iconst 0, 1, 0, 0, 0, 0), (.goto 7, 3, 142, 0, 0, 0)]
def bk_X12_waysOf_138 : List It := [(.aload_n 0, 1, 0, 0, 0, 0), (.getfield 81, 3, 12, 28, 0, 0)]
def bk_X12_waysOf_142 : List It := [(.if_icmp .le 9, 3, 151, 0, 0, 0), (.iinc 5 (-1), 3, 5, 0, 0, (-1)), (.goto 103, 3, 251, 0, 0, 0)]
def bk_X12_waysOf_151 : List It := [(.aload_n 0, 1, 0, 0, 0, 0), (.iload 5, 2, 5, 0, 0, 0), (.iload_n 2, 1, 2, 0, 0, 0), (.invokevirtual 260, 3, 2, 167, 12, 0)]
def bk_X12_waysOf_158 : List It := [(.ifCond .eq 61, 3, 219, 0, 0, 0), (.iload 5, 2, 5, 0, 0, 0), (.iload_n 3, 1, 3, 0, 0, 0), (.iconst 1, 1, 0, 0, 0, 1), (.isub, 1, 0, 0, 0, 0), (.if_icmp .ne 53, 3, 219, 0, 0, 0), (.iconst 0, 1, 0, 0, 0, 0), (.istore 8, 2, 8, 0, 0, 0)]
def bk_X12_waysOf_172 : List It := [(.iload 8, 2, 8, 0, 0, 0), (.iload_n 3, 1, 3, 0, 0, 0), (.if_icmp .ge 38, 3, 213, 0, 0, 0), (.iload 4, 2, 4, 0, 0, 0), (.ifCond .ne 33, 3, 213, 0, 0, 0), (.aload_n 0, 1, 0, 0, 0, 0), (.getfield 91, 3, 12, 31, 2, 0), (.aload_n 0, 1, 0, 0, 0, 0), (.getfield 94, 3, 12, 32, 2, 0), (.iload 8, 2, 8, 0, 0, 0), (.iaload, 1, 0, 0, 0, 0), (.aload_n 0, 1, 0, 0, 0, 0), (.getfield 88, 3, 12, 30, 2, 0), (.aload_n 0, 1, 0, 0, 0, 0), (.getfield 94, 3, 12, 32, 2, 0), (.iload 8, 2, 8, 0, 0, 0), (.iaload, 1, 0, 0, 0, 0), (.iaload, 1, 0, 0, 0, 0), (.iastore, 1, 0, 0, 0, 0), (.iinc 8 1, 3, 8, 0, 0, 1), (.goto (-38), 3, 172, 0, 0, 0)]
def bk_X12_waysOf_213 : List It := [(.iinc 4 1, 3, 4, 0, 0, 1), (.goto 35, 3, 251, 0, 0, 0)]
def bk_X12_waysOf_219 : List It := [(.aload_n 0, 1, 0, 0, 0, 0), (.iload 5, 2, 5, 0, 0, 0), (.iload_n 2, 1, 2, 0, 0, 0), (.invokevirtual 260, 3, 2, 167, 12, 0)]
def bk_X12_waysOf_226 : List It := [(.ifCond .eq 25, 3, 251, 0, 0, 0), (.iinc 5 1, 3, 5, 0, 0, 1), (.aload_n 0, 1, 0, 0, 0, 0), (.getfield 88, 3, 12, 30, 2, 0), (.aload_n 0, 1, 0, 0, 0, 0), (.getfield 94, 3, 12, 32, 2, 0), (.iload 5, 2, 5, 0, 0, 0), (.iaload, 1, 0, 0, 0, 0), (.aload_n 0, 1, 0, 0, 0, 0), (.getfield 81, 3, 12, 28, 0, 0), (.ineg, 1, 0, 0, 0, 0), (.iconst 1, 1, 0, 0, 0, 1), (.isub, 1, 0, 0, 0, 0), (.iastore, 1, 0, 0, 0, 0)]
def bk_X12_waysOf_251 : List It := [(.goto (-164), 3, 87, 0, 0, 0)]
def bk_X12_waysOf_254 : List It := [(.iload 4, 2, 4, 0, 0, 0), (.ireturn, 1, 0, 0, 0, 0)]
def bl_X12_waysOf : List (Nat × List It) := [(0, bk_X12_waysOf_0), (5, bk_X12_waysOf_5), (36, bk_X12_waysOf_36), (42, bk_X12_waysOf_42), (52, bk_X12_waysOf_52), (79, bk_X12_waysOf_79), (84, bk_X12_waysOf_84), (87, bk_X12_waysOf_87), (138, bk_X12_waysOf_138), (142, bk_X12_waysOf_142), (151, bk_X12_waysOf_151), (158, bk_X12_waysOf_158), (172, bk_X12_waysOf_172), (213, bk_X12_waysOf_213), (219, bk_X12_waysOf_219), (226, bk_X12_waysOf_226), (251, bk_X12_waysOf_251), (254, bk_X12_waysOf_254)]
theorem bq_X12_waysOf_0 : lkB bl_X12_waysOf 0 = bk_X12_waysOf_0 := rfl
theorem bq_X12_waysOf_5 : lkB bl_X12_waysOf 5 = bk_X12_waysOf_5 := rfl
theorem bq_X12_waysOf_36 : lkB bl_X12_waysOf 36 = bk_X12_waysOf_36 := rfl
theorem bq_X12_waysOf_42 : lkB bl_X12_waysOf 42 = bk_X12_waysOf_42 := rfl
theorem bq_X12_waysOf_52 : lkB bl_X12_waysOf 52 = bk_X12_waysOf_52 := rfl
theorem bq_X12_waysOf_79 : lkB bl_X12_waysOf 79 = bk_X12_waysOf_79 := rfl
theorem bq_X12_waysOf_84 : lkB bl_X12_waysOf 84 = bk_X12_waysOf_84 := rfl
theorem bq_X12_waysOf_87 : lkB bl_X12_waysOf 87 = bk_X12_waysOf_87 := rfl
theorem bq_X12_waysOf_138 : lkB bl_X12_waysOf 138 = bk_X12_waysOf_138 := rfl
theorem bq_X12_waysOf_142 : lkB bl_X12_waysOf 142 = bk_X12_waysOf_142 := rfl
theorem bq_X12_waysOf_151 : lkB bl_X12_waysOf 151 = bk_X12_waysOf_151 := rfl
theorem bq_X12_waysOf_158 : lkB bl_X12_waysOf 158 = bk_X12_waysOf_158 := rfl
theorem bq_X12_waysOf_172 : lkB bl_X12_waysOf 172 = bk_X12_waysOf_172 := rfl
theorem bq_X12_waysOf_213 : lkB bl_X12_waysOf 213 = bk_X12_waysOf_213 := rfl
theorem bq_X12_waysOf_219 : lkB bl_X12_waysOf 219 = bk_X12_waysOf_219 := rfl
theorem bq_X12_waysOf_226 : lkB bl_X12_waysOf 226 = bk_X12_waysOf_226 := rfl
theorem bq_X12_waysOf_251 : lkB bl_X12_waysOf 251 = bk_X12_waysOf_251 := rfl
theorem bq_X12_waysOf_254 : lkB bl_X12_waysOf 254 = bk_X12_waysOf_254 := rfl
set_option maxRecDepth 20000 in
theorem ck_X12_waysOf : ckB rs_X12_waysOf false 12 9 prog_14_method_56_code bl_X12_waysOf = true := by decide +kernel

def rs_X12_waysBy : Rs := rf_X12 [(0, 263, 1, 166, 12), (0, 267, 2, 168, 12)]
def bk_X12_waysBy_0 : List It := [(.aload_n 0, 1, 0, 0, 0, 0), (.iload_n 1, 1, 1, 0, 0, 0), (.invokevirtual 263, 3, 1, 166, 12, 0)]
def bk_X12_waysBy_5 : List It := [(.iconst 1, 1, 0, 0, 0, 1), (.istore_n 2, 1, 2, 0, 0, 0), (.iconst 0, 1, 0, 0, 0, 0), (.istore_n 3, 1, 3, 0, 0, 0)]
def bk_X12_waysBy_9 : List It := [(.iload_n 3, 1, 3, 0, 0, 0), (.aload_n 0, 1, 0, 0, 0, 0), (.getfield 118, 3, 12, 0, 0, 0), (.if_icmp .ge 47, 3, 61, 0, 0, 0), (.aload_n 0, 1, 0, 0, 0, 0), (.getfield 85, 3, 12, 29, 2, 0), (.iload_n 3, 1, 3, 0, 0, 0), (.iaload, 1, 0, 0, 0, 0), (.iload_n 3, 1, 3, 0, 0, 0), (.if_icmp .ne 14, 3, 38, 0, 0, 0), (.iload_n 2, 1, 2, 0, 0, 0), (.aload_n 0, 1, 0, 0, 0, 0), (.iload_n 3, 1, 3, 0, 0, 0), (.iload_n 1, 1, 1, 0, 0, 0), (.invokevirtual 267, 3, 2, 168, 12, 0)]
def bk_X12_waysBy_34 : List It := [(.imul, 1, 0, 0, 0, 0), (.goto 4, 3, 39, 0, 0, 0)]
def bk_X12_waysBy_38 : List It := [(.iload_n 2, 1, 2, 0, 0, 0)]
def bk_X12_waysBy_39 : List It := [(.istore_n 2, 1, 2, 0, 0, 0), (.iload_n 2, 1, 2, 0, 0, 0), (.sipush 1001, 3, 0, 0, 0, 1001), (.if_icmp .le 9, 3, 53, 0, 0, 0), (.sipush 1001, 3, 0, 0, 0, 1001), (.goto 4, 3, 54, 0, 0, 0)]
def bk_X12_waysBy_53 : List It := [(.iload_n 2, 1, 2, 0, 0, 0)]
def bk_X12_waysBy_54 : List It := [(.istore_n 2, 1, 2, 0, 0, 0), (.iinc 3 1, 3, 3, 0, 0, 1), (.goto (-49), 3, 9, 0, 0, 0)]
def bk_X12_waysBy_61 : List It := [(.iload_n 2, 1, 2, 0, 0, 0), (.ireturn, 1, 0, 0, 0, 0)]
def bl_X12_waysBy : List (Nat × List It) := [(0, bk_X12_waysBy_0), (5, bk_X12_waysBy_5), (9, bk_X12_waysBy_9), (34, bk_X12_waysBy_34), (38, bk_X12_waysBy_38), (39, bk_X12_waysBy_39), (53, bk_X12_waysBy_53), (54, bk_X12_waysBy_54), (61, bk_X12_waysBy_61)]
theorem bq_X12_waysBy_0 : lkB bl_X12_waysBy 0 = bk_X12_waysBy_0 := rfl
theorem bq_X12_waysBy_5 : lkB bl_X12_waysBy 5 = bk_X12_waysBy_5 := rfl
theorem bq_X12_waysBy_9 : lkB bl_X12_waysBy 9 = bk_X12_waysBy_9 := rfl
theorem bq_X12_waysBy_34 : lkB bl_X12_waysBy 34 = bk_X12_waysBy_34 := rfl
theorem bq_X12_waysBy_38 : lkB bl_X12_waysBy 38 = bk_X12_waysBy_38 := rfl
theorem bq_X12_waysBy_39 : lkB bl_X12_waysBy 39 = bk_X12_waysBy_39 := rfl
theorem bq_X12_waysBy_53 : lkB bl_X12_waysBy 53 = bk_X12_waysBy_53 := rfl
theorem bq_X12_waysBy_54 : lkB bl_X12_waysBy 54 = bk_X12_waysBy_54 := rfl
theorem bq_X12_waysBy_61 : lkB bl_X12_waysBy 61 = bk_X12_waysBy_61 := rfl
set_option maxRecDepth 20000 in
theorem ck_X12_waysBy : ckB rs_X12_waysBy false 12 4 prog_14_method_57_code bl_X12_waysBy = true := by decide +kernel

def rs_X12_ways : Rs := rf_X12 [(0, 270, 1, 169, 12)]
def bk_X12_ways_0 : List It := [(.aload_n 0, 1, 0, 0, 0, 0), (.aload_n 0, 1, 0, 0, 0, 0), (.getfield 249, 3, 12, 23, 0, 0), (.invokevirtual 270, 3, 1, 169, 12, 0)]
def bk_X12_ways_8 : List It := [(.ireturn, 1, 0, 0, 0, 0)]
def bl_X12_ways : List (Nat × List It) := [(0, bk_X12_ways_0), (8, bk_X12_ways_8)]
theorem bq_X12_ways_0 : lkB bl_X12_ways 0 = bk_X12_ways_0 := rfl
theorem bq_X12_ways_8 : lkB bl_X12_ways 8 = bk_X12_ways_8 := rfl
set_option maxRecDepth 20000 in
theorem ck_X12_ways : ckB rs_X12_ways false 12 1 prog_14_method_58_code bl_X12_ways = true := by decide +kernel

def rs_X12_lift : Rs := rf_X12 [(0, 126, 1, 116, 12), (0, 270, 1, 169, 12)]
def bk_X12_lift_0 : List It := [(.aload_n 0, 1, 0, 0, 0, 0), (.iload_n 1, 1, 1, 0, 0, 0), (.invokevirtual 126, 3, 1, 116, 12, 0)]
def bk_X12_lift_5 : List It := [(.ifCond .ne 6, 3, 11, 0, 0, 0), (.ldc 130, 2, 0, 0, 0, (-900001)), (.ireturn, 1, 0, 0, 0, 0)]
def bk_X12_lift_11 : List It := [(.aload_n 0, 1, 0, 0, 0, 0), (.aload_n 0, 1, 0, 0, 0, 0), (.getfield 249, 3, 12, 23, 0, 0), (.invokevirtual 270, 3, 1, 169, 12, 0)]
def bk_X12_lift_19 : List It := [(.ifCond .le 21, 3, 40, 0, 0, 0), (.aload_n 0, 1, 0, 0, 0, 0), (.getfield 7, 3, 12, 1, 2, 0), (.iload_n 1, 1, 1, 0, 0, 0), (.baload, 1, 0, 0, 0, 0), (.ifCond .eq 12, 3, 40, 0, 0, 0), (.aload_n 0, 1, 0, 0, 0, 0), (.getfield 91, 3, 12, 31, 2, 0), (.iload_n 1, 1, 1, 0, 0, 0), (.iaload, 1, 0, 0, 0, 0), (.goto 5, 3, 42, 0, 0, 0)]
def bk_X12_lift_40 : List It := [(.ldc 154, 2, 0, 0, 0, (-900009))]
def bk_X12_lift_42 : List It := [(.ireturn, 1, 0, 0, 0, 0)]
def bl_X12_lift : List (Nat × List It) := [(0, bk_X12_lift_0), (5, bk_X12_lift_5), (11, bk_X12_lift_11), (19, bk_X12_lift_19), (40, bk_X12_lift_40), (42, bk_X12_lift_42)]
theorem bq_X12_lift_0 : lkB bl_X12_lift 0 = bk_X12_lift_0 := rfl
theorem bq_X12_lift_5 : lkB bl_X12_lift 5 = bk_X12_lift_5 := rfl
theorem bq_X12_lift_11 : lkB bl_X12_lift 11 = bk_X12_lift_11 := rfl
theorem bq_X12_lift_19 : lkB bl_X12_lift 19 = bk_X12_lift_19 := rfl
theorem bq_X12_lift_40 : lkB bl_X12_lift 40 = bk_X12_lift_40 := rfl
theorem bq_X12_lift_42 : lkB bl_X12_lift 42 = bk_X12_lift_42 := rfl
set_option maxRecDepth 20000 in
theorem ck_X12_lift : ckB rs_X12_lift false 12 2 prog_14_method_59_code bl_X12_lift = true := by decide +kernel

def rs_X12_quarrel : Rs := rf_X12 [(0, 270, 1, 169, 12)]
def bk_X12_quarrel_0 : List It := [(.iconst 1, 1, 0, 0, 0, 1), (.istore_n 1, 1, 1, 0, 0, 0)]
def bk_X12_quarrel_2 : List It := [(.iload_n 1, 1, 1, 0, 0, 0), (.aload_n 0, 1, 0, 0, 0, 0), (.getfield 249, 3, 12, 23, 0, 0), (.if_icmp .gt 21, 3, 28, 0, 0, 0), (.aload_n 0, 1, 0, 0, 0, 0), (.iload_n 1, 1, 1, 0, 0, 0), (.invokevirtual 270, 3, 1, 169, 12, 0)]
def bk_X12_quarrel_15 : List It := [(.ifCond .ne 7, 3, 22, 0, 0, 0), (.iload_n 1, 1, 1, 0, 0, 0), (.iconst 1, 1, 0, 0, 0, 1), (.isub, 1, 0, 0, 0, 0), (.ireturn, 1, 0, 0, 0, 0)]
def bk_X12_quarrel_22 : List It := [(.iinc 1 1, 3, 1, 0, 0, 1), (.goto (-23), 3, 2, 0, 0, 0)]
def bk_X12_quarrel_28 : List It := [(.ldc 154, 2, 0, 0, 0, (-900009)), (.ireturn, 1, 0, 0, 0, 0)]
def bl_X12_quarrel : List (Nat × List It) := [(0, bk_X12_quarrel_0), (2, bk_X12_quarrel_2), (15, bk_X12_quarrel_15), (22, bk_X12_quarrel_22), (28, bk_X12_quarrel_28)]
theorem bq_X12_quarrel_0 : lkB bl_X12_quarrel 0 = bk_X12_quarrel_0 := rfl
theorem bq_X12_quarrel_2 : lkB bl_X12_quarrel 2 = bk_X12_quarrel_2 := rfl
theorem bq_X12_quarrel_15 : lkB bl_X12_quarrel 15 = bk_X12_quarrel_15 := rfl
theorem bq_X12_quarrel_22 : lkB bl_X12_quarrel 22 = bk_X12_quarrel_22 := rfl
theorem bq_X12_quarrel_28 : lkB bl_X12_quarrel 28 = bk_X12_quarrel_28 := rfl
set_option maxRecDepth 20000 in
theorem ck_X12_quarrel : ckB rs_X12_quarrel false 12 2 prog_14_method_60_code bl_X12_quarrel = true := by decide +kernel

def rs_X12_flaw : Rs := rf_X12 [(0, 126, 1, 116, 12), (1, 121, 3, 115, 0)]
def bk_X12_flaw_0 : List It := [(.aload_n 0, 1, 0, 0, 0, 0), (.iload_n 1, 1, 1, 0, 0, 0), (.invokevirtual 126, 3, 1, 116, 12, 0)]
def bk_X12_flaw_5 : List It := [(.ifCond .ne 6, 3, 11, 0, 0, 0), (.ldc 130, 2, 0, 0, 0, (-900001)), (.ireturn, 1, 0, 0, 0, 0)]
def bk_X12_flaw_11 : List It := [(.iload_n 2, 1, 2, 0, 0, 0), (.i2l, 1, 0, 0, 0, 0), (.lconst 0, 1, 0, 0, 0, 0), (.ldc2_w 140, 3, 0, 0, 0, 2), (.invokestatic 121, 3, 3, 115, 0, 0)]
def bk_X12_flaw_20 : List It := [(.ifCond .eq 17, 3, 37, 0, 0, 0), (.iload_n 3, 1, 3, 0, 0, 0), (.i2l, 1, 0, 0, 0, 0), (.ldc2_w 135, 3, 0, 0, 0, (-9)), (.ldc2_w 137, 3, 0, 0, 0, 9), (.invokestatic 121, 3, 3, 115, 0, 0)]
def bk_X12_flaw_34 : List It := [(.ifCond .ne 6, 3, 40, 0, 0, 0)]
def bk_X12_flaw_37 : List It := [(.ldc 139, 2, 0, 0, 0, (-900002)), (.ireturn, 1, 0, 0, 0, 0)]
def bk_X12_flaw_40 : List It := [(.aload_n 0, 1, 0, 0, 0, 0), (.getfield 97, 3, 12, 33, 2, 0), (.iconst 3, 1, 0, 0, 0, 3), (.iload_n 1, 1, 1, 0, 0, 0), (.imul, 1, 0, 0, 0, 0), (.iload_n 2, 1, 2, 0, 0, 0), (.iadd, 1, 0, 0, 0, 0), (.iaload, 1, 0, 0, 0, 0), (.istore 4, 2, 4, 0, 0, 0), (.aload_n 0, 1, 0, 0, 0, 0), (.getfield 97, 3, 12, 33, 2, 0), (.iconst 3, 1, 0, 0, 0, 3), (.iload_n 1, 1, 1, 0, 0, 0), (.imul, 1, 0, 0, 0, 0), (.iload_n 2, 1, 2, 0, 0, 0), (.iadd, 1, 0, 0, 0, 0), (.iload_n 3, 1, 3, 0, 0, 0), (.iastore, 1, 0, 0, 0, 0), (.iload 4, 2, 4, 0, 0, 0), (.ireturn, 1, 0, 0, 0, 0)]
def bl_X12_flaw : List (Nat × List It) := [(0, bk_X12_flaw_0), (5, bk_X12_flaw_5), (11, bk_X12_flaw_11), (20, bk_X12_flaw_20), (34, bk_X12_flaw_34), (37, bk_X12_flaw_37), (40, bk_X12_flaw_40)]
theorem bq_X12_flaw_0 : lkB bl_X12_flaw 0 = bk_X12_flaw_0 := rfl
theorem bq_X12_flaw_5 : lkB bl_X12_flaw 5 = bk_X12_flaw_5 := rfl
theorem bq_X12_flaw_11 : lkB bl_X12_flaw 11 = bk_X12_flaw_11 := rfl
theorem bq_X12_flaw_20 : lkB bl_X12_flaw 20 = bk_X12_flaw_20 := rfl
theorem bq_X12_flaw_34 : lkB bl_X12_flaw 34 = bk_X12_flaw_34 := rfl
theorem bq_X12_flaw_37 : lkB bl_X12_flaw 37 = bk_X12_flaw_37 := rfl
theorem bq_X12_flaw_40 : lkB bl_X12_flaw 40 = bk_X12_flaw_40 := rfl
set_option maxRecDepth 20000 in
theorem ck_X12_flaw : ckB rs_X12_flaw false 12 5 prog_14_method_61_code bl_X12_flaw = true := by decide +kernel

def rs_X12_weigh : Rs := rf_X12 [(0, 126, 1, 116, 12), (1, 121, 3, 115, 0)]
def bk_X12_weigh_0 : List It := [(.aload_n 0, 1, 0, 0, 0, 0), (.iload_n 1, 1, 1, 0, 0, 0), (.invokevirtual 126, 3, 1, 116, 12, 0)]
def bk_X12_weigh_5 : List It := [(.ifCond .ne 6, 3, 11, 0, 0, 0), (.ldc 130, 2, 0, 0, 0, (-900001)), (.ireturn, 1, 0, 0, 0, 0)]
def bk_X12_weigh_11 : List It := [(.iload_n 2, 1, 2, 0, 0, 0), (.i2l, 1, 0, 0, 0, 0), (.lconst 0, 1, 0, 0, 0, 0), (.ldc2_w 140, 3, 0, 0, 0, 2), (.invokestatic 121, 3, 3, 115, 0, 0)]
def bk_X12_weigh_20 : List It := [(.ifCond .eq 15, 3, 35, 0, 0, 0), (.iload_n 3, 1, 3, 0, 0, 0), (.i2l, 1, 0, 0, 0, 0), (.lconst 0, 1, 0, 0, 0, 0), (.ldc2_w 137, 3, 0, 0, 0, 9), (.invokestatic 121, 3, 3, 115, 0, 0)]
def bk_X12_weigh_32 : List It := [(.ifCond .ne 6, 3, 38, 0, 0, 0)]
def bk_X12_weigh_35 : List It := [(.ldc 139, 2, 0, 0, 0, (-900002)), (.ireturn, 1, 0, 0, 0, 0)]
def bk_X12_weigh_38 : List It := [(.aload_n 0, 1, 0, 0, 0, 0), (.getfield 100, 3, 12, 34, 2, 0), (.iconst 3, 1, 0, 0, 0, 3), (.iload_n 1, 1, 1, 0, 0, 0), (.imul, 1, 0, 0, 0, 0), (.iload_n 2, 1, 2, 0, 0, 0), (.iadd, 1, 0, 0, 0, 0), (.iaload, 1, 0, 0, 0, 0), (.istore 4, 2, 4, 0, 0, 0), (.aload_n 0, 1, 0, 0, 0, 0), (.getfield 100, 3, 12, 34, 2, 0), (.iconst 3, 1, 0, 0, 0, 3), (.iload_n 1, 1, 1, 0, 0, 0), (.imul, 1, 0, 0, 0, 0), (.iload_n 2, 1, 2, 0, 0, 0), (.iadd, 1, 0, 0, 0, 0), (.iload_n 3, 1, 3, 0, 0, 0), (.iastore, 1, 0, 0, 0, 0), (.iload 4, 2, 4, 0, 0, 0), (.ireturn, 1, 0, 0, 0, 0)]
def bl_X12_weigh : List (Nat × List It) := [(0, bk_X12_weigh_0), (5, bk_X12_weigh_5), (11, bk_X12_weigh_11), (20, bk_X12_weigh_20), (32, bk_X12_weigh_32), (35, bk_X12_weigh_35), (38, bk_X12_weigh_38)]
theorem bq_X12_weigh_0 : lkB bl_X12_weigh 0 = bk_X12_weigh_0 := rfl
theorem bq_X12_weigh_5 : lkB bl_X12_weigh 5 = bk_X12_weigh_5 := rfl
theorem bq_X12_weigh_11 : lkB bl_X12_weigh 11 = bk_X12_weigh_11 := rfl
theorem bq_X12_weigh_20 : lkB bl_X12_weigh 20 = bk_X12_weigh_20 := rfl
theorem bq_X12_weigh_32 : lkB bl_X12_weigh 32 = bk_X12_weigh_32 := rfl
theorem bq_X12_weigh_35 : lkB bl_X12_weigh 35 = bk_X12_weigh_35 := rfl
theorem bq_X12_weigh_38 : lkB bl_X12_weigh 38 = bk_X12_weigh_38 := rfl
set_option maxRecDepth 20000 in
theorem ck_X12_weigh : ckB rs_X12_weigh false 12 5 prog_14_method_62_code bl_X12_weigh = true := by decide +kernel

def rs_X12_costOf : Rs := rf_X12 []
def bk_X12_costOf_0 : List It := [(.iconst 0, 1, 0, 0, 0, 0), (.istore_n 3, 1, 3, 0, 0, 0), (.iconst 0, 1, 0, 0, 0, 0), (.istore 4, 2, 4, 0, 0, 0)]
def bk_X12_costOf_5 : List It := [(.iload 4, 2, 4, 0, 0, 0), (.iconst 3, 1, 0, 0, 0, 3), (.if_icmp .ge 68, 3, 76, 0, 0, 0), (.aload_n 0, 1, 0, 0, 0, 0), (.getfield 97, 3, 12, 33, 2, 0), (.iconst 3, 1, 0, 0, 0, 3), (.iload_n 1, 1, 1, 0, 0, 0), (.imul, 1, 0, 0, 0, 0), (.iload 4, 2, 4, 0, 0, 0), (.iadd, 1, 0, 0, 0, 0), (.iaload, 1, 0, 0, 0, 0), (.ifCond .ge 18, 3, 40, 0, 0, 0), (.aload_n 0, 1, 0, 0, 0, 0), (.getfield 97, 3, 12, 33, 2, 0), (.iconst 3, 1, 0, 0, 0, 3), (.iload_n 1, 1, 1, 0, 0, 0), (.imul, 1, 0, 0, 0, 0), (.iload 4, 2, 4, 0, 0, 0), (.iadd, 1, 0, 0, 0, 0), (.iaload, 1, 0, 0, 0, 0), (.ineg, 1, 0, 0, 0, 0), (.goto 14, 3, 51, 0, 0, 0)]
def bk_X12_costOf_40 : List It := [(.aload_n 0, 1, 0, 0, 0, 0), (.getfield 97, 3, 12, 33, 2, 0), (.iconst 3, 1, 0, 0, 0, 3), (.iload_n 1, 1, 1, 0, 0, 0), (.imul, 1, 0, 0, 0, 0), (.iload 4, 2, 4, 0, 0, 0), (.iadd, 1, 0, 0, 0, 0), (.iaload, 1, 0, 0, 0, 0)]
def bk_X12_costOf_51 : List It := [(.istore 5, 2, 5, 0, 0, 0), (.iload_n 3, 1, 3, 0, 0, 0), (.iload 5, 2, 5, 0, 0, 0), (.aload_n 0, 1, 0, 0, 0, 0), (.getfield 100, 3, 12, 34, 2, 0), (.iconst 3, 1, 0, 0, 0, 3), (.iload_n 2, 1, 2, 0, 0, 0), (.imul, 1, 0, 0, 0, 0), (.iload 4, 2, 4, 0, 0, 0), (.iadd, 1, 0, 0, 0, 0), (.iaload, 1, 0, 0, 0, 0), (.imul, 1, 0, 0, 0, 0), (.iadd, 1, 0, 0, 0, 0), (.istore_n 3, 1, 3, 0, 0, 0), (.iinc 4 1, 3, 4, 0, 0, 1), (.goto (-68), 3, 5, 0, 0, 0)]
def bk_X12_costOf_76 : List It := [(.iload_n 3, 1, 3, 0, 0, 0), (.ireturn, 1, 0, 0, 0, 0)]
def bl_X12_costOf : List (Nat × List It) := [(0, bk_X12_costOf_0), (5, bk_X12_costOf_5), (40, bk_X12_costOf_40), (51, bk_X12_costOf_51), (76, bk_X12_costOf_76)]
theorem bq_X12_costOf_0 : lkB bl_X12_costOf 0 = bk_X12_costOf_0 := rfl
theorem bq_X12_costOf_5 : lkB bl_X12_costOf 5 = bk_X12_costOf_5 := rfl
theorem bq_X12_costOf_40 : lkB bl_X12_costOf 40 = bk_X12_costOf_40 := rfl
theorem bq_X12_costOf_51 : lkB bl_X12_costOf 51 = bk_X12_costOf_51 := rfl
theorem bq_X12_costOf_76 : lkB bl_X12_costOf 76 = bk_X12_costOf_76 := rfl
set_option maxRecDepth 20000 in
theorem ck_X12_costOf : ckB rs_X12_costOf false 12 6 prog_14_method_63_code bl_X12_costOf = true := by decide +kernel

def rs_X12_costs : Rs := rf_X12 [(0, 126, 1, 116, 12), (0, 273, 2, 175, 12)]
def bk_X12_costs_0 : List It := [(.aload_n 0, 1, 0, 0, 0, 0), (.iload_n 1, 1, 1, 0, 0, 0), (.invokevirtual 126, 3, 1, 116, 12, 0)]
def bk_X12_costs_5 : List It := [(.ifCond .eq 20, 3, 25, 0, 0, 0), (.aload_n 0, 1, 0, 0, 0, 0), (.iload_n 2, 1, 2, 0, 0, 0), (.invokevirtual 126, 3, 1, 116, 12, 0)]
def bk_X12_costs_13 : List It := [(.ifCond .eq 12, 3, 25, 0, 0, 0), (.aload_n 0, 1, 0, 0, 0, 0), (.iload_n 1, 1, 1, 0, 0, 0), (.iload_n 2, 1, 2, 0, 0, 0), (.invokevirtual 273, 3, 2, 175, 12, 0)]
def bk_X12_costs_22 : List It := [(.goto 5, 3, 27, 0, 0, 0)]
def bk_X12_costs_25 : List It := [(.ldc 130, 2, 0, 0, 0, (-900001))]
def bk_X12_costs_27 : List It := [(.ireturn, 1, 0, 0, 0, 0)]
def bl_X12_costs : List (Nat × List It) := [(0, bk_X12_costs_0), (5, bk_X12_costs_5), (13, bk_X12_costs_13), (22, bk_X12_costs_22), (25, bk_X12_costs_25), (27, bk_X12_costs_27)]
theorem bq_X12_costs_0 : lkB bl_X12_costs 0 = bk_X12_costs_0 := rfl
theorem bq_X12_costs_5 : lkB bl_X12_costs 5 = bk_X12_costs_5 := rfl
theorem bq_X12_costs_13 : lkB bl_X12_costs 13 = bk_X12_costs_13 := rfl
theorem bq_X12_costs_22 : lkB bl_X12_costs 22 = bk_X12_costs_22 := rfl
theorem bq_X12_costs_25 : lkB bl_X12_costs 25 = bk_X12_costs_25 := rfl
theorem bq_X12_costs_27 : lkB bl_X12_costs 27 = bk_X12_costs_27 := rfl
set_option maxRecDepth 20000 in
theorem ck_X12_costs : ckB rs_X12_costs false 12 3 prog_14_method_64_code bl_X12_costs = true := by decide +kernel

def rs_X12_laySwap : Rs := rf_X12 [(0, 273, 2, 175, 12)]
def bk_X12_laySwap_0 : List It := [(.iconst 0, 1, 0, 0, 0, 0), (.istore_n 1, 1, 1, 0, 0, 0), (.iconst 0, 1, 0, 0, 0, 0), (.istore_n 2, 1, 2, 0, 0, 0)]
def bk_X12_laySwap_4 : List It := [(.iload_n 2, 1, 2, 0, 0, 0), (.aload_n 0, 1, 0, 0, 0, 0), (.getfield 118, 3, 12, 0, 0, 0), (.if_icmp .ge 28, 3, 37, 0, 0, 0), (.aload_n 0, 1, 0, 0, 0, 0), (.getfield 7, 3, 12, 1, 2, 0), (.iload_n 2, 1, 2, 0, 0, 0), (.baload, 1, 0, 0, 0, 0), (.ifCond .eq 13, 3, 31, 0, 0, 0), (.aload_n 0, 1, 0, 0, 0, 0), (.getfield 94, 3, 12, 32, 2, 0), (.iload_n 1, 1, 1, 0, 0, 0), (.iload_n 2, 1, 2, 0, 0, 0), (.iastore, 1, 0, 0, 0, 0), (.iinc 1 1, 3, 1, 0, 0, 1)]
def bk_X12_laySwap_31 : List It := [(.iinc 2 1, 3, 2, 0, 0, 1), (.goto (-30), 3, 4, 0, 0, 0)]
def bk_X12_laySwap_37 : List It := [(.iload_n 1, 1, 1, 0, 0, 0), (.ifCond .ne 5, 3, 43, 0, 0, 0), (.iconst 0, 1, 0, 0, 0, 0), (.ireturn, 1, 0, 0, 0, 0)]
def bk_X12_laySwap_43 : List It := [(.iconst (-1), 1, 0, 0, 0, (-1)), (.istore_n 2, 1, 2, 0, 0, 0), (.iconst 0, 1, 0, 0, 0, 0), (.istore_n 3, 1, 3, 0, 0, 0), (.iconst 0, 1, 0, 0, 0, 0), (.istore 4, 2, 4, 0, 0, 0), (.iconst 0, 1, 0, 0, 0, 0), (.istore 5, 2, 5, 0, 0, 0), (.aload_n 0, 1, 0, 0, 0, 0), (.getfield 103, 3, 12, 35, 2, 0), (.iconst 0, 1, 0, 0, 0, 0), (.iconst (-1), 1, 0, 0, 0, (-1)), (.iastore, 1, 0, 0, 0, 0)]
def bk_X12_laySwap_60 : List It := [(.iload_n 3, 1, 3, 0, 0, 0), (.ifCond .lt 212, 3, 273, 0, 0, 0), (.aload_n 0, 1, 0, 0, 0, 0), (.getfield 103, 3, 12, 35, 2, 0), (.iload_n 3, 1, 3, 0, 0, 0), (.iaload, 1, 0, 0, 0, 0), (.ifCond .lt 44, 3, 114, 0, 0, 0), (.iload 4, 2, 4, 0, 0, 0), (.iconst 1, 1, 0, 0, 0, 1), (.aload_n 0, 1, 0, 0, 0, 0), (.getfield 103, 3, 12, 35, 2, 0), (.iload_n 3, 1, 3, 0, 0, 0), (.iaload, 1, 0, 0, 0, 0), (.ishl, 1, 0, 0, 0, 0), (.iconst (-1), 1, 0, 0, 0, (-1)), (.ixor, 1, 0, 0, 0, 0), (.iand, 1, 0, 0, 0, 0), (.istore 4, 2, 4, 0, 0, 0), (.iload 5, 2, 5, 0, 0, 0), (.aload_n 0, 1, 0, 0, 0, 0), (.aload_n 0, 1, 0, 0, 0, 0), (.getfield 94, 3, 12, 32, 2, 0), (.iload_n 3, 1, 3, 0, 0, 0), (.iaload, 1, 0, 0, 0, 0), (.aload_n 0, 1, 0, 0, 0, 0), (.getfield 94, 3, 12, 32, 2, 0), (.aload_n 0, 1, 0, 0, 0, 0), (.getfield 103, 3, 12, 35, 2, 0), (.iload_n 3, 1, 3, 0, 0, 0), (.iaload, 1, 0, 0, 0, 0), (.iaload, 1, 0, 0, 0, 0), (.invokevirtual 273, 3, 2, 175, 12, 0)]
def bk_X12_laySwap_111 : List It := [(.isub, 1, 0, 0, 0, 0), (.istore 5, 2, 5, 0, 0, 0)]
def bk_X12_laySwap_114 : List It := [(.aload_n 0, 1, 0, 0, 0, 0), (.getfield 103, 3, 12, 35, 2, 0), (.iload_n 3, 1, 3, 0, 0, 0), (.iaload, 1, 0, 0, 0, 0), (.iconst 1, 1, 0, 0, 0, 1), (.iadd, 1, 0, 0, 0, 0), (.istore 6, 2, 6, 0, 0, 0)]
def bk_X12_laySwap_124 : List It := [(.iload 6, 2, 6, 0, 0, 0), (.iload_n 1, 1, 1, 0, 0, 0), (.if_icmp .ge 20, 3, 147, 0, 0, 0), (.iload 4, 2, 4, 0, 0, 0), (.iload 6, 2, 6, 0, 0, 0), (.ishr, 1, 0, 0, 0, 0), (.iconst 1, 1, 0, 0, 0, 1), (.iand, 1, 0, 0, 0, 0), (.iconst 1, 1, 0, 0, 0, 1), (.if_icmp .ne 9, 3, 147, 0, 0, 0), (.iinc 6 1, 3, 6, 0, 0, 1), (.goto (-20), 3, 124, 0, 0, 0)]
def bk_X12_laySwap_147 : List It := [(.iload 6, 2, 6, 0, 0, 0), (.iload_n 1, 1, 1, 0, 0, 0), (.if_icmp .ne 9, 3, 159, 0, 0, 0), (.iinc 3 (-1), 3, 3, 0, 0, (-1)), (.goto 114, 3, 270, 0, 0, 0)]
def bk_X12_laySwap_159 : List It := [(.aload_n 0, 1, 0, 0, 0, 0), (.getfield 103, 3, 12, 35, 2, 0), (.iload_n 3, 1, 3, 0, 0, 0), (.iload 6, 2, 6, 0, 0, 0), (.iastore, 1, 0, 0, 0, 0), (.iload 4, 2, 4, 0, 0, 0), (.iconst 1, 1, 0, 0, 0, 1), (.iload 6, 2, 6, 0, 0, 0), (.ishl, 1, 0, 0, 0, 0), (.ior, 1, 0, 0, 0, 0), (.istore 4, 2, 4, 0, 0, 0), (.iload 5, 2, 5, 0, 0, 0), (.aload_n 0, 1, 0, 0, 0, 0), (.aload_n 0, 1, 0, 0, 0, 0), (.getfield 94, 3, 12, 32, 2, 0), (.iload_n 3, 1, 3, 0, 0, 0), (.iaload, 1, 0, 0, 0, 0), (.aload_n 0, 1, 0, 0, 0, 0), (.getfield 94, 3, 12, 32, 2, 0), (.iload 6, 2, 6, 0, 0, 0), (.iaload, 1, 0, 0, 0, 0), (.invokevirtual 273, 3, 2, 175, 12, 0)]
def bk_X12_laySwap_195 : List It := [(.iadd, 1, 0, 0, 0, 0), (.istore 5, 2, 5, 0, 0, 0), (.iload_n 3, 1, 3, 0, 0, 0), (.iload_n 1, 1, 1, 0, 0, 0), (.iconst 1, 1, 0, 0, 0, 1), (.isub, 1, 0, 0, 0, 0), (.if_icmp .ge 16, 3, 218, 0, 0, 0), (.iinc 3 1, 3, 3, 0, 0, 1), (.aload_n 0, 1, 0, 0, 0, 0), (.getfield 103, 3, 12, 35, 2, 0), (.iload_n 3, 1, 3, 0, 0, 0), (.iconst (-1), 1, 0, 0, 0, (-1)), (.iastore, 1, 0, 0, 0, 0), (.goto 55, 3, 270, 0, 0, 0)]
def bk_X12_laySwap_218 : List It := [(.iload_n 2, 1, 2, 0, 0, 0), (.ifCond .lt 9, 3, 228, 0, 0, 0), (.iload 5, 2, 5, 0, 0, 0), (.iload_n 2, 1, 2, 0, 0, 0), (.if_icmp .ge 45, 3, 270, 0, 0, 0)]
def bk_X12_laySwap_228 : List It := [(.iload 5, 2, 5, 0, 0, 0), (.istore_n 2, 1, 2, 0, 0, 0), (.iconst 0, 1, 0, 0, 0, 0), (.istore 7, 2, 7, 0, 0, 0)]
def bk_X12_laySwap_234 : List It := [(.iload 7, 2, 7, 0, 0, 0), (.iload_n 1, 1, 1, 0, 0, 0), (.if_icmp .ge 33, 3, 270, 0, 0, 0), (.aload_n 0, 1, 0, 0, 0, 0), (.getfield 106, 3, 12, 36, 2, 0), (.aload_n 0, 1, 0, 0, 0, 0), (.getfield 94, 3, 12, 32, 2, 0), (.iload 7, 2, 7, 0, 0, 0), (.iaload, 1, 0, 0, 0, 0), (.aload_n 0, 1, 0, 0, 0, 0), (.getfield 94, 3, 12, 32, 2, 0), (.aload_n 0, 1, 0, 0, 0, 0), (.getfield 103, 3, 12, 35, 2, 0), (.iload 7, 2, 7, 0, 0, 0), (.iaload, 1, 0, 0, 0, 0), (.iaload, 1, 0, 0, 0, 0), (.iastore, 1, 0, 0, 0, 0), (.iinc 7 1, 3, 7, 0, 0, 1), (.goto (-33), 3, 234, 0, 0, 0)]
def bk_X12_laySwap_270 : List It := [(.goto (-210), 3, 60, 0, 0, 0)]
def bk_X12_laySwap_273 : List It := [(.iload_n 2, 1, 2, 0, 0, 0), (.ireturn, 1, 0, 0, 0, 0)]
def bl_X12_laySwap : List (Nat × List It) := [(0, bk_X12_laySwap_0), (4, bk_X12_laySwap_4), (31, bk_X12_laySwap_31), (37, bk_X12_laySwap_37), (43, bk_X12_laySwap_43), (60, bk_X12_laySwap_60), (111, bk_X12_laySwap_111), (114, bk_X12_laySwap_114), (124, bk_X12_laySwap_124), (147, bk_X12_laySwap_147), (159, bk_X12_laySwap_159), (195, bk_X12_laySwap_195), (218, bk_X12_laySwap_218), (228, bk_X12_laySwap_228), (234, bk_X12_laySwap_234), (270, bk_X12_laySwap_270), (273, bk_X12_laySwap_273)]
theorem bq_X12_laySwap_0 : lkB bl_X12_laySwap 0 = bk_X12_laySwap_0 := rfl
theorem bq_X12_laySwap_4 : lkB bl_X12_laySwap 4 = bk_X12_laySwap_4 := rfl
theorem bq_X12_laySwap_31 : lkB bl_X12_laySwap 31 = bk_X12_laySwap_31 := rfl
theorem bq_X12_laySwap_37 : lkB bl_X12_laySwap 37 = bk_X12_laySwap_37 := rfl
theorem bq_X12_laySwap_43 : lkB bl_X12_laySwap 43 = bk_X12_laySwap_43 := rfl
theorem bq_X12_laySwap_60 : lkB bl_X12_laySwap 60 = bk_X12_laySwap_60 := rfl
theorem bq_X12_laySwap_111 : lkB bl_X12_laySwap 111 = bk_X12_laySwap_111 := rfl
theorem bq_X12_laySwap_114 : lkB bl_X12_laySwap 114 = bk_X12_laySwap_114 := rfl
theorem bq_X12_laySwap_124 : lkB bl_X12_laySwap 124 = bk_X12_laySwap_124 := rfl
theorem bq_X12_laySwap_147 : lkB bl_X12_laySwap 147 = bk_X12_laySwap_147 := rfl
theorem bq_X12_laySwap_159 : lkB bl_X12_laySwap 159 = bk_X12_laySwap_159 := rfl
theorem bq_X12_laySwap_195 : lkB bl_X12_laySwap 195 = bk_X12_laySwap_195 := rfl
theorem bq_X12_laySwap_218 : lkB bl_X12_laySwap 218 = bk_X12_laySwap_218 := rfl
theorem bq_X12_laySwap_228 : lkB bl_X12_laySwap 228 = bk_X12_laySwap_228 := rfl
theorem bq_X12_laySwap_234 : lkB bl_X12_laySwap 234 = bk_X12_laySwap_234 := rfl
theorem bq_X12_laySwap_270 : lkB bl_X12_laySwap 270 = bk_X12_laySwap_270 := rfl
theorem bq_X12_laySwap_273 : lkB bl_X12_laySwap 273 = bk_X12_laySwap_273 := rfl
set_option maxRecDepth 20000 in
theorem ck_X12_laySwap : ckB rs_X12_laySwap false 12 8 prog_14_method_65_code bl_X12_laySwap = true := by decide +kernel

def rs_X12_swap : Rs := rf_X12 [(0, 276, 0, 177, 12)]
def bk_X12_swap_0 : List It := [(.aload_n 0, 1, 0, 0, 0, 0), (.invokevirtual 276, 3, 0, 177, 12, 0)]
def bk_X12_swap_4 : List It := [(.ireturn, 1, 0, 0, 0, 0)]
def bl_X12_swap : List (Nat × List It) := [(0, bk_X12_swap_0), (4, bk_X12_swap_4)]
theorem bq_X12_swap_0 : lkB bl_X12_swap 0 = bk_X12_swap_0 := rfl
theorem bq_X12_swap_4 : lkB bl_X12_swap 4 = bk_X12_swap_4 := rfl
set_option maxRecDepth 20000 in
theorem ck_X12_swap : ckB rs_X12_swap false 12 1 prog_14_method_66_code bl_X12_swap = true := by decide +kernel

def rs_X12_hole : Rs := rf_X12 [(0, 126, 1, 116, 12), (0, 276, 0, 177, 12)]
def bk_X12_hole_0 : List It := [(.aload_n 0, 1, 0, 0, 0, 0), (.iload_n 1, 1, 1, 0, 0, 0), (.invokevirtual 126, 3, 1, 116, 12, 0)]
def bk_X12_hole_5 : List It := [(.ifCond .ne 6, 3, 11, 0, 0, 0), (.ldc 130, 2, 0, 0, 0, (-900001)), (.ireturn, 1, 0, 0, 0, 0)]
def bk_X12_hole_11 : List It := [(.aload_n 0, 1, 0, 0, 0, 0), (.invokevirtual 276, 3, 0, 177, 12, 0)]
def bk_X12_hole_15 : List It := [(.istore_n 2, 1, 2, 0, 0, 0), (.aload_n 0, 1, 0, 0, 0, 0), (.getfield 7, 3, 12, 1, 2, 0), (.iload_n 1, 1, 1, 0, 0, 0), (.baload, 1, 0, 0, 0, 0), (.ifCond .eq 12, 3, 34, 0, 0, 0), (.aload_n 0, 1, 0, 0, 0, 0), (.getfield 106, 3, 12, 36, 2, 0), (.iload_n 1, 1, 1, 0, 0, 0), (.iaload, 1, 0, 0, 0, 0), (.goto 5, 3, 36, 0, 0, 0)]
def bk_X12_hole_34 : List It := [(.ldc 154, 2, 0, 0, 0, (-900009))]
def bk_X12_hole_36 : List It := [(.ireturn, 1, 0, 0, 0, 0)]
def bl_X12_hole : List (Nat × List It) := [(0, bk_X12_hole_0), (5, bk_X12_hole_5), (11, bk_X12_hole_11), (15, bk_X12_hole_15), (34, bk_X12_hole_34), (36, bk_X12_hole_36)]
theorem bq_X12_hole_0 : lkB bl_X12_hole 0 = bk_X12_hole_0 := rfl
theorem bq_X12_hole_5 : lkB bl_X12_hole 5 = bk_X12_hole_5 := rfl
theorem bq_X12_hole_11 : lkB bl_X12_hole 11 = bk_X12_hole_11 := rfl
theorem bq_X12_hole_15 : lkB bl_X12_hole 15 = bk_X12_hole_15 := rfl
theorem bq_X12_hole_34 : lkB bl_X12_hole 34 = bk_X12_hole_34 := rfl
theorem bq_X12_hole_36 : lkB bl_X12_hole 36 = bk_X12_hole_36 := rfl
set_option maxRecDepth 20000 in
theorem ck_X12_hole : ckB rs_X12_hole false 12 3 prog_14_method_67_code bl_X12_hole = true := by decide +kernel

def rs_X12_age : Rs := rf_X12 [(0, 126, 1, 116, 12), (1, 121, 3, 115, 0)]
def bk_X12_age_0 : List It := [(.aload_n 0, 1, 0, 0, 0, 0), (.iload_n 1, 1, 1, 0, 0, 0), (.invokevirtual 126, 3, 1, 116, 12, 0)]
def bk_X12_age_5 : List It := [(.ifCond .ne 6, 3, 11, 0, 0, 0), (.ldc 130, 2, 0, 0, 0, (-900001)), (.ireturn, 1, 0, 0, 0, 0)]
def bk_X12_age_11 : List It := [(.iload_n 2, 1, 2, 0, 0, 0), (.i2l, 1, 0, 0, 0, 0), (.lconst 0, 1, 0, 0, 0, 0), (.ldc2_w 133, 3, 0, 0, 0, 99), (.invokestatic 121, 3, 3, 115, 0, 0)]
def bk_X12_age_20 : List It := [(.ifCond .ne 6, 3, 26, 0, 0, 0), (.ldc 139, 2, 0, 0, 0, (-900002)), (.ireturn, 1, 0, 0, 0, 0)]
def bk_X12_age_26 : List It := [(.aload_n 0, 1, 0, 0, 0, 0), (.getfield 109, 3, 12, 37, 2, 0), (.iload_n 1, 1, 1, 0, 0, 0), (.iaload, 1, 0, 0, 0, 0), (.istore_n 3, 1, 3, 0, 0, 0), (.aload_n 0, 1, 0, 0, 0, 0), (.getfield 109, 3, 12, 37, 2, 0), (.iload_n 1, 1, 1, 0, 0, 0), (.iload_n 2, 1, 2, 0, 0, 0), (.iastore, 1, 0, 0, 0, 0), (.iload_n 3, 1, 3, 0, 0, 0), (.ireturn, 1, 0, 0, 0, 0)]
def bl_X12_age : List (Nat × List It) := [(0, bk_X12_age_0), (5, bk_X12_age_5), (11, bk_X12_age_11), (20, bk_X12_age_20), (26, bk_X12_age_26)]
theorem bq_X12_age_0 : lkB bl_X12_age 0 = bk_X12_age_0 := rfl
theorem bq_X12_age_5 : lkB bl_X12_age 5 = bk_X12_age_5 := rfl
theorem bq_X12_age_11 : lkB bl_X12_age 11 = bk_X12_age_11 := rfl
theorem bq_X12_age_20 : lkB bl_X12_age 20 = bk_X12_age_20 := rfl
theorem bq_X12_age_26 : lkB bl_X12_age 26 = bk_X12_age_26 := rfl
set_option maxRecDepth 20000 in
theorem ck_X12_age : ckB rs_X12_age false 12 4 prog_14_method_68_code bl_X12_age = true := by decide +kernel

def rs_X12_loss : Rs := rf_X12 [(1, 121, 3, 115, 0)]
def bk_X12_loss_0 : List It := [(.iload_n 1, 1, 1, 0, 0, 0), (.i2l, 1, 0, 0, 0, 0), (.lconst 0, 1, 0, 0, 0, 0), (.ldc2_w 279, 3, 0, 0, 0, 50), (.invokestatic 121, 3, 3, 115, 0, 0)]
def bk_X12_loss_9 : List It := [(.ifCond .ne 6, 3, 15, 0, 0, 0), (.ldc 139, 2, 0, 0, 0, (-900002)), (.ireturn, 1, 0, 0, 0, 0)]
def bk_X12_loss_15 : List It := [(.aload_n 0, 1, 0, 0, 0, 0), (.getfield 112, 3, 12, 38, 0, 0), (.istore_n 2, 1, 2, 0, 0, 0), (.aload_n 0, 1, 0, 0, 0, 0), (.iload_n 1, 1, 1, 0, 0, 0), (.putfield 112, 3, 12, 38, 0, 0), (.iload_n 2, 1, 2, 0, 0, 0), (.ireturn, 1, 0, 0, 0, 0)]
def bl_X12_loss : List (Nat × List It) := [(0, bk_X12_loss_0), (9, bk_X12_loss_9), (15, bk_X12_loss_15)]
theorem bq_X12_loss_0 : lkB bl_X12_loss 0 = bk_X12_loss_0 := rfl
theorem bq_X12_loss_9 : lkB bl_X12_loss 9 = bk_X12_loss_9 := rfl
theorem bq_X12_loss_15 : lkB bl_X12_loss 15 = bk_X12_loss_15 := rfl
set_option maxRecDepth 20000 in
theorem ck_X12_loss : ckB rs_X12_loss false 12 3 prog_14_method_69_code bl_X12_loss = true := by decide +kernel

def rs_X12_digit : Rs := rf_X12 []
def bk_X12_digit_0 : List It := [(.iload_n 0, 1, 0, 0, 0, 0), (.iconst 3, 1, 0, 0, 0, 3), (.iload_n 1, 1, 1, 0, 0, 0), (.iconst 1, 1, 0, 0, 0, 1), (.isub, 1, 0, 0, 0, 0), (.iload_n 2, 1, 2, 0, 0, 0), (.isub, 1, 0, 0, 0, 0), (.imul, 1, 0, 0, 0, 0), (.ishr, 1, 0, 0, 0, 0), (.bipush 7, 2, 0, 0, 0, 7), (.iand, 1, 0, 0, 0, 0), (.ireturn, 1, 0, 0, 0, 0)]
def bl_X12_digit : List (Nat × List It) := [(0, bk_X12_digit_0)]
theorem bq_X12_digit_0 : lkB bl_X12_digit 0 = bk_X12_digit_0 := rfl
set_option maxRecDepth 20000 in
theorem ck_X12_digit : ckB rs_X12_digit false 12 3 prog_14_method_70_code bl_X12_digit = true := by decide +kernel

def rs_X12_lightBy : Rs := rf_X12 [(1, 281, 3, 182, 0)]
def bk_X12_lightBy_0 : List It := [(.iconst 0, 1, 0, 0, 0, 0), (.istore_n 3, 1, 3, 0, 0, 0), (.iconst 0, 1, 0, 0, 0, 0), (.istore 4, 2, 4, 0, 0, 0)]
def bk_X12_lightBy_5 : List It := [(.iload 4, 2, 4, 0, 0, 0), (.aload_n 0, 1, 0, 0, 0, 0), (.getfield 118, 3, 12, 0, 0, 0), (.if_icmp .ge 23, 3, 34, 0, 0, 0), (.aload_n 0, 1, 0, 0, 0, 0), (.getfield 115, 3, 12, 39, 2, 0), (.iload 4, 2, 4, 0, 0, 0), (.aload_n 0, 1, 0, 0, 0, 0), (.getfield 109, 3, 12, 37, 2, 0), (.iload 4, 2, 4, 0, 0, 0), (.iaload, 1, 0, 0, 0, 0), (.iastore, 1, 0, 0, 0, 0), (.iinc 4 1, 3, 4, 0, 0, 1), (.goto (-26), 3, 5, 0, 0, 0)]
def bk_X12_lightBy_34 : List It := [(.iconst 0, 1, 0, 0, 0, 0), (.istore 4, 2, 4, 0, 0, 0)]
def bk_X12_lightBy_37 : List It := [(.iload 4, 2, 4, 0, 0, 0), (.iload_n 2, 1, 2, 0, 0, 0), (.if_icmp .ge 139, 3, 179, 0, 0, 0), (.iload_n 1, 1, 1, 0, 0, 0), (.iload_n 2, 1, 2, 0, 0, 0), (.iload 4, 2, 4, 0, 0, 0), (.invokestatic 281, 3, 3, 182, 0, 0)]
def bk_X12_lightBy_50 : List It := [(.istore 5, 2, 5, 0, 0, 0), (.iload 5, 2, 5, 0, 0, 0), (.bipush 7, 2, 0, 0, 0, 7), (.if_icmp .ge 24, 3, 80, 0, 0, 0), (.iload 5, 2, 5, 0, 0, 0), (.aload_n 0, 1, 0, 0, 0, 0), (.getfield 118, 3, 12, 0, 0, 0), (.if_icmp .ge 13, 3, 78, 0, 0, 0), (.aload_n 0, 1, 0, 0, 0, 0), (.getfield 7, 3, 12, 1, 2, 0), (.iload 5, 2, 5, 0, 0, 0), (.baload, 1, 0, 0, 0, 0), (.ifCond .ne 5, 3, 80, 0, 0, 0)]
def bk_X12_lightBy_78 : List It := [(.iconst (-1), 1, 0, 0, 0, (-1)), (.ireturn, 1, 0, 0, 0, 0)]
def bk_X12_lightBy_80 : List It := [(.iconst 0, 1, 0, 0, 0, 0), (.istore 6, 2, 6, 0, 0, 0)]
def bk_X12_lightBy_83 : List It := [(.iload 6, 2, 6, 0, 0, 0), (.aload_n 0, 1, 0, 0, 0, 0), (.getfield 118, 3, 12, 0, 0, 0), (.if_icmp .ge 84, 3, 173, 0, 0, 0), (.bipush 100, 2, 0, 0, 0, 100), (.aload_n 0, 1, 0, 0, 0, 0), (.getfield 112, 3, 12, 38, 0, 0), (.aload_n 0, 1, 0, 0, 0, 0), (.getfield 115, 3, 12, 39, 2, 0), (.iload 6, 2, 6, 0, 0, 0), (.iaload, 1, 0, 0, 0, 0), (.imul, 1, 0, 0, 0, 0), (.isub, 1, 0, 0, 0, 0), (.istore 7, 2, 7, 0, 0, 0), (.iload_n 3, 1, 3, 0, 0, 0), (.iload 6, 2, 6, 0, 0, 0), (.iload 5, 2, 5, 0, 0, 0), (.if_icmp .eq 18, 3, 132, 0, 0, 0), (.aload_n 0, 1, 0, 0, 0, 0), (.getfield 7, 3, 12, 1, 2, 0), (.iload 6, 2, 6, 0, 0, 0), (.baload, 1, 0, 0, 0, 0), (.ifCond .eq 8, 3, 132, 0, 0, 0), (.iload 7, 2, 7, 0, 0, 0), (.ifCond .ge 7, 3, 136, 0, 0, 0)]
def bk_X12_lightBy_132 : List It := [(.iconst 0, 1, 0, 0, 0, 0), (.goto 5, 3, 138, 0, 0, 0)]
def bk_X12_lightBy_136 : List It := [(.iload 7, 2, 7, 0, 0, 0)]
def bk_X12_lightBy_138 : List It := [(.iadd, 1, 0, 0, 0, 0), (.istore_n 3, 1, 3, 0, 0, 0), (.aload_n 0, 1, 0, 0, 0, 0), (.getfield 115, 3, 12, 39, 2, 0), (.iload 6, 2, 6, 0, 0, 0), (.iload 6, 2, 6, 0, 0, 0), (.iload 5, 2, 5, 0, 0, 0), (.if_icmp .ne 7, 3, 157, 0, 0, 0), (.iconst 0, 1, 0, 0, 0, 0), (.goto 12, 3, 166, 0, 0, 0)]
def bk_X12_lightBy_157 : List It := [(.aload_n 0, 1, 0, 0, 0, 0), (.getfield 115, 3, 12, 39, 2, 0), (.iload 6, 2, 6, 0, 0, 0), (.iaload, 1, 0, 0, 0, 0), (.iconst 1, 1, 0, 0, 0, 1), (.iadd, 1, 0, 0, 0, 0)]
def bk_X12_lightBy_166 : List It := [(.iastore, 1, 0, 0, 0, 0), (.iinc 6 1, 3, 6, 0, 0, 1), (.goto (-87), 3, 83, 0, 0, 0)]
def bk_X12_lightBy_173 : List It := [(.iinc 4 1, 3, 4, 0, 0, 1), (.goto (-139), 3, 37, 0, 0, 0)]
def bk_X12_lightBy_179 : List It := [(.iload_n 3, 1, 3, 0, 0, 0), (.ireturn, 1, 0, 0, 0, 0)]
def bl_X12_lightBy : List (Nat × List It) := [(0, bk_X12_lightBy_0), (5, bk_X12_lightBy_5), (34, bk_X12_lightBy_34), (37, bk_X12_lightBy_37), (50, bk_X12_lightBy_50), (78, bk_X12_lightBy_78), (80, bk_X12_lightBy_80), (83, bk_X12_lightBy_83), (132, bk_X12_lightBy_132), (136, bk_X12_lightBy_136), (138, bk_X12_lightBy_138), (157, bk_X12_lightBy_157), (166, bk_X12_lightBy_166), (173, bk_X12_lightBy_173), (179, bk_X12_lightBy_179)]
theorem bq_X12_lightBy_0 : lkB bl_X12_lightBy 0 = bk_X12_lightBy_0 := rfl
theorem bq_X12_lightBy_5 : lkB bl_X12_lightBy 5 = bk_X12_lightBy_5 := rfl
theorem bq_X12_lightBy_34 : lkB bl_X12_lightBy 34 = bk_X12_lightBy_34 := rfl
theorem bq_X12_lightBy_37 : lkB bl_X12_lightBy 37 = bk_X12_lightBy_37 := rfl
theorem bq_X12_lightBy_50 : lkB bl_X12_lightBy 50 = bk_X12_lightBy_50 := rfl
theorem bq_X12_lightBy_78 : lkB bl_X12_lightBy 78 = bk_X12_lightBy_78 := rfl
theorem bq_X12_lightBy_80 : lkB bl_X12_lightBy 80 = bk_X12_lightBy_80 := rfl
theorem bq_X12_lightBy_83 : lkB bl_X12_lightBy 83 = bk_X12_lightBy_83 := rfl
theorem bq_X12_lightBy_132 : lkB bl_X12_lightBy 132 = bk_X12_lightBy_132 := rfl
theorem bq_X12_lightBy_136 : lkB bl_X12_lightBy 136 = bk_X12_lightBy_136 := rfl
theorem bq_X12_lightBy_138 : lkB bl_X12_lightBy 138 = bk_X12_lightBy_138 := rfl
theorem bq_X12_lightBy_157 : lkB bl_X12_lightBy 157 = bk_X12_lightBy_157 := rfl
theorem bq_X12_lightBy_166 : lkB bl_X12_lightBy 166 = bk_X12_lightBy_166 := rfl
theorem bq_X12_lightBy_173 : lkB bl_X12_lightBy 173 = bk_X12_lightBy_173 := rfl
theorem bq_X12_lightBy_179 : lkB bl_X12_lightBy 179 = bk_X12_lightBy_179 := rfl
set_option maxRecDepth 20000 in
theorem ck_X12_lightBy : ckB rs_X12_lightBy false 12 8 prog_14_method_71_code bl_X12_lightBy = true := by decide +kernel

def rs_X12_layPlan : Rs := rf_X12 [(0, 287, 2, 183, 12)]
def bk_X12_layPlan_0 : List It := [(.aload_n 0, 1, 0, 0, 0, 0), (.iconst (-1), 1, 0, 0, 0, (-1)), (.putfield 284, 3, 12, 40, 0, 0), (.iconst 0, 1, 0, 0, 0, 0), (.istore_n 2, 1, 2, 0, 0, 0)]
def bk_X12_layPlan_7 : List It := [(.iload_n 2, 1, 2, 0, 0, 0), (.iconst 1, 1, 0, 0, 0, 1), (.iconst 3, 1, 0, 0, 0, 3), (.iload_n 1, 1, 1, 0, 0, 0), (.imul, 1, 0, 0, 0, 0), (.ishl, 1, 0, 0, 0, 0), (.if_icmp .ge 34, 3, 47, 0, 0, 0), (.aload_n 0, 1, 0, 0, 0, 0), (.iload_n 2, 1, 2, 0, 0, 0), (.iload_n 1, 1, 1, 0, 0, 0), (.invokevirtual 287, 3, 2, 183, 12, 0)]
def bk_X12_layPlan_22 : List It := [(.istore_n 3, 1, 3, 0, 0, 0), (.iload_n 3, 1, 3, 0, 0, 0), (.aload_n 0, 1, 0, 0, 0, 0), (.getfield 284, 3, 12, 40, 0, 0), (.if_icmp .le 13, 3, 41, 0, 0, 0), (.aload_n 0, 1, 0, 0, 0, 0), (.iload_n 3, 1, 3, 0, 0, 0), (.putfield 284, 3, 12, 40, 0, 0), (.aload_n 0, 1, 0, 0, 0, 0), (.iload_n 2, 1, 2, 0, 0, 0), (.putfield 290, 3, 12, 41, 0, 0)]
def bk_X12_layPlan_41 : List It := [(.iinc 2 1, 3, 2, 0, 0, 1), (.goto (-37), 3, 7, 0, 0, 0)]
def bk_X12_layPlan_47 : List It := [(.return_, 1, 0, 0, 0, 0)]
def bl_X12_layPlan : List (Nat × List It) := [(0, bk_X12_layPlan_0), (7, bk_X12_layPlan_7), (22, bk_X12_layPlan_22), (41, bk_X12_layPlan_41), (47, bk_X12_layPlan_47)]
theorem bq_X12_layPlan_0 : lkB bl_X12_layPlan 0 = bk_X12_layPlan_0 := rfl
theorem bq_X12_layPlan_7 : lkB bl_X12_layPlan 7 = bk_X12_layPlan_7 := rfl
theorem bq_X12_layPlan_22 : lkB bl_X12_layPlan 22 = bk_X12_layPlan_22 := rfl
theorem bq_X12_layPlan_41 : lkB bl_X12_layPlan 41 = bk_X12_layPlan_41 := rfl
theorem bq_X12_layPlan_47 : lkB bl_X12_layPlan 47 = bk_X12_layPlan_47 := rfl
set_option maxRecDepth 20000 in
theorem ck_X12_layPlan : ckB rs_X12_layPlan false 12 4 prog_14_method_72_code bl_X12_layPlan = true := by decide +kernel

def rs_X12_plan : Rs := rf_X12 [(1, 121, 3, 115, 0), (0, 295, 1, 184, 12)]
def bk_X12_plan_0 : List It := [(.iload_n 1, 1, 1, 0, 0, 0), (.i2l, 1, 0, 0, 0, 0), (.lconst 1, 1, 0, 0, 0, 1), (.ldc2_w 293, 3, 0, 0, 0, 4), (.invokestatic 121, 3, 3, 115, 0, 0)]
def bk_X12_plan_9 : List It := [(.ifCond .ne 6, 3, 15, 0, 0, 0), (.ldc 139, 2, 0, 0, 0, (-900002)), (.ireturn, 1, 0, 0, 0, 0)]
def bk_X12_plan_15 : List It := [(.aload_n 0, 1, 0, 0, 0, 0), (.iload_n 1, 1, 1, 0, 0, 0), (.invokevirtual 295, 3, 1, 184, 12, 0)]
def bk_X12_plan_20 : List It := [(.aload_n 0, 1, 0, 0, 0, 0), (.getfield 284, 3, 12, 40, 0, 0), (.ireturn, 1, 0, 0, 0, 0)]
def bl_X12_plan : List (Nat × List It) := [(0, bk_X12_plan_0), (9, bk_X12_plan_9), (15, bk_X12_plan_15), (20, bk_X12_plan_20)]
theorem bq_X12_plan_0 : lkB bl_X12_plan 0 = bk_X12_plan_0 := rfl
theorem bq_X12_plan_9 : lkB bl_X12_plan 9 = bk_X12_plan_9 := rfl
theorem bq_X12_plan_15 : lkB bl_X12_plan 15 = bk_X12_plan_15 := rfl
theorem bq_X12_plan_20 : lkB bl_X12_plan 20 = bk_X12_plan_20 := rfl
set_option maxRecDepth 20000 in
theorem ck_X12_plan : ckB rs_X12_plan false 12 2 prog_14_method_73_code bl_X12_plan = true := by decide +kernel

def rs_X12_coat : Rs := rf_X12 [(1, 121, 3, 115, 0), (0, 295, 1, 184, 12), (1, 281, 3, 182, 0)]
def bk_X12_coat_0 : List It := [(.iload_n 1, 1, 1, 0, 0, 0), (.i2l, 1, 0, 0, 0, 0), (.lconst 1, 1, 0, 0, 0, 1), (.ldc2_w 293, 3, 0, 0, 0, 4), (.invokestatic 121, 3, 3, 115, 0, 0)]
def bk_X12_coat_9 : List It := [(.ifCond .eq 16, 3, 25, 0, 0, 0), (.iload_n 2, 1, 2, 0, 0, 0), (.i2l, 1, 0, 0, 0, 0), (.lconst 0, 1, 0, 0, 0, 0), (.iload_n 1, 1, 1, 0, 0, 0), (.iconst 1, 1, 0, 0, 0, 1), (.isub, 1, 0, 0, 0, 0), (.i2l, 1, 0, 0, 0, 0), (.invokestatic 121, 3, 3, 115, 0, 0)]
def bk_X12_coat_22 : List It := [(.ifCond .ne 6, 3, 28, 0, 0, 0)]
def bk_X12_coat_25 : List It := [(.ldc 139, 2, 0, 0, 0, (-900002)), (.ireturn, 1, 0, 0, 0, 0)]
def bk_X12_coat_28 : List It := [(.aload_n 0, 1, 0, 0, 0, 0), (.iload_n 1, 1, 1, 0, 0, 0), (.invokevirtual 295, 3, 1, 184, 12, 0)]
def bk_X12_coat_33 : List It := [(.aload_n 0, 1, 0, 0, 0, 0), (.getfield 290, 3, 12, 41, 0, 0), (.iload_n 1, 1, 1, 0, 0, 0), (.iload_n 2, 1, 2, 0, 0, 0), (.invokestatic 281, 3, 3, 182, 0, 0)]
def bk_X12_coat_42 : List It := [(.istore_n 3, 1, 3, 0, 0, 0), (.iload_n 3, 1, 3, 0, 0, 0), (.bipush 7, 2, 0, 0, 0, 7), (.if_icmp .ne 8, 3, 54, 0, 0, 0), (.ldc 154, 2, 0, 0, 0, (-900009)), (.goto 4, 3, 55, 0, 0, 0)]
def bk_X12_coat_54 : List It := [(.iload_n 3, 1, 3, 0, 0, 0)]
def bk_X12_coat_55 : List It := [(.ireturn, 1, 0, 0, 0, 0)]
def bl_X12_coat : List (Nat × List It) := [(0, bk_X12_coat_0), (9, bk_X12_coat_9), (22, bk_X12_coat_22), (25, bk_X12_coat_25), (28, bk_X12_coat_28), (33, bk_X12_coat_33), (42, bk_X12_coat_42), (54, bk_X12_coat_54), (55, bk_X12_coat_55)]
theorem bq_X12_coat_0 : lkB bl_X12_coat 0 = bk_X12_coat_0 := rfl
theorem bq_X12_coat_9 : lkB bl_X12_coat 9 = bk_X12_coat_9 := rfl
theorem bq_X12_coat_22 : lkB bl_X12_coat 22 = bk_X12_coat_22 := rfl
theorem bq_X12_coat_25 : lkB bl_X12_coat 25 = bk_X12_coat_25 := rfl
theorem bq_X12_coat_28 : lkB bl_X12_coat 28 = bk_X12_coat_28 := rfl
theorem bq_X12_coat_33 : lkB bl_X12_coat 33 = bk_X12_coat_33 := rfl
theorem bq_X12_coat_42 : lkB bl_X12_coat 42 = bk_X12_coat_42 := rfl
theorem bq_X12_coat_54 : lkB bl_X12_coat 54 = bk_X12_coat_54 := rfl
theorem bq_X12_coat_55 : lkB bl_X12_coat 55 = bk_X12_coat_55 := rfl
set_option maxRecDepth 20000 in
theorem ck_X12_coat : ckB rs_X12_coat false 12 4 prog_14_method_74_code bl_X12_coat = true := by decide +kernel

def rs_X12_lightAt : Rs := rf_X12 []
def bk_X12_lightAt_0 : List It := [(.iconst 0, 1, 0, 0, 0, 0), (.istore 4, 2, 4, 0, 0, 0), (.iconst 0, 1, 0, 0, 0, 0), (.istore 5, 2, 5, 0, 0, 0)]
def bk_X12_lightAt_6 : List It := [(.iload 5, 2, 5, 0, 0, 0), (.aload_n 0, 1, 0, 0, 0, 0), (.getfield 118, 3, 12, 0, 0, 0), (.if_icmp .ge 78, 3, 90, 0, 0, 0), (.iconst 2, 1, 0, 0, 0, 2), (.aload_n 0, 1, 0, 0, 0, 0), (.getfield 13, 3, 12, 2, 2, 0), (.iconst 3, 1, 0, 0, 0, 3), (.iload 5, 2, 5, 0, 0, 0), (.imul, 1, 0, 0, 0, 0), (.iconst 1, 1, 0, 0, 0, 1), (.iadd, 1, 0, 0, 0, 0), (.iaload, 1, 0, 0, 0, 0), (.imul, 1, 0, 0, 0, 0), (.iload_n 1, 1, 1, 0, 0, 0), (.isub, 1, 0, 0, 0, 0), (.istore 6, 2, 6, 0, 0, 0), (.iconst 2, 1, 0, 0, 0, 2), (.aload_n 0, 1, 0, 0, 0, 0), (.getfield 13, 3, 12, 2, 2, 0), (.iconst 3, 1, 0, 0, 0, 3), (.iload 5, 2, 5, 0, 0, 0), (.imul, 1, 0, 0, 0, 0), (.iconst 2, 1, 0, 0, 0, 2), (.iadd, 1, 0, 0, 0, 0), (.iaload, 1, 0, 0, 0, 0), (.imul, 1, 0, 0, 0, 0), (.iload_n 2, 1, 2, 0, 0, 0), (.isub, 1, 0, 0, 0, 0), (.istore 7, 2, 7, 0, 0, 0), (.iload 4, 2, 4, 0, 0, 0), (.aload_n 0, 1, 0, 0, 0, 0), (.getfield 7, 3, 12, 1, 2, 0), (.iload 5, 2, 5, 0, 0, 0), (.baload, 1, 0, 0, 0, 0), (.ifCond .eq 22, 3, 80, 0, 0, 0), (.iload 6, 2, 6, 0, 0, 0), (.iload 6, 2, 6, 0, 0, 0), (.imul, 1, 0, 0, 0, 0), (.iload 7, 2, 7, 0, 0, 0), (.iload 7, 2, 7, 0, 0, 0), (.imul, 1, 0, 0, 0, 0), (.iadd, 1, 0, 0, 0, 0), (.iload_n 3, 1, 3, 0, 0, 0), (.if_icmp .gt 7, 3, 80, 0, 0, 0), (.iconst 1, 1, 0, 0, 0, 1), (.goto 4, 3, 81, 0, 0, 0)]
def bk_X12_lightAt_80 : List It := [(.iconst 0, 1, 0, 0, 0, 0)]
def bk_X12_lightAt_81 : List It := [(.iadd, 1, 0, 0, 0, 0), (.istore 4, 2, 4, 0, 0, 0), (.iinc 5 1, 3, 5, 0, 0, 1), (.goto (-81), 3, 6, 0, 0, 0)]
def bk_X12_lightAt_90 : List It := [(.iload 4, 2, 4, 0, 0, 0), (.ireturn, 1, 0, 0, 0, 0)]
def bl_X12_lightAt : List (Nat × List It) := [(0, bk_X12_lightAt_0), (6, bk_X12_lightAt_6), (80, bk_X12_lightAt_80), (81, bk_X12_lightAt_81), (90, bk_X12_lightAt_90)]
theorem bq_X12_lightAt_0 : lkB bl_X12_lightAt 0 = bk_X12_lightAt_0 := rfl
theorem bq_X12_lightAt_6 : lkB bl_X12_lightAt 6 = bk_X12_lightAt_6 := rfl
theorem bq_X12_lightAt_80 : lkB bl_X12_lightAt 80 = bk_X12_lightAt_80 := rfl
theorem bq_X12_lightAt_81 : lkB bl_X12_lightAt 81 = bk_X12_lightAt_81 := rfl
theorem bq_X12_lightAt_90 : lkB bl_X12_lightAt 90 = bk_X12_lightAt_90 := rfl
set_option maxRecDepth 20000 in
theorem ck_X12_lightAt : ckB rs_X12_lightAt false 12 8 prog_14_method_75_code bl_X12_lightAt = true := by decide +kernel

def rs_X12_light : Rs := rf_X12 [(1, 121, 3, 115, 0), (0, 304, 3, 187, 12)]
def bk_X12_light_0 : List It := [(.iload_n 1, 1, 1, 0, 0, 0), (.i2l, 1, 0, 0, 0, 0), (.ldc2_w 298, 3, 0, 0, 0, (-40)), (.ldc2_w 300, 3, 0, 0, 0, 40), (.invokestatic 121, 3, 3, 115, 0, 0)]
def bk_X12_light_11 : List It := [(.ifCond .eq 39, 3, 50, 0, 0, 0), (.iload_n 2, 1, 2, 0, 0, 0), (.i2l, 1, 0, 0, 0, 0), (.ldc2_w 298, 3, 0, 0, 0, (-40)), (.ldc2_w 300, 3, 0, 0, 0, 40), (.invokestatic 121, 3, 3, 115, 0, 0)]
def bk_X12_light_25 : List It := [(.ifCond .eq 25, 3, 50, 0, 0, 0), (.iload_n 3, 1, 3, 0, 0, 0), (.i2l, 1, 0, 0, 0, 0), (.lconst 0, 1, 0, 0, 0, 0), (.ldc2_w 302, 3, 0, 0, 0, 400), (.invokestatic 121, 3, 3, 115, 0, 0)]
def bk_X12_light_37 : List It := [(.ifCond .eq 13, 3, 50, 0, 0, 0), (.aload_n 0, 1, 0, 0, 0, 0), (.iload_n 1, 1, 1, 0, 0, 0), (.iload_n 2, 1, 2, 0, 0, 0), (.iload_n 3, 1, 3, 0, 0, 0), (.invokevirtual 304, 3, 3, 187, 12, 0)]
def bk_X12_light_47 : List It := [(.goto 5, 3, 52, 0, 0, 0)]
def bk_X12_light_50 : List It := [(.ldc 139, 2, 0, 0, 0, (-900002))]
def bk_X12_light_52 : List It := [(.ireturn, 1, 0, 0, 0, 0)]
def bl_X12_light : List (Nat × List It) := [(0, bk_X12_light_0), (11, bk_X12_light_11), (25, bk_X12_light_25), (37, bk_X12_light_37), (47, bk_X12_light_47), (50, bk_X12_light_50), (52, bk_X12_light_52)]
theorem bq_X12_light_0 : lkB bl_X12_light 0 = bk_X12_light_0 := rfl
theorem bq_X12_light_11 : lkB bl_X12_light 11 = bk_X12_light_11 := rfl
theorem bq_X12_light_25 : lkB bl_X12_light 25 = bk_X12_light_25 := rfl
theorem bq_X12_light_37 : lkB bl_X12_light 37 = bk_X12_light_37 := rfl
theorem bq_X12_light_47 : lkB bl_X12_light 47 = bk_X12_light_47 := rfl
theorem bq_X12_light_50 : lkB bl_X12_light 50 = bk_X12_light_50 := rfl
theorem bq_X12_light_52 : lkB bl_X12_light 52 = bk_X12_light_52 := rfl
set_option maxRecDepth 20000 in
theorem ck_X12_light : ckB rs_X12_light false 12 4 prog_14_method_76_code bl_X12_light = true := by decide +kernel

def rs_X12_focus : Rs := rf_X12 [(1, 121, 3, 115, 0), (0, 304, 3, 187, 12)]
def bk_X12_focus_0 : List It := [(.iload_n 1, 1, 1, 0, 0, 0), (.i2l, 1, 0, 0, 0, 0), (.lconst 0, 1, 0, 0, 0, 0), (.ldc2_w 302, 3, 0, 0, 0, 400), (.invokestatic 121, 3, 3, 115, 0, 0)]
def bk_X12_focus_9 : List It := [(.ifCond .eq 15, 3, 24, 0, 0, 0), (.iload_n 2, 1, 2, 0, 0, 0), (.i2l, 1, 0, 0, 0, 0), (.lconst 0, 1, 0, 0, 0, 0), (.ldc2_w 140, 3, 0, 0, 0, 2), (.invokestatic 121, 3, 3, 115, 0, 0)]
def bk_X12_focus_21 : List It := [(.ifCond .ne 6, 3, 27, 0, 0, 0)]
def bk_X12_focus_24 : List It := [(.ldc 139, 2, 0, 0, 0, (-900002)), (.ireturn, 1, 0, 0, 0, 0)]
def bk_X12_focus_27 : List It := [(.iconst (-1), 1, 0, 0, 0, (-1)), (.istore_n 3, 1, 3, 0, 0, 0), (.iconst 0, 1, 0, 0, 0, 0), (.istore 4, 2, 4, 0, 0, 0), (.iconst 0, 1, 0, 0, 0, 0), (.istore 5, 2, 5, 0, 0, 0)]
def bk_X12_focus_35 : List It := [(.iload 5, 2, 5, 0, 0, 0), (.sipush 6561, 3, 0, 0, 0, 6561), (.if_icmp .ge 60, 3, 100, 0, 0, 0), (.aload_n 0, 1, 0, 0, 0, 0), (.iload 5, 2, 5, 0, 0, 0), (.bipush 81, 2, 0, 0, 0, 81), (.irem, 1, 0, 0, 0, 0), (.bipush 40, 2, 0, 0, 0, 40), (.isub, 1, 0, 0, 0, 0), (.iload 5, 2, 5, 0, 0, 0), (.bipush 81, 2, 0, 0, 0, 81), (.idiv, 1, 0, 0, 0, 0), (.bipush 40, 2, 0, 0, 0, 40), (.isub, 1, 0, 0, 0, 0), (.iload_n 1, 1, 1, 0, 0, 0), (.invokevirtual 304, 3, 3, 187, 12, 0)]
def bk_X12_focus_64 : List It := [(.istore 6, 2, 6, 0, 0, 0), (.iload 6, 2, 6, 0, 0, 0), (.iload_n 3, 1, 3, 0, 0, 0), (.if_icmp .le 8, 3, 77, 0, 0, 0), (.iload 5, 2, 5, 0, 0, 0), (.goto 5, 3, 79, 0, 0, 0)]
def bk_X12_focus_77 : List It := [(.iload 4, 2, 4, 0, 0, 0)]
def bk_X12_focus_79 : List It := [(.istore 4, 2, 4, 0, 0, 0), (.iload 6, 2, 6, 0, 0, 0), (.iload_n 3, 1, 3, 0, 0, 0), (.if_icmp .le 8, 3, 92, 0, 0, 0), (.iload 6, 2, 6, 0, 0, 0), (.goto 4, 3, 93, 0, 0, 0)]
def bk_X12_focus_92 : List It := [(.iload_n 3, 1, 3, 0, 0, 0)]
def bk_X12_focus_93 : List It := [(.istore_n 3, 1, 3, 0, 0, 0), (.iinc 5 1, 3, 5, 0, 0, 1), (.goto (-62), 3, 35, 0, 0, 0)]
def bk_X12_focus_100 : List It := [(.iload_n 2, 1, 2, 0, 0, 0), (.ifCond .ne 14, 3, 115, 0, 0, 0), (.iload 4, 2, 4, 0, 0, 0), (.bipush 81, 2, 0, 0, 0, 81), (.irem, 1, 0, 0, 0, 0), (.bipush 40, 2, 0, 0, 0, 40), (.isub, 1, 0, 0, 0, 0), (.goto 20, 3, 132, 0, 0, 0)]
def bk_X12_focus_115 : List It := [(.iload_n 2, 1, 2, 0, 0, 0), (.iconst 1, 1, 0, 0, 0, 1), (.if_icmp .ne 14, 3, 131, 0, 0, 0), (.iload 4, 2, 4, 0, 0, 0), (.bipush 81, 2, 0, 0, 0, 81), (.idiv, 1, 0, 0, 0, 0), (.bipush 40, 2, 0, 0, 0, 40), (.isub, 1, 0, 0, 0, 0), (.goto 4, 3, 132, 0, 0, 0)]
def bk_X12_focus_131 : List It := [(.iload_n 3, 1, 3, 0, 0, 0)]
def bk_X12_focus_132 : List It := [(.ireturn, 1, 0, 0, 0, 0)]
def bl_X12_focus : List (Nat × List It) := [(0, bk_X12_focus_0), (9, bk_X12_focus_9), (21, bk_X12_focus_21), (24, bk_X12_focus_24), (27, bk_X12_focus_27), (35, bk_X12_focus_35), (64, bk_X12_focus_64), (77, bk_X12_focus_77), (79, bk_X12_focus_79), (92, bk_X12_focus_92), (93, bk_X12_focus_93), (100, bk_X12_focus_100), (115, bk_X12_focus_115), (131, bk_X12_focus_131), (132, bk_X12_focus_132)]
theorem bq_X12_focus_0 : lkB bl_X12_focus 0 = bk_X12_focus_0 := rfl
theorem bq_X12_focus_9 : lkB bl_X12_focus 9 = bk_X12_focus_9 := rfl
theorem bq_X12_focus_21 : lkB bl_X12_focus 21 = bk_X12_focus_21 := rfl
theorem bq_X12_focus_24 : lkB bl_X12_focus 24 = bk_X12_focus_24 := rfl
theorem bq_X12_focus_27 : lkB bl_X12_focus 27 = bk_X12_focus_27 := rfl
theorem bq_X12_focus_35 : lkB bl_X12_focus 35 = bk_X12_focus_35 := rfl
theorem bq_X12_focus_64 : lkB bl_X12_focus 64 = bk_X12_focus_64 := rfl
theorem bq_X12_focus_77 : lkB bl_X12_focus 77 = bk_X12_focus_77 := rfl
theorem bq_X12_focus_79 : lkB bl_X12_focus 79 = bk_X12_focus_79 := rfl
theorem bq_X12_focus_92 : lkB bl_X12_focus 92 = bk_X12_focus_92 := rfl
theorem bq_X12_focus_93 : lkB bl_X12_focus 93 = bk_X12_focus_93 := rfl
theorem bq_X12_focus_100 : lkB bl_X12_focus 100 = bk_X12_focus_100 := rfl
theorem bq_X12_focus_115 : lkB bl_X12_focus 115 = bk_X12_focus_115 := rfl
theorem bq_X12_focus_131 : lkB bl_X12_focus 131 = bk_X12_focus_131 := rfl
theorem bq_X12_focus_132 : lkB bl_X12_focus 132 = bk_X12_focus_132 := rfl
set_option maxRecDepth 20000 in
theorem ck_X12_focus : ckB rs_X12_focus false 12 7 prog_14_method_77_code bl_X12_focus = true := by decide +kernel

def rs_X12_count : Rs := rf_X12 [(0, 162, 1, 126, 12), (0, 213, 0, 117, 12)]
def bk_X12_count_0 : List It := [(.iconst 0, 1, 0, 0, 0, 0), (.istore_n 2, 1, 2, 0, 0, 0), (.iconst 0, 1, 0, 0, 0, 0), (.istore_n 3, 1, 3, 0, 0, 0), (.iconst 0, 1, 0, 0, 0, 0), (.istore 4, 2, 4, 0, 0, 0)]
def bk_X12_count_7 : List It := [(.iload 4, 2, 4, 0, 0, 0), (.aload_n 0, 1, 0, 0, 0, 0), (.getfield 146, 3, 12, 4, 0, 0), (.if_icmp .ge 55, 3, 68, 0, 0, 0), (.iload_n 2, 1, 2, 0, 0, 0), (.aload_n 0, 1, 0, 0, 0, 0), (.iload 4, 2, 4, 0, 0, 0), (.invokevirtual 162, 3, 1, 126, 12, 0)]
def bk_X12_count_23 : List It := [(.ifCond .eq 7, 3, 30, 0, 0, 0), (.iconst 1, 1, 0, 0, 0, 1), (.goto 4, 3, 31, 0, 0, 0)]
def bk_X12_count_30 : List It := [(.iconst 0, 1, 0, 0, 0, 0)]
def bk_X12_count_31 : List It := [(.iadd, 1, 0, 0, 0, 0), (.istore_n 2, 1, 2, 0, 0, 0), (.iload_n 3, 1, 3, 0, 0, 0), (.aload_n 0, 1, 0, 0, 0, 0), (.iload 4, 2, 4, 0, 0, 0), (.invokevirtual 162, 3, 1, 126, 12, 0)]
def bk_X12_count_40 : List It := [(.ifCond .eq 19, 3, 59, 0, 0, 0), (.aload_n 0, 1, 0, 0, 0, 0), (.getfield 41, 3, 12, 12, 2, 0), (.iload 4, 2, 4, 0, 0, 0), (.iaload, 1, 0, 0, 0, 0), (.ldc 154, 2, 0, 0, 0, (-900009)), (.if_icmp .eq 7, 3, 59, 0, 0, 0), (.iconst 1, 1, 0, 0, 0, 1), (.goto 4, 3, 60, 0, 0, 0)]
def bk_X12_count_59 : List It := [(.iconst 0, 1, 0, 0, 0, 0)]
def bk_X12_count_60 : List It := [(.iadd, 1, 0, 0, 0, 0), (.istore_n 3, 1, 3, 0, 0, 0), (.iinc 4 1, 3, 4, 0, 0, 1), (.goto (-58), 3, 7, 0, 0, 0)]
def bk_X12_count_68 : List It := [(.iload_n 1, 1, 1, 0, 0, 0), (.tableswitch 72 0 6 #[43, 48, 53, 58, 60, 62, 67], 43, 0, 0, 0, 0)]
def bk_X12_count_112 : List It := [(.aload_n 0, 1, 0, 0, 0, 0), (.getfield 118, 3, 12, 0, 0, 0), (.ireturn, 1, 0, 0, 0, 0)]
def bk_X12_count_117 : List It := [(.aload_n 0, 1, 0, 0, 0, 0), (.invokevirtual 213, 3, 0, 117, 12, 0)]
def bk_X12_count_121 : List It := [(.ireturn, 1, 0, 0, 0, 0)]
def bk_X12_count_122 : List It := [(.aload_n 0, 1, 0, 0, 0, 0), (.getfield 146, 3, 12, 4, 0, 0), (.ireturn, 1, 0, 0, 0, 0)]
def bk_X12_count_127 : List It := [(.iload_n 2, 1, 2, 0, 0, 0), (.ireturn, 1, 0, 0, 0, 0)]
def bk_X12_count_129 : List It := [(.iload_n 3, 1, 3, 0, 0, 0), (.ireturn, 1, 0, 0, 0, 0)]
def bk_X12_count_131 : List It := [(.aload_n 0, 1, 0, 0, 0, 0), (.getfield 241, 3, 12, 16, 0, 0), (.ireturn, 1, 0, 0, 0, 0)]
def bk_X12_count_136 : List It := [(.aload_n 0, 1, 0, 0, 0, 0), (.getfield 249, 3, 12, 23, 0, 0), (.ireturn, 1, 0, 0, 0, 0)]
def bk_X12_count_141 : List It := [(.ldc 139, 2, 0, 0, 0, (-900002)), (.ireturn, 1, 0, 0, 0, 0)]
def bl_X12_count : List (Nat × List It) := [(0, bk_X12_count_0), (7, bk_X12_count_7), (23, bk_X12_count_23), (30, bk_X12_count_30), (31, bk_X12_count_31), (40, bk_X12_count_40), (59, bk_X12_count_59), (60, bk_X12_count_60), (68, bk_X12_count_68), (112, bk_X12_count_112), (117, bk_X12_count_117), (121, bk_X12_count_121), (122, bk_X12_count_122), (127, bk_X12_count_127), (129, bk_X12_count_129), (131, bk_X12_count_131), (136, bk_X12_count_136), (141, bk_X12_count_141)]
theorem bq_X12_count_0 : lkB bl_X12_count 0 = bk_X12_count_0 := rfl
theorem bq_X12_count_7 : lkB bl_X12_count 7 = bk_X12_count_7 := rfl
theorem bq_X12_count_23 : lkB bl_X12_count 23 = bk_X12_count_23 := rfl
theorem bq_X12_count_30 : lkB bl_X12_count 30 = bk_X12_count_30 := rfl
theorem bq_X12_count_31 : lkB bl_X12_count 31 = bk_X12_count_31 := rfl
theorem bq_X12_count_40 : lkB bl_X12_count 40 = bk_X12_count_40 := rfl
theorem bq_X12_count_59 : lkB bl_X12_count 59 = bk_X12_count_59 := rfl
theorem bq_X12_count_60 : lkB bl_X12_count 60 = bk_X12_count_60 := rfl
theorem bq_X12_count_68 : lkB bl_X12_count 68 = bk_X12_count_68 := rfl
theorem bq_X12_count_112 : lkB bl_X12_count 112 = bk_X12_count_112 := rfl
theorem bq_X12_count_117 : lkB bl_X12_count 117 = bk_X12_count_117 := rfl
theorem bq_X12_count_121 : lkB bl_X12_count 121 = bk_X12_count_121 := rfl
theorem bq_X12_count_122 : lkB bl_X12_count 122 = bk_X12_count_122 := rfl
theorem bq_X12_count_127 : lkB bl_X12_count 127 = bk_X12_count_127 := rfl
theorem bq_X12_count_129 : lkB bl_X12_count 129 = bk_X12_count_129 := rfl
theorem bq_X12_count_131 : lkB bl_X12_count 131 = bk_X12_count_131 := rfl
theorem bq_X12_count_136 : lkB bl_X12_count 136 = bk_X12_count_136 := rfl
theorem bq_X12_count_141 : lkB bl_X12_count 141 = bk_X12_count_141 := rfl
set_option maxRecDepth 20000 in
theorem ck_X12_count : ckB rs_X12_count false 12 5 prog_14_method_78_code bl_X12_count = true := by decide +kernel
