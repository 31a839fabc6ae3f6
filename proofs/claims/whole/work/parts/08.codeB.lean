def rs_X11_init : Rs := rf_X11 [(2, 1, 0, 900, 0), (2, 42, 0, 22, 0), (2, 49, 0, 39, 0), (2, 56, 0, 50, 0), (2, 63, 0, 17, 0), (2, 70, 0, 29, 0)]
def bk_X11_init_0 : List It := [(.aload_n 0, 1, 0, 0, 0, 0), (.invokespecial 1, 3, 0, 900, 0, 0)]
def bk_X11_init_4 : List It := [(.aload_n 0, 1, 0, 0, 0, 0), (.bipush 7, 2, 0, 0, 0, 7), (.anewarray 9, 3, 23, 0, 0, 0), (.putfield 11, 3, 11, 0, 2, 0)]
def bk_X11_init_13 : List It := [(.aload_n 0, 1, 0, 0, 0, 0), (.bipush 24, 2, 0, 0, 0, 24), (.anewarray 15, 3, 24, 0, 0, 0), (.putfield 17, 3, 11, 2, 2, 0)]
def bk_X11_init_22 : List It := [(.aload_n 0, 1, 0, 0, 0, 0), (.bipush 21, 2, 0, 0, 0, 21), (.anewarray 21, 3, 25, 0, 0, 0), (.putfield 23, 3, 11, 4, 2, 0)]
def bk_X11_init_31 : List It := [(.aload_n 0, 1, 0, 0, 0, 0), (.bipush 20, 2, 0, 0, 0, 20), (.anewarray 27, 3, 26, 0, 0, 0), (.putfield 29, 3, 11, 6, 2, 0)]
def bk_X11_init_40 : List It := [(.aload_n 0, 1, 0, 0, 0, 0), (.iconst 3, 1, 0, 0, 0, 3), (.putfield 33, 3, 11, 8, 0, 0)]
def bk_X11_init_45 : List It := [(.aload_n 0, 1, 0, 0, 0, 0), (.bipush 10, 2, 0, 0, 0, 10), (.putfield 37, 3, 11, 9, 0, 0)]
def bk_X11_init_51 : List It := [(.aload_n 0, 1, 0, 0, 0, 0), (.new 40, 3, 6, 2, 0, 0), (.dup, 1, 0, 0, 0, 0), (.invokespecial 42, 3, 0, 22, 0, 0)]
def bk_X11_init_59 : List It := [(.putfield 43, 3, 11, 10, 2, 0)]
def bk_X11_init_62 : List It := [(.aload_n 0, 1, 0, 0, 0, 0), (.new 47, 3, 9, 6, 0, 0), (.dup, 1, 0, 0, 0, 0), (.invokespecial 49, 3, 0, 39, 0, 0)]
def bk_X11_init_70 : List It := [(.putfield 50, 3, 11, 11, 2, 0)]
def bk_X11_init_73 : List It := [(.aload_n 0, 1, 0, 0, 0, 0), (.new 54, 3, 10, 4, 0, 0), (.dup, 1, 0, 0, 0, 0), (.invokespecial 56, 3, 0, 50, 0, 0)]
def bk_X11_init_81 : List It := [(.putfield 57, 3, 11, 12, 2, 0)]
def bk_X11_init_84 : List It := [(.aload_n 0, 1, 0, 0, 0, 0), (.new 61, 3, 5, 8, 0, 0), (.dup, 1, 0, 0, 0, 0), (.invokespecial 63, 3, 0, 17, 0, 0)]
def bk_X11_init_92 : List It := [(.putfield 64, 3, 11, 13, 2, 0)]
def bk_X11_init_95 : List It := [(.aload_n 0, 1, 0, 0, 0, 0), (.new 68, 3, 7, 3, 0, 0), (.dup, 1, 0, 0, 0, 0), (.invokespecial 70, 3, 0, 29, 0, 0)]
def bk_X11_init_103 : List It := [(.putfield 71, 3, 11, 14, 2, 0)]
def bk_X11_init_106 : List It := [(.aload_n 0, 1, 0, 0, 0, 0), (.bipush 24, 2, 0, 0, 0, 24), (.newarray .int, 2, 112, 0, 0, 0), (.putfield 75, 3, 11, 15, 2, 0)]
def bk_X11_init_114 : List It := [(.return_, 1, 0, 0, 0, 0)]
def bl_X11_init : List (Nat × List It) := [(0, bk_X11_init_0), (4, bk_X11_init_4), (13, bk_X11_init_13), (22, bk_X11_init_22), (31, bk_X11_init_31), (40, bk_X11_init_40), (45, bk_X11_init_45), (51, bk_X11_init_51), (59, bk_X11_init_59), (62, bk_X11_init_62), (70, bk_X11_init_70), (73, bk_X11_init_73), (81, bk_X11_init_81), (84, bk_X11_init_84), (92, bk_X11_init_92), (95, bk_X11_init_95), (103, bk_X11_init_103), (106, bk_X11_init_106), (114, bk_X11_init_114)]
theorem bq_X11_init_0 : lkB bl_X11_init 0 = bk_X11_init_0 := rfl
theorem bq_X11_init_4 : lkB bl_X11_init 4 = bk_X11_init_4 := rfl
theorem bq_X11_init_13 : lkB bl_X11_init 13 = bk_X11_init_13 := rfl
theorem bq_X11_init_22 : lkB bl_X11_init 22 = bk_X11_init_22 := rfl
theorem bq_X11_init_31 : lkB bl_X11_init 31 = bk_X11_init_31 := rfl
theorem bq_X11_init_40 : lkB bl_X11_init 40 = bk_X11_init_40 := rfl
theorem bq_X11_init_45 : lkB bl_X11_init 45 = bk_X11_init_45 := rfl
theorem bq_X11_init_51 : lkB bl_X11_init 51 = bk_X11_init_51 := rfl
theorem bq_X11_init_59 : lkB bl_X11_init 59 = bk_X11_init_59 := rfl
theorem bq_X11_init_62 : lkB bl_X11_init 62 = bk_X11_init_62 := rfl
theorem bq_X11_init_70 : lkB bl_X11_init 70 = bk_X11_init_70 := rfl
theorem bq_X11_init_73 : lkB bl_X11_init 73 = bk_X11_init_73 := rfl
theorem bq_X11_init_81 : lkB bl_X11_init 81 = bk_X11_init_81 := rfl
theorem bq_X11_init_84 : lkB bl_X11_init 84 = bk_X11_init_84 := rfl
theorem bq_X11_init_92 : lkB bl_X11_init 92 = bk_X11_init_92 := rfl
theorem bq_X11_init_95 : lkB bl_X11_init 95 = bk_X11_init_95 := rfl
theorem bq_X11_init_103 : lkB bl_X11_init 103 = bk_X11_init_103 := rfl
theorem bq_X11_init_106 : lkB bl_X11_init 106 = bk_X11_init_106 := rfl
theorem bq_X11_init_114 : lkB bl_X11_init 114 = bk_X11_init_114 := rfl
set_option maxRecDepth 20000 in
theorem ck_X11_init : ckB rs_X11_init true 11 1 prog_1_method_1_code bl_X11_init = true := by decide +kernel

def rs_X11_piece : Rs := rf_X11 [(2, 83, 1, 11, 0)]
def bk_X11_piece_0 : List It := [(.aload_n 0, 1, 0, 0, 0, 0), (.getfield 79, 3, 11, 1, 0, 0), (.bipush 7, 2, 0, 0, 0, 7), (.if_icmp .lt 6, 3, 12, 0, 0, 0), (.ldc 82, 2, 0, 0, 0, (-900004)), (.ireturn, 1, 0, 0, 0, 0)]
def bk_X11_piece_12 : List It := [(.aload_n 0, 1, 0, 0, 0, 0), (.getfield 11, 3, 11, 0, 2, 0), (.aload_n 0, 1, 0, 0, 0, 0), (.getfield 79, 3, 11, 1, 0, 0), (.new 9, 3, 3, 8, 0, 0), (.dup, 1, 0, 0, 0, 0), (.aload_n 0, 1, 0, 0, 0, 0), (.getfield 79, 3, 11, 1, 0, 0), (.invokespecial 83, 3, 1, 11, 0, 0), (.aastore, 1, 0, 0, 0, 0), (.aload_n 0, 1, 0, 0, 0, 0), (.dup, 1, 0, 0, 0, 0), (.getfield 79, 3, 11, 1, 0, 0), (.iconst 1, 1, 0, 0, 0, 1), (.iadd, 1, 0, 0, 0, 0), (.putfield 79, 3, 11, 1, 0, 0), (.aload_n 0, 1, 0, 0, 0, 0), (.getfield 79, 3, 11, 1, 0, 0), (.iconst 1, 1, 0, 0, 0, 1), (.isub, 1, 0, 0, 0, 0), (.ireturn, 1, 0, 0, 0, 0)]
def bl_X11_piece : List (Nat × List It) := [(0, bk_X11_piece_0), (12, bk_X11_piece_12)]
theorem bq_X11_piece_0 : lkB bl_X11_piece 0 = bk_X11_piece_0 := rfl
theorem bq_X11_piece_12 : lkB bl_X11_piece 12 = bk_X11_piece_12 := rfl
set_option maxRecDepth 20000 in
theorem ck_X11_piece : ckB rs_X11_piece false 11 1 prog_1_method_2_code bl_X11_piece = true := by decide +kernel

def rs_X11_put : Rs := rf_X11 [(0, 86, 1, 101, 11), (1, 95, 1, 98, 0)]
def bk_X11_put_0 : List It := [(.aload_n 0, 1, 0, 0, 0, 0), (.iload_n 1, 1, 1, 0, 0, 0), (.invokevirtual 86, 3, 1, 101, 11, 0), (.astore_n 3, 1, 3, 0, 0, 0), (.aload_n 3, 1, 3, 0, 0, 0), (.ifnonnull 6, 3, 13, 0, 0, 0), (.ldc 90, 2, 0, 0, 0, (-900001)), (.ireturn, 1, 0, 0, 0, 0)]
def bk_X11_put_13 : List It := [(.aload_n 3, 1, 3, 0, 0, 0), (.getfield 91, 3, 3, 1, 1, 0), (.invokestatic 95, 3, 1, 98, 0, 0), (.istore 4, 2, 4, 0, 0, 0), (.aload_n 3, 1, 3, 0, 0, 0), (.iload_n 2, 1, 2, 0, 0, 0), (.putfield 91, 3, 3, 1, 1, 0), (.iload 4, 2, 4, 0, 0, 0), (.ireturn, 1, 0, 0, 0, 0)]
def bl_X11_put : List (Nat × List It) := [(0, bk_X11_put_0), (13, bk_X11_put_13)]
theorem bq_X11_put_0 : lkB bl_X11_put 0 = bk_X11_put_0 := rfl
theorem bq_X11_put_13 : lkB bl_X11_put 13 = bk_X11_put_13 := rfl
set_option maxRecDepth 20000 in
theorem ck_X11_put : ckB rs_X11_put false 11 5 prog_1_method_3_code bl_X11_put = true := by decide +kernel

def rs_X11_wish : Rs := rf_X11 [(0, 86, 1, 101, 11), (1, 99, 2, 99, 0), (0, 108, 3, 15, 4)]
def bk_X11_wish_0 : List It := [(.aload_n 0, 1, 0, 0, 0, 0), (.iload_n 1, 1, 1, 0, 0, 0), (.invokevirtual 86, 3, 1, 101, 11, 0), (.astore 5, 2, 5, 0, 0, 0), (.aload 5, 2, 5, 0, 0, 0), (.ifnonnull 6, 3, 15, 0, 0, 0), (.ldc 90, 2, 0, 0, 0, (-900001)), (.ireturn, 1, 0, 0, 0, 0)]
def bk_X11_wish_15 : List It := [(.iload_n 2, 1, 2, 0, 0, 0), (.bipush 99, 2, 0, 0, 0, 99), (.invokestatic 99, 3, 2, 99, 0, 0), (.ifCond .ne 22, 3, 43, 0, 0, 0), (.iload_n 3, 1, 3, 0, 0, 0), (.bipush 9, 2, 0, 0, 0, 9), (.invokestatic 99, 3, 2, 99, 0, 0), (.ifCond .ne 13, 3, 43, 0, 0, 0), (.iload 4, 2, 4, 0, 0, 0), (.bipush 9, 2, 0, 0, 0, 9), (.invokestatic 99, 3, 2, 99, 0, 0), (.ifCond .eq 6, 3, 46, 0, 0, 0)]
def bk_X11_wish_43 : List It := [(.ldc 103, 2, 0, 0, 0, (-900002)), (.ireturn, 1, 0, 0, 0, 0)]
def bk_X11_wish_46 : List It := [(.aload 5, 2, 5, 0, 0, 0), (.getfield 104, 3, 3, 3, 2, 0), (.iload_n 2, 1, 2, 0, 0, 0), (.iload_n 3, 1, 3, 0, 0, 0), (.iload 4, 2, 4, 0, 0, 0), (.invokevirtual 108, 3, 3, 15, 4, 0), (.iconst 1, 1, 0, 0, 0, 1), (.ireturn, 1, 0, 0, 0, 0)]
def bl_X11_wish : List (Nat × List It) := [(0, bk_X11_wish_0), (15, bk_X11_wish_15), (43, bk_X11_wish_43), (46, bk_X11_wish_46)]
theorem bq_X11_wish_0 : lkB bl_X11_wish 0 = bk_X11_wish_0 := rfl
theorem bq_X11_wish_15 : lkB bl_X11_wish 15 = bk_X11_wish_15 := rfl
theorem bq_X11_wish_43 : lkB bl_X11_wish 43 = bk_X11_wish_43 := rfl
theorem bq_X11_wish_46 : lkB bl_X11_wish 46 = bk_X11_wish_46 := rfl
set_option maxRecDepth 20000 in
theorem ck_X11_wish : ckB rs_X11_wish false 11 6 prog_1_method_4_code bl_X11_wish = true := by decide +kernel

def rs_X11_about : Rs := rf_X11 [(0, 86, 1, 101, 11)]
def bk_X11_about_0 : List It := [(.aload_n 0, 1, 0, 0, 0, 0), (.iload_n 1, 1, 1, 0, 0, 0), (.invokevirtual 86, 3, 1, 101, 11, 0), (.astore_n 3, 1, 3, 0, 0, 0), (.aload_n 3, 1, 3, 0, 0, 0), (.ifnonnull 6, 3, 13, 0, 0, 0), (.ldc 90, 2, 0, 0, 0, (-900001)), (.ireturn, 1, 0, 0, 0, 0)]
def bk_X11_about_13 : List It := [(.iload_n 2, 1, 2, 0, 0, 0), (.tableswitch 86 0 5 #[38, 46, 54, 62, 70, 78], 38, 0, 0, 0, 0)]
def bk_X11_about_52 : List It := [(.aload_n 3, 1, 3, 0, 0, 0), (.getfield 114, 3, 3, 2, 2, 0), (.getfield 117, 3, 4, 0, 0, 0), (.ireturn, 1, 0, 0, 0, 0)]
def bk_X11_about_60 : List It := [(.aload_n 3, 1, 3, 0, 0, 0), (.getfield 114, 3, 3, 2, 2, 0), (.getfield 120, 3, 4, 1, 0, 0), (.ireturn, 1, 0, 0, 0, 0)]
def bk_X11_about_68 : List It := [(.aload_n 3, 1, 3, 0, 0, 0), (.getfield 114, 3, 3, 2, 2, 0), (.getfield 123, 3, 4, 2, 0, 0), (.ireturn, 1, 0, 0, 0, 0)]
def bk_X11_about_76 : List It := [(.aload_n 3, 1, 3, 0, 0, 0), (.getfield 104, 3, 3, 3, 2, 0), (.getfield 117, 3, 4, 0, 0, 0), (.ireturn, 1, 0, 0, 0, 0)]
def bk_X11_about_84 : List It := [(.aload_n 3, 1, 3, 0, 0, 0), (.getfield 104, 3, 3, 3, 2, 0), (.getfield 120, 3, 4, 1, 0, 0), (.ireturn, 1, 0, 0, 0, 0)]
def bk_X11_about_92 : List It := [(.aload_n 3, 1, 3, 0, 0, 0), (.getfield 104, 3, 3, 3, 2, 0), (.getfield 123, 3, 4, 2, 0, 0), (.ireturn, 1, 0, 0, 0, 0)]
def bk_X11_about_100 : List It := [(.ldc 103, 2, 0, 0, 0, (-900002)), (.ireturn, 1, 0, 0, 0, 0)]
def bl_X11_about : List (Nat × List It) := [(0, bk_X11_about_0), (13, bk_X11_about_13), (52, bk_X11_about_52), (60, bk_X11_about_60), (68, bk_X11_about_68), (76, bk_X11_about_76), (84, bk_X11_about_84), (92, bk_X11_about_92), (100, bk_X11_about_100)]
theorem bq_X11_about_0 : lkB bl_X11_about 0 = bk_X11_about_0 := rfl
theorem bq_X11_about_13 : lkB bl_X11_about 13 = bk_X11_about_13 := rfl
theorem bq_X11_about_52 : lkB bl_X11_about 52 = bk_X11_about_52 := rfl
theorem bq_X11_about_60 : lkB bl_X11_about 60 = bk_X11_about_60 := rfl
theorem bq_X11_about_68 : lkB bl_X11_about 68 = bk_X11_about_68 := rfl
theorem bq_X11_about_76 : lkB bl_X11_about 76 = bk_X11_about_76 := rfl
theorem bq_X11_about_84 : lkB bl_X11_about 84 = bk_X11_about_84 := rfl
theorem bq_X11_about_92 : lkB bl_X11_about 92 = bk_X11_about_92 := rfl
theorem bq_X11_about_100 : lkB bl_X11_about 100 = bk_X11_about_100 := rfl
set_option maxRecDepth 20000 in
theorem ck_X11_about : ckB rs_X11_about false 11 4 prog_1_method_5_code bl_X11_about = true := by decide +kernel

def rs_X11_eye : Rs := rf_X11 [(0, 86, 1, 101, 11), (1, 126, 2, 100, 0), (2, 133, 5, 0, 0)]
def bk_X11_eye_0 : List It := [(.aload_n 0, 1, 0, 0, 0, 0), (.iload_n 1, 1, 1, 0, 0, 0), (.invokevirtual 86, 3, 1, 101, 11, 0), (.astore 6, 2, 6, 0, 0, 0), (.aload_n 0, 1, 0, 0, 0, 0), (.iload_n 2, 1, 2, 0, 0, 0), (.invokevirtual 86, 3, 1, 101, 11, 0), (.astore 7, 2, 7, 0, 0, 0), (.aload 6, 2, 6, 0, 0, 0), (.ifnull 8, 3, 24, 0, 0, 0), (.aload 7, 2, 7, 0, 0, 0), (.ifnonnull 6, 3, 27, 0, 0, 0)]
def bk_X11_eye_24 : List It := [(.ldc 90, 2, 0, 0, 0, (-900001)), (.ireturn, 1, 0, 0, 0, 0)]
def bk_X11_eye_27 : List It := [(.iload_n 3, 1, 3, 0, 0, 0), (.iload 4, 2, 4, 0, 0, 0), (.invokestatic 126, 3, 2, 100, 0, 0), (.ifCond .ne 16, 3, 49, 0, 0, 0), (.iload 5, 2, 5, 0, 0, 0), (.iconst 1, 1, 0, 0, 0, 1), (.if_icmp .lt 10, 3, 49, 0, 0, 0), (.iload 5, 2, 5, 0, 0, 0), (.bipush 99, 2, 0, 0, 0, 99), (.if_icmp .le 6, 3, 52, 0, 0, 0)]
def bk_X11_eye_49 : List It := [(.ldc 103, 2, 0, 0, 0, (-900002)), (.ireturn, 1, 0, 0, 0, 0)]
def bk_X11_eye_52 : List It := [(.iload_n 1, 1, 1, 0, 0, 0), (.iload_n 2, 1, 2, 0, 0, 0), (.if_icmp .ne 6, 3, 60, 0, 0, 0), (.ldc 129, 2, 0, 0, 0, (-900003)), (.ireturn, 1, 0, 0, 0, 0)]
def bk_X11_eye_60 : List It := [(.aload_n 0, 1, 0, 0, 0, 0), (.getfield 130, 3, 11, 3, 0, 0), (.bipush 24, 2, 0, 0, 0, 24), (.if_icmp .lt 6, 3, 72, 0, 0, 0), (.ldc 82, 2, 0, 0, 0, (-900004)), (.ireturn, 1, 0, 0, 0, 0)]
def bk_X11_eye_72 : List It := [(.aload_n 0, 1, 0, 0, 0, 0), (.getfield 17, 3, 11, 2, 2, 0), (.aload_n 0, 1, 0, 0, 0, 0), (.getfield 130, 3, 11, 3, 0, 0), (.new 15, 3, 0, 8, 0, 0), (.dup, 1, 0, 0, 0, 0), (.aload 6, 2, 6, 0, 0, 0), (.aload 7, 2, 7, 0, 0, 0), (.iload_n 3, 1, 3, 0, 0, 0), (.iload 4, 2, 4, 0, 0, 0), (.iload 5, 2, 5, 0, 0, 0), (.invokespecial 133, 3, 5, 0, 0, 0), (.aastore, 1, 0, 0, 0, 0), (.aload_n 0, 1, 0, 0, 0, 0), (.dup, 1, 0, 0, 0, 0), (.getfield 130, 3, 11, 3, 0, 0), (.iconst 1, 1, 0, 0, 0, 1), (.iadd, 1, 0, 0, 0, 0), (.putfield 130, 3, 11, 3, 0, 0), (.aload_n 0, 1, 0, 0, 0, 0), (.getfield 130, 3, 11, 3, 0, 0), (.iconst 1, 1, 0, 0, 0, 1), (.isub, 1, 0, 0, 0, 0), (.ireturn, 1, 0, 0, 0, 0)]
def bl_X11_eye : List (Nat × List It) := [(0, bk_X11_eye_0), (24, bk_X11_eye_24), (27, bk_X11_eye_27), (49, bk_X11_eye_49), (52, bk_X11_eye_52), (60, bk_X11_eye_60), (72, bk_X11_eye_72)]
theorem bq_X11_eye_0 : lkB bl_X11_eye 0 = bk_X11_eye_0 := rfl
theorem bq_X11_eye_24 : lkB bl_X11_eye 24 = bk_X11_eye_24 := rfl
theorem bq_X11_eye_27 : lkB bl_X11_eye 27 = bk_X11_eye_27 := rfl
theorem bq_X11_eye_49 : lkB bl_X11_eye 49 = bk_X11_eye_49 := rfl
theorem bq_X11_eye_52 : lkB bl_X11_eye 52 = bk_X11_eye_52 := rfl
theorem bq_X11_eye_60 : lkB bl_X11_eye 60 = bk_X11_eye_60 := rfl
theorem bq_X11_eye_72 : lkB bl_X11_eye 72 = bk_X11_eye_72 := rfl
set_option maxRecDepth 20000 in
theorem ck_X11_eye : ckB rs_X11_eye false 11 8 prog_1_method_6_code bl_X11_eye = true := by decide +kernel

def rs_X11_blind : Rs := rf_X11 [(0, 136, 1, 102, 11), (1, 95, 1, 98, 0)]
def bk_X11_blind_0 : List It := [(.aload_n 0, 1, 0, 0, 0, 0), (.iload_n 1, 1, 1, 0, 0, 0), (.invokevirtual 136, 3, 1, 102, 11, 0), (.astore_n 3, 1, 3, 0, 0, 0), (.aload_n 3, 1, 3, 0, 0, 0), (.ifnonnull 6, 3, 13, 0, 0, 0), (.ldc 90, 2, 0, 0, 0, (-900001)), (.ireturn, 1, 0, 0, 0, 0)]
def bk_X11_blind_13 : List It := [(.aload_n 3, 1, 3, 0, 0, 0), (.getfield 140, 3, 0, 5, 1, 0), (.invokestatic 95, 3, 1, 98, 0, 0), (.istore 4, 2, 4, 0, 0, 0), (.aload_n 3, 1, 3, 0, 0, 0), (.iload_n 2, 1, 2, 0, 0, 0), (.putfield 140, 3, 0, 5, 1, 0), (.iload 4, 2, 4, 0, 0, 0), (.ireturn, 1, 0, 0, 0, 0)]
def bl_X11_blind : List (Nat × List It) := [(0, bk_X11_blind_0), (13, bk_X11_blind_13)]
theorem bq_X11_blind_0 : lkB bl_X11_blind 0 = bk_X11_blind_0 := rfl
theorem bq_X11_blind_13 : lkB bl_X11_blind 13 = bk_X11_blind_13 := rfl
set_option maxRecDepth 20000 in
theorem ck_X11_blind : ckB rs_X11_blind false 11 5 prog_1_method_7_code bl_X11_blind = true := by decide +kernel

def rs_X11_drift : Rs := rf_X11 [(0, 136, 1, 102, 11), (1, 99, 2, 99, 0)]
def bk_X11_drift_0 : List It := [(.aload_n 0, 1, 0, 0, 0, 0), (.iload_n 1, 1, 1, 0, 0, 0), (.invokevirtual 136, 3, 1, 102, 11, 0), (.astore_n 3, 1, 3, 0, 0, 0), (.aload_n 3, 1, 3, 0, 0, 0), (.ifnonnull 6, 3, 13, 0, 0, 0), (.ldc 90, 2, 0, 0, 0, (-900001)), (.ireturn, 1, 0, 0, 0, 0)]
def bk_X11_drift_13 : List It := [(.iload_n 2, 1, 2, 0, 0, 0), (.bipush 99, 2, 0, 0, 0, 99), (.invokestatic 99, 3, 2, 99, 0, 0), (.ifCond .eq 6, 3, 25, 0, 0, 0), (.ldc 103, 2, 0, 0, 0, (-900002)), (.ireturn, 1, 0, 0, 0, 0)]
def bk_X11_drift_25 : List It := [(.aload_n 3, 1, 3, 0, 0, 0), (.getfield 143, 3, 0, 6, 0, 0), (.istore 4, 2, 4, 0, 0, 0), (.aload_n 3, 1, 3, 0, 0, 0), (.iload_n 2, 1, 2, 0, 0, 0), (.putfield 143, 3, 0, 6, 0, 0), (.iload 4, 2, 4, 0, 0, 0), (.ireturn, 1, 0, 0, 0, 0)]
def bl_X11_drift : List (Nat × List It) := [(0, bk_X11_drift_0), (13, bk_X11_drift_13), (25, bk_X11_drift_25)]
theorem bq_X11_drift_0 : lkB bl_X11_drift 0 = bk_X11_drift_0 := rfl
theorem bq_X11_drift_13 : lkB bl_X11_drift 13 = bk_X11_drift_13 := rfl
theorem bq_X11_drift_25 : lkB bl_X11_drift 25 = bk_X11_drift_25 := rfl
set_option maxRecDepth 20000 in
theorem ck_X11_drift : ckB rs_X11_drift false 11 5 prog_1_method_8_code bl_X11_drift = true := by decide +kernel

def rs_X11_tells : Rs := rf_X11 [(0, 136, 1, 102, 11), (0, 146, 0, 1, 0), (0, 150, 0, 4, 0)]
def bk_X11_tells_0 : List It := [(.aload_n 0, 1, 0, 0, 0, 0), (.iload_n 1, 1, 1, 0, 0, 0), (.invokevirtual 136, 3, 1, 102, 11, 0), (.astore_n 2, 1, 2, 0, 0, 0), (.aload_n 2, 1, 2, 0, 0, 0), (.ifnonnull 6, 3, 13, 0, 0, 0), (.ldc 90, 2, 0, 0, 0, (-900001)), (.ireturn, 1, 0, 0, 0, 0)]
def bk_X11_tells_13 : List It := [(.aload_n 2, 1, 2, 0, 0, 0), (.invokevirtual 146, 3, 0, 1, 0, 0), (.ifCond .eq 10, 3, 27, 0, 0, 0), (.aload_n 2, 1, 2, 0, 0, 0), (.invokevirtual 150, 3, 0, 4, 0, 0), (.goto 5, 3, 29, 0, 0, 0)]
def bk_X11_tells_27 : List It := [(.ldc 129, 2, 0, 0, 0, (-900003))]
def bk_X11_tells_29 : List It := [(.ireturn, 1, 0, 0, 0, 0)]
def bl_X11_tells : List (Nat × List It) := [(0, bk_X11_tells_0), (13, bk_X11_tells_13), (27, bk_X11_tells_27), (29, bk_X11_tells_29)]
theorem bq_X11_tells_0 : lkB bl_X11_tells 0 = bk_X11_tells_0 := rfl
theorem bq_X11_tells_13 : lkB bl_X11_tells 13 = bk_X11_tells_13 := rfl
theorem bq_X11_tells_27 : lkB bl_X11_tells 27 = bk_X11_tells_27 := rfl
theorem bq_X11_tells_29 : lkB bl_X11_tells 29 = bk_X11_tells_29 := rfl
set_option maxRecDepth 20000 in
theorem ck_X11_tells : ckB rs_X11_tells false 11 3 prog_1_method_9_code bl_X11_tells = true := by decide +kernel

def rs_X11_moves : Rs := rf_X11 [(0, 155, 2, 107, 11), (0, 159, 0, 104, 11)]
def bk_X11_moves_0 : List It := [(.aload_n 0, 1, 0, 0, 0, 0), (.ldc 154, 2, 0, 0, 0, (-900009)), (.ldc 154, 2, 0, 0, 0, (-900009)), (.invokevirtual 155, 3, 2, 107, 11, 0)]
def bk_X11_moves_8 : List It := [(.istore_n 2, 1, 2, 0, 0, 0), (.iload_n 1, 1, 1, 0, 0, 0), (.ifCond .eq 7, 3, 17, 0, 0, 0), (.iload_n 2, 1, 2, 0, 0, 0), (.goto 11, 3, 25, 0, 0, 0)]
def bk_X11_moves_17 : List It := [(.iconst 3, 1, 0, 0, 0, 3), (.aload_n 0, 1, 0, 0, 0, 0), (.invokevirtual 159, 3, 0, 104, 11, 0)]
def bk_X11_moves_22 : List It := [(.imul, 1, 0, 0, 0, 0), (.iload_n 2, 1, 2, 0, 0, 0), (.isub, 1, 0, 0, 0, 0)]
def bk_X11_moves_25 : List It := [(.ireturn, 1, 0, 0, 0, 0)]
def bl_X11_moves : List (Nat × List It) := [(0, bk_X11_moves_0), (8, bk_X11_moves_8), (17, bk_X11_moves_17), (22, bk_X11_moves_22), (25, bk_X11_moves_25)]
theorem bq_X11_moves_0 : lkB bl_X11_moves 0 = bk_X11_moves_0 := rfl
theorem bq_X11_moves_8 : lkB bl_X11_moves 8 = bk_X11_moves_8 := rfl
theorem bq_X11_moves_17 : lkB bl_X11_moves 17 = bk_X11_moves_17 := rfl
theorem bq_X11_moves_22 : lkB bl_X11_moves 22 = bk_X11_moves_22 := rfl
theorem bq_X11_moves_25 : lkB bl_X11_moves 25 = bk_X11_moves_25 := rfl
set_option maxRecDepth 20000 in
theorem ck_X11_moves : ckB rs_X11_moves false 11 3 prog_1_method_10_code bl_X11_moves = true := by decide +kernel

def rs_X11_unseen : Rs := rf_X11 [(0, 146, 0, 1, 0), (0, 162, 0, 5, 0)]
def bk_X11_unseen_0 : List It := [(.iconst 0, 1, 0, 0, 0, 0), (.istore_n 1, 1, 1, 0, 0, 0)]
def bk_X11_unseen_2 : List It := [(.iload_n 1, 1, 1, 0, 0, 0), (.aload_n 0, 1, 0, 0, 0, 0), (.getfield 130, 3, 11, 3, 0, 0), (.if_icmp .ge 35, 3, 42, 0, 0, 0), (.aload_n 0, 1, 0, 0, 0, 0), (.getfield 17, 3, 11, 2, 2, 0), (.iload_n 1, 1, 1, 0, 0, 0), (.aaload, 1, 0, 0, 0, 0), (.invokevirtual 146, 3, 0, 1, 0, 0), (.ifCond .eq 17, 3, 36, 0, 0, 0), (.aload_n 0, 1, 0, 0, 0, 0), (.getfield 17, 3, 11, 2, 2, 0), (.iload_n 1, 1, 1, 0, 0, 0), (.aaload, 1, 0, 0, 0, 0), (.invokevirtual 162, 3, 0, 5, 0, 0), (.ifCond .eq 5, 3, 36, 0, 0, 0), (.iconst 0, 1, 0, 0, 0, 0), (.ireturn, 1, 0, 0, 0, 0)]
def bk_X11_unseen_36 : List It := [(.iinc 1 1, 3, 1, 0, 0, 1), (.goto (-37), 3, 2, 0, 0, 0)]
def bk_X11_unseen_42 : List It := [(.iconst 1, 1, 0, 0, 0, 1), (.ireturn, 1, 0, 0, 0, 0)]
def bl_X11_unseen : List (Nat × List It) := [(0, bk_X11_unseen_0), (2, bk_X11_unseen_2), (36, bk_X11_unseen_36), (42, bk_X11_unseen_42)]
theorem bq_X11_unseen_0 : lkB bl_X11_unseen 0 = bk_X11_unseen_0 := rfl
theorem bq_X11_unseen_2 : lkB bl_X11_unseen 2 = bk_X11_unseen_2 := rfl
theorem bq_X11_unseen_36 : lkB bl_X11_unseen 36 = bk_X11_unseen_36 := rfl
theorem bq_X11_unseen_42 : lkB bl_X11_unseen 42 = bk_X11_unseen_42 := rfl
set_option maxRecDepth 20000 in
theorem ck_X11_unseen : ckB rs_X11_unseen false 11 2 prog_1_method_11_code bl_X11_unseen = true := by decide +kernel

def rs_X11_needed : Rs := rf_X11 [(0, 136, 1, 102, 11), (0, 146, 0, 1, 0), (0, 155, 2, 107, 11), (1, 95, 1, 98, 0)]
def bk_X11_needed_0 : List It := [(.aload_n 0, 1, 0, 0, 0, 0), (.iload_n 1, 1, 1, 0, 0, 0), (.invokevirtual 136, 3, 1, 102, 11, 0)]
def bk_X11_needed_5 : List It := [(.astore_n 2, 1, 2, 0, 0, 0), (.aload_n 2, 1, 2, 0, 0, 0), (.ifnonnull 6, 3, 13, 0, 0, 0), (.ldc 90, 2, 0, 0, 0, (-900001)), (.ireturn, 1, 0, 0, 0, 0)]
def bk_X11_needed_13 : List It := [(.aload_n 2, 1, 2, 0, 0, 0), (.invokevirtual 146, 3, 0, 1, 0, 0)]
def bk_X11_needed_17 : List It := [(.ifCond .ne 5, 3, 22, 0, 0, 0), (.iconst 0, 1, 0, 0, 0, 0), (.ireturn, 1, 0, 0, 0, 0)]
def bk_X11_needed_22 : List It := [(.aload_n 0, 1, 0, 0, 0, 0), (.iload_n 1, 1, 1, 0, 0, 0), (.ldc 154, 2, 0, 0, 0, (-900009)), (.invokevirtual 155, 3, 2, 107, 11, 0)]
def bk_X11_needed_29 : List It := [(.aload_n 0, 1, 0, 0, 0, 0), (.ldc 154, 2, 0, 0, 0, (-900009)), (.ldc 154, 2, 0, 0, 0, (-900009)), (.invokevirtual 155, 3, 2, 107, 11, 0)]
def bk_X11_needed_37 : List It := [(.if_icmp .ge 7, 3, 44, 0, 0, 0), (.iconst 1, 1, 0, 0, 0, 1), (.goto 4, 3, 45, 0, 0, 0)]
def bk_X11_needed_44 : List It := [(.iconst 0, 1, 0, 0, 0, 0)]
def bk_X11_needed_45 : List It := [(.invokestatic 95, 3, 1, 98, 0, 0)]
def bk_X11_needed_48 : List It := [(.ireturn, 1, 0, 0, 0, 0)]
def bl_X11_needed : List (Nat × List It) := [(0, bk_X11_needed_0), (5, bk_X11_needed_5), (13, bk_X11_needed_13), (17, bk_X11_needed_17), (22, bk_X11_needed_22), (29, bk_X11_needed_29), (37, bk_X11_needed_37), (44, bk_X11_needed_44), (45, bk_X11_needed_45), (48, bk_X11_needed_48)]
theorem bq_X11_needed_0 : lkB bl_X11_needed 0 = bk_X11_needed_0 := rfl
theorem bq_X11_needed_5 : lkB bl_X11_needed 5 = bk_X11_needed_5 := rfl
theorem bq_X11_needed_13 : lkB bl_X11_needed 13 = bk_X11_needed_13 := rfl
theorem bq_X11_needed_17 : lkB bl_X11_needed 17 = bk_X11_needed_17 := rfl
theorem bq_X11_needed_22 : lkB bl_X11_needed 22 = bk_X11_needed_22 := rfl
theorem bq_X11_needed_29 : lkB bl_X11_needed 29 = bk_X11_needed_29 := rfl
theorem bq_X11_needed_37 : lkB bl_X11_needed 37 = bk_X11_needed_37 := rfl
theorem bq_X11_needed_44 : lkB bl_X11_needed 44 = bk_X11_needed_44 := rfl
theorem bq_X11_needed_45 : lkB bl_X11_needed 45 = bk_X11_needed_45 := rfl
theorem bq_X11_needed_48 : lkB bl_X11_needed 48 = bk_X11_needed_48 := rfl
set_option maxRecDepth 20000 in
theorem ck_X11_needed : ckB rs_X11_needed false 11 3 prog_1_method_12_code bl_X11_needed = true := by decide +kernel

def rs_X11_cheapest : Rs := rf_X11 [(0, 165, 0, 109, 11)]
def bk_X11_cheapest_0 : List It := [(.aload_n 0, 1, 0, 0, 0, 0), (.invokevirtual 165, 3, 0, 109, 11, 0)]
def bk_X11_cheapest_4 : List It := [(.ireturn, 1, 0, 0, 0, 0)]
def bl_X11_cheapest : List (Nat × List It) := [(0, bk_X11_cheapest_0), (4, bk_X11_cheapest_4)]
theorem bq_X11_cheapest_0 : lkB bl_X11_cheapest 0 = bk_X11_cheapest_0 := rfl
theorem bq_X11_cheapest_4 : lkB bl_X11_cheapest 4 = bk_X11_cheapest_4 := rfl
set_option maxRecDepth 20000 in
theorem ck_X11_cheapest : ckB rs_X11_cheapest false 11 1 prog_1_method_13_code bl_X11_cheapest = true := by decide +kernel

def rs_X11_keep : Rs := rf_X11 [(0, 165, 0, 109, 11), (0, 168, 1, 103, 11)]
def bk_X11_keep_0 : List It := [(.aload_n 0, 1, 0, 0, 0, 0), (.invokevirtual 165, 3, 0, 109, 11, 0)]
def bk_X11_keep_4 : List It := [(.pop, 1, 0, 0, 0, 0), (.aload_n 0, 1, 0, 0, 0, 0), (.iload_n 1, 1, 1, 0, 0, 0), (.invokevirtual 168, 3, 1, 103, 11, 0)]
def bk_X11_keep_10 : List It := [(.ireturn, 1, 0, 0, 0, 0)]
def bl_X11_keep : List (Nat × List It) := [(0, bk_X11_keep_0), (4, bk_X11_keep_4), (10, bk_X11_keep_10)]
theorem bq_X11_keep_0 : lkB bl_X11_keep 0 = bk_X11_keep_0 := rfl
theorem bq_X11_keep_4 : lkB bl_X11_keep 4 = bk_X11_keep_4 := rfl
theorem bq_X11_keep_10 : lkB bl_X11_keep 10 = bk_X11_keep_10 := rfl
set_option maxRecDepth 20000 in
theorem ck_X11_keep : ckB rs_X11_keep false 11 2 prog_1_method_14_code bl_X11_keep = true := by decide +kernel

def rs_X11_sure : Rs := rf_X11 [(0, 86, 1, 101, 11), (1, 126, 2, 100, 0), (0, 155, 2, 107, 11), (0, 172, 5, 25, 6), (0, 176, 0, 27, 6), (1, 95, 1, 98, 0)]
def bk_X11_sure_0 : List It := [(.aload_n 0, 1, 0, 0, 0, 0), (.iload_n 1, 1, 1, 0, 0, 0), (.invokevirtual 86, 3, 1, 101, 11, 0)]
def bk_X11_sure_5 : List It := [(.astore 5, 2, 5, 0, 0, 0), (.aload_n 0, 1, 0, 0, 0, 0), (.iload_n 2, 1, 2, 0, 0, 0), (.invokevirtual 86, 3, 1, 101, 11, 0)]
def bk_X11_sure_12 : List It := [(.astore 6, 2, 6, 0, 0, 0), (.aload 5, 2, 5, 0, 0, 0), (.ifnull 8, 3, 24, 0, 0, 0), (.aload 6, 2, 6, 0, 0, 0), (.ifnonnull 6, 3, 27, 0, 0, 0)]
def bk_X11_sure_24 : List It := [(.ldc 90, 2, 0, 0, 0, (-900001)), (.ireturn, 1, 0, 0, 0, 0)]
def bk_X11_sure_27 : List It := [(.iload_n 3, 1, 3, 0, 0, 0), (.iload 4, 2, 4, 0, 0, 0), (.invokestatic 126, 3, 2, 100, 0, 0)]
def bk_X11_sure_33 : List It := [(.ifCond .eq 6, 3, 39, 0, 0, 0), (.ldc 103, 2, 0, 0, 0, (-900002)), (.ireturn, 1, 0, 0, 0, 0)]
def bk_X11_sure_39 : List It := [(.aload 5, 2, 5, 0, 0, 0), (.getfield 91, 3, 3, 1, 1, 0), (.ifCond .eq 11, 3, 55, 0, 0, 0), (.aload 6, 2, 6, 0, 0, 0), (.getfield 91, 3, 3, 1, 1, 0), (.ifCond .ne 6, 3, 58, 0, 0, 0)]
def bk_X11_sure_55 : List It := [(.ldc 129, 2, 0, 0, 0, (-900003)), (.ireturn, 1, 0, 0, 0, 0)]
def bk_X11_sure_58 : List It := [(.aload_n 0, 1, 0, 0, 0, 0), (.ldc 154, 2, 0, 0, 0, (-900009)), (.ldc 154, 2, 0, 0, 0, (-900009)), (.invokevirtual 155, 3, 2, 107, 11, 0)]
def bk_X11_sure_66 : List It := [(.istore 7, 2, 7, 0, 0, 0), (.aload_n 0, 1, 0, 0, 0, 0), (.getfield 43, 3, 11, 10, 2, 0), (.iload_n 1, 1, 1, 0, 0, 0), (.iload_n 2, 1, 2, 0, 0, 0), (.iload_n 3, 1, 3, 0, 0, 0), (.iload 4, 2, 4, 0, 0, 0), (.iconst 0, 1, 0, 0, 0, 0), (.invokevirtual 172, 3, 5, 25, 6, 0)]
def bk_X11_sure_81 : List It := [(.aload_n 0, 1, 0, 0, 0, 0), (.getfield 43, 3, 11, 10, 2, 0), (.invokevirtual 176, 3, 0, 27, 6, 0)]
def bk_X11_sure_88 : List It := [(.iload 7, 2, 7, 0, 0, 0), (.if_icmp .ne 7, 3, 97, 0, 0, 0), (.iconst 1, 1, 0, 0, 0, 1), (.goto 4, 3, 98, 0, 0, 0)]
def bk_X11_sure_97 : List It := [(.iconst 0, 1, 0, 0, 0, 0)]
def bk_X11_sure_98 : List It := [(.invokestatic 95, 3, 1, 98, 0, 0)]
def bk_X11_sure_101 : List It := [(.ireturn, 1, 0, 0, 0, 0)]
def bl_X11_sure : List (Nat × List It) := [(0, bk_X11_sure_0), (5, bk_X11_sure_5), (12, bk_X11_sure_12), (24, bk_X11_sure_24), (27, bk_X11_sure_27), (33, bk_X11_sure_33), (39, bk_X11_sure_39), (55, bk_X11_sure_55), (58, bk_X11_sure_58), (66, bk_X11_sure_66), (81, bk_X11_sure_81), (88, bk_X11_sure_88), (97, bk_X11_sure_97), (98, bk_X11_sure_98), (101, bk_X11_sure_101)]
theorem bq_X11_sure_0 : lkB bl_X11_sure 0 = bk_X11_sure_0 := rfl
theorem bq_X11_sure_5 : lkB bl_X11_sure 5 = bk_X11_sure_5 := rfl
theorem bq_X11_sure_12 : lkB bl_X11_sure 12 = bk_X11_sure_12 := rfl
theorem bq_X11_sure_24 : lkB bl_X11_sure 24 = bk_X11_sure_24 := rfl
theorem bq_X11_sure_27 : lkB bl_X11_sure 27 = bk_X11_sure_27 := rfl
theorem bq_X11_sure_33 : lkB bl_X11_sure 33 = bk_X11_sure_33 := rfl
theorem bq_X11_sure_39 : lkB bl_X11_sure 39 = bk_X11_sure_39 := rfl
theorem bq_X11_sure_55 : lkB bl_X11_sure 55 = bk_X11_sure_55 := rfl
theorem bq_X11_sure_58 : lkB bl_X11_sure 58 = bk_X11_sure_58 := rfl
theorem bq_X11_sure_66 : lkB bl_X11_sure 66 = bk_X11_sure_66 := rfl
theorem bq_X11_sure_81 : lkB bl_X11_sure 81 = bk_X11_sure_81 := rfl
theorem bq_X11_sure_88 : lkB bl_X11_sure 88 = bk_X11_sure_88 := rfl
theorem bq_X11_sure_97 : lkB bl_X11_sure 97 = bk_X11_sure_97 := rfl
theorem bq_X11_sure_98 : lkB bl_X11_sure 98 = bk_X11_sure_98 := rfl
theorem bq_X11_sure_101 : lkB bl_X11_sure 101 = bk_X11_sure_101 := rfl
set_option maxRecDepth 20000 in
theorem ck_X11_sure : ckB rs_X11_sure false 11 8 prog_1_method_15_code bl_X11_sure = true := by decide +kernel

def rs_X11_without : Rs := rf_X11 [(0, 86, 1, 101, 11), (0, 159, 0, 104, 11), (0, 155, 2, 107, 11)]
def bk_X11_without_0 : List It := [(.aload_n 0, 1, 0, 0, 0, 0), (.iload_n 1, 1, 1, 0, 0, 0), (.invokevirtual 86, 3, 1, 101, 11, 0)]
def bk_X11_without_5 : List It := [(.astore_n 2, 1, 2, 0, 0, 0), (.aload_n 2, 1, 2, 0, 0, 0), (.ifnonnull 6, 3, 13, 0, 0, 0), (.ldc 90, 2, 0, 0, 0, (-900001)), (.ireturn, 1, 0, 0, 0, 0)]
def bk_X11_without_13 : List It := [(.aload_n 2, 1, 2, 0, 0, 0), (.getfield 91, 3, 3, 1, 1, 0), (.ifCond .ne 6, 3, 23, 0, 0, 0), (.ldc 129, 2, 0, 0, 0, (-900003)), (.ireturn, 1, 0, 0, 0, 0)]
def bk_X11_without_23 : List It := [(.aload_n 0, 1, 0, 0, 0, 0), (.invokevirtual 159, 3, 0, 104, 11, 0)]
def bk_X11_without_27 : List It := [(.iconst 1, 1, 0, 0, 0, 1), (.isub, 1, 0, 0, 0, 0), (.istore_n 3, 1, 3, 0, 0, 0), (.iload_n 3, 1, 3, 0, 0, 0), (.ifCond .ne 7, 3, 38, 0, 0, 0), (.iconst 0, 1, 0, 0, 0, 0), (.goto 16, 3, 51, 0, 0, 0)]
def bk_X11_without_38 : List It := [(.iconst 3, 1, 0, 0, 0, 3), (.iload_n 3, 1, 3, 0, 0, 0), (.imul, 1, 0, 0, 0, 0), (.aload_n 0, 1, 0, 0, 0, 0), (.ldc 154, 2, 0, 0, 0, (-900009)), (.iload_n 1, 1, 1, 0, 0, 0), (.invokevirtual 155, 3, 2, 107, 11, 0)]
def bk_X11_without_48 : List It := [(.isub, 1, 0, 0, 0, 0), (.iconst 3, 1, 0, 0, 0, 3), (.isub, 1, 0, 0, 0, 0)]
def bk_X11_without_51 : List It := [(.ireturn, 1, 0, 0, 0, 0)]
def bl_X11_without : List (Nat × List It) := [(0, bk_X11_without_0), (5, bk_X11_without_5), (13, bk_X11_without_13), (23, bk_X11_without_23), (27, bk_X11_without_27), (38, bk_X11_without_38), (48, bk_X11_without_48), (51, bk_X11_without_51)]
theorem bq_X11_without_0 : lkB bl_X11_without 0 = bk_X11_without_0 := rfl
theorem bq_X11_without_5 : lkB bl_X11_without 5 = bk_X11_without_5 := rfl
theorem bq_X11_without_13 : lkB bl_X11_without 13 = bk_X11_without_13 := rfl
theorem bq_X11_without_23 : lkB bl_X11_without 23 = bk_X11_without_23 := rfl
theorem bq_X11_without_27 : lkB bl_X11_without 27 = bk_X11_without_27 := rfl
theorem bq_X11_without_38 : lkB bl_X11_without 38 = bk_X11_without_38 := rfl
theorem bq_X11_without_48 : lkB bl_X11_without 48 = bk_X11_without_48 := rfl
theorem bq_X11_without_51 : lkB bl_X11_without 51 = bk_X11_without_51 := rfl
set_option maxRecDepth 20000 in
theorem ck_X11_without : ckB rs_X11_without false 11 4 prog_1_method_16_code bl_X11_without = true := by decide +kernel

def rs_X11_read : Rs := rf_X11 [(0, 136, 1, 102, 11), (1, 99, 2, 99, 0)]
def bk_X11_read_0 : List It := [(.aload_n 0, 1, 0, 0, 0, 0), (.iload_n 1, 1, 1, 0, 0, 0), (.invokevirtual 136, 3, 1, 102, 11, 0), (.astore_n 3, 1, 3, 0, 0, 0), (.aload_n 3, 1, 3, 0, 0, 0), (.ifnonnull 6, 3, 13, 0, 0, 0), (.ldc 90, 2, 0, 0, 0, (-900001)), (.ireturn, 1, 0, 0, 0, 0)]
def bk_X11_read_13 : List It := [(.iload_n 2, 1, 2, 0, 0, 0), (.ldc 154, 2, 0, 0, 0, (-900009)), (.if_icmp .eq 16, 3, 32, 0, 0, 0), (.iload_n 2, 1, 2, 0, 0, 0), (.sipush 9999, 3, 0, 0, 0, 9999), (.invokestatic 99, 3, 2, 99, 0, 0), (.ifCond .eq 6, 3, 32, 0, 0, 0), (.ldc 103, 2, 0, 0, 0, (-900002)), (.ireturn, 1, 0, 0, 0, 0)]
def bk_X11_read_32 : List It := [(.aload_n 3, 1, 3, 0, 0, 0), (.getfield 179, 3, 0, 7, 0, 0), (.istore 4, 2, 4, 0, 0, 0), (.aload_n 3, 1, 3, 0, 0, 0), (.iload_n 2, 1, 2, 0, 0, 0), (.putfield 179, 3, 0, 7, 0, 0), (.iload 4, 2, 4, 0, 0, 0), (.ireturn, 1, 0, 0, 0, 0)]
def bl_X11_read : List (Nat × List It) := [(0, bk_X11_read_0), (13, bk_X11_read_13), (32, bk_X11_read_32)]
theorem bq_X11_read_0 : lkB bl_X11_read 0 = bk_X11_read_0 := rfl
theorem bq_X11_read_13 : lkB bl_X11_read 13 = bk_X11_read_13 := rfl
theorem bq_X11_read_32 : lkB bl_X11_read 32 = bk_X11_read_32 := rfl
set_option maxRecDepth 20000 in
theorem ck_X11_read : ckB rs_X11_read false 11 5 prog_1_method_17_code bl_X11_read = true := by decide +kernel

def rs_X11_readAll : Rs := rf_X11 [(0, 146, 0, 1, 0), (0, 150, 0, 4, 0), (0, 182, 0, 106, 11)]
def bk_X11_readAll_0 : List It := [(.iconst 0, 1, 0, 0, 0, 0), (.istore_n 1, 1, 1, 0, 0, 0)]
def bk_X11_readAll_2 : List It := [(.iload_n 1, 1, 1, 0, 0, 0), (.aload_n 0, 1, 0, 0, 0, 0), (.getfield 130, 3, 11, 3, 0, 0), (.if_icmp .ge 44, 3, 51, 0, 0, 0), (.aload_n 0, 1, 0, 0, 0, 0), (.getfield 17, 3, 11, 2, 2, 0), (.iload_n 1, 1, 1, 0, 0, 0), (.aaload, 1, 0, 0, 0, 0), (.aload_n 0, 1, 0, 0, 0, 0), (.getfield 17, 3, 11, 2, 2, 0), (.iload_n 1, 1, 1, 0, 0, 0), (.aaload, 1, 0, 0, 0, 0), (.invokevirtual 146, 3, 0, 1, 0, 0), (.ifCond .eq 15, 3, 40, 0, 0, 0), (.aload_n 0, 1, 0, 0, 0, 0), (.getfield 17, 3, 11, 2, 2, 0), (.iload_n 1, 1, 1, 0, 0, 0), (.aaload, 1, 0, 0, 0, 0), (.invokevirtual 150, 3, 0, 4, 0, 0), (.goto 5, 3, 42, 0, 0, 0)]
def bk_X11_readAll_40 : List It := [(.ldc 154, 2, 0, 0, 0, (-900009))]
def bk_X11_readAll_42 : List It := [(.putfield 179, 3, 0, 7, 0, 0), (.iinc 1 1, 3, 1, 0, 0, 1), (.goto (-46), 3, 2, 0, 0, 0)]
def bk_X11_readAll_51 : List It := [(.aload_n 0, 1, 0, 0, 0, 0), (.invokevirtual 182, 3, 0, 106, 11, 0), (.ireturn, 1, 0, 0, 0, 0)]
def bl_X11_readAll : List (Nat × List It) := [(0, bk_X11_readAll_0), (2, bk_X11_readAll_2), (40, bk_X11_readAll_40), (42, bk_X11_readAll_42), (51, bk_X11_readAll_51)]
theorem bq_X11_readAll_0 : lkB bl_X11_readAll 0 = bk_X11_readAll_0 := rfl
theorem bq_X11_readAll_2 : lkB bl_X11_readAll 2 = bk_X11_readAll_2 := rfl
theorem bq_X11_readAll_40 : lkB bl_X11_readAll 40 = bk_X11_readAll_40 := rfl
theorem bq_X11_readAll_42 : lkB bl_X11_readAll 42 = bk_X11_readAll_42 := rfl
theorem bq_X11_readAll_51 : lkB bl_X11_readAll 51 = bk_X11_readAll_51 := rfl
set_option maxRecDepth 20000 in
theorem ck_X11_readAll : ckB rs_X11_readAll false 11 2 prog_1_method_18_code bl_X11_readAll = true := by decide +kernel

def rs_X11_agree : Rs := rf_X11 [(0, 185, 1, 108, 11), (1, 95, 1, 98, 0)]
def bk_X11_agree_0 : List It := [(.aload_n 0, 1, 0, 0, 0, 0), (.ldc 154, 2, 0, 0, 0, (-900009)), (.invokevirtual 185, 3, 1, 108, 11, 0)]
def bk_X11_agree_6 : List It := [(.invokestatic 95, 3, 1, 98, 0, 0)]
def bk_X11_agree_9 : List It := [(.ireturn, 1, 0, 0, 0, 0)]
def bl_X11_agree : List (Nat × List It) := [(0, bk_X11_agree_0), (6, bk_X11_agree_6), (9, bk_X11_agree_9)]
theorem bq_X11_agree_0 : lkB bl_X11_agree 0 = bk_X11_agree_0 := rfl
theorem bq_X11_agree_6 : lkB bl_X11_agree 6 = bk_X11_agree_6 := rfl
theorem bq_X11_agree_9 : lkB bl_X11_agree 9 = bk_X11_agree_9 := rfl
set_option maxRecDepth 20000 in
theorem ck_X11_agree : ckB rs_X11_agree false 11 1 prog_1_method_19_code bl_X11_agree = true := by decide +kernel

def rs_X11_liars : Rs := rf_X11 [(0, 189, 0, 110, 11)]
def bk_X11_liars_0 : List It := [(.aload_n 0, 1, 0, 0, 0, 0), (.invokevirtual 189, 3, 0, 110, 11, 0)]
def bk_X11_liars_4 : List It := [(.aload_n 0, 1, 0, 0, 0, 0), (.getfield 192, 3, 11, 16, 0, 0), (.ireturn, 1, 0, 0, 0, 0)]
def bl_X11_liars : List (Nat × List It) := [(0, bk_X11_liars_0), (4, bk_X11_liars_4)]
theorem bq_X11_liars_0 : lkB bl_X11_liars 0 = bk_X11_liars_0 := rfl
theorem bq_X11_liars_4 : lkB bl_X11_liars 4 = bk_X11_liars_4 := rfl
set_option maxRecDepth 20000 in
theorem ck_X11_liars : ckB rs_X11_liars false 11 1 prog_1_method_20_code bl_X11_liars = true := by decide +kernel

def rs_X11_liar : Rs := rf_X11 [(0, 189, 0, 110, 11), (0, 168, 1, 103, 11)]
def bk_X11_liar_0 : List It := [(.aload_n 0, 1, 0, 0, 0, 0), (.invokevirtual 189, 3, 0, 110, 11, 0)]
def bk_X11_liar_4 : List It := [(.aload_n 0, 1, 0, 0, 0, 0), (.iload_n 1, 1, 1, 0, 0, 0), (.invokevirtual 168, 3, 1, 103, 11, 0)]
def bk_X11_liar_9 : List It := [(.ireturn, 1, 0, 0, 0, 0)]
def bl_X11_liar : List (Nat × List It) := [(0, bk_X11_liar_0), (4, bk_X11_liar_4), (9, bk_X11_liar_9)]
theorem bq_X11_liar_0 : lkB bl_X11_liar 0 = bk_X11_liar_0 := rfl
theorem bq_X11_liar_4 : lkB bl_X11_liar 4 = bk_X11_liar_4 := rfl
theorem bq_X11_liar_9 : lkB bl_X11_liar 9 = bk_X11_liar_9 := rfl
set_option maxRecDepth 20000 in
theorem ck_X11_liar : ckB rs_X11_liar false 11 2 prog_1_method_21_code bl_X11_liar = true := by decide +kernel

def rs_X11_leg : Rs := rf_X11 [(0, 86, 1, 101, 11), (1, 126, 2, 100, 0), (1, 99, 2, 99, 0), (2, 200, 5, 6, 0)]
def bk_X11_leg_0 : List It := [(.aload_n 0, 1, 0, 0, 0, 0), (.iload_n 1, 1, 1, 0, 0, 0), (.invokevirtual 86, 3, 1, 101, 11, 0), (.astore 6, 2, 6, 0, 0, 0), (.aload 6, 2, 6, 0, 0, 0), (.ifnonnull 6, 3, 15, 0, 0, 0), (.ldc 90, 2, 0, 0, 0, (-900001)), (.ireturn, 1, 0, 0, 0, 0)]
def bk_X11_leg_15 : List It := [(.iload_n 2, 1, 2, 0, 0, 0), (.iload_n 3, 1, 3, 0, 0, 0), (.invokestatic 126, 3, 2, 100, 0, 0), (.ifCond .ne 32, 3, 52, 0, 0, 0), (.iload 4, 2, 4, 0, 0, 0), (.sipush 999, 3, 0, 0, 0, 999), (.invokestatic 99, 3, 2, 99, 0, 0), (.ifCond .ne 21, 3, 52, 0, 0, 0), (.iload 5, 2, 5, 0, 0, 0), (.sipush 999, 3, 0, 0, 0, 999), (.invokestatic 99, 3, 2, 99, 0, 0), (.ifCond .ne 10, 3, 52, 0, 0, 0), (.iload 5, 2, 5, 0, 0, 0), (.iload 4, 2, 4, 0, 0, 0), (.if_icmp .ge 6, 3, 55, 0, 0, 0)]
def bk_X11_leg_52 : List It := [(.ldc 103, 2, 0, 0, 0, (-900002)), (.ireturn, 1, 0, 0, 0, 0)]
def bk_X11_leg_55 : List It := [(.aload 6, 2, 6, 0, 0, 0), (.getfield 195, 3, 3, 4, 0, 0), (.iconst 3, 1, 0, 0, 0, 3), (.if_icmp .ge 12, 3, 73, 0, 0, 0), (.aload_n 0, 1, 0, 0, 0, 0), (.getfield 197, 3, 11, 5, 0, 0), (.bipush 21, 2, 0, 0, 0, 21), (.if_icmp .lt 6, 3, 76, 0, 0, 0)]
def bk_X11_leg_73 : List It := [(.ldc 129, 2, 0, 0, 0, (-900003)), (.ireturn, 1, 0, 0, 0, 0)]
def bk_X11_leg_76 : List It := [(.aload_n 0, 1, 0, 0, 0, 0), (.getfield 23, 3, 11, 4, 2, 0), (.aload_n 0, 1, 0, 0, 0, 0), (.getfield 197, 3, 11, 5, 0, 0), (.new 21, 3, 1, 6, 0, 0), (.dup, 1, 0, 0, 0, 0), (.iload_n 1, 1, 1, 0, 0, 0), (.iload_n 2, 1, 2, 0, 0, 0), (.iload_n 3, 1, 3, 0, 0, 0), (.iload 4, 2, 4, 0, 0, 0), (.iload 5, 2, 5, 0, 0, 0), (.invokespecial 200, 3, 5, 6, 0, 0), (.aastore, 1, 0, 0, 0, 0), (.aload 6, 2, 6, 0, 0, 0), (.dup, 1, 0, 0, 0, 0), (.getfield 195, 3, 3, 4, 0, 0), (.iconst 1, 1, 0, 0, 0, 1), (.iadd, 1, 0, 0, 0, 0), (.putfield 195, 3, 3, 4, 0, 0), (.aload_n 0, 1, 0, 0, 0, 0), (.dup, 1, 0, 0, 0, 0), (.getfield 197, 3, 11, 5, 0, 0), (.iconst 1, 1, 0, 0, 0, 1), (.iadd, 1, 0, 0, 0, 0), (.putfield 197, 3, 11, 5, 0, 0), (.aload_n 0, 1, 0, 0, 0, 0), (.getfield 197, 3, 11, 5, 0, 0), (.iconst 1, 1, 0, 0, 0, 1), (.isub, 1, 0, 0, 0, 0), (.ireturn, 1, 0, 0, 0, 0)]
def bl_X11_leg : List (Nat × List It) := [(0, bk_X11_leg_0), (15, bk_X11_leg_15), (52, bk_X11_leg_52), (55, bk_X11_leg_55), (73, bk_X11_leg_73), (76, bk_X11_leg_76)]
theorem bq_X11_leg_0 : lkB bl_X11_leg 0 = bk_X11_leg_0 := rfl
theorem bq_X11_leg_15 : lkB bl_X11_leg 15 = bk_X11_leg_15 := rfl
theorem bq_X11_leg_52 : lkB bl_X11_leg 52 = bk_X11_leg_52 := rfl
theorem bq_X11_leg_55 : lkB bl_X11_leg 55 = bk_X11_leg_55 := rfl
theorem bq_X11_leg_73 : lkB bl_X11_leg 73 = bk_X11_leg_73 := rfl
theorem bq_X11_leg_76 : lkB bl_X11_leg 76 = bk_X11_leg_76 := rfl
set_option maxRecDepth 20000 in
theorem ck_X11_leg : ckB rs_X11_leg false 11 7 prog_1_method_22_code bl_X11_leg = true := by decide +kernel

def rs_X11_stick : Rs := rf_X11 []
def bk_X11_stick_0 : List It := [(.iload_n 1, 1, 1, 0, 0, 0), (.ifCond .lt 11, 3, 12, 0, 0, 0), (.iload_n 1, 1, 1, 0, 0, 0), (.aload_n 0, 1, 0, 0, 0, 0), (.getfield 197, 3, 11, 5, 0, 0), (.if_icmp .lt 6, 3, 15, 0, 0, 0)]
def bk_X11_stick_12 : List It := [(.ldc 90, 2, 0, 0, 0, (-900001)), (.ireturn, 1, 0, 0, 0, 0)]
def bk_X11_stick_15 : List It := [(.aload_n 0, 1, 0, 0, 0, 0), (.getfield 23, 3, 11, 4, 2, 0), (.iload_n 1, 1, 1, 0, 0, 0), (.aaload, 1, 0, 0, 0, 0), (.astore_n 3, 1, 3, 0, 0, 0), (.iload_n 2, 1, 2, 0, 0, 0), (.ldc 154, 2, 0, 0, 0, (-900009)), (.if_icmp .eq 22, 3, 47, 0, 0, 0), (.iload_n 2, 1, 2, 0, 0, 0), (.aload_n 3, 1, 3, 0, 0, 0), (.getfield 202, 3, 1, 3, 0, 0), (.if_icmp .lt 11, 3, 44, 0, 0, 0), (.iload_n 2, 1, 2, 0, 0, 0), (.aload_n 3, 1, 3, 0, 0, 0), (.getfield 205, 3, 1, 4, 0, 0), (.if_icmp .le 6, 3, 47, 0, 0, 0)]
def bk_X11_stick_44 : List It := [(.ldc 103, 2, 0, 0, 0, (-900002)), (.ireturn, 1, 0, 0, 0, 0)]
def bk_X11_stick_47 : List It := [(.aload_n 3, 1, 3, 0, 0, 0), (.getfield 208, 3, 1, 5, 0, 0), (.istore 4, 2, 4, 0, 0, 0), (.aload_n 3, 1, 3, 0, 0, 0), (.iload_n 2, 1, 2, 0, 0, 0), (.putfield 208, 3, 1, 5, 0, 0), (.iload 4, 2, 4, 0, 0, 0), (.ireturn, 1, 0, 0, 0, 0)]
def bl_X11_stick : List (Nat × List It) := [(0, bk_X11_stick_0), (12, bk_X11_stick_12), (15, bk_X11_stick_15), (44, bk_X11_stick_44), (47, bk_X11_stick_47)]
theorem bq_X11_stick_0 : lkB bl_X11_stick 0 = bk_X11_stick_0 := rfl
theorem bq_X11_stick_12 : lkB bl_X11_stick 12 = bk_X11_stick_12 := rfl
theorem bq_X11_stick_15 : lkB bl_X11_stick 15 = bk_X11_stick_15 := rfl
theorem bq_X11_stick_44 : lkB bl_X11_stick 44 = bk_X11_stick_44 := rfl
theorem bq_X11_stick_47 : lkB bl_X11_stick 47 = bk_X11_stick_47 := rfl
set_option maxRecDepth 20000 in
theorem ck_X11_stick : ckB rs_X11_stick false 11 5 prog_1_method_23_code bl_X11_stick = true := by decide +kernel

def rs_X11_bars : Rs := rf_X11 [(0, 86, 1, 101, 11), (0, 211, 1, 112, 11)]
def bk_X11_bars_0 : List It := [(.aload_n 0, 1, 0, 0, 0, 0), (.iload_n 1, 1, 1, 0, 0, 0), (.invokevirtual 86, 3, 1, 101, 11, 0), (.astore_n 2, 1, 2, 0, 0, 0), (.aload_n 2, 1, 2, 0, 0, 0), (.ifnonnull 8, 3, 15, 0, 0, 0), (.ldc 90, 2, 0, 0, 0, (-900001)), (.goto 8, 3, 20, 0, 0, 0)]
def bk_X11_bars_15 : List It := [(.aload_n 0, 1, 0, 0, 0, 0), (.aload_n 2, 1, 2, 0, 0, 0), (.invokevirtual 211, 3, 1, 112, 11, 0)]
def bk_X11_bars_20 : List It := [(.ireturn, 1, 0, 0, 0, 0)]
def bl_X11_bars : List (Nat × List It) := [(0, bk_X11_bars_0), (15, bk_X11_bars_15), (20, bk_X11_bars_20)]
theorem bq_X11_bars_0 : lkB bl_X11_bars 0 = bk_X11_bars_0 := rfl
theorem bq_X11_bars_15 : lkB bl_X11_bars 15 = bk_X11_bars_15 := rfl
theorem bq_X11_bars_20 : lkB bl_X11_bars 20 = bk_X11_bars_20 := rfl
set_option maxRecDepth 20000 in
theorem ck_X11_bars : ckB rs_X11_bars false 11 3 prog_1_method_24_code bl_X11_bars = true := by decide +kernel

def rs_X11_set : Rs := rf_X11 [(0, 86, 1, 101, 11), (0, 211, 1, 112, 11), (0, 108, 3, 15, 4)]
def bk_X11_set_0 : List It := [(.aload_n 0, 1, 0, 0, 0, 0), (.iload_n 1, 1, 1, 0, 0, 0), (.invokevirtual 86, 3, 1, 101, 11, 0), (.astore_n 2, 1, 2, 0, 0, 0), (.aload_n 2, 1, 2, 0, 0, 0), (.ifnonnull 6, 3, 13, 0, 0, 0), (.ldc 90, 2, 0, 0, 0, (-900001)), (.ireturn, 1, 0, 0, 0, 0)]
def bk_X11_set_13 : List It := [(.aload_n 0, 1, 0, 0, 0, 0), (.aload_n 2, 1, 2, 0, 0, 0), (.invokevirtual 211, 3, 1, 112, 11, 0), (.ldc 154, 2, 0, 0, 0, (-900009)), (.if_icmp .eq 6, 3, 26, 0, 0, 0), (.ldc 129, 2, 0, 0, 0, (-900003)), (.ireturn, 1, 0, 0, 0, 0)]
def bk_X11_set_26 : List It := [(.aload_n 2, 1, 2, 0, 0, 0), (.getfield 114, 3, 3, 2, 2, 0), (.aload_n 2, 1, 2, 0, 0, 0), (.getfield 104, 3, 3, 3, 2, 0), (.getfield 117, 3, 4, 0, 0, 0), (.aload_n 2, 1, 2, 0, 0, 0), (.getfield 104, 3, 3, 3, 2, 0), (.getfield 120, 3, 4, 1, 0, 0), (.aload_n 2, 1, 2, 0, 0, 0), (.getfield 104, 3, 3, 3, 2, 0), (.getfield 123, 3, 4, 2, 0, 0), (.invokevirtual 108, 3, 3, 15, 4, 0), (.iconst 1, 1, 0, 0, 0, 1), (.ireturn, 1, 0, 0, 0, 0)]
def bl_X11_set : List (Nat × List It) := [(0, bk_X11_set_0), (13, bk_X11_set_13), (26, bk_X11_set_26)]
theorem bq_X11_set_0 : lkB bl_X11_set 0 = bk_X11_set_0 := rfl
theorem bq_X11_set_13 : lkB bl_X11_set 13 = bk_X11_set_13 := rfl
theorem bq_X11_set_26 : lkB bl_X11_set 26 = bk_X11_set_26 := rfl
set_option maxRecDepth 20000 in
theorem ck_X11_set : ckB rs_X11_set false 11 3 prog_1_method_25_code bl_X11_set = true := by decide +kernel

def rs_X11_pair : Rs := rf_X11 [(0, 86, 1, 101, 11), (2, 218, 4, 8, 0)]
def bk_X11_pair_0 : List It := [(.aload_n 0, 1, 0, 0, 0, 0), (.iload_n 1, 1, 1, 0, 0, 0), (.invokevirtual 86, 3, 1, 101, 11, 0), (.astore 5, 2, 5, 0, 0, 0), (.aload_n 0, 1, 0, 0, 0, 0), (.iload_n 2, 1, 2, 0, 0, 0), (.invokevirtual 86, 3, 1, 101, 11, 0), (.astore 6, 2, 6, 0, 0, 0), (.aload 5, 2, 5, 0, 0, 0), (.ifnull 8, 3, 24, 0, 0, 0), (.aload 6, 2, 6, 0, 0, 0), (.ifnonnull 6, 3, 27, 0, 0, 0)]
def bk_X11_pair_24 : List It := [(.ldc 90, 2, 0, 0, 0, (-900001)), (.ireturn, 1, 0, 0, 0, 0)]
def bk_X11_pair_27 : List It := [(.iload_n 3, 1, 3, 0, 0, 0), (.iconst 2, 1, 0, 0, 0, 2), (.if_icmp .lt 20, 3, 49, 0, 0, 0), (.iload_n 3, 1, 3, 0, 0, 0), (.bipush 60, 2, 0, 0, 0, 60), (.if_icmp .gt 14, 3, 49, 0, 0, 0), (.iload 4, 2, 4, 0, 0, 0), (.ifCond .lt 9, 3, 49, 0, 0, 0), (.iload 4, 2, 4, 0, 0, 0), (.iload_n 3, 1, 3, 0, 0, 0), (.if_icmp .lt 6, 3, 52, 0, 0, 0)]
def bk_X11_pair_49 : List It := [(.ldc 103, 2, 0, 0, 0, (-900002)), (.ireturn, 1, 0, 0, 0, 0)]
def bk_X11_pair_52 : List It := [(.iload_n 1, 1, 1, 0, 0, 0), (.iload_n 2, 1, 2, 0, 0, 0), (.if_icmp .ne 6, 3, 60, 0, 0, 0), (.ldc 129, 2, 0, 0, 0, (-900003)), (.ireturn, 1, 0, 0, 0, 0)]
def bk_X11_pair_60 : List It := [(.aload_n 0, 1, 0, 0, 0, 0), (.getfield 215, 3, 11, 7, 0, 0), (.bipush 20, 2, 0, 0, 0, 20), (.if_icmp .lt 6, 3, 72, 0, 0, 0), (.ldc 82, 2, 0, 0, 0, (-900004)), (.ireturn, 1, 0, 0, 0, 0)]
def bk_X11_pair_72 : List It := [(.aload_n 0, 1, 0, 0, 0, 0), (.getfield 29, 3, 11, 6, 2, 0), (.aload_n 0, 1, 0, 0, 0, 0), (.getfield 215, 3, 11, 7, 0, 0), (.new 27, 3, 2, 4, 0, 0), (.dup, 1, 0, 0, 0, 0), (.aload 5, 2, 5, 0, 0, 0), (.aload 6, 2, 6, 0, 0, 0), (.iload_n 3, 1, 3, 0, 0, 0), (.iload 4, 2, 4, 0, 0, 0), (.invokespecial 218, 3, 4, 8, 0, 0), (.aastore, 1, 0, 0, 0, 0), (.aload_n 0, 1, 0, 0, 0, 0), (.dup, 1, 0, 0, 0, 0), (.getfield 215, 3, 11, 7, 0, 0), (.iconst 1, 1, 0, 0, 0, 1), (.iadd, 1, 0, 0, 0, 0), (.putfield 215, 3, 11, 7, 0, 0), (.aload_n 0, 1, 0, 0, 0, 0), (.getfield 215, 3, 11, 7, 0, 0), (.iconst 1, 1, 0, 0, 0, 1), (.isub, 1, 0, 0, 0, 0), (.ireturn, 1, 0, 0, 0, 0)]
def bl_X11_pair : List (Nat × List It) := [(0, bk_X11_pair_0), (24, bk_X11_pair_24), (27, bk_X11_pair_27), (49, bk_X11_pair_49), (52, bk_X11_pair_52), (60, bk_X11_pair_60), (72, bk_X11_pair_72)]
theorem bq_X11_pair_0 : lkB bl_X11_pair 0 = bk_X11_pair_0 := rfl
theorem bq_X11_pair_24 : lkB bl_X11_pair 24 = bk_X11_pair_24 := rfl
theorem bq_X11_pair_27 : lkB bl_X11_pair 27 = bk_X11_pair_27 := rfl
theorem bq_X11_pair_49 : lkB bl_X11_pair 49 = bk_X11_pair_49 := rfl
theorem bq_X11_pair_52 : lkB bl_X11_pair 52 = bk_X11_pair_52 := rfl
theorem bq_X11_pair_60 : lkB bl_X11_pair 60 = bk_X11_pair_60 := rfl
theorem bq_X11_pair_72 : lkB bl_X11_pair 72 = bk_X11_pair_72 := rfl
set_option maxRecDepth 20000 in
theorem ck_X11_pair : ckB rs_X11_pair false 11 7 prog_1_method_26_code bl_X11_pair = true := by decide +kernel

def rs_X11_drop : Rs := rf_X11 []
def bk_X11_drop_0 : List It := [(.iload_n 1, 1, 1, 0, 0, 0), (.ifCond .lt 11, 3, 12, 0, 0, 0), (.iload_n 1, 1, 1, 0, 0, 0), (.aload_n 0, 1, 0, 0, 0, 0), (.getfield 215, 3, 11, 7, 0, 0), (.if_icmp .lt 6, 3, 15, 0, 0, 0)]
def bk_X11_drop_12 : List It := [(.ldc 90, 2, 0, 0, 0, (-900001)), (.ireturn, 1, 0, 0, 0, 0)]
def bk_X11_drop_15 : List It := [(.aload_n 0, 1, 0, 0, 0, 0), (.getfield 29, 3, 11, 6, 2, 0), (.iload_n 1, 1, 1, 0, 0, 0), (.aaload, 1, 0, 0, 0, 0), (.getfield 221, 3, 2, 2, 0, 0), (.istore_n 2, 1, 2, 0, 0, 0), (.aload_n 0, 1, 0, 0, 0, 0), (.dup, 1, 0, 0, 0, 0), (.getfield 215, 3, 11, 7, 0, 0), (.iconst 1, 1, 0, 0, 0, 1), (.isub, 1, 0, 0, 0, 0), (.putfield 215, 3, 11, 7, 0, 0), (.iload_n 1, 1, 1, 0, 0, 0), (.istore_n 3, 1, 3, 0, 0, 0)]
def bk_X11_drop_37 : List It := [(.iload_n 3, 1, 3, 0, 0, 0), (.aload_n 0, 1, 0, 0, 0, 0), (.getfield 215, 3, 11, 7, 0, 0), (.if_icmp .ge 23, 3, 65, 0, 0, 0), (.aload_n 0, 1, 0, 0, 0, 0), (.getfield 29, 3, 11, 6, 2, 0), (.iload_n 3, 1, 3, 0, 0, 0), (.aload_n 0, 1, 0, 0, 0, 0), (.getfield 29, 3, 11, 6, 2, 0), (.iload_n 3, 1, 3, 0, 0, 0), (.iconst 1, 1, 0, 0, 0, 1), (.iadd, 1, 0, 0, 0, 0), (.aaload, 1, 0, 0, 0, 0), (.aastore, 1, 0, 0, 0, 0), (.iinc 3 1, 3, 3, 0, 0, 1), (.goto (-25), 3, 37, 0, 0, 0)]
def bk_X11_drop_65 : List It := [(.aload_n 0, 1, 0, 0, 0, 0), (.getfield 29, 3, 11, 6, 2, 0), (.aload_n 0, 1, 0, 0, 0, 0), (.getfield 215, 3, 11, 7, 0, 0), (.aconst_null, 1, 0, 0, 0, 0), (.aastore, 1, 0, 0, 0, 0), (.iload_n 2, 1, 2, 0, 0, 0), (.ireturn, 1, 0, 0, 0, 0)]
def bl_X11_drop : List (Nat × List It) := [(0, bk_X11_drop_0), (12, bk_X11_drop_12), (15, bk_X11_drop_15), (37, bk_X11_drop_37), (65, bk_X11_drop_65)]
theorem bq_X11_drop_0 : lkB bl_X11_drop 0 = bk_X11_drop_0 := rfl
theorem bq_X11_drop_12 : lkB bl_X11_drop 12 = bk_X11_drop_12 := rfl
theorem bq_X11_drop_15 : lkB bl_X11_drop 15 = bk_X11_drop_15 := rfl
theorem bq_X11_drop_37 : lkB bl_X11_drop 37 = bk_X11_drop_37 := rfl
theorem bq_X11_drop_65 : lkB bl_X11_drop 65 = bk_X11_drop_65 := rfl
set_option maxRecDepth 20000 in
theorem ck_X11_drop : ckB rs_X11_drop false 11 4 prog_1_method_27_code bl_X11_drop = true := by decide +kernel

def rs_X11_reach : Rs := rf_X11 []
def bk_X11_reach_0 : List It := [(.iload_n 1, 1, 1, 0, 0, 0), (.ifCond .lt 9, 3, 10, 0, 0, 0), (.iload_n 1, 1, 1, 0, 0, 0), (.bipush 6, 2, 0, 0, 0, 6), (.if_icmp .le 6, 3, 13, 0, 0, 0)]
def bk_X11_reach_10 : List It := [(.ldc 103, 2, 0, 0, 0, (-900002)), (.ireturn, 1, 0, 0, 0, 0)]
def bk_X11_reach_13 : List It := [(.aload_n 0, 1, 0, 0, 0, 0), (.getfield 33, 3, 11, 8, 0, 0), (.istore_n 2, 1, 2, 0, 0, 0), (.aload_n 0, 1, 0, 0, 0, 0), (.iload_n 1, 1, 1, 0, 0, 0), (.putfield 33, 3, 11, 8, 0, 0), (.iload_n 2, 1, 2, 0, 0, 0), (.ireturn, 1, 0, 0, 0, 0)]
def bl_X11_reach : List (Nat × List It) := [(0, bk_X11_reach_0), (10, bk_X11_reach_10), (13, bk_X11_reach_13)]
theorem bq_X11_reach_0 : lkB bl_X11_reach 0 = bk_X11_reach_0 := rfl
theorem bq_X11_reach_10 : lkB bl_X11_reach 10 = bk_X11_reach_10 := rfl
theorem bq_X11_reach_13 : lkB bl_X11_reach 13 = bk_X11_reach_13 := rfl
set_option maxRecDepth 20000 in
theorem ck_X11_reach : ckB rs_X11_reach false 11 3 prog_1_method_28_code bl_X11_reach = true := by decide +kernel

def rs_X11_ways : Rs := rf_X11 [(0, 224, 0, 113, 11), (0, 227, 1, 42, 9)]
def bk_X11_ways_0 : List It := [(.aload_n 0, 1, 0, 0, 0, 0), (.invokevirtual 224, 3, 0, 113, 11, 0)]
def bk_X11_ways_4 : List It := [(.aload_n 0, 1, 0, 0, 0, 0), (.getfield 50, 3, 11, 11, 2, 0), (.sipush 1001, 3, 0, 0, 0, 1001), (.invokevirtual 227, 3, 1, 42, 9, 0)]
def bk_X11_ways_14 : List It := [(.ireturn, 1, 0, 0, 0, 0)]
def bl_X11_ways : List (Nat × List It) := [(0, bk_X11_ways_0), (4, bk_X11_ways_4), (14, bk_X11_ways_14)]
theorem bq_X11_ways_0 : lkB bl_X11_ways 0 = bk_X11_ways_0 := rfl
theorem bq_X11_ways_4 : lkB bl_X11_ways 4 = bk_X11_ways_4 := rfl
theorem bq_X11_ways_14 : lkB bl_X11_ways 14 = bk_X11_ways_14 := rfl
set_option maxRecDepth 20000 in
theorem ck_X11_ways : ckB rs_X11_ways false 11 1 prog_1_method_29_code bl_X11_ways = true := by decide +kernel

def rs_X11_lift : Rs := rf_X11 [(0, 86, 1, 101, 11), (0, 224, 0, 113, 11), (0, 227, 1, 42, 9), (0, 230, 1, 43, 9)]
def bk_X11_lift_0 : List It := [(.aload_n 0, 1, 0, 0, 0, 0), (.iload_n 1, 1, 1, 0, 0, 0), (.invokevirtual 86, 3, 1, 101, 11, 0)]
def bk_X11_lift_5 : List It := [(.astore_n 2, 1, 2, 0, 0, 0), (.aload_n 2, 1, 2, 0, 0, 0), (.ifnonnull 6, 3, 13, 0, 0, 0), (.ldc 90, 2, 0, 0, 0, (-900001)), (.ireturn, 1, 0, 0, 0, 0)]
def bk_X11_lift_13 : List It := [(.aload_n 2, 1, 2, 0, 0, 0), (.getfield 91, 3, 3, 1, 1, 0), (.ifCond .ne 6, 3, 23, 0, 0, 0), (.ldc 154, 2, 0, 0, 0, (-900009)), (.ireturn, 1, 0, 0, 0, 0)]
def bk_X11_lift_23 : List It := [(.aload_n 0, 1, 0, 0, 0, 0), (.invokevirtual 224, 3, 0, 113, 11, 0)]
def bk_X11_lift_27 : List It := [(.aload_n 0, 1, 0, 0, 0, 0), (.getfield 50, 3, 11, 11, 2, 0), (.iconst 1, 1, 0, 0, 0, 1), (.invokevirtual 227, 3, 1, 42, 9, 0)]
def bk_X11_lift_35 : List It := [(.ifCond .ne 8, 3, 43, 0, 0, 0), (.ldc 154, 2, 0, 0, 0, (-900009)), (.goto 11, 3, 51, 0, 0, 0)]
def bk_X11_lift_43 : List It := [(.aload_n 0, 1, 0, 0, 0, 0), (.getfield 50, 3, 11, 11, 2, 0), (.iload_n 1, 1, 1, 0, 0, 0), (.invokevirtual 230, 3, 1, 43, 9, 0)]
def bk_X11_lift_51 : List It := [(.ireturn, 1, 0, 0, 0, 0)]
def bl_X11_lift : List (Nat × List It) := [(0, bk_X11_lift_0), (5, bk_X11_lift_5), (13, bk_X11_lift_13), (23, bk_X11_lift_23), (27, bk_X11_lift_27), (35, bk_X11_lift_35), (43, bk_X11_lift_43), (51, bk_X11_lift_51)]
theorem bq_X11_lift_0 : lkB bl_X11_lift 0 = bk_X11_lift_0 := rfl
theorem bq_X11_lift_5 : lkB bl_X11_lift 5 = bk_X11_lift_5 := rfl
theorem bq_X11_lift_13 : lkB bl_X11_lift 13 = bk_X11_lift_13 := rfl
theorem bq_X11_lift_23 : lkB bl_X11_lift 23 = bk_X11_lift_23 := rfl
theorem bq_X11_lift_27 : lkB bl_X11_lift 27 = bk_X11_lift_27 := rfl
theorem bq_X11_lift_35 : lkB bl_X11_lift 35 = bk_X11_lift_35 := rfl
theorem bq_X11_lift_43 : lkB bl_X11_lift 43 = bk_X11_lift_43 := rfl
theorem bq_X11_lift_51 : lkB bl_X11_lift 51 = bk_X11_lift_51 := rfl
set_option maxRecDepth 20000 in
theorem ck_X11_lift : ckB rs_X11_lift false 11 3 prog_1_method_30_code bl_X11_lift = true := by decide +kernel

def rs_X11_quarrel : Rs := rf_X11 [(0, 233, 3, 40, 9), (0, 237, 0, 9, 2), (0, 240, 1, 41, 9), (0, 227, 1, 42, 9)]
def bk_X11_quarrel_0 : List It := [(.aload_n 0, 1, 0, 0, 0, 0), (.getfield 50, 3, 11, 11, 2, 0), (.aload_n 0, 1, 0, 0, 0, 0), (.getfield 11, 3, 11, 0, 2, 0), (.aload_n 0, 1, 0, 0, 0, 0), (.getfield 79, 3, 11, 1, 0, 0), (.aload_n 0, 1, 0, 0, 0, 0), (.getfield 33, 3, 11, 8, 0, 0), (.invokevirtual 233, 3, 3, 40, 9, 0)]
def bk_X11_quarrel_19 : List It := [(.iconst 0, 1, 0, 0, 0, 0), (.istore_n 1, 1, 1, 0, 0, 0)]
def bk_X11_quarrel_21 : List It := [(.iload_n 1, 1, 1, 0, 0, 0), (.aload_n 0, 1, 0, 0, 0, 0), (.getfield 215, 3, 11, 7, 0, 0), (.if_icmp .ge 47, 3, 73, 0, 0, 0), (.aload_n 0, 1, 0, 0, 0, 0), (.getfield 29, 3, 11, 6, 2, 0), (.iload_n 1, 1, 1, 0, 0, 0), (.aaload, 1, 0, 0, 0, 0), (.invokevirtual 237, 3, 0, 9, 2, 0)]
def bk_X11_quarrel_38 : List It := [(.ifCond .eq 29, 3, 67, 0, 0, 0), (.aload_n 0, 1, 0, 0, 0, 0), (.getfield 50, 3, 11, 11, 2, 0), (.aload_n 0, 1, 0, 0, 0, 0), (.getfield 29, 3, 11, 6, 2, 0), (.iload_n 1, 1, 1, 0, 0, 0), (.aaload, 1, 0, 0, 0, 0), (.invokevirtual 240, 3, 1, 41, 9, 0)]
def bk_X11_quarrel_54 : List It := [(.aload_n 0, 1, 0, 0, 0, 0), (.getfield 50, 3, 11, 11, 2, 0), (.iconst 1, 1, 0, 0, 0, 1), (.invokevirtual 227, 3, 1, 42, 9, 0)]
def bk_X11_quarrel_62 : List It := [(.ifCond .ne 5, 3, 67, 0, 0, 0), (.iload_n 1, 1, 1, 0, 0, 0), (.ireturn, 1, 0, 0, 0, 0)]
def bk_X11_quarrel_67 : List It := [(.iinc 1 1, 3, 1, 0, 0, 1), (.goto (-49), 3, 21, 0, 0, 0)]
def bk_X11_quarrel_73 : List It := [(.ldc 154, 2, 0, 0, 0, (-900009)), (.ireturn, 1, 0, 0, 0, 0)]
def bl_X11_quarrel : List (Nat × List It) := [(0, bk_X11_quarrel_0), (19, bk_X11_quarrel_19), (21, bk_X11_quarrel_21), (38, bk_X11_quarrel_38), (54, bk_X11_quarrel_54), (62, bk_X11_quarrel_62), (67, bk_X11_quarrel_67), (73, bk_X11_quarrel_73)]
theorem bq_X11_quarrel_0 : lkB bl_X11_quarrel 0 = bk_X11_quarrel_0 := rfl
theorem bq_X11_quarrel_19 : lkB bl_X11_quarrel 19 = bk_X11_quarrel_19 := rfl
theorem bq_X11_quarrel_21 : lkB bl_X11_quarrel 21 = bk_X11_quarrel_21 := rfl
theorem bq_X11_quarrel_38 : lkB bl_X11_quarrel 38 = bk_X11_quarrel_38 := rfl
theorem bq_X11_quarrel_54 : lkB bl_X11_quarrel 54 = bk_X11_quarrel_54 := rfl
theorem bq_X11_quarrel_62 : lkB bl_X11_quarrel 62 = bk_X11_quarrel_62 := rfl
theorem bq_X11_quarrel_67 : lkB bl_X11_quarrel 67 = bk_X11_quarrel_67 := rfl
theorem bq_X11_quarrel_73 : lkB bl_X11_quarrel 73 = bk_X11_quarrel_73 := rfl
set_option maxRecDepth 20000 in
theorem ck_X11_quarrel : ckB rs_X11_quarrel false 11 2 prog_1_method_31_code bl_X11_quarrel = true := by decide +kernel

def rs_X11_flaw : Rs := rf_X11 [(0, 86, 1, 101, 11), (1, 99, 2, 99, 0)]
def bk_X11_flaw_0 : List It := [(.aload_n 0, 1, 0, 0, 0, 0), (.iload_n 1, 1, 1, 0, 0, 0), (.invokevirtual 86, 3, 1, 101, 11, 0), (.astore 4, 2, 4, 0, 0, 0), (.aload 4, 2, 4, 0, 0, 0), (.ifnonnull 6, 3, 15, 0, 0, 0), (.ldc 90, 2, 0, 0, 0, (-900001)), (.ireturn, 1, 0, 0, 0, 0)]
def bk_X11_flaw_15 : List It := [(.iload_n 2, 1, 2, 0, 0, 0), (.ifCond .lt 17, 3, 33, 0, 0, 0), (.iload_n 2, 1, 2, 0, 0, 0), (.iconst 3, 1, 0, 0, 0, 3), (.if_icmp .ge 12, 3, 33, 0, 0, 0), (.iload_n 3, 1, 3, 0, 0, 0), (.bipush 9, 2, 0, 0, 0, 9), (.invokestatic 99, 3, 2, 99, 0, 0), (.ifCond .eq 6, 3, 36, 0, 0, 0)]
def bk_X11_flaw_33 : List It := [(.ldc 103, 2, 0, 0, 0, (-900002)), (.ireturn, 1, 0, 0, 0, 0)]
def bk_X11_flaw_36 : List It := [(.aload 4, 2, 4, 0, 0, 0), (.getfield 244, 3, 3, 5, 2, 0), (.iload_n 2, 1, 2, 0, 0, 0), (.iaload, 1, 0, 0, 0, 0), (.istore 5, 2, 5, 0, 0, 0), (.aload 4, 2, 4, 0, 0, 0), (.getfield 244, 3, 3, 5, 2, 0), (.iload_n 2, 1, 2, 0, 0, 0), (.iload_n 3, 1, 3, 0, 0, 0), (.iastore, 1, 0, 0, 0, 0), (.iload 5, 2, 5, 0, 0, 0), (.ireturn, 1, 0, 0, 0, 0)]
def bl_X11_flaw : List (Nat × List It) := [(0, bk_X11_flaw_0), (15, bk_X11_flaw_15), (33, bk_X11_flaw_33), (36, bk_X11_flaw_36)]
theorem bq_X11_flaw_0 : lkB bl_X11_flaw 0 = bk_X11_flaw_0 := rfl
theorem bq_X11_flaw_15 : lkB bl_X11_flaw 15 = bk_X11_flaw_15 := rfl
theorem bq_X11_flaw_33 : lkB bl_X11_flaw 33 = bk_X11_flaw_33 := rfl
theorem bq_X11_flaw_36 : lkB bl_X11_flaw 36 = bk_X11_flaw_36 := rfl
set_option maxRecDepth 20000 in
theorem ck_X11_flaw : ckB rs_X11_flaw false 11 6 prog_1_method_32_code bl_X11_flaw = true := by decide +kernel

def rs_X11_weigh : Rs := rf_X11 [(0, 86, 1, 101, 11)]
def bk_X11_weigh_0 : List It := [(.aload_n 0, 1, 0, 0, 0, 0), (.iload_n 1, 1, 1, 0, 0, 0), (.invokevirtual 86, 3, 1, 101, 11, 0), (.astore 4, 2, 4, 0, 0, 0), (.aload 4, 2, 4, 0, 0, 0), (.ifnonnull 6, 3, 15, 0, 0, 0), (.ldc 90, 2, 0, 0, 0, (-900001)), (.ireturn, 1, 0, 0, 0, 0)]
def bk_X11_weigh_15 : List It := [(.iload_n 2, 1, 2, 0, 0, 0), (.ifCond .lt 18, 3, 34, 0, 0, 0), (.iload_n 2, 1, 2, 0, 0, 0), (.iconst 3, 1, 0, 0, 0, 3), (.if_icmp .ge 13, 3, 34, 0, 0, 0), (.iload_n 3, 1, 3, 0, 0, 0), (.ifCond .lt 9, 3, 34, 0, 0, 0), (.iload_n 3, 1, 3, 0, 0, 0), (.bipush 9, 2, 0, 0, 0, 9), (.if_icmp .le 6, 3, 37, 0, 0, 0)]
def bk_X11_weigh_34 : List It := [(.ldc 103, 2, 0, 0, 0, (-900002)), (.ireturn, 1, 0, 0, 0, 0)]
def bk_X11_weigh_37 : List It := [(.aload 4, 2, 4, 0, 0, 0), (.getfield 247, 3, 3, 6, 2, 0), (.iload_n 2, 1, 2, 0, 0, 0), (.iaload, 1, 0, 0, 0, 0), (.istore 5, 2, 5, 0, 0, 0), (.aload 4, 2, 4, 0, 0, 0), (.getfield 247, 3, 3, 6, 2, 0), (.iload_n 2, 1, 2, 0, 0, 0), (.iload_n 3, 1, 3, 0, 0, 0), (.iastore, 1, 0, 0, 0, 0), (.iload 5, 2, 5, 0, 0, 0), (.ireturn, 1, 0, 0, 0, 0)]
def bl_X11_weigh : List (Nat × List It) := [(0, bk_X11_weigh_0), (15, bk_X11_weigh_15), (34, bk_X11_weigh_34), (37, bk_X11_weigh_37)]
theorem bq_X11_weigh_0 : lkB bl_X11_weigh 0 = bk_X11_weigh_0 := rfl
theorem bq_X11_weigh_15 : lkB bl_X11_weigh 15 = bk_X11_weigh_15 := rfl
theorem bq_X11_weigh_34 : lkB bl_X11_weigh 34 = bk_X11_weigh_34 := rfl
theorem bq_X11_weigh_37 : lkB bl_X11_weigh 37 = bk_X11_weigh_37 := rfl
set_option maxRecDepth 20000 in
theorem ck_X11_weigh : ckB rs_X11_weigh false 11 6 prog_1_method_33_code bl_X11_weigh = true := by decide +kernel

def rs_X11_costs : Rs := rf_X11 [(0, 86, 1, 101, 11), (0, 250, 1, 12, 3)]
def bk_X11_costs_0 : List It := [(.aload_n 0, 1, 0, 0, 0, 0), (.iload_n 1, 1, 1, 0, 0, 0), (.invokevirtual 86, 3, 1, 101, 11, 0), (.astore_n 3, 1, 3, 0, 0, 0), (.aload_n 0, 1, 0, 0, 0, 0), (.iload_n 2, 1, 2, 0, 0, 0), (.invokevirtual 86, 3, 1, 101, 11, 0), (.astore 4, 2, 4, 0, 0, 0), (.aload_n 3, 1, 3, 0, 0, 0), (.ifnull 8, 3, 22, 0, 0, 0), (.aload 4, 2, 4, 0, 0, 0), (.ifnonnull 6, 3, 25, 0, 0, 0)]
def bk_X11_costs_22 : List It := [(.ldc 90, 2, 0, 0, 0, (-900001)), (.ireturn, 1, 0, 0, 0, 0)]
def bk_X11_costs_25 : List It := [(.aload_n 3, 1, 3, 0, 0, 0), (.aload 4, 2, 4, 0, 0, 0), (.invokevirtual 250, 3, 1, 12, 3, 0), (.ireturn, 1, 0, 0, 0, 0)]
def bl_X11_costs : List (Nat × List It) := [(0, bk_X11_costs_0), (22, bk_X11_costs_22), (25, bk_X11_costs_25)]
theorem bq_X11_costs_0 : lkB bl_X11_costs 0 = bk_X11_costs_0 := rfl
theorem bq_X11_costs_22 : lkB bl_X11_costs 22 = bk_X11_costs_22 := rfl
theorem bq_X11_costs_25 : lkB bl_X11_costs 25 = bk_X11_costs_25 := rfl
set_option maxRecDepth 20000 in
theorem ck_X11_costs : ckB rs_X11_costs false 11 5 prog_1_method_34_code bl_X11_costs = true := by decide +kernel

def rs_X11_swap : Rs := rf_X11 [(0, 253, 2, 51, 10)]
def bk_X11_swap_0 : List It := [(.aload_n 0, 1, 0, 0, 0, 0), (.getfield 57, 3, 11, 12, 2, 0), (.aload_n 0, 1, 0, 0, 0, 0), (.getfield 11, 3, 11, 0, 2, 0), (.aload_n 0, 1, 0, 0, 0, 0), (.getfield 79, 3, 11, 1, 0, 0), (.invokevirtual 253, 3, 2, 51, 10, 0)]
def bk_X11_swap_15 : List It := [(.ireturn, 1, 0, 0, 0, 0)]
def bl_X11_swap : List (Nat × List It) := [(0, bk_X11_swap_0), (15, bk_X11_swap_15)]
theorem bq_X11_swap_0 : lkB bl_X11_swap 0 = bk_X11_swap_0 := rfl
theorem bq_X11_swap_15 : lkB bl_X11_swap 15 = bk_X11_swap_15 := rfl
set_option maxRecDepth 20000 in
theorem ck_X11_swap : ckB rs_X11_swap false 11 1 prog_1_method_35_code bl_X11_swap = true := by decide +kernel

def rs_X11_hole : Rs := rf_X11 [(0, 86, 1, 101, 11), (0, 253, 2, 51, 10), (0, 257, 1, 52, 10)]
def bk_X11_hole_0 : List It := [(.aload_n 0, 1, 0, 0, 0, 0), (.iload_n 1, 1, 1, 0, 0, 0), (.invokevirtual 86, 3, 1, 101, 11, 0)]
def bk_X11_hole_5 : List It := [(.astore_n 2, 1, 2, 0, 0, 0), (.aload_n 2, 1, 2, 0, 0, 0), (.ifnonnull 6, 3, 13, 0, 0, 0), (.ldc 90, 2, 0, 0, 0, (-900001)), (.ireturn, 1, 0, 0, 0, 0)]
def bk_X11_hole_13 : List It := [(.aload_n 2, 1, 2, 0, 0, 0), (.getfield 91, 3, 3, 1, 1, 0), (.ifCond .ne 6, 3, 23, 0, 0, 0), (.ldc 154, 2, 0, 0, 0, (-900009)), (.ireturn, 1, 0, 0, 0, 0)]
def bk_X11_hole_23 : List It := [(.aload_n 0, 1, 0, 0, 0, 0), (.getfield 57, 3, 11, 12, 2, 0), (.aload_n 0, 1, 0, 0, 0, 0), (.getfield 11, 3, 11, 0, 2, 0), (.aload_n 0, 1, 0, 0, 0, 0), (.getfield 79, 3, 11, 1, 0, 0), (.invokevirtual 253, 3, 2, 51, 10, 0)]
def bk_X11_hole_38 : List It := [(.pop, 1, 0, 0, 0, 0), (.aload_n 0, 1, 0, 0, 0, 0), (.getfield 57, 3, 11, 12, 2, 0), (.iload_n 1, 1, 1, 0, 0, 0), (.invokevirtual 257, 3, 1, 52, 10, 0)]
def bk_X11_hole_47 : List It := [(.ireturn, 1, 0, 0, 0, 0)]
def bl_X11_hole : List (Nat × List It) := [(0, bk_X11_hole_0), (5, bk_X11_hole_5), (13, bk_X11_hole_13), (23, bk_X11_hole_23), (38, bk_X11_hole_38), (47, bk_X11_hole_47)]
theorem bq_X11_hole_0 : lkB bl_X11_hole 0 = bk_X11_hole_0 := rfl
theorem bq_X11_hole_5 : lkB bl_X11_hole 5 = bk_X11_hole_5 := rfl
theorem bq_X11_hole_13 : lkB bl_X11_hole 13 = bk_X11_hole_13 := rfl
theorem bq_X11_hole_23 : lkB bl_X11_hole 23 = bk_X11_hole_23 := rfl
theorem bq_X11_hole_38 : lkB bl_X11_hole 38 = bk_X11_hole_38 := rfl
theorem bq_X11_hole_47 : lkB bl_X11_hole 47 = bk_X11_hole_47 := rfl
set_option maxRecDepth 20000 in
theorem ck_X11_hole : ckB rs_X11_hole false 11 3 prog_1_method_36_code bl_X11_hole = true := by decide +kernel

def rs_X11_age : Rs := rf_X11 [(0, 86, 1, 101, 11)]
def bk_X11_age_0 : List It := [(.aload_n 0, 1, 0, 0, 0, 0), (.iload_n 1, 1, 1, 0, 0, 0), (.invokevirtual 86, 3, 1, 101, 11, 0), (.astore_n 3, 1, 3, 0, 0, 0), (.aload_n 3, 1, 3, 0, 0, 0), (.ifnonnull 6, 3, 13, 0, 0, 0), (.ldc 90, 2, 0, 0, 0, (-900001)), (.ireturn, 1, 0, 0, 0, 0)]
def bk_X11_age_13 : List It := [(.iload_n 2, 1, 2, 0, 0, 0), (.ifCond .lt 9, 3, 23, 0, 0, 0), (.iload_n 2, 1, 2, 0, 0, 0), (.bipush 99, 2, 0, 0, 0, 99), (.if_icmp .le 6, 3, 26, 0, 0, 0)]
def bk_X11_age_23 : List It := [(.ldc 103, 2, 0, 0, 0, (-900002)), (.ireturn, 1, 0, 0, 0, 0)]
def bk_X11_age_26 : List It := [(.aload_n 3, 1, 3, 0, 0, 0), (.getfield 260, 3, 3, 7, 0, 0), (.istore 4, 2, 4, 0, 0, 0), (.aload_n 3, 1, 3, 0, 0, 0), (.iload_n 2, 1, 2, 0, 0, 0), (.putfield 260, 3, 3, 7, 0, 0), (.iload 4, 2, 4, 0, 0, 0), (.ireturn, 1, 0, 0, 0, 0)]
def bl_X11_age : List (Nat × List It) := [(0, bk_X11_age_0), (13, bk_X11_age_13), (23, bk_X11_age_23), (26, bk_X11_age_26)]
theorem bq_X11_age_0 : lkB bl_X11_age 0 = bk_X11_age_0 := rfl
theorem bq_X11_age_13 : lkB bl_X11_age 13 = bk_X11_age_13 := rfl
theorem bq_X11_age_23 : lkB bl_X11_age 23 = bk_X11_age_23 := rfl
theorem bq_X11_age_26 : lkB bl_X11_age 26 = bk_X11_age_26 := rfl
set_option maxRecDepth 20000 in
theorem ck_X11_age : ckB rs_X11_age false 11 5 prog_1_method_37_code bl_X11_age = true := by decide +kernel

def rs_X11_loss : Rs := rf_X11 []
def bk_X11_loss_0 : List It := [(.iload_n 1, 1, 1, 0, 0, 0), (.ifCond .lt 9, 3, 10, 0, 0, 0), (.iload_n 1, 1, 1, 0, 0, 0), (.bipush 50, 2, 0, 0, 0, 50), (.if_icmp .le 6, 3, 13, 0, 0, 0)]
def bk_X11_loss_10 : List It := [(.ldc 103, 2, 0, 0, 0, (-900002)), (.ireturn, 1, 0, 0, 0, 0)]
def bk_X11_loss_13 : List It := [(.aload_n 0, 1, 0, 0, 0, 0), (.getfield 37, 3, 11, 9, 0, 0), (.istore_n 2, 1, 2, 0, 0, 0), (.aload_n 0, 1, 0, 0, 0, 0), (.iload_n 1, 1, 1, 0, 0, 0), (.putfield 37, 3, 11, 9, 0, 0), (.iload_n 2, 1, 2, 0, 0, 0), (.ireturn, 1, 0, 0, 0, 0)]
def bl_X11_loss : List (Nat × List It) := [(0, bk_X11_loss_0), (10, bk_X11_loss_10), (13, bk_X11_loss_13)]
theorem bq_X11_loss_0 : lkB bl_X11_loss 0 = bk_X11_loss_0 := rfl
theorem bq_X11_loss_10 : lkB bl_X11_loss 10 = bk_X11_loss_10 := rfl
theorem bq_X11_loss_13 : lkB bl_X11_loss 13 = bk_X11_loss_13 := rfl
set_option maxRecDepth 20000 in
theorem ck_X11_loss : ckB rs_X11_loss false 11 3 prog_1_method_38_code bl_X11_loss = true := by decide +kernel

def rs_X11_plan : Rs := rf_X11 [(0, 263, 4, 18, 5)]
def bk_X11_plan_0 : List It := [(.iload_n 1, 1, 1, 0, 0, 0), (.iconst 1, 1, 0, 0, 0, 1), (.if_icmp .lt 8, 3, 10, 0, 0, 0), (.iload_n 1, 1, 1, 0, 0, 0), (.iconst 4, 1, 0, 0, 0, 4), (.if_icmp .le 6, 3, 13, 0, 0, 0)]
def bk_X11_plan_10 : List It := [(.ldc 103, 2, 0, 0, 0, (-900002)), (.ireturn, 1, 0, 0, 0, 0)]
def bk_X11_plan_13 : List It := [(.aload_n 0, 1, 0, 0, 0, 0), (.getfield 64, 3, 11, 13, 2, 0), (.aload_n 0, 1, 0, 0, 0, 0), (.getfield 11, 3, 11, 0, 2, 0), (.aload_n 0, 1, 0, 0, 0, 0), (.getfield 79, 3, 11, 1, 0, 0), (.aload_n 0, 1, 0, 0, 0, 0), (.getfield 37, 3, 11, 9, 0, 0), (.iload_n 1, 1, 1, 0, 0, 0), (.invokevirtual 263, 3, 4, 18, 5, 0)]
def bk_X11_plan_33 : List It := [(.ireturn, 1, 0, 0, 0, 0)]
def bl_X11_plan : List (Nat × List It) := [(0, bk_X11_plan_0), (10, bk_X11_plan_10), (13, bk_X11_plan_13), (33, bk_X11_plan_33)]
theorem bq_X11_plan_0 : lkB bl_X11_plan 0 = bk_X11_plan_0 := rfl
theorem bq_X11_plan_10 : lkB bl_X11_plan 10 = bk_X11_plan_10 := rfl
theorem bq_X11_plan_13 : lkB bl_X11_plan 13 = bk_X11_plan_13 := rfl
theorem bq_X11_plan_33 : lkB bl_X11_plan 33 = bk_X11_plan_33 := rfl
set_option maxRecDepth 20000 in
theorem ck_X11_plan : ckB rs_X11_plan false 11 2 prog_1_method_39_code bl_X11_plan = true := by decide +kernel

def rs_X11_coat : Rs := rf_X11 [(0, 263, 4, 18, 5), (0, 266, 1, 19, 5)]
def bk_X11_coat_0 : List It := [(.iload_n 1, 1, 1, 0, 0, 0), (.iconst 1, 1, 0, 0, 0, 1), (.if_icmp .lt 17, 3, 19, 0, 0, 0), (.iload_n 1, 1, 1, 0, 0, 0), (.iconst 4, 1, 0, 0, 0, 4), (.if_icmp .gt 12, 3, 19, 0, 0, 0), (.iload_n 2, 1, 2, 0, 0, 0), (.ifCond .lt 8, 3, 19, 0, 0, 0), (.iload_n 2, 1, 2, 0, 0, 0), (.iload_n 1, 1, 1, 0, 0, 0), (.if_icmp .lt 6, 3, 22, 0, 0, 0)]
def bk_X11_coat_19 : List It := [(.ldc 103, 2, 0, 0, 0, (-900002)), (.ireturn, 1, 0, 0, 0, 0)]
def bk_X11_coat_22 : List It := [(.aload_n 0, 1, 0, 0, 0, 0), (.getfield 64, 3, 11, 13, 2, 0), (.aload_n 0, 1, 0, 0, 0, 0), (.getfield 11, 3, 11, 0, 2, 0), (.aload_n 0, 1, 0, 0, 0, 0), (.getfield 79, 3, 11, 1, 0, 0), (.aload_n 0, 1, 0, 0, 0, 0), (.getfield 37, 3, 11, 9, 0, 0), (.iload_n 1, 1, 1, 0, 0, 0), (.invokevirtual 263, 3, 4, 18, 5, 0)]
def bk_X11_coat_42 : List It := [(.pop, 1, 0, 0, 0, 0), (.aload_n 0, 1, 0, 0, 0, 0), (.getfield 64, 3, 11, 13, 2, 0), (.iload_n 2, 1, 2, 0, 0, 0), (.invokevirtual 266, 3, 1, 19, 5, 0)]
def bk_X11_coat_51 : List It := [(.ireturn, 1, 0, 0, 0, 0)]
def bl_X11_coat : List (Nat × List It) := [(0, bk_X11_coat_0), (19, bk_X11_coat_19), (22, bk_X11_coat_22), (42, bk_X11_coat_42), (51, bk_X11_coat_51)]
theorem bq_X11_coat_0 : lkB bl_X11_coat 0 = bk_X11_coat_0 := rfl
theorem bq_X11_coat_19 : lkB bl_X11_coat 19 = bk_X11_coat_19 := rfl
theorem bq_X11_coat_22 : lkB bl_X11_coat 22 = bk_X11_coat_22 := rfl
theorem bq_X11_coat_42 : lkB bl_X11_coat 42 = bk_X11_coat_42 := rfl
theorem bq_X11_coat_51 : lkB bl_X11_coat 51 = bk_X11_coat_51 := rfl
set_option maxRecDepth 20000 in
theorem ck_X11_coat : ckB rs_X11_coat false 11 3 prog_1_method_40_code bl_X11_coat = true := by decide +kernel

def rs_X11_light : Rs := rf_X11 [(1, 99, 2, 99, 0), (1, 269, 5, 30, 0)]
def bk_X11_light_0 : List It := [(.iload_n 1, 1, 1, 0, 0, 0), (.bipush 40, 2, 0, 0, 0, 40), (.invokestatic 99, 3, 2, 99, 0, 0), (.ifCond .ne 23, 3, 29, 0, 0, 0), (.iload_n 2, 1, 2, 0, 0, 0), (.bipush 40, 2, 0, 0, 0, 40), (.invokestatic 99, 3, 2, 99, 0, 0), (.ifCond .ne 14, 3, 29, 0, 0, 0), (.iload_n 3, 1, 3, 0, 0, 0), (.ifCond .lt 10, 3, 29, 0, 0, 0), (.iload_n 3, 1, 3, 0, 0, 0), (.sipush 400, 3, 0, 0, 0, 400), (.if_icmp .le 6, 3, 32, 0, 0, 0)]
def bk_X11_light_29 : List It := [(.ldc 103, 2, 0, 0, 0, (-900002)), (.ireturn, 1, 0, 0, 0, 0)]
def bk_X11_light_32 : List It := [(.aload_n 0, 1, 0, 0, 0, 0), (.getfield 11, 3, 11, 0, 2, 0), (.aload_n 0, 1, 0, 0, 0, 0), (.getfield 79, 3, 11, 1, 0, 0), (.iload_n 1, 1, 1, 0, 0, 0), (.iload_n 2, 1, 2, 0, 0, 0), (.iload_n 3, 1, 3, 0, 0, 0), (.invokestatic 269, 3, 5, 30, 0, 0), (.ireturn, 1, 0, 0, 0, 0)]
def bl_X11_light : List (Nat × List It) := [(0, bk_X11_light_0), (29, bk_X11_light_29), (32, bk_X11_light_32)]
theorem bq_X11_light_0 : lkB bl_X11_light 0 = bk_X11_light_0 := rfl
theorem bq_X11_light_29 : lkB bl_X11_light 29 = bk_X11_light_29 := rfl
theorem bq_X11_light_32 : lkB bl_X11_light 32 = bk_X11_light_32 := rfl
set_option maxRecDepth 20000 in
theorem ck_X11_light : ckB rs_X11_light false 11 4 prog_1_method_41_code bl_X11_light = true := by decide +kernel

def rs_X11_focus : Rs := rf_X11 [(0, 273, 3, 31, 7)]
def bk_X11_focus_0 : List It := [(.iload_n 1, 1, 1, 0, 0, 0), (.ifCond .lt 19, 3, 20, 0, 0, 0), (.iload_n 1, 1, 1, 0, 0, 0), (.sipush 400, 3, 0, 0, 0, 400), (.if_icmp .gt 12, 3, 20, 0, 0, 0), (.iload_n 2, 1, 2, 0, 0, 0), (.ifCond .lt 8, 3, 20, 0, 0, 0), (.iload_n 2, 1, 2, 0, 0, 0), (.iconst 2, 1, 0, 0, 0, 2), (.if_icmp .le 6, 3, 23, 0, 0, 0)]
def bk_X11_focus_20 : List It := [(.ldc 103, 2, 0, 0, 0, (-900002)), (.ireturn, 1, 0, 0, 0, 0)]
def bk_X11_focus_23 : List It := [(.aload_n 0, 1, 0, 0, 0, 0), (.getfield 71, 3, 11, 14, 2, 0), (.aload_n 0, 1, 0, 0, 0, 0), (.getfield 11, 3, 11, 0, 2, 0), (.aload_n 0, 1, 0, 0, 0, 0), (.getfield 79, 3, 11, 1, 0, 0), (.iload_n 1, 1, 1, 0, 0, 0), (.invokevirtual 273, 3, 3, 31, 7, 0), (.iload_n 2, 1, 2, 0, 0, 0), (.iconst 2, 1, 0, 0, 0, 2), (.if_icmp .ne 11, 3, 52, 0, 0, 0), (.aload_n 0, 1, 0, 0, 0, 0), (.getfield 71, 3, 11, 14, 2, 0), (.getfield 276, 3, 7, 2, 0, 0), (.ireturn, 1, 0, 0, 0, 0)]
def bk_X11_focus_52 : List It := [(.iload_n 2, 1, 2, 0, 0, 0), (.ifCond .ne 13, 3, 66, 0, 0, 0), (.aload_n 0, 1, 0, 0, 0, 0), (.getfield 71, 3, 11, 14, 2, 0), (.getfield 279, 3, 7, 0, 0, 0), (.goto 10, 3, 73, 0, 0, 0)]
def bk_X11_focus_66 : List It := [(.aload_n 0, 1, 0, 0, 0, 0), (.getfield 71, 3, 11, 14, 2, 0), (.getfield 282, 3, 7, 1, 0, 0)]
def bk_X11_focus_73 : List It := [(.ireturn, 1, 0, 0, 0, 0)]
def bl_X11_focus : List (Nat × List It) := [(0, bk_X11_focus_0), (20, bk_X11_focus_20), (23, bk_X11_focus_23), (52, bk_X11_focus_52), (66, bk_X11_focus_66), (73, bk_X11_focus_73)]
theorem bq_X11_focus_0 : lkB bl_X11_focus 0 = bk_X11_focus_0 := rfl
theorem bq_X11_focus_20 : lkB bl_X11_focus 20 = bk_X11_focus_20 := rfl
theorem bq_X11_focus_23 : lkB bl_X11_focus 23 = bk_X11_focus_23 := rfl
theorem bq_X11_focus_52 : lkB bl_X11_focus 52 = bk_X11_focus_52 := rfl
theorem bq_X11_focus_66 : lkB bl_X11_focus 66 = bk_X11_focus_66 := rfl
theorem bq_X11_focus_73 : lkB bl_X11_focus 73 = bk_X11_focus_73 := rfl
set_option maxRecDepth 20000 in
theorem ck_X11_focus : ckB rs_X11_focus false 11 3 prog_1_method_42_code bl_X11_focus = true := by decide +kernel

def rs_X11_count : Rs := rf_X11 [(0, 159, 0, 104, 11), (0, 285, 0, 105, 11), (0, 182, 0, 106, 11)]
def bk_X11_count_0 : List It := [(.iload_n 1, 1, 1, 0, 0, 0), (.tableswitch 78 0 6 #[43, 48, 53, 58, 63, 68, 73], 43, 0, 0, 0, 0)]
def bk_X11_count_44 : List It := [(.aload_n 0, 1, 0, 0, 0, 0), (.getfield 79, 3, 11, 1, 0, 0), (.ireturn, 1, 0, 0, 0, 0)]
def bk_X11_count_49 : List It := [(.aload_n 0, 1, 0, 0, 0, 0), (.invokevirtual 159, 3, 0, 104, 11, 0), (.ireturn, 1, 0, 0, 0, 0)]
def bk_X11_count_54 : List It := [(.aload_n 0, 1, 0, 0, 0, 0), (.getfield 130, 3, 11, 3, 0, 0), (.ireturn, 1, 0, 0, 0, 0)]
def bk_X11_count_59 : List It := [(.aload_n 0, 1, 0, 0, 0, 0), (.invokevirtual 285, 3, 0, 105, 11, 0), (.ireturn, 1, 0, 0, 0, 0)]
def bk_X11_count_64 : List It := [(.aload_n 0, 1, 0, 0, 0, 0), (.invokevirtual 182, 3, 0, 106, 11, 0), (.ireturn, 1, 0, 0, 0, 0)]
def bk_X11_count_69 : List It := [(.aload_n 0, 1, 0, 0, 0, 0), (.getfield 197, 3, 11, 5, 0, 0), (.ireturn, 1, 0, 0, 0, 0)]
def bk_X11_count_74 : List It := [(.aload_n 0, 1, 0, 0, 0, 0), (.getfield 215, 3, 11, 7, 0, 0), (.ireturn, 1, 0, 0, 0, 0)]
def bk_X11_count_79 : List It := [(.ldc 103, 2, 0, 0, 0, (-900002)), (.ireturn, 1, 0, 0, 0, 0)]
def bl_X11_count : List (Nat × List It) := [(0, bk_X11_count_0), (44, bk_X11_count_44), (49, bk_X11_count_49), (54, bk_X11_count_54), (59, bk_X11_count_59), (64, bk_X11_count_64), (69, bk_X11_count_69), (74, bk_X11_count_74), (79, bk_X11_count_79)]
theorem bq_X11_count_0 : lkB bl_X11_count 0 = bk_X11_count_0 := rfl
theorem bq_X11_count_44 : lkB bl_X11_count 44 = bk_X11_count_44 := rfl
theorem bq_X11_count_49 : lkB bl_X11_count 49 = bk_X11_count_49 := rfl
theorem bq_X11_count_54 : lkB bl_X11_count 54 = bk_X11_count_54 := rfl
theorem bq_X11_count_59 : lkB bl_X11_count 59 = bk_X11_count_59 := rfl
theorem bq_X11_count_64 : lkB bl_X11_count 64 = bk_X11_count_64 := rfl
theorem bq_X11_count_69 : lkB bl_X11_count 69 = bk_X11_count_69 := rfl
theorem bq_X11_count_74 : lkB bl_X11_count 74 = bk_X11_count_74 := rfl
theorem bq_X11_count_79 : lkB bl_X11_count 79 = bk_X11_count_79 := rfl
set_option maxRecDepth 20000 in
theorem ck_X11_count : ckB rs_X11_count false 11 2 prog_1_method_43_code bl_X11_count = true := by decide +kernel

def rs_X11_oneIf : Rs := rf_X11 []
def bk_X11_oneIf_0 : List It := [(.iload_n 0, 1, 0, 0, 0, 0), (.ifCond .eq 7, 3, 8, 0, 0, 0), (.iconst 1, 1, 0, 0, 0, 1), (.goto 4, 3, 9, 0, 0, 0)]
def bk_X11_oneIf_8 : List It := [(.iconst 0, 1, 0, 0, 0, 0)]
def bk_X11_oneIf_9 : List It := [(.ireturn, 1, 0, 0, 0, 0)]
def bl_X11_oneIf : List (Nat × List It) := [(0, bk_X11_oneIf_0), (8, bk_X11_oneIf_8), (9, bk_X11_oneIf_9)]
theorem bq_X11_oneIf_0 : lkB bl_X11_oneIf 0 = bk_X11_oneIf_0 := rfl
theorem bq_X11_oneIf_8 : lkB bl_X11_oneIf 8 = bk_X11_oneIf_8 := rfl
theorem bq_X11_oneIf_9 : lkB bl_X11_oneIf 9 = bk_X11_oneIf_9 := rfl
set_option maxRecDepth 20000 in
theorem ck_X11_oneIf : ckB rs_X11_oneIf false 11 1 prog_1_method_44_code bl_X11_oneIf = true := by decide +kernel

def rs_X11_beyond : Rs := rf_X11 []
def bk_X11_beyond_0 : List It := [(.iload_n 0, 1, 0, 0, 0, 0), (.iload_n 1, 1, 1, 0, 0, 0), (.ineg, 1, 0, 0, 0, 0), (.if_icmp .lt 8, 3, 11, 0, 0, 0), (.iload_n 0, 1, 0, 0, 0, 0), (.iload_n 1, 1, 1, 0, 0, 0), (.if_icmp .le 7, 3, 15, 0, 0, 0)]
def bk_X11_beyond_11 : List It := [(.iconst 1, 1, 0, 0, 0, 1), (.goto 4, 3, 16, 0, 0, 0)]
def bk_X11_beyond_15 : List It := [(.iconst 0, 1, 0, 0, 0, 0)]
def bk_X11_beyond_16 : List It := [(.ireturn, 1, 0, 0, 0, 0)]
def bl_X11_beyond : List (Nat × List It) := [(0, bk_X11_beyond_0), (11, bk_X11_beyond_11), (15, bk_X11_beyond_15), (16, bk_X11_beyond_16)]
theorem bq_X11_beyond_0 : lkB bl_X11_beyond 0 = bk_X11_beyond_0 := rfl
theorem bq_X11_beyond_11 : lkB bl_X11_beyond 11 = bk_X11_beyond_11 := rfl
theorem bq_X11_beyond_15 : lkB bl_X11_beyond 15 = bk_X11_beyond_15 := rfl
theorem bq_X11_beyond_16 : lkB bl_X11_beyond 16 = bk_X11_beyond_16 := rfl
set_option maxRecDepth 20000 in
theorem ck_X11_beyond : ckB rs_X11_beyond false 11 2 prog_1_method_45_code bl_X11_beyond = true := by decide +kernel

def rs_X11_noPoint : Rs := rf_X11 [(1, 99, 2, 99, 0)]
def bk_X11_noPoint_0 : List It := [(.iload_n 0, 1, 0, 0, 0, 0), (.bipush 9, 2, 0, 0, 0, 9), (.invokestatic 99, 3, 2, 99, 0, 0), (.ifCond .ne 12, 3, 18, 0, 0, 0), (.iload_n 1, 1, 1, 0, 0, 0), (.bipush 9, 2, 0, 0, 0, 9), (.invokestatic 99, 3, 2, 99, 0, 0), (.ifCond .eq 7, 3, 22, 0, 0, 0)]
def bk_X11_noPoint_18 : List It := [(.iconst 1, 1, 0, 0, 0, 1), (.goto 4, 3, 23, 0, 0, 0)]
def bk_X11_noPoint_22 : List It := [(.iconst 0, 1, 0, 0, 0, 0)]
def bk_X11_noPoint_23 : List It := [(.ireturn, 1, 0, 0, 0, 0)]
def bl_X11_noPoint : List (Nat × List It) := [(0, bk_X11_noPoint_0), (18, bk_X11_noPoint_18), (22, bk_X11_noPoint_22), (23, bk_X11_noPoint_23)]
theorem bq_X11_noPoint_0 : lkB bl_X11_noPoint 0 = bk_X11_noPoint_0 := rfl
theorem bq_X11_noPoint_18 : lkB bl_X11_noPoint 18 = bk_X11_noPoint_18 := rfl
theorem bq_X11_noPoint_22 : lkB bl_X11_noPoint 22 = bk_X11_noPoint_22 := rfl
theorem bq_X11_noPoint_23 : lkB bl_X11_noPoint 23 = bk_X11_noPoint_23 := rfl
set_option maxRecDepth 20000 in
theorem ck_X11_noPoint : ckB rs_X11_noPoint false 11 2 prog_1_method_46_code bl_X11_noPoint = true := by decide +kernel

def rs_X11_pieceOf : Rs := rf_X11 []
def bk_X11_pieceOf_0 : List It := [(.iload_n 1, 1, 1, 0, 0, 0), (.ifCond .lt 11, 3, 12, 0, 0, 0), (.iload_n 1, 1, 1, 0, 0, 0), (.aload_n 0, 1, 0, 0, 0, 0), (.getfield 79, 3, 11, 1, 0, 0), (.if_icmp .lt 7, 3, 16, 0, 0, 0)]
def bk_X11_pieceOf_12 : List It := [(.aconst_null, 1, 0, 0, 0, 0), (.goto 9, 3, 22, 0, 0, 0)]
def bk_X11_pieceOf_16 : List It := [(.aload_n 0, 1, 0, 0, 0, 0), (.getfield 11, 3, 11, 0, 2, 0), (.iload_n 1, 1, 1, 0, 0, 0), (.aaload, 1, 0, 0, 0, 0)]
def bk_X11_pieceOf_22 : List It := [(.areturn, 1, 0, 0, 0, 0)]
def bl_X11_pieceOf : List (Nat × List It) := [(0, bk_X11_pieceOf_0), (12, bk_X11_pieceOf_12), (16, bk_X11_pieceOf_16), (22, bk_X11_pieceOf_22)]
theorem bq_X11_pieceOf_0 : lkB bl_X11_pieceOf 0 = bk_X11_pieceOf_0 := rfl
theorem bq_X11_pieceOf_12 : lkB bl_X11_pieceOf 12 = bk_X11_pieceOf_12 := rfl
theorem bq_X11_pieceOf_16 : lkB bl_X11_pieceOf 16 = bk_X11_pieceOf_16 := rfl
theorem bq_X11_pieceOf_22 : lkB bl_X11_pieceOf 22 = bk_X11_pieceOf_22 := rfl
set_option maxRecDepth 20000 in
theorem ck_X11_pieceOf : ckB rs_X11_pieceOf false 11 2 prog_1_method_47_code bl_X11_pieceOf = true := by decide +kernel

def rs_X11_eyeOf : Rs := rf_X11 []
def bk_X11_eyeOf_0 : List It := [(.iload_n 1, 1, 1, 0, 0, 0), (.ifCond .lt 11, 3, 12, 0, 0, 0), (.iload_n 1, 1, 1, 0, 0, 0), (.aload_n 0, 1, 0, 0, 0, 0), (.getfield 130, 3, 11, 3, 0, 0), (.if_icmp .lt 7, 3, 16, 0, 0, 0)]
def bk_X11_eyeOf_12 : List It := [(.aconst_null, 1, 0, 0, 0, 0), (.goto 9, 3, 22, 0, 0, 0)]
def bk_X11_eyeOf_16 : List It := [(.aload_n 0, 1, 0, 0, 0, 0), (.getfield 17, 3, 11, 2, 2, 0), (.iload_n 1, 1, 1, 0, 0, 0), (.aaload, 1, 0, 0, 0, 0)]
def bk_X11_eyeOf_22 : List It := [(.areturn, 1, 0, 0, 0, 0)]
def bl_X11_eyeOf : List (Nat × List It) := [(0, bk_X11_eyeOf_0), (12, bk_X11_eyeOf_12), (16, bk_X11_eyeOf_16), (22, bk_X11_eyeOf_22)]
theorem bq_X11_eyeOf_0 : lkB bl_X11_eyeOf 0 = bk_X11_eyeOf_0 := rfl
theorem bq_X11_eyeOf_12 : lkB bl_X11_eyeOf 12 = bk_X11_eyeOf_12 := rfl
theorem bq_X11_eyeOf_16 : lkB bl_X11_eyeOf 16 = bk_X11_eyeOf_16 := rfl
theorem bq_X11_eyeOf_22 : lkB bl_X11_eyeOf 22 = bk_X11_eyeOf_22 := rfl
set_option maxRecDepth 20000 in
theorem ck_X11_eyeOf : ckB rs_X11_eyeOf false 11 2 prog_1_method_48_code bl_X11_eyeOf = true := by decide +kernel

def rs_X11_listedAt : Rs := rf_X11 []
def bk_X11_listedAt_0 : List It := [(.iload_n 1, 1, 1, 0, 0, 0), (.ifCond .lt 11, 3, 12, 0, 0, 0), (.iload_n 1, 1, 1, 0, 0, 0), (.aload_n 0, 1, 0, 0, 0, 0), (.getfield 192, 3, 11, 16, 0, 0), (.if_icmp .lt 8, 3, 17, 0, 0, 0)]
def bk_X11_listedAt_12 : List It := [(.ldc 154, 2, 0, 0, 0, (-900009)), (.goto 9, 3, 23, 0, 0, 0)]
def bk_X11_listedAt_17 : List It := [(.aload_n 0, 1, 0, 0, 0, 0), (.getfield 75, 3, 11, 15, 2, 0), (.iload_n 1, 1, 1, 0, 0, 0), (.iaload, 1, 0, 0, 0, 0)]
def bk_X11_listedAt_23 : List It := [(.ireturn, 1, 0, 0, 0, 0)]
def bl_X11_listedAt : List (Nat × List It) := [(0, bk_X11_listedAt_0), (12, bk_X11_listedAt_12), (17, bk_X11_listedAt_17), (23, bk_X11_listedAt_23)]
theorem bq_X11_listedAt_0 : lkB bl_X11_listedAt 0 = bk_X11_listedAt_0 := rfl
theorem bq_X11_listedAt_12 : lkB bl_X11_listedAt 12 = bk_X11_listedAt_12 := rfl
theorem bq_X11_listedAt_17 : lkB bl_X11_listedAt 17 = bk_X11_listedAt_17 := rfl
theorem bq_X11_listedAt_23 : lkB bl_X11_listedAt 23 = bk_X11_listedAt_23 := rfl
set_option maxRecDepth 20000 in
theorem ck_X11_listedAt : ckB rs_X11_listedAt false 11 2 prog_1_method_49_code bl_X11_listedAt = true := by decide +kernel

def rs_X11_countIn : Rs := rf_X11 [(1, 95, 1, 98, 0)]
def bk_X11_countIn_0 : List It := [(.iconst 0, 1, 0, 0, 0, 0), (.istore_n 1, 1, 1, 0, 0, 0), (.iconst 0, 1, 0, 0, 0, 0), (.istore_n 2, 1, 2, 0, 0, 0)]
def bk_X11_countIn_4 : List It := [(.iload_n 2, 1, 2, 0, 0, 0), (.aload_n 0, 1, 0, 0, 0, 0), (.getfield 79, 3, 11, 1, 0, 0), (.if_icmp .ge 24, 3, 33, 0, 0, 0), (.iload_n 1, 1, 1, 0, 0, 0), (.aload_n 0, 1, 0, 0, 0, 0), (.getfield 11, 3, 11, 0, 2, 0), (.iload_n 2, 1, 2, 0, 0, 0), (.aaload, 1, 0, 0, 0, 0), (.getfield 91, 3, 3, 1, 1, 0), (.invokestatic 95, 3, 1, 98, 0, 0), (.iadd, 1, 0, 0, 0, 0), (.istore_n 1, 1, 1, 0, 0, 0), (.iinc 2 1, 3, 2, 0, 0, 1), (.goto (-26), 3, 4, 0, 0, 0)]
def bk_X11_countIn_33 : List It := [(.iload_n 1, 1, 1, 0, 0, 0), (.ireturn, 1, 0, 0, 0, 0)]
def bl_X11_countIn : List (Nat × List It) := [(0, bk_X11_countIn_0), (4, bk_X11_countIn_4), (33, bk_X11_countIn_33)]
theorem bq_X11_countIn_0 : lkB bl_X11_countIn 0 = bk_X11_countIn_0 := rfl
theorem bq_X11_countIn_4 : lkB bl_X11_countIn 4 = bk_X11_countIn_4 := rfl
theorem bq_X11_countIn_33 : lkB bl_X11_countIn 33 = bk_X11_countIn_33 := rfl
set_option maxRecDepth 20000 in
theorem ck_X11_countIn : ckB rs_X11_countIn false 11 3 prog_1_method_50_code bl_X11_countIn = true := by decide +kernel

def rs_X11_countWorking : Rs := rf_X11 [(0, 146, 0, 1, 0), (1, 95, 1, 98, 0)]
def bk_X11_countWorking_0 : List It := [(.iconst 0, 1, 0, 0, 0, 0), (.istore_n 1, 1, 1, 0, 0, 0), (.iconst 0, 1, 0, 0, 0, 0), (.istore_n 2, 1, 2, 0, 0, 0)]
def bk_X11_countWorking_4 : List It := [(.iload_n 2, 1, 2, 0, 0, 0), (.aload_n 0, 1, 0, 0, 0, 0), (.getfield 130, 3, 11, 3, 0, 0), (.if_icmp .ge 24, 3, 33, 0, 0, 0), (.iload_n 1, 1, 1, 0, 0, 0), (.aload_n 0, 1, 0, 0, 0, 0), (.getfield 17, 3, 11, 2, 2, 0), (.iload_n 2, 1, 2, 0, 0, 0), (.aaload, 1, 0, 0, 0, 0), (.invokevirtual 146, 3, 0, 1, 0, 0), (.invokestatic 95, 3, 1, 98, 0, 0), (.iadd, 1, 0, 0, 0, 0), (.istore_n 1, 1, 1, 0, 0, 0), (.iinc 2 1, 3, 2, 0, 0, 1), (.goto (-26), 3, 4, 0, 0, 0)]
def bk_X11_countWorking_33 : List It := [(.iload_n 1, 1, 1, 0, 0, 0), (.ireturn, 1, 0, 0, 0, 0)]
def bl_X11_countWorking : List (Nat × List It) := [(0, bk_X11_countWorking_0), (4, bk_X11_countWorking_4), (33, bk_X11_countWorking_33)]
theorem bq_X11_countWorking_0 : lkB bl_X11_countWorking 0 = bk_X11_countWorking_0 := rfl
theorem bq_X11_countWorking_4 : lkB bl_X11_countWorking 4 = bk_X11_countWorking_4 := rfl
theorem bq_X11_countWorking_33 : lkB bl_X11_countWorking 33 = bk_X11_countWorking_33 := rfl
set_option maxRecDepth 20000 in
theorem ck_X11_countWorking : ckB rs_X11_countWorking false 11 3 prog_1_method_51_code bl_X11_countWorking = true := by decide +kernel

def rs_X11_countReadings : Rs := rf_X11 [(0, 288, 0, 2, 0), (1, 95, 1, 98, 0)]
def bk_X11_countReadings_0 : List It := [(.iconst 0, 1, 0, 0, 0, 0), (.istore_n 1, 1, 1, 0, 0, 0), (.iconst 0, 1, 0, 0, 0, 0), (.istore_n 2, 1, 2, 0, 0, 0)]
def bk_X11_countReadings_4 : List It := [(.iload_n 2, 1, 2, 0, 0, 0), (.aload_n 0, 1, 0, 0, 0, 0), (.getfield 130, 3, 11, 3, 0, 0), (.if_icmp .ge 24, 3, 33, 0, 0, 0), (.iload_n 1, 1, 1, 0, 0, 0), (.aload_n 0, 1, 0, 0, 0, 0), (.getfield 17, 3, 11, 2, 2, 0), (.iload_n 2, 1, 2, 0, 0, 0), (.aaload, 1, 0, 0, 0, 0), (.invokevirtual 288, 3, 0, 2, 0, 0), (.invokestatic 95, 3, 1, 98, 0, 0), (.iadd, 1, 0, 0, 0, 0), (.istore_n 1, 1, 1, 0, 0, 0), (.iinc 2 1, 3, 2, 0, 0, 1), (.goto (-26), 3, 4, 0, 0, 0)]
def bk_X11_countReadings_33 : List It := [(.iload_n 1, 1, 1, 0, 0, 0), (.ireturn, 1, 0, 0, 0, 0)]
def bl_X11_countReadings : List (Nat × List It) := [(0, bk_X11_countReadings_0), (4, bk_X11_countReadings_4), (33, bk_X11_countReadings_33)]
theorem bq_X11_countReadings_0 : lkB bl_X11_countReadings 0 = bk_X11_countReadings_0 := rfl
theorem bq_X11_countReadings_4 : lkB bl_X11_countReadings 4 = bk_X11_countReadings_4 := rfl
theorem bq_X11_countReadings_33 : lkB bl_X11_countReadings 33 = bk_X11_countReadings_33 := rfl
set_option maxRecDepth 20000 in
theorem ck_X11_countReadings : ckB rs_X11_countReadings false 11 3 prog_1_method_52_code bl_X11_countReadings = true := by decide +kernel

def rs_X11_rankWithout : Rs := rf_X11 [(0, 291, 0, 23, 6), (0, 146, 0, 1, 0), (0, 294, 1, 3, 0), (0, 297, 2, 24, 6), (0, 176, 0, 27, 6)]
def bk_X11_rankWithout_0 : List It := [(.aload_n 0, 1, 0, 0, 0, 0), (.getfield 43, 3, 11, 10, 2, 0), (.invokevirtual 291, 3, 0, 23, 6, 0)]
def bk_X11_rankWithout_7 : List It := [(.iconst 0, 1, 0, 0, 0, 0), (.istore_n 3, 1, 3, 0, 0, 0)]
def bk_X11_rankWithout_9 : List It := [(.iload_n 3, 1, 3, 0, 0, 0), (.aload_n 0, 1, 0, 0, 0, 0), (.getfield 130, 3, 11, 3, 0, 0), (.if_icmp .ge 53, 3, 67, 0, 0, 0), (.iload_n 3, 1, 3, 0, 0, 0), (.iload_n 1, 1, 1, 0, 0, 0), (.if_icmp .eq 42, 3, 61, 0, 0, 0), (.aload_n 0, 1, 0, 0, 0, 0), (.getfield 17, 3, 11, 2, 2, 0), (.iload_n 3, 1, 3, 0, 0, 0), (.aaload, 1, 0, 0, 0, 0), (.invokevirtual 146, 3, 0, 1, 0, 0)]
def bk_X11_rankWithout_31 : List It := [(.ifCond .eq 30, 3, 61, 0, 0, 0), (.aload_n 0, 1, 0, 0, 0, 0), (.getfield 17, 3, 11, 2, 2, 0), (.iload_n 3, 1, 3, 0, 0, 0), (.aaload, 1, 0, 0, 0, 0), (.iload_n 2, 1, 2, 0, 0, 0), (.invokevirtual 294, 3, 1, 3, 0, 0)]
def bk_X11_rankWithout_44 : List It := [(.ifCond .ne 17, 3, 61, 0, 0, 0), (.aload_n 0, 1, 0, 0, 0, 0), (.getfield 43, 3, 11, 10, 2, 0), (.aload_n 0, 1, 0, 0, 0, 0), (.getfield 17, 3, 11, 2, 2, 0), (.iload_n 3, 1, 3, 0, 0, 0), (.aaload, 1, 0, 0, 0, 0), (.iconst 0, 1, 0, 0, 0, 0), (.invokevirtual 297, 3, 2, 24, 6, 0)]
def bk_X11_rankWithout_61 : List It := [(.iinc 3 1, 3, 3, 0, 0, 1), (.goto (-55), 3, 9, 0, 0, 0)]
def bk_X11_rankWithout_67 : List It := [(.aload_n 0, 1, 0, 0, 0, 0), (.getfield 43, 3, 11, 10, 2, 0), (.invokevirtual 176, 3, 0, 27, 6, 0)]
def bk_X11_rankWithout_74 : List It := [(.ireturn, 1, 0, 0, 0, 0)]
def bl_X11_rankWithout : List (Nat × List It) := [(0, bk_X11_rankWithout_0), (7, bk_X11_rankWithout_7), (9, bk_X11_rankWithout_9), (31, bk_X11_rankWithout_31), (44, bk_X11_rankWithout_44), (61, bk_X11_rankWithout_61), (67, bk_X11_rankWithout_67), (74, bk_X11_rankWithout_74)]
theorem bq_X11_rankWithout_0 : lkB bl_X11_rankWithout 0 = bk_X11_rankWithout_0 := rfl
theorem bq_X11_rankWithout_7 : lkB bl_X11_rankWithout 7 = bk_X11_rankWithout_7 := rfl
theorem bq_X11_rankWithout_9 : lkB bl_X11_rankWithout 9 = bk_X11_rankWithout_9 := rfl
theorem bq_X11_rankWithout_31 : lkB bl_X11_rankWithout 31 = bk_X11_rankWithout_31 := rfl
theorem bq_X11_rankWithout_44 : lkB bl_X11_rankWithout 44 = bk_X11_rankWithout_44 := rfl
theorem bq_X11_rankWithout_61 : lkB bl_X11_rankWithout 61 = bk_X11_rankWithout_61 := rfl
theorem bq_X11_rankWithout_67 : lkB bl_X11_rankWithout 67 = bk_X11_rankWithout_67 := rfl
theorem bq_X11_rankWithout_74 : lkB bl_X11_rankWithout 74 = bk_X11_rankWithout_74 := rfl
set_option maxRecDepth 20000 in
theorem ck_X11_rankWithout : ckB rs_X11_rankWithout false 11 4 prog_1_method_53_code bl_X11_rankWithout = true := by decide +kernel

def rs_X11_agreesWithout : Rs := rf_X11 [(0, 291, 0, 23, 6), (0, 288, 0, 2, 0), (0, 297, 2, 24, 6), (0, 301, 0, 28, 6)]
def bk_X11_agreesWithout_0 : List It := [(.aload_n 0, 1, 0, 0, 0, 0), (.getfield 43, 3, 11, 10, 2, 0), (.invokevirtual 291, 3, 0, 23, 6, 0)]
def bk_X11_agreesWithout_7 : List It := [(.iconst 0, 1, 0, 0, 0, 0), (.istore_n 2, 1, 2, 0, 0, 0)]
def bk_X11_agreesWithout_9 : List It := [(.iload_n 2, 1, 2, 0, 0, 0), (.aload_n 0, 1, 0, 0, 0, 0), (.getfield 130, 3, 11, 3, 0, 0), (.if_icmp .ge 58, 3, 72, 0, 0, 0), (.iload_n 2, 1, 2, 0, 0, 0), (.iload_n 1, 1, 1, 0, 0, 0), (.if_icmp .eq 47, 3, 66, 0, 0, 0), (.aload_n 0, 1, 0, 0, 0, 0), (.getfield 17, 3, 11, 2, 2, 0), (.iload_n 2, 1, 2, 0, 0, 0), (.aaload, 1, 0, 0, 0, 0), (.invokevirtual 288, 3, 0, 2, 0, 0)]
def bk_X11_agreesWithout_31 : List It := [(.ifCond .eq 35, 3, 66, 0, 0, 0), (.aload_n 0, 1, 0, 0, 0, 0), (.getfield 43, 3, 11, 10, 2, 0), (.aload_n 0, 1, 0, 0, 0, 0), (.getfield 17, 3, 11, 2, 2, 0), (.iload_n 2, 1, 2, 0, 0, 0), (.aaload, 1, 0, 0, 0, 0), (.aload_n 0, 1, 0, 0, 0, 0), (.getfield 17, 3, 11, 2, 2, 0), (.iload_n 2, 1, 2, 0, 0, 0), (.aaload, 1, 0, 0, 0, 0), (.getfield 179, 3, 0, 7, 0, 0), (.aload_n 0, 1, 0, 0, 0, 0), (.getfield 17, 3, 11, 2, 2, 0), (.iload_n 2, 1, 2, 0, 0, 0), (.aaload, 1, 0, 0, 0, 0), (.getfield 143, 3, 0, 6, 0, 0), (.isub, 1, 0, 0, 0, 0), (.invokevirtual 297, 3, 2, 24, 6, 0)]
def bk_X11_agreesWithout_66 : List It := [(.iinc 2 1, 3, 2, 0, 0, 1), (.goto (-60), 3, 9, 0, 0, 0)]
def bk_X11_agreesWithout_72 : List It := [(.aload_n 0, 1, 0, 0, 0, 0), (.getfield 43, 3, 11, 10, 2, 0), (.invokevirtual 301, 3, 0, 28, 6, 0)]
def bk_X11_agreesWithout_79 : List It := [(.ireturn, 1, 0, 0, 0, 0)]
def bl_X11_agreesWithout : List (Nat × List It) := [(0, bk_X11_agreesWithout_0), (7, bk_X11_agreesWithout_7), (9, bk_X11_agreesWithout_9), (31, bk_X11_agreesWithout_31), (66, bk_X11_agreesWithout_66), (72, bk_X11_agreesWithout_72), (79, bk_X11_agreesWithout_79)]
theorem bq_X11_agreesWithout_0 : lkB bl_X11_agreesWithout 0 = bk_X11_agreesWithout_0 := rfl
theorem bq_X11_agreesWithout_7 : lkB bl_X11_agreesWithout 7 = bk_X11_agreesWithout_7 := rfl
theorem bq_X11_agreesWithout_9 : lkB bl_X11_agreesWithout 9 = bk_X11_agreesWithout_9 := rfl
theorem bq_X11_agreesWithout_31 : lkB bl_X11_agreesWithout 31 = bk_X11_agreesWithout_31 := rfl
theorem bq_X11_agreesWithout_66 : lkB bl_X11_agreesWithout 66 = bk_X11_agreesWithout_66 := rfl
theorem bq_X11_agreesWithout_72 : lkB bl_X11_agreesWithout 72 = bk_X11_agreesWithout_72 := rfl
theorem bq_X11_agreesWithout_79 : lkB bl_X11_agreesWithout 79 = bk_X11_agreesWithout_79 := rfl
set_option maxRecDepth 20000 in
theorem ck_X11_agreesWithout : ckB rs_X11_agreesWithout false 11 3 prog_1_method_54_code bl_X11_agreesWithout = true := by decide +kernel

def rs_X11_listCheapest : Rs := rf_X11 [(0, 291, 0, 23, 6), (0, 146, 0, 1, 0), (0, 176, 0, 27, 6), (0, 297, 2, 24, 6), (0, 307, 1, 111, 11)]
def bk_X11_listCheapest_0 : List It := [(.iconst 0, 1, 0, 0, 0, 0), (.istore_n 1, 1, 1, 0, 0, 0), (.iconst 0, 1, 0, 0, 0, 0), (.istore_n 2, 1, 2, 0, 0, 0), (.aload_n 0, 1, 0, 0, 0, 0), (.getfield 43, 3, 11, 10, 2, 0), (.invokevirtual 291, 3, 0, 23, 6, 0)]
def bk_X11_listCheapest_11 : List It := [(.iconst 1, 1, 0, 0, 0, 1), (.istore_n 3, 1, 3, 0, 0, 0)]
def bk_X11_listCheapest_13 : List It := [(.iload_n 3, 1, 3, 0, 0, 0), (.bipush 99, 2, 0, 0, 0, 99), (.if_icmp .gt 101, 3, 117, 0, 0, 0), (.iconst 0, 1, 0, 0, 0, 0), (.istore 4, 2, 4, 0, 0, 0)]
def bk_X11_listCheapest_22 : List It := [(.iload 4, 2, 4, 0, 0, 0), (.aload_n 0, 1, 0, 0, 0, 0), (.getfield 130, 3, 11, 3, 0, 0), (.if_icmp .ge 83, 3, 111, 0, 0, 0), (.aload_n 0, 1, 0, 0, 0, 0), (.getfield 17, 3, 11, 2, 2, 0), (.iload 4, 2, 4, 0, 0, 0), (.aaload, 1, 0, 0, 0, 0), (.getfield 304, 3, 0, 4, 0, 0), (.iload_n 3, 1, 3, 0, 0, 0), (.if_icmp .ne 63, 3, 105, 0, 0, 0), (.aload_n 0, 1, 0, 0, 0, 0), (.getfield 17, 3, 11, 2, 2, 0), (.iload 4, 2, 4, 0, 0, 0), (.aaload, 1, 0, 0, 0, 0), (.invokevirtual 146, 3, 0, 1, 0, 0)]
def bk_X11_listCheapest_55 : List It := [(.ifCond .eq 50, 3, 105, 0, 0, 0), (.aload_n 0, 1, 0, 0, 0, 0), (.getfield 43, 3, 11, 10, 2, 0), (.invokevirtual 176, 3, 0, 27, 6, 0)]
def bk_X11_listCheapest_65 : List It := [(.istore 5, 2, 5, 0, 0, 0), (.aload_n 0, 1, 0, 0, 0, 0), (.getfield 43, 3, 11, 10, 2, 0), (.aload_n 0, 1, 0, 0, 0, 0), (.getfield 17, 3, 11, 2, 2, 0), (.iload 4, 2, 4, 0, 0, 0), (.aaload, 1, 0, 0, 0, 0), (.iconst 0, 1, 0, 0, 0, 0), (.invokevirtual 297, 3, 2, 24, 6, 0)]
def bk_X11_listCheapest_82 : List It := [(.aload_n 0, 1, 0, 0, 0, 0), (.getfield 43, 3, 11, 10, 2, 0), (.invokevirtual 176, 3, 0, 27, 6, 0)]
def bk_X11_listCheapest_89 : List It := [(.iload 5, 2, 5, 0, 0, 0), (.if_icmp .le 14, 3, 105, 0, 0, 0), (.iload_n 1, 1, 1, 0, 0, 0), (.iload_n 3, 1, 3, 0, 0, 0), (.iadd, 1, 0, 0, 0, 0), (.istore_n 1, 1, 1, 0, 0, 0), (.iload_n 2, 1, 2, 0, 0, 0), (.iconst 1, 1, 0, 0, 0, 1), (.iload 4, 2, 4, 0, 0, 0), (.ishl, 1, 0, 0, 0, 0), (.ior, 1, 0, 0, 0, 0), (.istore_n 2, 1, 2, 0, 0, 0)]
def bk_X11_listCheapest_105 : List It := [(.iinc 4 1, 3, 4, 0, 0, 1), (.goto (-86), 3, 22, 0, 0, 0)]
def bk_X11_listCheapest_111 : List It := [(.iinc 3 1, 3, 3, 0, 0, 1), (.goto (-101), 3, 13, 0, 0, 0)]
def bk_X11_listCheapest_117 : List It := [(.aload_n 0, 1, 0, 0, 0, 0), (.iload_n 2, 1, 2, 0, 0, 0), (.invokevirtual 307, 3, 1, 111, 11, 0)]
def bk_X11_listCheapest_122 : List It := [(.iload_n 1, 1, 1, 0, 0, 0), (.ireturn, 1, 0, 0, 0, 0)]
def bl_X11_listCheapest : List (Nat × List It) := [(0, bk_X11_listCheapest_0), (11, bk_X11_listCheapest_11), (13, bk_X11_listCheapest_13), (22, bk_X11_listCheapest_22), (55, bk_X11_listCheapest_55), (65, bk_X11_listCheapest_65), (82, bk_X11_listCheapest_82), (89, bk_X11_listCheapest_89), (105, bk_X11_listCheapest_105), (111, bk_X11_listCheapest_111), (117, bk_X11_listCheapest_117), (122, bk_X11_listCheapest_122)]
theorem bq_X11_listCheapest_0 : lkB bl_X11_listCheapest 0 = bk_X11_listCheapest_0 := rfl
theorem bq_X11_listCheapest_11 : lkB bl_X11_listCheapest 11 = bk_X11_listCheapest_11 := rfl
theorem bq_X11_listCheapest_13 : lkB bl_X11_listCheapest 13 = bk_X11_listCheapest_13 := rfl
theorem bq_X11_listCheapest_22 : lkB bl_X11_listCheapest 22 = bk_X11_listCheapest_22 := rfl
theorem bq_X11_listCheapest_55 : lkB bl_X11_listCheapest 55 = bk_X11_listCheapest_55 := rfl
theorem bq_X11_listCheapest_65 : lkB bl_X11_listCheapest 65 = bk_X11_listCheapest_65 := rfl
theorem bq_X11_listCheapest_82 : lkB bl_X11_listCheapest 82 = bk_X11_listCheapest_82 := rfl
theorem bq_X11_listCheapest_89 : lkB bl_X11_listCheapest 89 = bk_X11_listCheapest_89 := rfl
theorem bq_X11_listCheapest_105 : lkB bl_X11_listCheapest 105 = bk_X11_listCheapest_105 := rfl
theorem bq_X11_listCheapest_111 : lkB bl_X11_listCheapest 111 = bk_X11_listCheapest_111 := rfl
theorem bq_X11_listCheapest_117 : lkB bl_X11_listCheapest 117 = bk_X11_listCheapest_117 := rfl
theorem bq_X11_listCheapest_122 : lkB bl_X11_listCheapest 122 = bk_X11_listCheapest_122 := rfl
set_option maxRecDepth 20000 in
theorem ck_X11_listCheapest : ckB rs_X11_listCheapest false 11 6 prog_1_method_55_code bl_X11_listCheapest = true := by decide +kernel

def rs_X11_listLiars : Rs := rf_X11 [(0, 185, 1, 108, 11), (0, 288, 0, 2, 0), (0, 307, 1, 111, 11)]
def bk_X11_listLiars_0 : List It := [(.iconst 0, 1, 0, 0, 0, 0), (.istore_n 1, 1, 1, 0, 0, 0), (.aload_n 0, 1, 0, 0, 0, 0), (.ldc 154, 2, 0, 0, 0, (-900009)), (.invokevirtual 185, 3, 1, 108, 11, 0)]
def bk_X11_listLiars_8 : List It := [(.ifCond .ne 45, 3, 53, 0, 0, 0), (.iconst 0, 1, 0, 0, 0, 0), (.istore_n 2, 1, 2, 0, 0, 0)]
def bk_X11_listLiars_13 : List It := [(.iload_n 2, 1, 2, 0, 0, 0), (.aload_n 0, 1, 0, 0, 0, 0), (.getfield 130, 3, 11, 3, 0, 0), (.if_icmp .ge 35, 3, 53, 0, 0, 0), (.aload_n 0, 1, 0, 0, 0, 0), (.getfield 17, 3, 11, 2, 2, 0), (.iload_n 2, 1, 2, 0, 0, 0), (.aaload, 1, 0, 0, 0, 0), (.invokevirtual 288, 3, 0, 2, 0, 0)]
def bk_X11_listLiars_30 : List It := [(.ifCond .eq 17, 3, 47, 0, 0, 0), (.aload_n 0, 1, 0, 0, 0, 0), (.iload_n 2, 1, 2, 0, 0, 0), (.invokevirtual 185, 3, 1, 108, 11, 0)]
def bk_X11_listLiars_38 : List It := [(.ifCond .eq 9, 3, 47, 0, 0, 0), (.iload_n 1, 1, 1, 0, 0, 0), (.iconst 1, 1, 0, 0, 0, 1), (.iload_n 2, 1, 2, 0, 0, 0), (.ishl, 1, 0, 0, 0, 0), (.ior, 1, 0, 0, 0, 0), (.istore_n 1, 1, 1, 0, 0, 0)]
def bk_X11_listLiars_47 : List It := [(.iinc 2 1, 3, 2, 0, 0, 1), (.goto (-37), 3, 13, 0, 0, 0)]
def bk_X11_listLiars_53 : List It := [(.aload_n 0, 1, 0, 0, 0, 0), (.iload_n 1, 1, 1, 0, 0, 0), (.invokevirtual 307, 3, 1, 111, 11, 0)]
def bk_X11_listLiars_58 : List It := [(.return_, 1, 0, 0, 0, 0)]
def bl_X11_listLiars : List (Nat × List It) := [(0, bk_X11_listLiars_0), (8, bk_X11_listLiars_8), (13, bk_X11_listLiars_13), (30, bk_X11_listLiars_30), (38, bk_X11_listLiars_38), (47, bk_X11_listLiars_47), (53, bk_X11_listLiars_53), (58, bk_X11_listLiars_58)]
theorem bq_X11_listLiars_0 : lkB bl_X11_listLiars 0 = bk_X11_listLiars_0 := rfl
theorem bq_X11_listLiars_8 : lkB bl_X11_listLiars 8 = bk_X11_listLiars_8 := rfl
theorem bq_X11_listLiars_13 : lkB bl_X11_listLiars 13 = bk_X11_listLiars_13 := rfl
theorem bq_X11_listLiars_30 : lkB bl_X11_listLiars 30 = bk_X11_listLiars_30 := rfl
theorem bq_X11_listLiars_38 : lkB bl_X11_listLiars 38 = bk_X11_listLiars_38 := rfl
theorem bq_X11_listLiars_47 : lkB bl_X11_listLiars 47 = bk_X11_listLiars_47 := rfl
theorem bq_X11_listLiars_53 : lkB bl_X11_listLiars 53 = bk_X11_listLiars_53 := rfl
theorem bq_X11_listLiars_58 : lkB bl_X11_listLiars 58 = bk_X11_listLiars_58 := rfl
set_option maxRecDepth 20000 in
theorem ck_X11_listLiars : ckB rs_X11_listLiars false 11 3 prog_1_method_56_code bl_X11_listLiars = true := by decide +kernel

def rs_X11_list : Rs := rf_X11 []
def bk_X11_list_0 : List It := [(.aload_n 0, 1, 0, 0, 0, 0), (.iconst 0, 1, 0, 0, 0, 0), (.putfield 192, 3, 11, 16, 0, 0), (.iconst 0, 1, 0, 0, 0, 0), (.istore_n 2, 1, 2, 0, 0, 0)]
def bk_X11_list_7 : List It := [(.iload_n 2, 1, 2, 0, 0, 0), (.bipush 24, 2, 0, 0, 0, 24), (.if_icmp .ge 38, 3, 48, 0, 0, 0), (.iload_n 1, 1, 1, 0, 0, 0), (.iload_n 2, 1, 2, 0, 0, 0), (.ishr, 1, 0, 0, 0, 0), (.iconst 1, 1, 0, 0, 0, 1), (.iand, 1, 0, 0, 0, 0), (.iconst 1, 1, 0, 0, 0, 1), (.if_icmp .ne 23, 3, 42, 0, 0, 0), (.aload_n 0, 1, 0, 0, 0, 0), (.getfield 75, 3, 11, 15, 2, 0), (.aload_n 0, 1, 0, 0, 0, 0), (.getfield 192, 3, 11, 16, 0, 0), (.iload_n 2, 1, 2, 0, 0, 0), (.iastore, 1, 0, 0, 0, 0), (.aload_n 0, 1, 0, 0, 0, 0), (.dup, 1, 0, 0, 0, 0), (.getfield 192, 3, 11, 16, 0, 0), (.iconst 1, 1, 0, 0, 0, 1), (.iadd, 1, 0, 0, 0, 0), (.putfield 192, 3, 11, 16, 0, 0)]
def bk_X11_list_42 : List It := [(.iinc 2 1, 3, 2, 0, 0, 1), (.goto (-38), 3, 7, 0, 0, 0)]
def bk_X11_list_48 : List It := [(.return_, 1, 0, 0, 0, 0)]
def bl_X11_list : List (Nat × List It) := [(0, bk_X11_list_0), (7, bk_X11_list_7), (42, bk_X11_list_42), (48, bk_X11_list_48)]
theorem bq_X11_list_0 : lkB bl_X11_list 0 = bk_X11_list_0 := rfl
theorem bq_X11_list_7 : lkB bl_X11_list 7 = bk_X11_list_7 := rfl
theorem bq_X11_list_42 : lkB bl_X11_list 42 = bk_X11_list_42 := rfl
theorem bq_X11_list_48 : lkB bl_X11_list 48 = bk_X11_list_48 := rfl
set_option maxRecDepth 20000 in
theorem ck_X11_list : ckB rs_X11_list false 11 3 prog_1_method_57_code bl_X11_list = true := by decide +kernel

def rs_X11_barOf : Rs := rf_X11 [(0, 316, 1, 7, 1)]
def bk_X11_barOf_0 : List It := [(.iconst 0, 1, 0, 0, 0, 0), (.istore_n 2, 1, 2, 0, 0, 0)]
def bk_X11_barOf_2 : List It := [(.iload_n 2, 1, 2, 0, 0, 0), (.aload_n 0, 1, 0, 0, 0, 0), (.getfield 197, 3, 11, 5, 0, 0), (.if_icmp .ge 43, 3, 50, 0, 0, 0), (.aload_n 0, 1, 0, 0, 0, 0), (.getfield 23, 3, 11, 4, 2, 0), (.iload_n 2, 1, 2, 0, 0, 0), (.aaload, 1, 0, 0, 0, 0), (.getfield 310, 3, 1, 0, 0, 0), (.aload_n 1, 1, 1, 0, 0, 0), (.getfield 313, 3, 3, 0, 0, 0), (.if_icmp .ne 21, 3, 44, 0, 0, 0), (.aload_n 0, 1, 0, 0, 0, 0), (.getfield 23, 3, 11, 4, 2, 0), (.iload_n 2, 1, 2, 0, 0, 0), (.aaload, 1, 0, 0, 0, 0), (.aload_n 1, 1, 1, 0, 0, 0), (.getfield 104, 3, 3, 3, 2, 0), (.invokevirtual 316, 3, 1, 7, 1, 0), (.ifCond .eq 5, 3, 44, 0, 0, 0), (.iload_n 2, 1, 2, 0, 0, 0), (.ireturn, 1, 0, 0, 0, 0)]
def bk_X11_barOf_44 : List It := [(.iinc 2 1, 3, 2, 0, 0, 1), (.goto (-45), 3, 2, 0, 0, 0)]
def bk_X11_barOf_50 : List It := [(.ldc 154, 2, 0, 0, 0, (-900009)), (.ireturn, 1, 0, 0, 0, 0)]
def bl_X11_barOf : List (Nat × List It) := [(0, bk_X11_barOf_0), (2, bk_X11_barOf_2), (44, bk_X11_barOf_44), (50, bk_X11_barOf_50)]
theorem bq_X11_barOf_0 : lkB bl_X11_barOf 0 = bk_X11_barOf_0 := rfl
theorem bq_X11_barOf_2 : lkB bl_X11_barOf 2 = bk_X11_barOf_2 := rfl
theorem bq_X11_barOf_44 : lkB bl_X11_barOf 44 = bk_X11_barOf_44 := rfl
theorem bq_X11_barOf_50 : lkB bl_X11_barOf 50 = bk_X11_barOf_50 := rfl
set_option maxRecDepth 20000 in
theorem ck_X11_barOf : ckB rs_X11_barOf false 11 3 prog_1_method_58_code bl_X11_barOf = true := by decide +kernel

def rs_X11_joinAll : Rs := rf_X11 [(0, 233, 3, 40, 9), (0, 237, 0, 9, 2), (0, 240, 1, 41, 9)]
def bk_X11_joinAll_0 : List It := [(.aload_n 0, 1, 0, 0, 0, 0), (.getfield 50, 3, 11, 11, 2, 0), (.aload_n 0, 1, 0, 0, 0, 0), (.getfield 11, 3, 11, 0, 2, 0), (.aload_n 0, 1, 0, 0, 0, 0), (.getfield 79, 3, 11, 1, 0, 0), (.aload_n 0, 1, 0, 0, 0, 0), (.getfield 33, 3, 11, 8, 0, 0), (.invokevirtual 233, 3, 3, 40, 9, 0)]
def bk_X11_joinAll_19 : List It := [(.iconst 0, 1, 0, 0, 0, 0), (.istore_n 1, 1, 1, 0, 0, 0)]
def bk_X11_joinAll_21 : List It := [(.iload_n 1, 1, 1, 0, 0, 0), (.aload_n 0, 1, 0, 0, 0, 0), (.getfield 215, 3, 11, 7, 0, 0), (.if_icmp .ge 34, 3, 60, 0, 0, 0), (.aload_n 0, 1, 0, 0, 0, 0), (.getfield 29, 3, 11, 6, 2, 0), (.iload_n 1, 1, 1, 0, 0, 0), (.aaload, 1, 0, 0, 0, 0), (.invokevirtual 237, 3, 0, 9, 2, 0)]
def bk_X11_joinAll_38 : List It := [(.ifCond .eq 16, 3, 54, 0, 0, 0), (.aload_n 0, 1, 0, 0, 0, 0), (.getfield 50, 3, 11, 11, 2, 0), (.aload_n 0, 1, 0, 0, 0, 0), (.getfield 29, 3, 11, 6, 2, 0), (.iload_n 1, 1, 1, 0, 0, 0), (.aaload, 1, 0, 0, 0, 0), (.invokevirtual 240, 3, 1, 41, 9, 0)]
def bk_X11_joinAll_54 : List It := [(.iinc 1 1, 3, 1, 0, 0, 1), (.goto (-36), 3, 21, 0, 0, 0)]
def bk_X11_joinAll_60 : List It := [(.return_, 1, 0, 0, 0, 0)]
def bl_X11_joinAll : List (Nat × List It) := [(0, bk_X11_joinAll_0), (19, bk_X11_joinAll_19), (21, bk_X11_joinAll_21), (38, bk_X11_joinAll_38), (54, bk_X11_joinAll_54), (60, bk_X11_joinAll_60)]
theorem bq_X11_joinAll_0 : lkB bl_X11_joinAll 0 = bk_X11_joinAll_0 := rfl
theorem bq_X11_joinAll_19 : lkB bl_X11_joinAll 19 = bk_X11_joinAll_19 := rfl
theorem bq_X11_joinAll_21 : lkB bl_X11_joinAll 21 = bk_X11_joinAll_21 := rfl
theorem bq_X11_joinAll_38 : lkB bl_X11_joinAll 38 = bk_X11_joinAll_38 := rfl
theorem bq_X11_joinAll_54 : lkB bl_X11_joinAll 54 = bk_X11_joinAll_54 := rfl
theorem bq_X11_joinAll_60 : lkB bl_X11_joinAll 60 = bk_X11_joinAll_60 := rfl
set_option maxRecDepth 20000 in
theorem ck_X11_joinAll : ckB rs_X11_joinAll false 11 2 prog_1_method_59_code bl_X11_joinAll = true := by decide +kernel
