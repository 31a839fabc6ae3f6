def rs_X12_init : Rs := rf_X12 [(2, 1, 0, 900, 0)]
def bk_X12_init_0 : List It := [(.aload_n 0, 1, 0, 0, 0, 0), (.invokespecial 1, 3, 0, 900, 0, 0)]
def bk_X12_init_4 : List It := [(.aload_n 0, 1, 0, 0, 0, 0), (.bipush 7, 2, 0, 0, 0, 7), (.newarray .boolean, 2, 201, 0, 0, 0), (.putfield 7, 3, 12, 1, 2, 0)]
def bk_X12_init_12 : List It := [(.aload_n 0, 1, 0, 0, 0, 0), (.bipush 21, 2, 0, 0, 0, 21), (.newarray .int, 2, 113, 0, 0, 0), (.putfield 13, 3, 12, 2, 2, 0)]
def bk_X12_init_20 : List It := [(.aload_n 0, 1, 0, 0, 0, 0), (.bipush 21, 2, 0, 0, 0, 21), (.newarray .int, 2, 114, 0, 0, 0), (.putfield 17, 3, 12, 3, 2, 0)]
def bk_X12_init_28 : List It := [(.aload_n 0, 1, 0, 0, 0, 0), (.bipush 24, 2, 0, 0, 0, 24), (.newarray .int, 2, 115, 0, 0, 0), (.putfield 20, 3, 12, 5, 2, 0)]
def bk_X12_init_36 : List It := [(.aload_n 0, 1, 0, 0, 0, 0), (.bipush 24, 2, 0, 0, 0, 24), (.newarray .int, 2, 116, 0, 0, 0), (.putfield 23, 3, 12, 6, 2, 0)]
def bk_X12_init_44 : List It := [(.aload_n 0, 1, 0, 0, 0, 0), (.bipush 24, 2, 0, 0, 0, 24), (.newarray .int, 2, 117, 0, 0, 0), (.putfield 26, 3, 12, 7, 2, 0)]
def bk_X12_init_52 : List It := [(.aload_n 0, 1, 0, 0, 0, 0), (.bipush 24, 2, 0, 0, 0, 24), (.newarray .int, 2, 118, 0, 0, 0), (.putfield 29, 3, 12, 8, 2, 0)]
def bk_X12_init_60 : List It := [(.aload_n 0, 1, 0, 0, 0, 0), (.bipush 24, 2, 0, 0, 0, 24), (.newarray .int, 2, 119, 0, 0, 0), (.putfield 32, 3, 12, 9, 2, 0)]
def bk_X12_init_68 : List It := [(.aload_n 0, 1, 0, 0, 0, 0), (.bipush 24, 2, 0, 0, 0, 24), (.newarray .boolean, 2, 202, 0, 0, 0), (.putfield 35, 3, 12, 10, 2, 0)]
def bk_X12_init_76 : List It := [(.aload_n 0, 1, 0, 0, 0, 0), (.bipush 24, 2, 0, 0, 0, 24), (.newarray .int, 2, 120, 0, 0, 0), (.putfield 38, 3, 12, 11, 2, 0)]
def bk_X12_init_84 : List It := [(.aload_n 0, 1, 0, 0, 0, 0), (.bipush 24, 2, 0, 0, 0, 24), (.newarray .int, 2, 121, 0, 0, 0), (.putfield 41, 3, 12, 12, 2, 0)]
def bk_X12_init_92 : List It := [(.aload_n 0, 1, 0, 0, 0, 0), (.sipush 572, 3, 0, 0, 0, 572), (.newarray .long, 2, 300, 0, 0, 0), (.putfield 44, 3, 12, 14, 2, 0)]
def bk_X12_init_101 : List It := [(.aload_n 0, 1, 0, 0, 0, 0), (.sipush 572, 3, 0, 0, 0, 572), (.newarray .long, 2, 301, 0, 0, 0), (.putfield 48, 3, 12, 15, 2, 0)]
def bk_X12_init_110 : List It := [(.aload_n 0, 1, 0, 0, 0, 0), (.bipush 21, 2, 0, 0, 0, 21), (.newarray .int, 2, 122, 0, 0, 0), (.putfield 51, 3, 12, 17, 2, 0)]
def bk_X12_init_118 : List It := [(.aload_n 0, 1, 0, 0, 0, 0), (.bipush 21, 2, 0, 0, 0, 21), (.newarray .int, 2, 123, 0, 0, 0), (.putfield 54, 3, 12, 18, 2, 0)]
def bk_X12_init_126 : List It := [(.aload_n 0, 1, 0, 0, 0, 0), (.bipush 21, 2, 0, 0, 0, 21), (.newarray .int, 2, 124, 0, 0, 0), (.putfield 57, 3, 12, 19, 2, 0)]
def bk_X12_init_134 : List It := [(.aload_n 0, 1, 0, 0, 0, 0), (.bipush 21, 2, 0, 0, 0, 21), (.newarray .int, 2, 125, 0, 0, 0), (.putfield 60, 3, 12, 20, 2, 0)]
def bk_X12_init_142 : List It := [(.aload_n 0, 1, 0, 0, 0, 0), (.bipush 21, 2, 0, 0, 0, 21), (.newarray .int, 2, 126, 0, 0, 0), (.putfield 63, 3, 12, 21, 2, 0)]
def bk_X12_init_150 : List It := [(.aload_n 0, 1, 0, 0, 0, 0), (.bipush 21, 2, 0, 0, 0, 21), (.newarray .int, 2, 127, 0, 0, 0), (.putfield 66, 3, 12, 22, 2, 0)]
def bk_X12_init_158 : List It := [(.aload_n 0, 1, 0, 0, 0, 0), (.bipush 20, 2, 0, 0, 0, 20), (.newarray .int, 2, 128, 0, 0, 0), (.putfield 69, 3, 12, 24, 2, 0)]
def bk_X12_init_166 : List It := [(.aload_n 0, 1, 0, 0, 0, 0), (.bipush 20, 2, 0, 0, 0, 20), (.newarray .int, 2, 129, 0, 0, 0), (.putfield 72, 3, 12, 25, 2, 0)]
def bk_X12_init_174 : List It := [(.aload_n 0, 1, 0, 0, 0, 0), (.bipush 20, 2, 0, 0, 0, 20), (.newarray .int, 2, 130, 0, 0, 0), (.putfield 75, 3, 12, 26, 2, 0)]
def bk_X12_init_182 : List It := [(.aload_n 0, 1, 0, 0, 0, 0), (.bipush 20, 2, 0, 0, 0, 20), (.newarray .int, 2, 131, 0, 0, 0), (.putfield 78, 3, 12, 27, 2, 0)]
def bk_X12_init_190 : List It := [(.aload_n 0, 1, 0, 0, 0, 0), (.iconst 3, 1, 0, 0, 0, 3), (.putfield 81, 3, 12, 28, 0, 0)]
def bk_X12_init_195 : List It := [(.aload_n 0, 1, 0, 0, 0, 0), (.bipush 7, 2, 0, 0, 0, 7), (.newarray .int, 2, 132, 0, 0, 0), (.putfield 85, 3, 12, 29, 2, 0)]
def bk_X12_init_203 : List It := [(.aload_n 0, 1, 0, 0, 0, 0), (.bipush 7, 2, 0, 0, 0, 7), (.newarray .int, 2, 133, 0, 0, 0), (.putfield 88, 3, 12, 30, 2, 0)]
def bk_X12_init_211 : List It := [(.aload_n 0, 1, 0, 0, 0, 0), (.bipush 7, 2, 0, 0, 0, 7), (.newarray .int, 2, 134, 0, 0, 0), (.putfield 91, 3, 12, 31, 2, 0)]
def bk_X12_init_219 : List It := [(.aload_n 0, 1, 0, 0, 0, 0), (.bipush 7, 2, 0, 0, 0, 7), (.newarray .int, 2, 135, 0, 0, 0), (.putfield 94, 3, 12, 32, 2, 0)]
def bk_X12_init_227 : List It := [(.aload_n 0, 1, 0, 0, 0, 0), (.bipush 21, 2, 0, 0, 0, 21), (.newarray .int, 2, 136, 0, 0, 0), (.putfield 97, 3, 12, 33, 2, 0)]
def bk_X12_init_235 : List It := [(.aload_n 0, 1, 0, 0, 0, 0), (.bipush 21, 2, 0, 0, 0, 21), (.newarray .int, 2, 137, 0, 0, 0), (.putfield 100, 3, 12, 34, 2, 0)]
def bk_X12_init_243 : List It := [(.aload_n 0, 1, 0, 0, 0, 0), (.bipush 7, 2, 0, 0, 0, 7), (.newarray .int, 2, 138, 0, 0, 0), (.putfield 103, 3, 12, 35, 2, 0)]
def bk_X12_init_251 : List It := [(.aload_n 0, 1, 0, 0, 0, 0), (.bipush 7, 2, 0, 0, 0, 7), (.newarray .int, 2, 139, 0, 0, 0), (.putfield 106, 3, 12, 36, 2, 0)]
def bk_X12_init_259 : List It := [(.aload_n 0, 1, 0, 0, 0, 0), (.bipush 7, 2, 0, 0, 0, 7), (.newarray .int, 2, 140, 0, 0, 0), (.putfield 109, 3, 12, 37, 2, 0)]
def bk_X12_init_267 : List It := [(.aload_n 0, 1, 0, 0, 0, 0), (.bipush 10, 2, 0, 0, 0, 10), (.putfield 112, 3, 12, 38, 0, 0)]
def bk_X12_init_273 : List It := [(.aload_n 0, 1, 0, 0, 0, 0), (.bipush 7, 2, 0, 0, 0, 7), (.newarray .int, 2, 141, 0, 0, 0), (.putfield 115, 3, 12, 39, 2, 0)]
def bk_X12_init_281 : List It := [(.iconst 0, 1, 0, 0, 0, 0), (.istore_n 1, 1, 1, 0, 0, 0)]
def bk_X12_init_283 : List It := [(.iload_n 1, 1, 1, 0, 0, 0), (.bipush 21, 2, 0, 0, 0, 21), (.if_icmp .ge 16, 3, 302, 0, 0, 0), (.aload_n 0, 1, 0, 0, 0, 0), (.getfield 100, 3, 12, 34, 2, 0), (.iload_n 1, 1, 1, 0, 0, 0), (.iconst 1, 1, 0, 0, 0, 1), (.iastore, 1, 0, 0, 0, 0), (.iinc 1 1, 3, 1, 0, 0, 1), (.goto (-16), 3, 283, 0, 0, 0)]
def bk_X12_init_302 : List It := [(.return_, 1, 0, 0, 0, 0)]
def bl_X12_init : List (Nat × List It) := [(0, bk_X12_init_0), (4, bk_X12_init_4), (12, bk_X12_init_12), (20, bk_X12_init_20), (28, bk_X12_init_28), (36, bk_X12_init_36), (44, bk_X12_init_44), (52, bk_X12_init_52), (60, bk_X12_init_60), (68, bk_X12_init_68), (76, bk_X12_init_76), (84, bk_X12_init_84), (92, bk_X12_init_92), (101, bk_X12_init_101), (110, bk_X12_init_110), (118, bk_X12_init_118), (126, bk_X12_init_126), (134, bk_X12_init_134), (142, bk_X12_init_142), (150, bk_X12_init_150), (158, bk_X12_init_158), (166, bk_X12_init_166), (174, bk_X12_init_174), (182, bk_X12_init_182), (190, bk_X12_init_190), (195, bk_X12_init_195), (203, bk_X12_init_203), (211, bk_X12_init_211), (219, bk_X12_init_219), (227, bk_X12_init_227), (235, bk_X12_init_235), (243, bk_X12_init_243), (251, bk_X12_init_251), (259, bk_X12_init_259), (267, bk_X12_init_267), (273, bk_X12_init_273), (281, bk_X12_init_281), (283, bk_X12_init_283), (302, bk_X12_init_302)]
theorem bq_X12_init_0 : lkB bl_X12_init 0 = bk_X12_init_0 := rfl
theorem bq_X12_init_4 : lkB bl_X12_init 4 = bk_X12_init_4 := rfl
theorem bq_X12_init_12 : lkB bl_X12_init 12 = bk_X12_init_12 := rfl
theorem bq_X12_init_20 : lkB bl_X12_init 20 = bk_X12_init_20 := rfl
theorem bq_X12_init_28 : lkB bl_X12_init 28 = bk_X12_init_28 := rfl
theorem bq_X12_init_36 : lkB bl_X12_init 36 = bk_X12_init_36 := rfl
theorem bq_X12_init_44 : lkB bl_X12_init 44 = bk_X12_init_44 := rfl
theorem bq_X12_init_52 : lkB bl_X12_init 52 = bk_X12_init_52 := rfl
theorem bq_X12_init_60 : lkB bl_X12_init 60 = bk_X12_init_60 := rfl
theorem bq_X12_init_68 : lkB bl_X12_init 68 = bk_X12_init_68 := rfl
theorem bq_X12_init_76 : lkB bl_X12_init 76 = bk_X12_init_76 := rfl
theorem bq_X12_init_84 : lkB bl_X12_init 84 = bk_X12_init_84 := rfl
theorem bq_X12_init_92 : lkB bl_X12_init 92 = bk_X12_init_92 := rfl
theorem bq_X12_init_101 : lkB bl_X12_init 101 = bk_X12_init_101 := rfl
theorem bq_X12_init_110 : lkB bl_X12_init 110 = bk_X12_init_110 := rfl
theorem bq_X12_init_118 : lkB bl_X12_init 118 = bk_X12_init_118 := rfl
theorem bq_X12_init_126 : lkB bl_X12_init 126 = bk_X12_init_126 := rfl
theorem bq_X12_init_134 : lkB bl_X12_init 134 = bk_X12_init_134 := rfl
theorem bq_X12_init_142 : lkB bl_X12_init 142 = bk_X12_init_142 := rfl
theorem bq_X12_init_150 : lkB bl_X12_init 150 = bk_X12_init_150 := rfl
theorem bq_X12_init_158 : lkB bl_X12_init 158 = bk_X12_init_158 := rfl
theorem bq_X12_init_166 : lkB bl_X12_init 166 = bk_X12_init_166 := rfl
theorem bq_X12_init_174 : lkB bl_X12_init 174 = bk_X12_init_174 := rfl
theorem bq_X12_init_182 : lkB bl_X12_init 182 = bk_X12_init_182 := rfl
theorem bq_X12_init_190 : lkB bl_X12_init 190 = bk_X12_init_190 := rfl
theorem bq_X12_init_195 : lkB bl_X12_init 195 = bk_X12_init_195 := rfl
theorem bq_X12_init_203 : lkB bl_X12_init 203 = bk_X12_init_203 := rfl
theorem bq_X12_init_211 : lkB bl_X12_init 211 = bk_X12_init_211 := rfl
theorem bq_X12_init_219 : lkB bl_X12_init 219 = bk_X12_init_219 := rfl
theorem bq_X12_init_227 : lkB bl_X12_init 227 = bk_X12_init_227 := rfl
theorem bq_X12_init_235 : lkB bl_X12_init 235 = bk_X12_init_235 := rfl
theorem bq_X12_init_243 : lkB bl_X12_init 243 = bk_X12_init_243 := rfl
theorem bq_X12_init_251 : lkB bl_X12_init 251 = bk_X12_init_251 := rfl
theorem bq_X12_init_259 : lkB bl_X12_init 259 = bk_X12_init_259 := rfl
theorem bq_X12_init_267 : lkB bl_X12_init 267 = bk_X12_init_267 := rfl
theorem bq_X12_init_273 : lkB bl_X12_init 273 = bk_X12_init_273 := rfl
theorem bq_X12_init_281 : lkB bl_X12_init 281 = bk_X12_init_281 := rfl
theorem bq_X12_init_283 : lkB bl_X12_init 283 = bk_X12_init_283 := rfl
theorem bq_X12_init_302 : lkB bl_X12_init 302 = bk_X12_init_302 := rfl
set_option maxRecDepth 20000 in
theorem ck_X12_init : ckB rs_X12_init true 12 2 prog_14_method_1_code bl_X12_init = true := by decide +kernel

def rs_X12_in : Rs := rf_X12 []
def bk_X12_in_0 : List It := [(.lload_n 0, 1, 0, 0, 0, 0), (.lload_n 2, 1, 2, 0, 0, 0), (.lcmp, 1, 0, 0, 0, 0), (.ifCond .lt 14, 3, 17, 0, 0, 0), (.lload_n 0, 1, 0, 0, 0, 0), (.lload 4, 2, 4, 0, 0, 0), (.lcmp, 1, 0, 0, 0, 0), (.ifCond .gt 7, 3, 17, 0, 0, 0), (.iconst 1, 1, 0, 0, 0, 1), (.goto 4, 3, 18, 0, 0, 0)]
def bk_X12_in_17 : List It := [(.iconst 0, 1, 0, 0, 0, 0)]
def bk_X12_in_18 : List It := [(.ireturn, 1, 0, 0, 0, 0)]
def bl_X12_in : List (Nat × List It) := [(0, bk_X12_in_0), (17, bk_X12_in_17), (18, bk_X12_in_18)]
theorem bq_X12_in_0 : lkB bl_X12_in 0 = bk_X12_in_0 := rfl
theorem bq_X12_in_17 : lkB bl_X12_in 17 = bk_X12_in_17 := rfl
theorem bq_X12_in_18 : lkB bl_X12_in 18 = bk_X12_in_18 := rfl
set_option maxRecDepth 20000 in
theorem ck_X12_in : ckB rs_X12_in false 12 6 prog_14_method_3_code bl_X12_in = true := by decide +kernel

def rs_X12_isPiece : Rs := rf_X12 [(1, 121, 3, 115, 0)]
def bk_X12_isPiece_0 : List It := [(.iload_n 1, 1, 1, 0, 0, 0), (.i2l, 1, 0, 0, 0, 0), (.lconst 0, 1, 0, 0, 0, 0), (.aload_n 0, 1, 0, 0, 0, 0), (.getfield 118, 3, 12, 0, 0, 0), (.iconst 1, 1, 0, 0, 0, 1), (.isub, 1, 0, 0, 0, 0), (.i2l, 1, 0, 0, 0, 0), (.invokestatic 121, 3, 3, 115, 0, 0)]
def bk_X12_isPiece_13 : List It := [(.ireturn, 1, 0, 0, 0, 0)]
def bl_X12_isPiece : List (Nat × List It) := [(0, bk_X12_isPiece_0), (13, bk_X12_isPiece_13)]
theorem bq_X12_isPiece_0 : lkB bl_X12_isPiece 0 = bk_X12_isPiece_0 := rfl
theorem bq_X12_isPiece_13 : lkB bl_X12_isPiece 13 = bk_X12_isPiece_13 := rfl
set_option maxRecDepth 20000 in
theorem ck_X12_isPiece : ckB rs_X12_isPiece false 12 2 prog_14_method_4_code bl_X12_isPiece = true := by decide +kernel

def rs_X12_inMany : Rs := rf_X12 []
def bk_X12_inMany_0 : List It := [(.iconst 0, 1, 0, 0, 0, 0), (.istore_n 1, 1, 1, 0, 0, 0), (.iconst 0, 1, 0, 0, 0, 0), (.istore_n 2, 1, 2, 0, 0, 0)]
def bk_X12_inMany_4 : List It := [(.iload_n 2, 1, 2, 0, 0, 0), (.aload_n 0, 1, 0, 0, 0, 0), (.getfield 118, 3, 12, 0, 0, 0), (.if_icmp .ge 26, 3, 35, 0, 0, 0), (.iload_n 1, 1, 1, 0, 0, 0), (.aload_n 0, 1, 0, 0, 0, 0), (.getfield 7, 3, 12, 1, 2, 0), (.iload_n 2, 1, 2, 0, 0, 0), (.baload, 1, 0, 0, 0, 0), (.ifCond .eq 7, 3, 26, 0, 0, 0), (.iconst 1, 1, 0, 0, 0, 1), (.goto 4, 3, 27, 0, 0, 0)]
def bk_X12_inMany_26 : List It := [(.iconst 0, 1, 0, 0, 0, 0)]
def bk_X12_inMany_27 : List It := [(.iadd, 1, 0, 0, 0, 0), (.istore_n 1, 1, 1, 0, 0, 0), (.iinc 2 1, 3, 2, 0, 0, 1), (.goto (-28), 3, 4, 0, 0, 0)]
def bk_X12_inMany_35 : List It := [(.iload_n 1, 1, 1, 0, 0, 0), (.ireturn, 1, 0, 0, 0, 0)]
def bl_X12_inMany : List (Nat × List It) := [(0, bk_X12_inMany_0), (4, bk_X12_inMany_4), (26, bk_X12_inMany_26), (27, bk_X12_inMany_27), (35, bk_X12_inMany_35)]
theorem bq_X12_inMany_0 : lkB bl_X12_inMany 0 = bk_X12_inMany_0 := rfl
theorem bq_X12_inMany_4 : lkB bl_X12_inMany 4 = bk_X12_inMany_4 := rfl
theorem bq_X12_inMany_26 : lkB bl_X12_inMany 26 = bk_X12_inMany_26 := rfl
theorem bq_X12_inMany_27 : lkB bl_X12_inMany 27 = bk_X12_inMany_27 := rfl
theorem bq_X12_inMany_35 : lkB bl_X12_inMany 35 = bk_X12_inMany_35 := rfl
set_option maxRecDepth 20000 in
theorem ck_X12_inMany : ckB rs_X12_inMany false 12 3 prog_14_method_5_code bl_X12_inMany = true := by decide +kernel

def rs_X12_piece : Rs := rf_X12 []
def bk_X12_piece_0 : List It := [(.aload_n 0, 1, 0, 0, 0, 0), (.getfield 118, 3, 12, 0, 0, 0), (.bipush 7, 2, 0, 0, 0, 7), (.if_icmp .ne 6, 3, 12, 0, 0, 0), (.ldc 125, 2, 0, 0, 0, (-900004)), (.ireturn, 1, 0, 0, 0, 0)]
def bk_X12_piece_12 : List It := [(.aload_n 0, 1, 0, 0, 0, 0), (.getfield 7, 3, 12, 1, 2, 0), (.aload_n 0, 1, 0, 0, 0, 0), (.getfield 118, 3, 12, 0, 0, 0), (.iconst 1, 1, 0, 0, 0, 1), (.bastore, 1, 0, 0, 0, 0), (.aload_n 0, 1, 0, 0, 0, 0), (.dup, 1, 0, 0, 0, 0), (.getfield 118, 3, 12, 0, 0, 0), (.iconst 1, 1, 0, 0, 0, 1), (.iadd, 1, 0, 0, 0, 0), (.putfield 118, 3, 12, 0, 0, 0), (.aload_n 0, 1, 0, 0, 0, 0), (.getfield 118, 3, 12, 0, 0, 0), (.iconst 1, 1, 0, 0, 0, 1), (.isub, 1, 0, 0, 0, 0), (.ireturn, 1, 0, 0, 0, 0)]
def bl_X12_piece : List (Nat × List It) := [(0, bk_X12_piece_0), (12, bk_X12_piece_12)]
theorem bq_X12_piece_0 : lkB bl_X12_piece 0 = bk_X12_piece_0 := rfl
theorem bq_X12_piece_12 : lkB bl_X12_piece 12 = bk_X12_piece_12 := rfl
set_option maxRecDepth 20000 in
theorem ck_X12_piece : ckB rs_X12_piece false 12 1 prog_14_method_6_code bl_X12_piece = true := by decide +kernel

def rs_X12_put : Rs := rf_X12 [(0, 126, 1, 116, 12)]
def bk_X12_put_0 : List It := [(.aload_n 0, 1, 0, 0, 0, 0), (.iload_n 1, 1, 1, 0, 0, 0), (.invokevirtual 126, 3, 1, 116, 12, 0)]
def bk_X12_put_5 : List It := [(.ifCond .ne 6, 3, 11, 0, 0, 0), (.ldc 130, 2, 0, 0, 0, (-900001)), (.ireturn, 1, 0, 0, 0, 0)]
def bk_X12_put_11 : List It := [(.aload_n 0, 1, 0, 0, 0, 0), (.getfield 7, 3, 12, 1, 2, 0), (.iload_n 1, 1, 1, 0, 0, 0), (.baload, 1, 0, 0, 0, 0), (.ifCond .eq 7, 3, 24, 0, 0, 0), (.iconst 1, 1, 0, 0, 0, 1), (.goto 4, 3, 25, 0, 0, 0)]
def bk_X12_put_24 : List It := [(.iconst 0, 1, 0, 0, 0, 0)]
def bk_X12_put_25 : List It := [(.istore_n 3, 1, 3, 0, 0, 0), (.aload_n 0, 1, 0, 0, 0, 0), (.getfield 7, 3, 12, 1, 2, 0), (.iload_n 1, 1, 1, 0, 0, 0), (.iload_n 2, 1, 2, 0, 0, 0), (.bastore, 1, 0, 0, 0, 0), (.iload_n 3, 1, 3, 0, 0, 0), (.ireturn, 1, 0, 0, 0, 0)]
def bl_X12_put : List (Nat × List It) := [(0, bk_X12_put_0), (5, bk_X12_put_5), (11, bk_X12_put_11), (24, bk_X12_put_24), (25, bk_X12_put_25)]
theorem bq_X12_put_0 : lkB bl_X12_put 0 = bk_X12_put_0 := rfl
theorem bq_X12_put_5 : lkB bl_X12_put 5 = bk_X12_put_5 := rfl
theorem bq_X12_put_11 : lkB bl_X12_put 11 = bk_X12_put_11 := rfl
theorem bq_X12_put_24 : lkB bl_X12_put 24 = bk_X12_put_24 := rfl
theorem bq_X12_put_25 : lkB bl_X12_put 25 = bk_X12_put_25 := rfl
set_option maxRecDepth 20000 in
theorem ck_X12_put : ckB rs_X12_put false 12 4 prog_14_method_7_code bl_X12_put = true := by decide +kernel

def rs_X12_wish : Rs := rf_X12 [(0, 126, 1, 116, 12), (1, 121, 3, 115, 0)]
def bk_X12_wish_0 : List It := [(.aload_n 0, 1, 0, 0, 0, 0), (.iload_n 1, 1, 1, 0, 0, 0), (.invokevirtual 126, 3, 1, 116, 12, 0)]
def bk_X12_wish_5 : List It := [(.ifCond .ne 6, 3, 11, 0, 0, 0), (.ldc 130, 2, 0, 0, 0, (-900001)), (.ireturn, 1, 0, 0, 0, 0)]
def bk_X12_wish_11 : List It := [(.iload_n 2, 1, 2, 0, 0, 0), (.i2l, 1, 0, 0, 0, 0), (.ldc2_w 131, 3, 0, 0, 0, (-99)), (.ldc2_w 133, 3, 0, 0, 0, 99), (.invokestatic 121, 3, 3, 115, 0, 0)]
def bk_X12_wish_22 : List It := [(.ifCond .eq 32, 3, 54, 0, 0, 0), (.iload_n 3, 1, 3, 0, 0, 0), (.i2l, 1, 0, 0, 0, 0), (.ldc2_w 135, 3, 0, 0, 0, (-9)), (.ldc2_w 137, 3, 0, 0, 0, 9), (.invokestatic 121, 3, 3, 115, 0, 0)]
def bk_X12_wish_36 : List It := [(.ifCond .eq 18, 3, 54, 0, 0, 0), (.iload 4, 2, 4, 0, 0, 0), (.i2l, 1, 0, 0, 0, 0), (.ldc2_w 135, 3, 0, 0, 0, (-9)), (.ldc2_w 137, 3, 0, 0, 0, 9), (.invokestatic 121, 3, 3, 115, 0, 0)]
def bk_X12_wish_51 : List It := [(.ifCond .ne 6, 3, 57, 0, 0, 0)]
def bk_X12_wish_54 : List It := [(.ldc 139, 2, 0, 0, 0, (-900002)), (.ireturn, 1, 0, 0, 0, 0)]
def bk_X12_wish_57 : List It := [(.aload_n 0, 1, 0, 0, 0, 0), (.getfield 17, 3, 12, 3, 2, 0), (.iconst 3, 1, 0, 0, 0, 3), (.iload_n 1, 1, 1, 0, 0, 0), (.imul, 1, 0, 0, 0, 0), (.iload_n 2, 1, 2, 0, 0, 0), (.iastore, 1, 0, 0, 0, 0), (.aload_n 0, 1, 0, 0, 0, 0), (.getfield 17, 3, 12, 3, 2, 0), (.iconst 3, 1, 0, 0, 0, 3), (.iload_n 1, 1, 1, 0, 0, 0), (.imul, 1, 0, 0, 0, 0), (.iconst 1, 1, 0, 0, 0, 1), (.iadd, 1, 0, 0, 0, 0), (.iload_n 3, 1, 3, 0, 0, 0), (.iastore, 1, 0, 0, 0, 0), (.aload_n 0, 1, 0, 0, 0, 0), (.getfield 17, 3, 12, 3, 2, 0), (.iconst 3, 1, 0, 0, 0, 3), (.iload_n 1, 1, 1, 0, 0, 0), (.imul, 1, 0, 0, 0, 0), (.iconst 2, 1, 0, 0, 0, 2), (.iadd, 1, 0, 0, 0, 0), (.iload 4, 2, 4, 0, 0, 0), (.iastore, 1, 0, 0, 0, 0), (.iconst 1, 1, 0, 0, 0, 1), (.ireturn, 1, 0, 0, 0, 0)]
def bl_X12_wish : List (Nat × List It) := [(0, bk_X12_wish_0), (5, bk_X12_wish_5), (11, bk_X12_wish_11), (22, bk_X12_wish_22), (36, bk_X12_wish_36), (51, bk_X12_wish_51), (54, bk_X12_wish_54), (57, bk_X12_wish_57)]
theorem bq_X12_wish_0 : lkB bl_X12_wish 0 = bk_X12_wish_0 := rfl
theorem bq_X12_wish_5 : lkB bl_X12_wish 5 = bk_X12_wish_5 := rfl
theorem bq_X12_wish_11 : lkB bl_X12_wish 11 = bk_X12_wish_11 := rfl
theorem bq_X12_wish_22 : lkB bl_X12_wish 22 = bk_X12_wish_22 := rfl
theorem bq_X12_wish_36 : lkB bl_X12_wish 36 = bk_X12_wish_36 := rfl
theorem bq_X12_wish_51 : lkB bl_X12_wish 51 = bk_X12_wish_51 := rfl
theorem bq_X12_wish_54 : lkB bl_X12_wish 54 = bk_X12_wish_54 := rfl
theorem bq_X12_wish_57 : lkB bl_X12_wish 57 = bk_X12_wish_57 := rfl
set_option maxRecDepth 20000 in
theorem ck_X12_wish : ckB rs_X12_wish false 12 5 prog_14_method_8_code bl_X12_wish = true := by decide +kernel

def rs_X12_about : Rs := rf_X12 [(0, 126, 1, 116, 12), (1, 121, 3, 115, 0)]
def bk_X12_about_0 : List It := [(.aload_n 0, 1, 0, 0, 0, 0), (.iload_n 1, 1, 1, 0, 0, 0), (.invokevirtual 126, 3, 1, 116, 12, 0)]
def bk_X12_about_5 : List It := [(.ifCond .ne 6, 3, 11, 0, 0, 0), (.ldc 130, 2, 0, 0, 0, (-900001)), (.ireturn, 1, 0, 0, 0, 0)]
def bk_X12_about_11 : List It := [(.iload_n 2, 1, 2, 0, 0, 0), (.i2l, 1, 0, 0, 0, 0), (.lconst 0, 1, 0, 0, 0, 0), (.ldc2_w 140, 3, 0, 0, 0, 2), (.invokestatic 121, 3, 3, 115, 0, 0)]
def bk_X12_about_20 : List It := [(.ifCond .eq 16, 3, 36, 0, 0, 0), (.aload_n 0, 1, 0, 0, 0, 0), (.getfield 13, 3, 12, 2, 2, 0), (.iconst 3, 1, 0, 0, 0, 3), (.iload_n 1, 1, 1, 0, 0, 0), (.imul, 1, 0, 0, 0, 0), (.iload_n 2, 1, 2, 0, 0, 0), (.iadd, 1, 0, 0, 0, 0), (.iaload, 1, 0, 0, 0, 0), (.goto 34, 3, 67, 0, 0, 0)]
def bk_X12_about_36 : List It := [(.iload_n 2, 1, 2, 0, 0, 0), (.i2l, 1, 0, 0, 0, 0), (.ldc2_w 142, 3, 0, 0, 0, 3), (.ldc2_w 144, 3, 0, 0, 0, 5), (.invokestatic 121, 3, 3, 115, 0, 0)]
def bk_X12_about_47 : List It := [(.ifCond .eq 18, 3, 65, 0, 0, 0), (.aload_n 0, 1, 0, 0, 0, 0), (.getfield 17, 3, 12, 3, 2, 0), (.iconst 3, 1, 0, 0, 0, 3), (.iload_n 1, 1, 1, 0, 0, 0), (.imul, 1, 0, 0, 0, 0), (.iload_n 2, 1, 2, 0, 0, 0), (.iadd, 1, 0, 0, 0, 0), (.iconst 3, 1, 0, 0, 0, 3), (.isub, 1, 0, 0, 0, 0), (.iaload, 1, 0, 0, 0, 0), (.goto 5, 3, 67, 0, 0, 0)]
def bk_X12_about_65 : List It := [(.ldc 139, 2, 0, 0, 0, (-900002))]
def bk_X12_about_67 : List It := [(.ireturn, 1, 0, 0, 0, 0)]
def bl_X12_about : List (Nat × List It) := [(0, bk_X12_about_0), (5, bk_X12_about_5), (11, bk_X12_about_11), (20, bk_X12_about_20), (36, bk_X12_about_36), (47, bk_X12_about_47), (65, bk_X12_about_65), (67, bk_X12_about_67)]
theorem bq_X12_about_0 : lkB bl_X12_about 0 = bk_X12_about_0 := rfl
theorem bq_X12_about_5 : lkB bl_X12_about 5 = bk_X12_about_5 := rfl
theorem bq_X12_about_11 : lkB bl_X12_about 11 = bk_X12_about_11 := rfl
theorem bq_X12_about_20 : lkB bl_X12_about 20 = bk_X12_about_20 := rfl
theorem bq_X12_about_36 : lkB bl_X12_about 36 = bk_X12_about_36 := rfl
theorem bq_X12_about_47 : lkB bl_X12_about 47 = bk_X12_about_47 := rfl
theorem bq_X12_about_65 : lkB bl_X12_about 65 = bk_X12_about_65 := rfl
theorem bq_X12_about_67 : lkB bl_X12_about 67 = bk_X12_about_67 := rfl
set_option maxRecDepth 20000 in
theorem ck_X12_about : ckB rs_X12_about false 12 3 prog_14_method_9_code bl_X12_about = true := by decide +kernel

def rs_X12_planeHeight : Rs := rf_X12 []
def bk_X12_planeHeight_0 : List It := [(.aload_n 0, 1, 0, 0, 0, 0), (.getfield 13, 3, 12, 2, 2, 0), (.iconst 3, 1, 0, 0, 0, 3), (.iload_n 1, 1, 1, 0, 0, 0), (.imul, 1, 0, 0, 0, 0), (.iaload, 1, 0, 0, 0, 0), (.aload_n 0, 1, 0, 0, 0, 0), (.getfield 13, 3, 12, 2, 2, 0), (.iconst 3, 1, 0, 0, 0, 3), (.iload_n 1, 1, 1, 0, 0, 0), (.imul, 1, 0, 0, 0, 0), (.iconst 1, 1, 0, 0, 0, 1), (.iadd, 1, 0, 0, 0, 0), (.iaload, 1, 0, 0, 0, 0), (.iload_n 2, 1, 2, 0, 0, 0), (.imul, 1, 0, 0, 0, 0), (.iadd, 1, 0, 0, 0, 0), (.aload_n 0, 1, 0, 0, 0, 0), (.getfield 13, 3, 12, 2, 2, 0), (.iconst 3, 1, 0, 0, 0, 3), (.iload_n 1, 1, 1, 0, 0, 0), (.imul, 1, 0, 0, 0, 0), (.iconst 2, 1, 0, 0, 0, 2), (.iadd, 1, 0, 0, 0, 0), (.iaload, 1, 0, 0, 0, 0), (.iload_n 3, 1, 3, 0, 0, 0), (.imul, 1, 0, 0, 0, 0), (.iadd, 1, 0, 0, 0, 0), (.ireturn, 1, 0, 0, 0, 0)]
def bl_X12_planeHeight : List (Nat × List It) := [(0, bk_X12_planeHeight_0)]
theorem bq_X12_planeHeight_0 : lkB bl_X12_planeHeight 0 = bk_X12_planeHeight_0 := rfl
set_option maxRecDepth 20000 in
theorem ck_X12_planeHeight : ckB rs_X12_planeHeight false 12 4 prog_14_method_10_code bl_X12_planeHeight = true := by decide +kernel

def rs_X12_wishHeight : Rs := rf_X12 []
def bk_X12_wishHeight_0 : List It := [(.aload_n 0, 1, 0, 0, 0, 0), (.getfield 17, 3, 12, 3, 2, 0), (.iconst 3, 1, 0, 0, 0, 3), (.iload_n 1, 1, 1, 0, 0, 0), (.imul, 1, 0, 0, 0, 0), (.iaload, 1, 0, 0, 0, 0), (.aload_n 0, 1, 0, 0, 0, 0), (.getfield 17, 3, 12, 3, 2, 0), (.iconst 3, 1, 0, 0, 0, 3), (.iload_n 1, 1, 1, 0, 0, 0), (.imul, 1, 0, 0, 0, 0), (.iconst 1, 1, 0, 0, 0, 1), (.iadd, 1, 0, 0, 0, 0), (.iaload, 1, 0, 0, 0, 0), (.iload_n 2, 1, 2, 0, 0, 0), (.imul, 1, 0, 0, 0, 0), (.iadd, 1, 0, 0, 0, 0), (.aload_n 0, 1, 0, 0, 0, 0), (.getfield 17, 3, 12, 3, 2, 0), (.iconst 3, 1, 0, 0, 0, 3), (.iload_n 1, 1, 1, 0, 0, 0), (.imul, 1, 0, 0, 0, 0), (.iconst 2, 1, 0, 0, 0, 2), (.iadd, 1, 0, 0, 0, 0), (.iaload, 1, 0, 0, 0, 0), (.iload_n 3, 1, 3, 0, 0, 0), (.imul, 1, 0, 0, 0, 0), (.iadd, 1, 0, 0, 0, 0), (.ireturn, 1, 0, 0, 0, 0)]
def bl_X12_wishHeight : List (Nat × List It) := [(0, bk_X12_wishHeight_0)]
theorem bq_X12_wishHeight_0 : lkB bl_X12_wishHeight 0 = bk_X12_wishHeight_0 := rfl
set_option maxRecDepth 20000 in
theorem ck_X12_wishHeight : ckB rs_X12_wishHeight false 12 4 prog_14_method_11_code bl_X12_wishHeight = true := by decide +kernel

def rs_X12_isEye : Rs := rf_X12 [(1, 121, 3, 115, 0)]
def bk_X12_isEye_0 : List It := [(.iload_n 1, 1, 1, 0, 0, 0), (.i2l, 1, 0, 0, 0, 0), (.lconst 0, 1, 0, 0, 0, 0), (.aload_n 0, 1, 0, 0, 0, 0), (.getfield 146, 3, 12, 4, 0, 0), (.iconst 1, 1, 0, 0, 0, 1), (.isub, 1, 0, 0, 0, 0), (.i2l, 1, 0, 0, 0, 0), (.invokestatic 121, 3, 3, 115, 0, 0)]
def bk_X12_isEye_13 : List It := [(.ireturn, 1, 0, 0, 0, 0)]
def bl_X12_isEye : List (Nat × List It) := [(0, bk_X12_isEye_0), (13, bk_X12_isEye_13)]
theorem bq_X12_isEye_0 : lkB bl_X12_isEye 0 = bk_X12_isEye_0 := rfl
theorem bq_X12_isEye_13 : lkB bl_X12_isEye 13 = bk_X12_isEye_13 := rfl
set_option maxRecDepth 20000 in
theorem ck_X12_isEye : ckB rs_X12_isEye false 12 2 prog_14_method_12_code bl_X12_isEye = true := by decide +kernel

def rs_X12_isPoint : Rs := rf_X12 [(1, 121, 3, 115, 0)]
def bk_X12_isPoint_0 : List It := [(.iload_n 0, 1, 0, 0, 0, 0), (.i2l, 1, 0, 0, 0, 0), (.ldc2_w 135, 3, 0, 0, 0, (-9)), (.ldc2_w 137, 3, 0, 0, 0, 9), (.invokestatic 121, 3, 3, 115, 0, 0)]
def bk_X12_isPoint_11 : List It := [(.ifCond .eq 21, 3, 32, 0, 0, 0), (.iload_n 1, 1, 1, 0, 0, 0), (.i2l, 1, 0, 0, 0, 0), (.ldc2_w 135, 3, 0, 0, 0, (-9)), (.ldc2_w 137, 3, 0, 0, 0, 9), (.invokestatic 121, 3, 3, 115, 0, 0)]
def bk_X12_isPoint_25 : List It := [(.ifCond .eq 7, 3, 32, 0, 0, 0), (.iconst 1, 1, 0, 0, 0, 1), (.goto 4, 3, 33, 0, 0, 0)]
def bk_X12_isPoint_32 : List It := [(.iconst 0, 1, 0, 0, 0, 0)]
def bk_X12_isPoint_33 : List It := [(.ireturn, 1, 0, 0, 0, 0)]
def bl_X12_isPoint : List (Nat × List It) := [(0, bk_X12_isPoint_0), (11, bk_X12_isPoint_11), (25, bk_X12_isPoint_25), (32, bk_X12_isPoint_32), (33, bk_X12_isPoint_33)]
theorem bq_X12_isPoint_0 : lkB bl_X12_isPoint 0 = bk_X12_isPoint_0 := rfl
theorem bq_X12_isPoint_11 : lkB bl_X12_isPoint 11 = bk_X12_isPoint_11 := rfl
theorem bq_X12_isPoint_25 : lkB bl_X12_isPoint 25 = bk_X12_isPoint_25 := rfl
theorem bq_X12_isPoint_32 : lkB bl_X12_isPoint 32 = bk_X12_isPoint_32 := rfl
theorem bq_X12_isPoint_33 : lkB bl_X12_isPoint 33 = bk_X12_isPoint_33 := rfl
set_option maxRecDepth 20000 in
theorem ck_X12_isPoint : ckB rs_X12_isPoint false 12 2 prog_14_method_13_code bl_X12_isPoint = true := by decide +kernel

def rs_X12_works : Rs := rf_X12 []
def bk_X12_works_0 : List It := [(.aload_n 0, 1, 0, 0, 0, 0), (.getfield 35, 3, 12, 10, 2, 0), (.iload_n 1, 1, 1, 0, 0, 0), (.baload, 1, 0, 0, 0, 0), (.ifCond .ne 35, 3, 41, 0, 0, 0), (.aload_n 0, 1, 0, 0, 0, 0), (.getfield 7, 3, 12, 1, 2, 0), (.aload_n 0, 1, 0, 0, 0, 0), (.getfield 20, 3, 12, 5, 2, 0), (.iload_n 1, 1, 1, 0, 0, 0), (.iaload, 1, 0, 0, 0, 0), (.baload, 1, 0, 0, 0, 0), (.ifCond .eq 21, 3, 41, 0, 0, 0), (.aload_n 0, 1, 0, 0, 0, 0), (.getfield 7, 3, 12, 1, 2, 0), (.aload_n 0, 1, 0, 0, 0, 0), (.getfield 23, 3, 12, 6, 2, 0), (.iload_n 1, 1, 1, 0, 0, 0), (.iaload, 1, 0, 0, 0, 0), (.baload, 1, 0, 0, 0, 0), (.ifCond .eq 7, 3, 41, 0, 0, 0), (.iconst 1, 1, 0, 0, 0, 1), (.goto 4, 3, 42, 0, 0, 0)]
def bk_X12_works_41 : List It := [(.iconst 0, 1, 0, 0, 0, 0)]
def bk_X12_works_42 : List It := [(.ireturn, 1, 0, 0, 0, 0)]
def bl_X12_works : List (Nat × List It) := [(0, bk_X12_works_0), (41, bk_X12_works_41), (42, bk_X12_works_42)]
theorem bq_X12_works_0 : lkB bl_X12_works 0 = bk_X12_works_0 := rfl
theorem bq_X12_works_41 : lkB bl_X12_works 41 = bk_X12_works_41 := rfl
theorem bq_X12_works_42 : lkB bl_X12_works 42 = bk_X12_works_42 := rfl
set_option maxRecDepth 20000 in
theorem ck_X12_works : ckB rs_X12_works false 12 2 prog_14_method_14_code bl_X12_works = true := by decide +kernel

def rs_X12_eye : Rs := rf_X12 [(0, 126, 1, 116, 12), (1, 149, 2, 125, 0), (1, 121, 3, 115, 0)]
def bk_X12_eye_0 : List It := [(.aload_n 0, 1, 0, 0, 0, 0), (.iload_n 1, 1, 1, 0, 0, 0), (.invokevirtual 126, 3, 1, 116, 12, 0)]
def bk_X12_eye_5 : List It := [(.ifCond .eq 11, 3, 16, 0, 0, 0), (.aload_n 0, 1, 0, 0, 0, 0), (.iload_n 2, 1, 2, 0, 0, 0), (.invokevirtual 126, 3, 1, 116, 12, 0)]
def bk_X12_eye_13 : List It := [(.ifCond .ne 6, 3, 19, 0, 0, 0)]
def bk_X12_eye_16 : List It := [(.ldc 130, 2, 0, 0, 0, (-900001)), (.ireturn, 1, 0, 0, 0, 0)]
def bk_X12_eye_19 : List It := [(.iload_n 3, 1, 3, 0, 0, 0), (.iload 4, 2, 4, 0, 0, 0), (.invokestatic 149, 3, 2, 125, 0, 0)]
def bk_X12_eye_25 : List It := [(.ifCond .eq 16, 3, 41, 0, 0, 0), (.iload 5, 2, 5, 0, 0, 0), (.i2l, 1, 0, 0, 0, 0), (.lconst 1, 1, 0, 0, 0, 1), (.ldc2_w 133, 3, 0, 0, 0, 99), (.invokestatic 121, 3, 3, 115, 0, 0)]
def bk_X12_eye_38 : List It := [(.ifCond .ne 6, 3, 44, 0, 0, 0)]
def bk_X12_eye_41 : List It := [(.ldc 139, 2, 0, 0, 0, (-900002)), (.ireturn, 1, 0, 0, 0, 0)]
def bk_X12_eye_44 : List It := [(.iload_n 1, 1, 1, 0, 0, 0), (.iload_n 2, 1, 2, 0, 0, 0), (.if_icmp .ne 6, 3, 52, 0, 0, 0), (.ldc 153, 2, 0, 0, 0, (-900003)), (.ireturn, 1, 0, 0, 0, 0)]
def bk_X12_eye_52 : List It := [(.aload_n 0, 1, 0, 0, 0, 0), (.getfield 146, 3, 12, 4, 0, 0), (.bipush 24, 2, 0, 0, 0, 24), (.if_icmp .ne 6, 3, 64, 0, 0, 0), (.ldc 125, 2, 0, 0, 0, (-900004)), (.ireturn, 1, 0, 0, 0, 0)]
def bk_X12_eye_64 : List It := [(.aload_n 0, 1, 0, 0, 0, 0), (.getfield 20, 3, 12, 5, 2, 0), (.aload_n 0, 1, 0, 0, 0, 0), (.getfield 146, 3, 12, 4, 0, 0), (.iload_n 1, 1, 1, 0, 0, 0), (.iastore, 1, 0, 0, 0, 0), (.aload_n 0, 1, 0, 0, 0, 0), (.getfield 23, 3, 12, 6, 2, 0), (.aload_n 0, 1, 0, 0, 0, 0), (.getfield 146, 3, 12, 4, 0, 0), (.iload_n 2, 1, 2, 0, 0, 0), (.iastore, 1, 0, 0, 0, 0), (.aload_n 0, 1, 0, 0, 0, 0), (.getfield 26, 3, 12, 7, 2, 0), (.aload_n 0, 1, 0, 0, 0, 0), (.getfield 146, 3, 12, 4, 0, 0), (.iload_n 3, 1, 3, 0, 0, 0), (.iastore, 1, 0, 0, 0, 0), (.aload_n 0, 1, 0, 0, 0, 0), (.getfield 29, 3, 12, 8, 2, 0), (.aload_n 0, 1, 0, 0, 0, 0), (.getfield 146, 3, 12, 4, 0, 0), (.iload 4, 2, 4, 0, 0, 0), (.iastore, 1, 0, 0, 0, 0), (.aload_n 0, 1, 0, 0, 0, 0), (.getfield 32, 3, 12, 9, 2, 0), (.aload_n 0, 1, 0, 0, 0, 0), (.getfield 146, 3, 12, 4, 0, 0), (.iload 5, 2, 5, 0, 0, 0), (.iastore, 1, 0, 0, 0, 0), (.aload_n 0, 1, 0, 0, 0, 0), (.getfield 41, 3, 12, 12, 2, 0), (.aload_n 0, 1, 0, 0, 0, 0), (.getfield 146, 3, 12, 4, 0, 0), (.ldc 154, 2, 0, 0, 0, (-900009)), (.iastore, 1, 0, 0, 0, 0), (.aload_n 0, 1, 0, 0, 0, 0), (.dup, 1, 0, 0, 0, 0), (.getfield 146, 3, 12, 4, 0, 0), (.iconst 1, 1, 0, 0, 0, 1), (.iadd, 1, 0, 0, 0, 0), (.putfield 146, 3, 12, 4, 0, 0), (.aload_n 0, 1, 0, 0, 0, 0), (.getfield 146, 3, 12, 4, 0, 0), (.iconst 1, 1, 0, 0, 0, 1), (.isub, 1, 0, 0, 0, 0), (.ireturn, 1, 0, 0, 0, 0)]
def bl_X12_eye : List (Nat × List It) := [(0, bk_X12_eye_0), (5, bk_X12_eye_5), (13, bk_X12_eye_13), (16, bk_X12_eye_16), (19, bk_X12_eye_19), (25, bk_X12_eye_25), (38, bk_X12_eye_38), (41, bk_X12_eye_41), (44, bk_X12_eye_44), (52, bk_X12_eye_52), (64, bk_X12_eye_64)]
theorem bq_X12_eye_0 : lkB bl_X12_eye 0 = bk_X12_eye_0 := rfl
theorem bq_X12_eye_5 : lkB bl_X12_eye 5 = bk_X12_eye_5 := rfl
theorem bq_X12_eye_13 : lkB bl_X12_eye 13 = bk_X12_eye_13 := rfl
theorem bq_X12_eye_16 : lkB bl_X12_eye 16 = bk_X12_eye_16 := rfl
theorem bq_X12_eye_19 : lkB bl_X12_eye 19 = bk_X12_eye_19 := rfl
theorem bq_X12_eye_25 : lkB bl_X12_eye 25 = bk_X12_eye_25 := rfl
theorem bq_X12_eye_38 : lkB bl_X12_eye 38 = bk_X12_eye_38 := rfl
theorem bq_X12_eye_41 : lkB bl_X12_eye 41 = bk_X12_eye_41 := rfl
theorem bq_X12_eye_44 : lkB bl_X12_eye 44 = bk_X12_eye_44 := rfl
theorem bq_X12_eye_52 : lkB bl_X12_eye 52 = bk_X12_eye_52 := rfl
theorem bq_X12_eye_64 : lkB bl_X12_eye 64 = bk_X12_eye_64 := rfl
set_option maxRecDepth 20000 in
theorem ck_X12_eye : ckB rs_X12_eye false 12 6 prog_14_method_15_code bl_X12_eye = true := by decide +kernel

def rs_X12_blind : Rs := rf_X12 [(0, 155, 1, 124, 12)]
def bk_X12_blind_0 : List It := [(.aload_n 0, 1, 0, 0, 0, 0), (.iload_n 1, 1, 1, 0, 0, 0), (.invokevirtual 155, 3, 1, 124, 12, 0)]
def bk_X12_blind_5 : List It := [(.ifCond .ne 6, 3, 11, 0, 0, 0), (.ldc 130, 2, 0, 0, 0, (-900001)), (.ireturn, 1, 0, 0, 0, 0)]
def bk_X12_blind_11 : List It := [(.aload_n 0, 1, 0, 0, 0, 0), (.getfield 35, 3, 12, 10, 2, 0), (.iload_n 1, 1, 1, 0, 0, 0), (.baload, 1, 0, 0, 0, 0), (.ifCond .eq 7, 3, 24, 0, 0, 0), (.iconst 1, 1, 0, 0, 0, 1), (.goto 4, 3, 25, 0, 0, 0)]
def bk_X12_blind_24 : List It := [(.iconst 0, 1, 0, 0, 0, 0)]
def bk_X12_blind_25 : List It := [(.istore_n 3, 1, 3, 0, 0, 0), (.aload_n 0, 1, 0, 0, 0, 0), (.getfield 35, 3, 12, 10, 2, 0), (.iload_n 1, 1, 1, 0, 0, 0), (.iload_n 2, 1, 2, 0, 0, 0), (.bastore, 1, 0, 0, 0, 0), (.iload_n 3, 1, 3, 0, 0, 0), (.ireturn, 1, 0, 0, 0, 0)]
def bl_X12_blind : List (Nat × List It) := [(0, bk_X12_blind_0), (5, bk_X12_blind_5), (11, bk_X12_blind_11), (24, bk_X12_blind_24), (25, bk_X12_blind_25)]
theorem bq_X12_blind_0 : lkB bl_X12_blind 0 = bk_X12_blind_0 := rfl
theorem bq_X12_blind_5 : lkB bl_X12_blind 5 = bk_X12_blind_5 := rfl
theorem bq_X12_blind_11 : lkB bl_X12_blind 11 = bk_X12_blind_11 := rfl
theorem bq_X12_blind_24 : lkB bl_X12_blind 24 = bk_X12_blind_24 := rfl
theorem bq_X12_blind_25 : lkB bl_X12_blind 25 = bk_X12_blind_25 := rfl
set_option maxRecDepth 20000 in
theorem ck_X12_blind : ckB rs_X12_blind false 12 4 prog_14_method_16_code bl_X12_blind = true := by decide +kernel

def rs_X12_drift : Rs := rf_X12 [(0, 155, 1, 124, 12), (1, 121, 3, 115, 0)]
def bk_X12_drift_0 : List It := [(.aload_n 0, 1, 0, 0, 0, 0), (.iload_n 1, 1, 1, 0, 0, 0), (.invokevirtual 155, 3, 1, 124, 12, 0)]
def bk_X12_drift_5 : List It := [(.ifCond .ne 6, 3, 11, 0, 0, 0), (.ldc 130, 2, 0, 0, 0, (-900001)), (.ireturn, 1, 0, 0, 0, 0)]
def bk_X12_drift_11 : List It := [(.iload_n 2, 1, 2, 0, 0, 0), (.i2l, 1, 0, 0, 0, 0), (.ldc2_w 131, 3, 0, 0, 0, (-99)), (.ldc2_w 133, 3, 0, 0, 0, 99), (.invokestatic 121, 3, 3, 115, 0, 0)]
def bk_X12_drift_22 : List It := [(.ifCond .ne 6, 3, 28, 0, 0, 0), (.ldc 139, 2, 0, 0, 0, (-900002)), (.ireturn, 1, 0, 0, 0, 0)]
def bk_X12_drift_28 : List It := [(.aload_n 0, 1, 0, 0, 0, 0), (.getfield 38, 3, 12, 11, 2, 0), (.iload_n 1, 1, 1, 0, 0, 0), (.iaload, 1, 0, 0, 0, 0), (.istore_n 3, 1, 3, 0, 0, 0), (.aload_n 0, 1, 0, 0, 0, 0), (.getfield 38, 3, 12, 11, 2, 0), (.iload_n 1, 1, 1, 0, 0, 0), (.iload_n 2, 1, 2, 0, 0, 0), (.iastore, 1, 0, 0, 0, 0), (.iload_n 3, 1, 3, 0, 0, 0), (.ireturn, 1, 0, 0, 0, 0)]
def bl_X12_drift : List (Nat × List It) := [(0, bk_X12_drift_0), (5, bk_X12_drift_5), (11, bk_X12_drift_11), (22, bk_X12_drift_22), (28, bk_X12_drift_28)]
theorem bq_X12_drift_0 : lkB bl_X12_drift 0 = bk_X12_drift_0 := rfl
theorem bq_X12_drift_5 : lkB bl_X12_drift 5 = bk_X12_drift_5 := rfl
theorem bq_X12_drift_11 : lkB bl_X12_drift 11 = bk_X12_drift_11 := rfl
theorem bq_X12_drift_22 : lkB bl_X12_drift 22 = bk_X12_drift_22 := rfl
theorem bq_X12_drift_28 : lkB bl_X12_drift 28 = bk_X12_drift_28 := rfl
set_option maxRecDepth 20000 in
theorem ck_X12_drift : ckB rs_X12_drift false 12 4 prog_14_method_17_code bl_X12_drift = true := by decide +kernel

def rs_X12_tellsOf : Rs := rf_X12 [(0, 158, 3, 122, 12)]
def bk_X12_tellsOf_0 : List It := [(.aload_n 0, 1, 0, 0, 0, 0), (.aload_n 0, 1, 0, 0, 0, 0), (.getfield 20, 3, 12, 5, 2, 0), (.iload_n 1, 1, 1, 0, 0, 0), (.iaload, 1, 0, 0, 0, 0), (.aload_n 0, 1, 0, 0, 0, 0), (.getfield 26, 3, 12, 7, 2, 0), (.iload_n 1, 1, 1, 0, 0, 0), (.iaload, 1, 0, 0, 0, 0), (.aload_n 0, 1, 0, 0, 0, 0), (.getfield 29, 3, 12, 8, 2, 0), (.iload_n 1, 1, 1, 0, 0, 0), (.iaload, 1, 0, 0, 0, 0), (.invokevirtual 158, 3, 3, 122, 12, 0)]
def bk_X12_tellsOf_22 : List It := [(.aload_n 0, 1, 0, 0, 0, 0), (.aload_n 0, 1, 0, 0, 0, 0), (.getfield 23, 3, 12, 6, 2, 0), (.iload_n 1, 1, 1, 0, 0, 0), (.iaload, 1, 0, 0, 0, 0), (.aload_n 0, 1, 0, 0, 0, 0), (.getfield 26, 3, 12, 7, 2, 0), (.iload_n 1, 1, 1, 0, 0, 0), (.iaload, 1, 0, 0, 0, 0), (.aload_n 0, 1, 0, 0, 0, 0), (.getfield 29, 3, 12, 8, 2, 0), (.iload_n 1, 1, 1, 0, 0, 0), (.iaload, 1, 0, 0, 0, 0), (.invokevirtual 158, 3, 3, 122, 12, 0)]
def bk_X12_tellsOf_44 : List It := [(.isub, 1, 0, 0, 0, 0), (.aload_n 0, 1, 0, 0, 0, 0), (.getfield 38, 3, 12, 11, 2, 0), (.iload_n 1, 1, 1, 0, 0, 0), (.iaload, 1, 0, 0, 0, 0), (.iadd, 1, 0, 0, 0, 0), (.ireturn, 1, 0, 0, 0, 0)]
def bl_X12_tellsOf : List (Nat × List It) := [(0, bk_X12_tellsOf_0), (22, bk_X12_tellsOf_22), (44, bk_X12_tellsOf_44)]
theorem bq_X12_tellsOf_0 : lkB bl_X12_tellsOf 0 = bk_X12_tellsOf_0 := rfl
theorem bq_X12_tellsOf_22 : lkB bl_X12_tellsOf 22 = bk_X12_tellsOf_22 := rfl
theorem bq_X12_tellsOf_44 : lkB bl_X12_tellsOf 44 = bk_X12_tellsOf_44 := rfl
set_option maxRecDepth 20000 in
theorem ck_X12_tellsOf : ckB rs_X12_tellsOf false 12 2 prog_14_method_18_code bl_X12_tellsOf = true := by decide +kernel

def rs_X12_tells : Rs := rf_X12 [(0, 155, 1, 124, 12), (0, 162, 1, 126, 12), (0, 165, 1, 130, 12)]
def bk_X12_tells_0 : List It := [(.aload_n 0, 1, 0, 0, 0, 0), (.iload_n 1, 1, 1, 0, 0, 0), (.invokevirtual 155, 3, 1, 124, 12, 0)]
def bk_X12_tells_5 : List It := [(.ifCond .ne 6, 3, 11, 0, 0, 0), (.ldc 130, 2, 0, 0, 0, (-900001)), (.ireturn, 1, 0, 0, 0, 0)]
def bk_X12_tells_11 : List It := [(.aload_n 0, 1, 0, 0, 0, 0), (.iload_n 1, 1, 1, 0, 0, 0), (.invokevirtual 162, 3, 1, 126, 12, 0)]
def bk_X12_tells_16 : List It := [(.ifCond .eq 11, 3, 27, 0, 0, 0), (.aload_n 0, 1, 0, 0, 0, 0), (.iload_n 1, 1, 1, 0, 0, 0), (.invokevirtual 165, 3, 1, 130, 12, 0)]
def bk_X12_tells_24 : List It := [(.goto 5, 3, 29, 0, 0, 0)]
def bk_X12_tells_27 : List It := [(.ldc 153, 2, 0, 0, 0, (-900003))]
def bk_X12_tells_29 : List It := [(.ireturn, 1, 0, 0, 0, 0)]
def bl_X12_tells : List (Nat × List It) := [(0, bk_X12_tells_0), (5, bk_X12_tells_5), (11, bk_X12_tells_11), (16, bk_X12_tells_16), (24, bk_X12_tells_24), (27, bk_X12_tells_27), (29, bk_X12_tells_29)]
theorem bq_X12_tells_0 : lkB bl_X12_tells 0 = bk_X12_tells_0 := rfl
theorem bq_X12_tells_5 : lkB bl_X12_tells 5 = bk_X12_tells_5 := rfl
theorem bq_X12_tells_11 : lkB bl_X12_tells 11 = bk_X12_tells_11 := rfl
theorem bq_X12_tells_16 : lkB bl_X12_tells 16 = bk_X12_tells_16 := rfl
theorem bq_X12_tells_24 : lkB bl_X12_tells 24 = bk_X12_tells_24 := rfl
theorem bq_X12_tells_27 : lkB bl_X12_tells 27 = bk_X12_tells_27 := rfl
theorem bq_X12_tells_29 : lkB bl_X12_tells 29 = bk_X12_tells_29 := rfl
set_option maxRecDepth 20000 in
theorem ck_X12_tells : ckB rs_X12_tells false 12 2 prog_14_method_19_code bl_X12_tells = true := by decide +kernel

def rs_X12_addRow : Rs := rf_X12 []
def bk_X12_addRow_0 : List It := [(.iconst 0, 1, 0, 0, 0, 0), (.istore 7, 2, 7, 0, 0, 0)]
def bk_X12_addRow_3 : List It := [(.iload 7, 2, 7, 0, 0, 0), (.bipush 22, 2, 0, 0, 0, 22), (.if_icmp .ge 25, 3, 32, 0, 0, 0), (.aload_n 0, 1, 0, 0, 0, 0), (.getfield 44, 3, 12, 14, 2, 0), (.bipush 22, 2, 0, 0, 0, 22), (.aload_n 0, 1, 0, 0, 0, 0), (.getfield 169, 3, 12, 13, 0, 0), (.imul, 1, 0, 0, 0, 0), (.iload 7, 2, 7, 0, 0, 0), (.iadd, 1, 0, 0, 0, 0), (.lconst 0, 1, 0, 0, 0, 0), (.lastore, 1, 0, 0, 0, 0), (.iinc 7 1, 3, 7, 0, 0, 1), (.goto (-26), 3, 3, 0, 0, 0)]
def bk_X12_addRow_32 : List It := [(.iload_n 1, 1, 1, 0, 0, 0), (.iload_n 2, 1, 2, 0, 0, 0), (.if_icmp .eq 123, 3, 157, 0, 0, 0), (.aload_n 0, 1, 0, 0, 0, 0), (.getfield 44, 3, 12, 14, 2, 0), (.bipush 22, 2, 0, 0, 0, 22), (.aload_n 0, 1, 0, 0, 0, 0), (.getfield 169, 3, 12, 13, 0, 0), (.imul, 1, 0, 0, 0, 0), (.iconst 3, 1, 0, 0, 0, 3), (.iload_n 1, 1, 1, 0, 0, 0), (.imul, 1, 0, 0, 0, 0), (.iadd, 1, 0, 0, 0, 0), (.lconst 1, 1, 0, 0, 0, 1), (.lastore, 1, 0, 0, 0, 0), (.aload_n 0, 1, 0, 0, 0, 0), (.getfield 44, 3, 12, 14, 2, 0), (.bipush 22, 2, 0, 0, 0, 22), (.aload_n 0, 1, 0, 0, 0, 0), (.getfield 169, 3, 12, 13, 0, 0), (.imul, 1, 0, 0, 0, 0), (.iconst 3, 1, 0, 0, 0, 3), (.iload_n 1, 1, 1, 0, 0, 0), (.imul, 1, 0, 0, 0, 0), (.iadd, 1, 0, 0, 0, 0), (.iconst 1, 1, 0, 0, 0, 1), (.iadd, 1, 0, 0, 0, 0), (.iload_n 3, 1, 3, 0, 0, 0), (.i2l, 1, 0, 0, 0, 0), (.lastore, 1, 0, 0, 0, 0), (.aload_n 0, 1, 0, 0, 0, 0), (.getfield 44, 3, 12, 14, 2, 0), (.bipush 22, 2, 0, 0, 0, 22), (.aload_n 0, 1, 0, 0, 0, 0), (.getfield 169, 3, 12, 13, 0, 0), (.imul, 1, 0, 0, 0, 0), (.iconst 3, 1, 0, 0, 0, 3), (.iload_n 1, 1, 1, 0, 0, 0), (.imul, 1, 0, 0, 0, 0), (.iadd, 1, 0, 0, 0, 0), (.iconst 2, 1, 0, 0, 0, 2), (.iadd, 1, 0, 0, 0, 0), (.iload 4, 2, 4, 0, 0, 0), (.i2l, 1, 0, 0, 0, 0), (.lastore, 1, 0, 0, 0, 0), (.aload_n 0, 1, 0, 0, 0, 0), (.getfield 44, 3, 12, 14, 2, 0), (.bipush 22, 2, 0, 0, 0, 22), (.aload_n 0, 1, 0, 0, 0, 0), (.getfield 169, 3, 12, 13, 0, 0), (.imul, 1, 0, 0, 0, 0), (.iconst 3, 1, 0, 0, 0, 3), (.iload_n 2, 1, 2, 0, 0, 0), (.imul, 1, 0, 0, 0, 0), (.iadd, 1, 0, 0, 0, 0), (.ldc2_w 172, 3, 0, 0, 0, (-1)), (.lastore, 1, 0, 0, 0, 0), (.aload_n 0, 1, 0, 0, 0, 0), (.getfield 44, 3, 12, 14, 2, 0), (.bipush 22, 2, 0, 0, 0, 22), (.aload_n 0, 1, 0, 0, 0, 0), (.getfield 169, 3, 12, 13, 0, 0), (.imul, 1, 0, 0, 0, 0), (.iconst 3, 1, 0, 0, 0, 3), (.iload_n 2, 1, 2, 0, 0, 0), (.imul, 1, 0, 0, 0, 0), (.iadd, 1, 0, 0, 0, 0), (.iconst 1, 1, 0, 0, 0, 1), (.iadd, 1, 0, 0, 0, 0), (.iload_n 3, 1, 3, 0, 0, 0), (.ineg, 1, 0, 0, 0, 0), (.i2l, 1, 0, 0, 0, 0), (.lastore, 1, 0, 0, 0, 0), (.aload_n 0, 1, 0, 0, 0, 0), (.getfield 44, 3, 12, 14, 2, 0), (.bipush 22, 2, 0, 0, 0, 22), (.aload_n 0, 1, 0, 0, 0, 0), (.getfield 169, 3, 12, 13, 0, 0), (.imul, 1, 0, 0, 0, 0), (.iconst 3, 1, 0, 0, 0, 3), (.iload_n 2, 1, 2, 0, 0, 0), (.imul, 1, 0, 0, 0, 0), (.iadd, 1, 0, 0, 0, 0), (.iconst 2, 1, 0, 0, 0, 2), (.iadd, 1, 0, 0, 0, 0), (.iload 4, 2, 4, 0, 0, 0), (.ineg, 1, 0, 0, 0, 0), (.i2l, 1, 0, 0, 0, 0), (.lastore, 1, 0, 0, 0, 0)]
def bk_X12_addRow_157 : List It := [(.aload_n 0, 1, 0, 0, 0, 0), (.getfield 44, 3, 12, 14, 2, 0), (.bipush 22, 2, 0, 0, 0, 22), (.aload_n 0, 1, 0, 0, 0, 0), (.getfield 169, 3, 12, 13, 0, 0), (.imul, 1, 0, 0, 0, 0), (.bipush 21, 2, 0, 0, 0, 21), (.iadd, 1, 0, 0, 0, 0), (.lload 5, 2, 5, 0, 0, 0), (.lastore, 1, 0, 0, 0, 0), (.aload_n 0, 1, 0, 0, 0, 0), (.dup, 1, 0, 0, 0, 0), (.getfield 169, 3, 12, 13, 0, 0), (.iconst 1, 1, 0, 0, 0, 1), (.iadd, 1, 0, 0, 0, 0), (.putfield 169, 3, 12, 13, 0, 0), (.return_, 1, 0, 0, 0, 0)]
def bl_X12_addRow : List (Nat × List It) := [(0, bk_X12_addRow_0), (3, bk_X12_addRow_3), (32, bk_X12_addRow_32), (157, bk_X12_addRow_157)]
theorem bq_X12_addRow_0 : lkB bl_X12_addRow 0 = bk_X12_addRow_0 := rfl
theorem bq_X12_addRow_3 : lkB bl_X12_addRow 3 = bk_X12_addRow_3 := rfl
theorem bq_X12_addRow_32 : lkB bl_X12_addRow 32 = bk_X12_addRow_32 := rfl
theorem bq_X12_addRow_157 : lkB bl_X12_addRow 157 = bk_X12_addRow_157 := rfl
set_option maxRecDepth 20000 in
theorem ck_X12_addRow : ckB rs_X12_addRow false 12 8 prog_14_method_20_code bl_X12_addRow = true := by decide +kernel

def rs_X12_power : Rs := rf_X12 []
def bk_X12_power_0 : List It := [(.lconst 1, 1, 0, 0, 0, 1), (.lstore 6, 2, 6, 0, 0, 0), (.lload_n 0, 1, 0, 0, 0, 0), (.lstore 8, 2, 8, 0, 0, 0), (.lload_n 2, 1, 2, 0, 0, 0), (.lstore 10, 2, 10, 0, 0, 0)]
def bk_X12_power_9 : List It := [(.lload 10, 2, 10, 0, 0, 0), (.lconst 0, 1, 0, 0, 0, 0), (.lcmp, 1, 0, 0, 0, 0), (.ifCond .le 50, 3, 63, 0, 0, 0), (.lload 10, 2, 10, 0, 0, 0), (.ldc2_w 140, 3, 0, 0, 0, 2), (.lrem, 1, 0, 0, 0, 0), (.lconst 1, 1, 0, 0, 0, 1), (.lcmp, 1, 0, 0, 0, 0), (.ifCond .ne 14, 3, 38, 0, 0, 0), (.lload 6, 2, 6, 0, 0, 0), (.lload 8, 2, 8, 0, 0, 0), (.lmul, 1, 0, 0, 0, 0), (.lload 4, 2, 4, 0, 0, 0), (.lrem, 1, 0, 0, 0, 0), (.goto 5, 3, 40, 0, 0, 0)]
def bk_X12_power_38 : List It := [(.lload 6, 2, 6, 0, 0, 0)]
def bk_X12_power_40 : List It := [(.lstore 6, 2, 6, 0, 0, 0), (.lload 8, 2, 8, 0, 0, 0), (.lload 8, 2, 8, 0, 0, 0), (.lmul, 1, 0, 0, 0, 0), (.lload 4, 2, 4, 0, 0, 0), (.lrem, 1, 0, 0, 0, 0), (.lstore 8, 2, 8, 0, 0, 0), (.lload 10, 2, 10, 0, 0, 0), (.ldc2_w 140, 3, 0, 0, 0, 2), (.ldiv, 1, 0, 0, 0, 0), (.lstore 10, 2, 10, 0, 0, 0), (.goto (-51), 3, 9, 0, 0, 0)]
def bk_X12_power_63 : List It := [(.lload 6, 2, 6, 0, 0, 0), (.lreturn, 1, 0, 0, 0, 0)]
def bl_X12_power : List (Nat × List It) := [(0, bk_X12_power_0), (9, bk_X12_power_9), (38, bk_X12_power_38), (40, bk_X12_power_40), (63, bk_X12_power_63)]
theorem bq_X12_power_0 : lkB bl_X12_power 0 = bk_X12_power_0 := rfl
theorem bq_X12_power_9 : lkB bl_X12_power 9 = bk_X12_power_9 := rfl
theorem bq_X12_power_38 : lkB bl_X12_power 38 = bk_X12_power_38 := rfl
theorem bq_X12_power_40 : lkB bl_X12_power 40 = bk_X12_power_40 := rfl
theorem bq_X12_power_63 : lkB bl_X12_power 63 = bk_X12_power_63 := rfl
set_option maxRecDepth 20000 in
theorem ck_X12_power : ckB rs_X12_power false 12 12 prog_14_method_21_code bl_X12_power = true := by decide +kernel

def rs_X12_rankBy : Rs := rf_X12 [(0, 174, 2, 135, 12), (0, 178, 3, 136, 12)]
def bk_X12_rankBy_0 : List It := [(.iconst 0, 1, 0, 0, 0, 0), (.istore 4, 2, 4, 0, 0, 0)]
def bk_X12_rankBy_3 : List It := [(.iload 4, 2, 4, 0, 0, 0), (.bipush 22, 2, 0, 0, 0, 22), (.aload_n 0, 1, 0, 0, 0, 0), (.getfield 169, 3, 12, 13, 0, 0), (.imul, 1, 0, 0, 0, 0), (.if_icmp .ge 29, 3, 41, 0, 0, 0), (.aload_n 0, 1, 0, 0, 0, 0), (.getfield 48, 3, 12, 15, 2, 0), (.iload 4, 2, 4, 0, 0, 0), (.aload_n 0, 1, 0, 0, 0, 0), (.getfield 44, 3, 12, 14, 2, 0), (.iload 4, 2, 4, 0, 0, 0), (.laload, 1, 0, 0, 0, 0), (.lload_n 1, 1, 1, 0, 0, 0), (.lrem, 1, 0, 0, 0, 0), (.lload_n 1, 1, 1, 0, 0, 0), (.ladd, 1, 0, 0, 0, 0), (.lload_n 1, 1, 1, 0, 0, 0), (.lrem, 1, 0, 0, 0, 0), (.lastore, 1, 0, 0, 0, 0), (.iinc 4 1, 3, 4, 0, 0, 1), (.goto (-35), 3, 3, 0, 0, 0)]
def bk_X12_rankBy_41 : List It := [(.iconst 0, 1, 0, 0, 0, 0), (.istore 4, 2, 4, 0, 0, 0), (.iconst 0, 1, 0, 0, 0, 0), (.istore 5, 2, 5, 0, 0, 0)]
def bk_X12_rankBy_47 : List It := [(.iload 5, 2, 5, 0, 0, 0), (.iload_n 3, 1, 3, 0, 0, 0), (.if_icmp .ge 84, 3, 134, 0, 0, 0), (.iload 4, 2, 4, 0, 0, 0), (.aload_n 0, 1, 0, 0, 0, 0), (.getfield 169, 3, 12, 13, 0, 0), (.if_icmp .ge 75, 3, 134, 0, 0, 0), (.iload 4, 2, 4, 0, 0, 0), (.istore 6, 2, 6, 0, 0, 0)]
def bk_X12_rankBy_66 : List It := [(.iload 6, 2, 6, 0, 0, 0), (.aload_n 0, 1, 0, 0, 0, 0), (.getfield 169, 3, 12, 13, 0, 0), (.if_icmp .ge 27, 3, 99, 0, 0, 0), (.aload_n 0, 1, 0, 0, 0, 0), (.getfield 48, 3, 12, 15, 2, 0), (.bipush 22, 2, 0, 0, 0, 22), (.iload 6, 2, 6, 0, 0, 0), (.imul, 1, 0, 0, 0, 0), (.iload 5, 2, 5, 0, 0, 0), (.iadd, 1, 0, 0, 0, 0), (.laload, 1, 0, 0, 0, 0), (.lconst 0, 1, 0, 0, 0, 0), (.lcmp, 1, 0, 0, 0, 0), (.ifCond .ne 9, 3, 99, 0, 0, 0), (.iinc 6 1, 3, 6, 0, 0, 1), (.goto (-30), 3, 66, 0, 0, 0)]
def bk_X12_rankBy_99 : List It := [(.iload 6, 2, 6, 0, 0, 0), (.aload_n 0, 1, 0, 0, 0, 0), (.getfield 169, 3, 12, 13, 0, 0), (.if_icmp .ge 23, 3, 128, 0, 0, 0), (.aload_n 0, 1, 0, 0, 0, 0), (.iload 6, 2, 6, 0, 0, 0), (.iload 4, 2, 4, 0, 0, 0), (.invokevirtual 174, 3, 2, 135, 12, 0)]
def bk_X12_rankBy_116 : List It := [(.aload_n 0, 1, 0, 0, 0, 0), (.iload 4, 2, 4, 0, 0, 0), (.iload 5, 2, 5, 0, 0, 0), (.lload_n 1, 1, 1, 0, 0, 0), (.invokevirtual 178, 3, 3, 136, 12, 0)]
def bk_X12_rankBy_125 : List It := [(.iinc 4 1, 3, 4, 0, 0, 1)]
def bk_X12_rankBy_128 : List It := [(.iinc 5 1, 3, 5, 0, 0, 1), (.goto (-84), 3, 47, 0, 0, 0)]
def bk_X12_rankBy_134 : List It := [(.iload 4, 2, 4, 0, 0, 0), (.ireturn, 1, 0, 0, 0, 0)]
def bl_X12_rankBy : List (Nat × List It) := [(0, bk_X12_rankBy_0), (3, bk_X12_rankBy_3), (41, bk_X12_rankBy_41), (47, bk_X12_rankBy_47), (66, bk_X12_rankBy_66), (99, bk_X12_rankBy_99), (116, bk_X12_rankBy_116), (125, bk_X12_rankBy_125), (128, bk_X12_rankBy_128), (134, bk_X12_rankBy_134)]
theorem bq_X12_rankBy_0 : lkB bl_X12_rankBy 0 = bk_X12_rankBy_0 := rfl
theorem bq_X12_rankBy_3 : lkB bl_X12_rankBy 3 = bk_X12_rankBy_3 := rfl
theorem bq_X12_rankBy_41 : lkB bl_X12_rankBy 41 = bk_X12_rankBy_41 := rfl
theorem bq_X12_rankBy_47 : lkB bl_X12_rankBy 47 = bk_X12_rankBy_47 := rfl
theorem bq_X12_rankBy_66 : lkB bl_X12_rankBy 66 = bk_X12_rankBy_66 := rfl
theorem bq_X12_rankBy_99 : lkB bl_X12_rankBy 99 = bk_X12_rankBy_99 := rfl
theorem bq_X12_rankBy_116 : lkB bl_X12_rankBy 116 = bk_X12_rankBy_116 := rfl
theorem bq_X12_rankBy_125 : lkB bl_X12_rankBy 125 = bk_X12_rankBy_125 := rfl
theorem bq_X12_rankBy_128 : lkB bl_X12_rankBy 128 = bk_X12_rankBy_128 := rfl
theorem bq_X12_rankBy_134 : lkB bl_X12_rankBy 134 = bk_X12_rankBy_134 := rfl
set_option maxRecDepth 20000 in
theorem ck_X12_rankBy : ckB rs_X12_rankBy false 12 7 prog_14_method_22_code bl_X12_rankBy = true := by decide +kernel

def rs_X12_exchange : Rs := rf_X12 []
def bk_X12_exchange_0 : List It := [(.iconst 0, 1, 0, 0, 0, 0), (.istore_n 3, 1, 3, 0, 0, 0)]
def bk_X12_exchange_2 : List It := [(.iload_n 3, 1, 3, 0, 0, 0), (.bipush 22, 2, 0, 0, 0, 22), (.if_icmp .ge 57, 3, 62, 0, 0, 0), (.aload_n 0, 1, 0, 0, 0, 0), (.getfield 48, 3, 12, 15, 2, 0), (.bipush 22, 2, 0, 0, 0, 22), (.iload_n 1, 1, 1, 0, 0, 0), (.imul, 1, 0, 0, 0, 0), (.iload_n 3, 1, 3, 0, 0, 0), (.iadd, 1, 0, 0, 0, 0), (.laload, 1, 0, 0, 0, 0), (.lstore 4, 2, 4, 0, 0, 0), (.aload_n 0, 1, 0, 0, 0, 0), (.getfield 48, 3, 12, 15, 2, 0), (.bipush 22, 2, 0, 0, 0, 22), (.iload_n 1, 1, 1, 0, 0, 0), (.imul, 1, 0, 0, 0, 0), (.iload_n 3, 1, 3, 0, 0, 0), (.iadd, 1, 0, 0, 0, 0), (.aload_n 0, 1, 0, 0, 0, 0), (.getfield 48, 3, 12, 15, 2, 0), (.bipush 22, 2, 0, 0, 0, 22), (.iload_n 2, 1, 2, 0, 0, 0), (.imul, 1, 0, 0, 0, 0), (.iload_n 3, 1, 3, 0, 0, 0), (.iadd, 1, 0, 0, 0, 0), (.laload, 1, 0, 0, 0, 0), (.lastore, 1, 0, 0, 0, 0), (.aload_n 0, 1, 0, 0, 0, 0), (.getfield 48, 3, 12, 15, 2, 0), (.bipush 22, 2, 0, 0, 0, 22), (.iload_n 2, 1, 2, 0, 0, 0), (.imul, 1, 0, 0, 0, 0), (.iload_n 3, 1, 3, 0, 0, 0), (.iadd, 1, 0, 0, 0, 0), (.lload 4, 2, 4, 0, 0, 0), (.lastore, 1, 0, 0, 0, 0), (.iinc 3 1, 3, 3, 0, 0, 1), (.goto (-57), 3, 2, 0, 0, 0)]
def bk_X12_exchange_62 : List It := [(.return_, 1, 0, 0, 0, 0)]
def bl_X12_exchange : List (Nat × List It) := [(0, bk_X12_exchange_0), (2, bk_X12_exchange_2), (62, bk_X12_exchange_62)]
theorem bq_X12_exchange_0 : lkB bl_X12_exchange 0 = bk_X12_exchange_0 := rfl
theorem bq_X12_exchange_2 : lkB bl_X12_exchange 2 = bk_X12_exchange_2 := rfl
theorem bq_X12_exchange_62 : lkB bl_X12_exchange 62 = bk_X12_exchange_62 := rfl
set_option maxRecDepth 20000 in
theorem ck_X12_exchange : ckB rs_X12_exchange false 12 6 prog_14_method_23_code bl_X12_exchange = true := by decide +kernel

def rs_X12_clearBelow : Rs := rf_X12 [(1, 182, 3, 133, 0)]
def bk_X12_clearBelow_0 : List It := [(.aload_n 0, 1, 0, 0, 0, 0), (.getfield 48, 3, 12, 15, 2, 0), (.bipush 22, 2, 0, 0, 0, 22), (.iload_n 1, 1, 1, 0, 0, 0), (.imul, 1, 0, 0, 0, 0), (.iload_n 2, 1, 2, 0, 0, 0), (.iadd, 1, 0, 0, 0, 0), (.laload, 1, 0, 0, 0, 0), (.lload_n 3, 1, 3, 0, 0, 0), (.ldc2_w 140, 3, 0, 0, 0, 2), (.lsub, 1, 0, 0, 0, 0), (.lload_n 3, 1, 3, 0, 0, 0), (.invokestatic 182, 3, 3, 133, 0, 0)]
def bk_X12_clearBelow_20 : List It := [(.lstore 5, 2, 5, 0, 0, 0), (.iload_n 1, 1, 1, 0, 0, 0), (.iconst 1, 1, 0, 0, 0, 1), (.iadd, 1, 0, 0, 0, 0), (.istore 7, 2, 7, 0, 0, 0)]
def bk_X12_clearBelow_27 : List It := [(.iload 7, 2, 7, 0, 0, 0), (.aload_n 0, 1, 0, 0, 0, 0), (.getfield 169, 3, 12, 13, 0, 0), (.if_icmp .ge 97, 3, 130, 0, 0, 0), (.aload_n 0, 1, 0, 0, 0, 0), (.getfield 48, 3, 12, 15, 2, 0), (.bipush 22, 2, 0, 0, 0, 22), (.iload 7, 2, 7, 0, 0, 0), (.imul, 1, 0, 0, 0, 0), (.iload_n 2, 1, 2, 0, 0, 0), (.iadd, 1, 0, 0, 0, 0), (.laload, 1, 0, 0, 0, 0), (.lload 5, 2, 5, 0, 0, 0), (.lmul, 1, 0, 0, 0, 0), (.lload_n 3, 1, 3, 0, 0, 0), (.lrem, 1, 0, 0, 0, 0), (.lstore 8, 2, 8, 0, 0, 0), (.iload_n 2, 1, 2, 0, 0, 0), (.istore 10, 2, 10, 0, 0, 0)]
def bk_X12_clearBelow_58 : List It := [(.iload 10, 2, 10, 0, 0, 0), (.bipush 22, 2, 0, 0, 0, 22), (.if_icmp .ge 62, 3, 124, 0, 0, 0), (.lload 8, 2, 8, 0, 0, 0), (.lconst 0, 1, 0, 0, 0, 0), (.lcmp, 1, 0, 0, 0, 0), (.ifCond .eq 55, 3, 124, 0, 0, 0), (.aload_n 0, 1, 0, 0, 0, 0), (.getfield 48, 3, 12, 15, 2, 0), (.bipush 22, 2, 0, 0, 0, 22), (.iload 7, 2, 7, 0, 0, 0), (.imul, 1, 0, 0, 0, 0), (.iload 10, 2, 10, 0, 0, 0), (.iadd, 1, 0, 0, 0, 0), (.aload_n 0, 1, 0, 0, 0, 0), (.getfield 48, 3, 12, 15, 2, 0), (.bipush 22, 2, 0, 0, 0, 22), (.iload 7, 2, 7, 0, 0, 0), (.imul, 1, 0, 0, 0, 0), (.iload 10, 2, 10, 0, 0, 0), (.iadd, 1, 0, 0, 0, 0), (.laload, 1, 0, 0, 0, 0), (.lload_n 3, 1, 3, 0, 0, 0), (.lload 8, 2, 8, 0, 0, 0), (.lsub, 1, 0, 0, 0, 0), (.aload_n 0, 1, 0, 0, 0, 0), (.getfield 48, 3, 12, 15, 2, 0), (.bipush 22, 2, 0, 0, 0, 22), (.iload_n 1, 1, 1, 0, 0, 0), (.imul, 1, 0, 0, 0, 0), (.iload 10, 2, 10, 0, 0, 0), (.iadd, 1, 0, 0, 0, 0), (.laload, 1, 0, 0, 0, 0), (.lmul, 1, 0, 0, 0, 0), (.ladd, 1, 0, 0, 0, 0), (.lload_n 3, 1, 3, 0, 0, 0), (.lrem, 1, 0, 0, 0, 0), (.lastore, 1, 0, 0, 0, 0), (.iinc 10 1, 3, 10, 0, 0, 1), (.goto (-63), 3, 58, 0, 0, 0)]
def bk_X12_clearBelow_124 : List It := [(.iinc 7 1, 3, 7, 0, 0, 1), (.goto (-100), 3, 27, 0, 0, 0)]
def bk_X12_clearBelow_130 : List It := [(.return_, 1, 0, 0, 0, 0)]
def bl_X12_clearBelow : List (Nat × List It) := [(0, bk_X12_clearBelow_0), (20, bk_X12_clearBelow_20), (27, bk_X12_clearBelow_27), (58, bk_X12_clearBelow_58), (124, bk_X12_clearBelow_124), (130, bk_X12_clearBelow_130)]
theorem bq_X12_clearBelow_0 : lkB bl_X12_clearBelow 0 = bk_X12_clearBelow_0 := rfl
theorem bq_X12_clearBelow_20 : lkB bl_X12_clearBelow 20 = bk_X12_clearBelow_20 := rfl
theorem bq_X12_clearBelow_27 : lkB bl_X12_clearBelow 27 = bk_X12_clearBelow_27 := rfl
theorem bq_X12_clearBelow_58 : lkB bl_X12_clearBelow 58 = bk_X12_clearBelow_58 := rfl
theorem bq_X12_clearBelow_124 : lkB bl_X12_clearBelow 124 = bk_X12_clearBelow_124 := rfl
theorem bq_X12_clearBelow_130 : lkB bl_X12_clearBelow 130 = bk_X12_clearBelow_130 := rfl
set_option maxRecDepth 20000 in
theorem ck_X12_clearBelow : ckB rs_X12_clearBelow false 12 11 prog_14_method_24_code bl_X12_clearBelow = true := by decide +kernel

def rs_X12_rank : Rs := rf_X12 [(0, 188, 2, 134, 12)]
def bk_X12_rank_0 : List It := [(.aload_n 0, 1, 0, 0, 0, 0), (.ldc2_w 186, 3, 0, 0, 0, 2147483647), (.iload_n 1, 1, 1, 0, 0, 0), (.invokevirtual 188, 3, 2, 134, 12, 0)]
def bk_X12_rank_8 : List It := [(.istore_n 2, 1, 2, 0, 0, 0), (.aload_n 0, 1, 0, 0, 0, 0), (.ldc2_w 192, 3, 0, 0, 0, 2147483629), (.iload_n 1, 1, 1, 0, 0, 0), (.invokevirtual 188, 3, 2, 134, 12, 0)]
def bk_X12_rank_17 : List It := [(.istore_n 3, 1, 3, 0, 0, 0), (.aload_n 0, 1, 0, 0, 0, 0), (.ldc2_w 194, 3, 0, 0, 0, 2147483587), (.iload_n 1, 1, 1, 0, 0, 0), (.invokevirtual 188, 3, 2, 134, 12, 0)]
def bk_X12_rank_26 : List It := [(.istore 4, 2, 4, 0, 0, 0), (.aload_n 0, 1, 0, 0, 0, 0), (.ldc2_w 196, 3, 0, 0, 0, 2147483579), (.iload_n 1, 1, 1, 0, 0, 0), (.invokevirtual 188, 3, 2, 134, 12, 0)]
def bk_X12_rank_36 : List It := [(.istore 5, 2, 5, 0, 0, 0), (.iload_n 3, 1, 3, 0, 0, 0), (.iload_n 2, 1, 2, 0, 0, 0), (.if_icmp .le 7, 3, 47, 0, 0, 0), (.iload_n 3, 1, 3, 0, 0, 0), (.goto 4, 3, 48, 0, 0, 0)]
def bk_X12_rank_47 : List It := [(.iload_n 2, 1, 2, 0, 0, 0)]
def bk_X12_rank_48 : List It := [(.istore_n 2, 1, 2, 0, 0, 0), (.iload 5, 2, 5, 0, 0, 0), (.iload 4, 2, 4, 0, 0, 0), (.if_icmp .le 8, 3, 61, 0, 0, 0), (.iload 5, 2, 5, 0, 0, 0), (.goto 5, 3, 63, 0, 0, 0)]
def bk_X12_rank_61 : List It := [(.iload 4, 2, 4, 0, 0, 0)]
def bk_X12_rank_63 : List It := [(.istore 4, 2, 4, 0, 0, 0), (.iload 4, 2, 4, 0, 0, 0), (.iload_n 2, 1, 2, 0, 0, 0), (.if_icmp .le 8, 3, 76, 0, 0, 0), (.iload 4, 2, 4, 0, 0, 0), (.goto 4, 3, 77, 0, 0, 0)]
def bk_X12_rank_76 : List It := [(.iload_n 2, 1, 2, 0, 0, 0)]
def bk_X12_rank_77 : List It := [(.ireturn, 1, 0, 0, 0, 0)]
def bl_X12_rank : List (Nat × List It) := [(0, bk_X12_rank_0), (8, bk_X12_rank_8), (17, bk_X12_rank_17), (26, bk_X12_rank_26), (36, bk_X12_rank_36), (47, bk_X12_rank_47), (48, bk_X12_rank_48), (61, bk_X12_rank_61), (63, bk_X12_rank_63), (76, bk_X12_rank_76), (77, bk_X12_rank_77)]
theorem bq_X12_rank_0 : lkB bl_X12_rank 0 = bk_X12_rank_0 := rfl
theorem bq_X12_rank_8 : lkB bl_X12_rank 8 = bk_X12_rank_8 := rfl
theorem bq_X12_rank_17 : lkB bl_X12_rank 17 = bk_X12_rank_17 := rfl
theorem bq_X12_rank_26 : lkB bl_X12_rank 26 = bk_X12_rank_26 := rfl
theorem bq_X12_rank_36 : lkB bl_X12_rank 36 = bk_X12_rank_36 := rfl
theorem bq_X12_rank_47 : lkB bl_X12_rank 47 = bk_X12_rank_47 := rfl
theorem bq_X12_rank_48 : lkB bl_X12_rank 48 = bk_X12_rank_48 := rfl
theorem bq_X12_rank_61 : lkB bl_X12_rank 61 = bk_X12_rank_61 := rfl
theorem bq_X12_rank_63 : lkB bl_X12_rank 63 = bk_X12_rank_63 := rfl
theorem bq_X12_rank_76 : lkB bl_X12_rank 76 = bk_X12_rank_76 := rfl
theorem bq_X12_rank_77 : lkB bl_X12_rank 77 = bk_X12_rank_77 := rfl
set_option maxRecDepth 20000 in
theorem ck_X12_rank : ckB rs_X12_rank false 12 6 prog_14_method_25_code bl_X12_rank = true := by decide +kernel

def rs_X12_layRows : Rs := rf_X12 [(0, 162, 1, 126, 12), (0, 198, 5, 132, 12)]
def bk_X12_layRows_0 : List It := [(.aload_n 0, 1, 0, 0, 0, 0), (.iconst 0, 1, 0, 0, 0, 0), (.putfield 169, 3, 12, 13, 0, 0), (.iconst 0, 1, 0, 0, 0, 0), (.istore_n 3, 1, 3, 0, 0, 0)]
def bk_X12_layRows_7 : List It := [(.iload_n 3, 1, 3, 0, 0, 0), (.aload_n 0, 1, 0, 0, 0, 0), (.getfield 146, 3, 12, 4, 0, 0), (.if_icmp .ge 91, 3, 103, 0, 0, 0), (.iload_n 1, 1, 1, 0, 0, 0), (.iload_n 3, 1, 3, 0, 0, 0), (.ishr, 1, 0, 0, 0, 0), (.iconst 1, 1, 0, 0, 0, 1), (.iand, 1, 0, 0, 0, 0), (.iconst 1, 1, 0, 0, 0, 1), (.if_icmp .ne 76, 3, 97, 0, 0, 0), (.aload_n 0, 1, 0, 0, 0, 0), (.iload_n 3, 1, 3, 0, 0, 0), (.invokevirtual 162, 3, 1, 126, 12, 0)]
def bk_X12_layRows_29 : List It := [(.ifCond .eq 68, 3, 97, 0, 0, 0), (.iload_n 2, 1, 2, 0, 0, 0), (.ifCond .eq 14, 3, 47, 0, 0, 0), (.aload_n 0, 1, 0, 0, 0, 0), (.getfield 41, 3, 12, 12, 2, 0), (.iload_n 3, 1, 3, 0, 0, 0), (.iaload, 1, 0, 0, 0, 0), (.ldc 154, 2, 0, 0, 0, (-900009)), (.if_icmp .eq 53, 3, 97, 0, 0, 0)]
def bk_X12_layRows_47 : List It := [(.aload_n 0, 1, 0, 0, 0, 0), (.aload_n 0, 1, 0, 0, 0, 0), (.getfield 20, 3, 12, 5, 2, 0), (.iload_n 3, 1, 3, 0, 0, 0), (.iaload, 1, 0, 0, 0, 0), (.aload_n 0, 1, 0, 0, 0, 0), (.getfield 23, 3, 12, 6, 2, 0), (.iload_n 3, 1, 3, 0, 0, 0), (.iaload, 1, 0, 0, 0, 0), (.aload_n 0, 1, 0, 0, 0, 0), (.getfield 26, 3, 12, 7, 2, 0), (.iload_n 3, 1, 3, 0, 0, 0), (.iaload, 1, 0, 0, 0, 0), (.aload_n 0, 1, 0, 0, 0, 0), (.getfield 29, 3, 12, 8, 2, 0), (.iload_n 3, 1, 3, 0, 0, 0), (.iaload, 1, 0, 0, 0, 0), (.iload_n 2, 1, 2, 0, 0, 0), (.ifCond .eq 20, 3, 93, 0, 0, 0), (.aload_n 0, 1, 0, 0, 0, 0), (.getfield 41, 3, 12, 12, 2, 0), (.iload_n 3, 1, 3, 0, 0, 0), (.iaload, 1, 0, 0, 0, 0), (.aload_n 0, 1, 0, 0, 0, 0), (.getfield 38, 3, 12, 11, 2, 0), (.iload_n 3, 1, 3, 0, 0, 0), (.iaload, 1, 0, 0, 0, 0), (.isub, 1, 0, 0, 0, 0), (.i2l, 1, 0, 0, 0, 0), (.goto 4, 3, 94, 0, 0, 0)]
def bk_X12_layRows_93 : List It := [(.lconst 0, 1, 0, 0, 0, 0)]
def bk_X12_layRows_94 : List It := [(.invokevirtual 198, 3, 5, 132, 12, 0)]
def bk_X12_layRows_97 : List It := [(.iinc 3 1, 3, 3, 0, 0, 1), (.goto (-93), 3, 7, 0, 0, 0)]
def bk_X12_layRows_103 : List It := [(.return_, 1, 0, 0, 0, 0)]
def bl_X12_layRows : List (Nat × List It) := [(0, bk_X12_layRows_0), (7, bk_X12_layRows_7), (29, bk_X12_layRows_29), (47, bk_X12_layRows_47), (93, bk_X12_layRows_93), (94, bk_X12_layRows_94), (97, bk_X12_layRows_97), (103, bk_X12_layRows_103)]
theorem bq_X12_layRows_0 : lkB bl_X12_layRows 0 = bk_X12_layRows_0 := rfl
theorem bq_X12_layRows_7 : lkB bl_X12_layRows 7 = bk_X12_layRows_7 := rfl
theorem bq_X12_layRows_29 : lkB bl_X12_layRows 29 = bk_X12_layRows_29 := rfl
theorem bq_X12_layRows_47 : lkB bl_X12_layRows 47 = bk_X12_layRows_47 := rfl
theorem bq_X12_layRows_93 : lkB bl_X12_layRows 93 = bk_X12_layRows_93 := rfl
theorem bq_X12_layRows_94 : lkB bl_X12_layRows 94 = bk_X12_layRows_94 := rfl
theorem bq_X12_layRows_97 : lkB bl_X12_layRows 97 = bk_X12_layRows_97 := rfl
theorem bq_X12_layRows_103 : lkB bl_X12_layRows 103 = bk_X12_layRows_103 := rfl
set_option maxRecDepth 20000 in
theorem ck_X12_layRows : ckB rs_X12_layRows false 12 4 prog_14_method_26_code bl_X12_layRows = true := by decide +kernel

def rs_X12_rankOf : Rs := rf_X12 [(0, 202, 2, 138, 12), (0, 206, 1, 137, 12)]
def bk_X12_rankOf_0 : List It := [(.aload_n 0, 1, 0, 0, 0, 0), (.iload_n 1, 1, 1, 0, 0, 0), (.iconst 0, 1, 0, 0, 0, 0), (.invokevirtual 202, 3, 2, 138, 12, 0)]
def bk_X12_rankOf_6 : List It := [(.aload_n 0, 1, 0, 0, 0, 0), (.bipush 21, 2, 0, 0, 0, 21), (.invokevirtual 206, 3, 1, 137, 12, 0)]
def bk_X12_rankOf_12 : List It := [(.ireturn, 1, 0, 0, 0, 0)]
def bl_X12_rankOf : List (Nat × List It) := [(0, bk_X12_rankOf_0), (6, bk_X12_rankOf_6), (12, bk_X12_rankOf_12)]
theorem bq_X12_rankOf_0 : lkB bl_X12_rankOf 0 = bk_X12_rankOf_0 := rfl
theorem bq_X12_rankOf_6 : lkB bl_X12_rankOf 6 = bk_X12_rankOf_6 := rfl
theorem bq_X12_rankOf_12 : lkB bl_X12_rankOf 12 = bk_X12_rankOf_12 := rfl
set_option maxRecDepth 20000 in
theorem ck_X12_rankOf : ckB rs_X12_rankOf false 12 2 prog_14_method_27_code bl_X12_rankOf = true := by decide +kernel

def rs_X12_moves : Rs := rf_X12 [(0, 210, 1, 139, 12), (0, 213, 0, 117, 12)]
def bk_X12_moves_0 : List It := [(.aload_n 0, 1, 0, 0, 0, 0), (.ldc 209, 2, 0, 0, 0, 16777215), (.invokevirtual 210, 3, 1, 139, 12, 0)]
def bk_X12_moves_6 : List It := [(.istore_n 2, 1, 2, 0, 0, 0), (.iload_n 1, 1, 1, 0, 0, 0), (.ifCond .eq 7, 3, 15, 0, 0, 0), (.iload_n 2, 1, 2, 0, 0, 0), (.goto 11, 3, 23, 0, 0, 0)]
def bk_X12_moves_15 : List It := [(.iconst 3, 1, 0, 0, 0, 3), (.aload_n 0, 1, 0, 0, 0, 0), (.invokevirtual 213, 3, 0, 117, 12, 0)]
def bk_X12_moves_20 : List It := [(.imul, 1, 0, 0, 0, 0), (.iload_n 2, 1, 2, 0, 0, 0), (.isub, 1, 0, 0, 0, 0)]
def bk_X12_moves_23 : List It := [(.ireturn, 1, 0, 0, 0, 0)]
def bl_X12_moves : List (Nat × List It) := [(0, bk_X12_moves_0), (6, bk_X12_moves_6), (15, bk_X12_moves_15), (20, bk_X12_moves_20), (23, bk_X12_moves_23)]
theorem bq_X12_moves_0 : lkB bl_X12_moves 0 = bk_X12_moves_0 := rfl
theorem bq_X12_moves_6 : lkB bl_X12_moves 6 = bk_X12_moves_6 := rfl
theorem bq_X12_moves_15 : lkB bl_X12_moves 15 = bk_X12_moves_15 := rfl
theorem bq_X12_moves_20 : lkB bl_X12_moves 20 = bk_X12_moves_20 := rfl
theorem bq_X12_moves_23 : lkB bl_X12_moves 23 = bk_X12_moves_23 := rfl
set_option maxRecDepth 20000 in
theorem ck_X12_moves : ckB rs_X12_moves false 12 3 prog_14_method_28_code bl_X12_moves = true := by decide +kernel

def rs_X12_unseen : Rs := rf_X12 [(0, 162, 1, 126, 12), (0, 217, 3, 123, 12)]
def bk_X12_unseen_0 : List It := [(.iconst 0, 1, 0, 0, 0, 0), (.istore_n 1, 1, 1, 0, 0, 0)]
def bk_X12_unseen_2 : List It := [(.iload_n 1, 1, 1, 0, 0, 0), (.aload_n 0, 1, 0, 0, 0, 0), (.getfield 146, 3, 12, 4, 0, 0), (.if_icmp .ge 66, 3, 73, 0, 0, 0), (.aload_n 0, 1, 0, 0, 0, 0), (.iload_n 1, 1, 1, 0, 0, 0), (.invokevirtual 162, 3, 1, 126, 12, 0)]
def bk_X12_unseen_15 : List It := [(.ifCond .eq 52, 3, 67, 0, 0, 0), (.aload_n 0, 1, 0, 0, 0, 0), (.aload_n 0, 1, 0, 0, 0, 0), (.getfield 20, 3, 12, 5, 2, 0), (.iload_n 1, 1, 1, 0, 0, 0), (.iaload, 1, 0, 0, 0, 0), (.aload_n 0, 1, 0, 0, 0, 0), (.getfield 26, 3, 12, 7, 2, 0), (.iload_n 1, 1, 1, 0, 0, 0), (.iaload, 1, 0, 0, 0, 0), (.aload_n 0, 1, 0, 0, 0, 0), (.getfield 29, 3, 12, 8, 2, 0), (.iload_n 1, 1, 1, 0, 0, 0), (.iaload, 1, 0, 0, 0, 0), (.invokevirtual 217, 3, 3, 123, 12, 0)]
def bk_X12_unseen_40 : List It := [(.aload_n 0, 1, 0, 0, 0, 0), (.aload_n 0, 1, 0, 0, 0, 0), (.getfield 23, 3, 12, 6, 2, 0), (.iload_n 1, 1, 1, 0, 0, 0), (.iaload, 1, 0, 0, 0, 0), (.aload_n 0, 1, 0, 0, 0, 0), (.getfield 26, 3, 12, 7, 2, 0), (.iload_n 1, 1, 1, 0, 0, 0), (.iaload, 1, 0, 0, 0, 0), (.aload_n 0, 1, 0, 0, 0, 0), (.getfield 29, 3, 12, 8, 2, 0), (.iload_n 1, 1, 1, 0, 0, 0), (.iaload, 1, 0, 0, 0, 0), (.invokevirtual 217, 3, 3, 123, 12, 0)]
def bk_X12_unseen_62 : List It := [(.if_icmp .eq 5, 3, 67, 0, 0, 0), (.iconst 0, 1, 0, 0, 0, 0), (.ireturn, 1, 0, 0, 0, 0)]
def bk_X12_unseen_67 : List It := [(.iinc 1 1, 3, 1, 0, 0, 1), (.goto (-68), 3, 2, 0, 0, 0)]
def bk_X12_unseen_73 : List It := [(.iconst 1, 1, 0, 0, 0, 1), (.ireturn, 1, 0, 0, 0, 0)]
def bl_X12_unseen : List (Nat × List It) := [(0, bk_X12_unseen_0), (2, bk_X12_unseen_2), (15, bk_X12_unseen_15), (40, bk_X12_unseen_40), (62, bk_X12_unseen_62), (67, bk_X12_unseen_67), (73, bk_X12_unseen_73)]
theorem bq_X12_unseen_0 : lkB bl_X12_unseen 0 = bk_X12_unseen_0 := rfl
theorem bq_X12_unseen_2 : lkB bl_X12_unseen 2 = bk_X12_unseen_2 := rfl
theorem bq_X12_unseen_15 : lkB bl_X12_unseen 15 = bk_X12_unseen_15 := rfl
theorem bq_X12_unseen_40 : lkB bl_X12_unseen 40 = bk_X12_unseen_40 := rfl
theorem bq_X12_unseen_62 : lkB bl_X12_unseen 62 = bk_X12_unseen_62 := rfl
theorem bq_X12_unseen_67 : lkB bl_X12_unseen 67 = bk_X12_unseen_67 := rfl
theorem bq_X12_unseen_73 : lkB bl_X12_unseen 73 = bk_X12_unseen_73 := rfl
set_option maxRecDepth 20000 in
theorem ck_X12_unseen : ckB rs_X12_unseen false 12 2 prog_14_method_29_code bl_X12_unseen = true := by decide +kernel

def rs_X12_needed : Rs := rf_X12 [(0, 155, 1, 124, 12), (0, 162, 1, 126, 12), (0, 210, 1, 139, 12)]
def bk_X12_needed_0 : List It := [(.aload_n 0, 1, 0, 0, 0, 0), (.iload_n 1, 1, 1, 0, 0, 0), (.invokevirtual 155, 3, 1, 124, 12, 0)]
def bk_X12_needed_5 : List It := [(.ifCond .ne 6, 3, 11, 0, 0, 0), (.ldc 130, 2, 0, 0, 0, (-900001)), (.ireturn, 1, 0, 0, 0, 0)]
def bk_X12_needed_11 : List It := [(.aload_n 0, 1, 0, 0, 0, 0), (.iload_n 1, 1, 1, 0, 0, 0), (.invokevirtual 162, 3, 1, 126, 12, 0)]
def bk_X12_needed_16 : List It := [(.ifCond .eq 28, 3, 44, 0, 0, 0), (.aload_n 0, 1, 0, 0, 0, 0), (.ldc 209, 2, 0, 0, 0, 16777215), (.iconst 1, 1, 0, 0, 0, 1), (.iload_n 1, 1, 1, 0, 0, 0), (.ishl, 1, 0, 0, 0, 0), (.iconst (-1), 1, 0, 0, 0, (-1)), (.ixor, 1, 0, 0, 0, 0), (.iand, 1, 0, 0, 0, 0), (.invokevirtual 210, 3, 1, 139, 12, 0)]
def bk_X12_needed_31 : List It := [(.aload_n 0, 1, 0, 0, 0, 0), (.ldc 209, 2, 0, 0, 0, 16777215), (.invokevirtual 210, 3, 1, 139, 12, 0)]
def bk_X12_needed_37 : List It := [(.if_icmp .ge 7, 3, 44, 0, 0, 0), (.iconst 1, 1, 0, 0, 0, 1), (.goto 4, 3, 45, 0, 0, 0)]
def bk_X12_needed_44 : List It := [(.iconst 0, 1, 0, 0, 0, 0)]
def bk_X12_needed_45 : List It := [(.ireturn, 1, 0, 0, 0, 0)]
def bl_X12_needed : List (Nat × List It) := [(0, bk_X12_needed_0), (5, bk_X12_needed_5), (11, bk_X12_needed_11), (16, bk_X12_needed_16), (31, bk_X12_needed_31), (37, bk_X12_needed_37), (44, bk_X12_needed_44), (45, bk_X12_needed_45)]
theorem bq_X12_needed_0 : lkB bl_X12_needed 0 = bk_X12_needed_0 := rfl
theorem bq_X12_needed_5 : lkB bl_X12_needed 5 = bk_X12_needed_5 := rfl
theorem bq_X12_needed_11 : lkB bl_X12_needed 11 = bk_X12_needed_11 := rfl
theorem bq_X12_needed_16 : lkB bl_X12_needed 16 = bk_X12_needed_16 := rfl
theorem bq_X12_needed_31 : lkB bl_X12_needed 31 = bk_X12_needed_31 := rfl
theorem bq_X12_needed_37 : lkB bl_X12_needed 37 = bk_X12_needed_37 := rfl
theorem bq_X12_needed_44 : lkB bl_X12_needed 44 = bk_X12_needed_44 := rfl
theorem bq_X12_needed_45 : lkB bl_X12_needed 45 = bk_X12_needed_45 := rfl
set_option maxRecDepth 20000 in
theorem ck_X12_needed : ckB rs_X12_needed false 12 2 prog_14_method_30_code bl_X12_needed = true := by decide +kernel

def rs_X12_bestEyes : Rs := rf_X12 [(0, 162, 1, 126, 12), (0, 210, 1, 139, 12)]
def bk_X12_bestEyes_0 : List It := [(.iconst 0, 1, 0, 0, 0, 0), (.istore_n 1, 1, 1, 0, 0, 0), (.iconst 0, 1, 0, 0, 0, 0), (.istore_n 2, 1, 2, 0, 0, 0), (.iconst 1, 1, 0, 0, 0, 1), (.istore_n 3, 1, 3, 0, 0, 0)]
def bk_X12_bestEyes_6 : List It := [(.iload_n 3, 1, 3, 0, 0, 0), (.bipush 100, 2, 0, 0, 0, 100), (.if_icmp .ge 71, 3, 80, 0, 0, 0), (.iconst 0, 1, 0, 0, 0, 0), (.istore 4, 2, 4, 0, 0, 0)]
def bk_X12_bestEyes_15 : List It := [(.iload 4, 2, 4, 0, 0, 0), (.aload_n 0, 1, 0, 0, 0, 0), (.getfield 146, 3, 12, 4, 0, 0), (.if_icmp .ge 53, 3, 74, 0, 0, 0), (.aload_n 0, 1, 0, 0, 0, 0), (.getfield 32, 3, 12, 9, 2, 0), (.iload 4, 2, 4, 0, 0, 0), (.iaload, 1, 0, 0, 0, 0), (.iload_n 3, 1, 3, 0, 0, 0), (.if_icmp .ne 36, 3, 68, 0, 0, 0), (.aload_n 0, 1, 0, 0, 0, 0), (.iload 4, 2, 4, 0, 0, 0), (.invokevirtual 162, 3, 1, 126, 12, 0)]
def bk_X12_bestEyes_41 : List It := [(.ifCond .eq 27, 3, 68, 0, 0, 0), (.aload_n 0, 1, 0, 0, 0, 0), (.iload_n 1, 1, 1, 0, 0, 0), (.iconst 1, 1, 0, 0, 0, 1), (.iload 4, 2, 4, 0, 0, 0), (.ishl, 1, 0, 0, 0, 0), (.ior, 1, 0, 0, 0, 0), (.invokevirtual 210, 3, 1, 139, 12, 0)]
def bk_X12_bestEyes_54 : List It := [(.iload_n 2, 1, 2, 0, 0, 0), (.if_icmp .le 13, 3, 68, 0, 0, 0), (.iload_n 1, 1, 1, 0, 0, 0), (.iconst 1, 1, 0, 0, 0, 1), (.iload 4, 2, 4, 0, 0, 0), (.ishl, 1, 0, 0, 0, 0), (.ior, 1, 0, 0, 0, 0), (.istore_n 1, 1, 1, 0, 0, 0), (.iinc 2 1, 3, 2, 0, 0, 1)]
def bk_X12_bestEyes_68 : List It := [(.iinc 4 1, 3, 4, 0, 0, 1), (.goto (-56), 3, 15, 0, 0, 0)]
def bk_X12_bestEyes_74 : List It := [(.iinc 3 1, 3, 3, 0, 0, 1), (.goto (-71), 3, 6, 0, 0, 0)]
def bk_X12_bestEyes_80 : List It := [(.iload_n 1, 1, 1, 0, 0, 0), (.ireturn, 1, 0, 0, 0, 0)]
def bl_X12_bestEyes : List (Nat × List It) := [(0, bk_X12_bestEyes_0), (6, bk_X12_bestEyes_6), (15, bk_X12_bestEyes_15), (41, bk_X12_bestEyes_41), (54, bk_X12_bestEyes_54), (68, bk_X12_bestEyes_68), (74, bk_X12_bestEyes_74), (80, bk_X12_bestEyes_80)]
theorem bq_X12_bestEyes_0 : lkB bl_X12_bestEyes 0 = bk_X12_bestEyes_0 := rfl
theorem bq_X12_bestEyes_6 : lkB bl_X12_bestEyes 6 = bk_X12_bestEyes_6 := rfl
theorem bq_X12_bestEyes_15 : lkB bl_X12_bestEyes 15 = bk_X12_bestEyes_15 := rfl
theorem bq_X12_bestEyes_41 : lkB bl_X12_bestEyes 41 = bk_X12_bestEyes_41 := rfl
theorem bq_X12_bestEyes_54 : lkB bl_X12_bestEyes 54 = bk_X12_bestEyes_54 := rfl
theorem bq_X12_bestEyes_68 : lkB bl_X12_bestEyes 68 = bk_X12_bestEyes_68 := rfl
theorem bq_X12_bestEyes_74 : lkB bl_X12_bestEyes 74 = bk_X12_bestEyes_74 := rfl
theorem bq_X12_bestEyes_80 : lkB bl_X12_bestEyes 80 = bk_X12_bestEyes_80 := rfl
set_option maxRecDepth 20000 in
theorem ck_X12_bestEyes : ckB rs_X12_bestEyes false 12 5 prog_14_method_31_code bl_X12_bestEyes = true := by decide +kernel

def rs_X12_cheapest : Rs := rf_X12 [(0, 220, 0, 143, 12)]
def bk_X12_cheapest_0 : List It := [(.aload_n 0, 1, 0, 0, 0, 0), (.invokevirtual 220, 3, 0, 143, 12, 0)]
def bk_X12_cheapest_4 : List It := [(.istore_n 1, 1, 1, 0, 0, 0), (.iconst 0, 1, 0, 0, 0, 0), (.istore_n 2, 1, 2, 0, 0, 0), (.iconst 0, 1, 0, 0, 0, 0), (.istore_n 3, 1, 3, 0, 0, 0)]
def bk_X12_cheapest_9 : List It := [(.iload_n 3, 1, 3, 0, 0, 0), (.aload_n 0, 1, 0, 0, 0, 0), (.getfield 146, 3, 12, 4, 0, 0), (.if_icmp .ge 31, 3, 45, 0, 0, 0), (.iload_n 2, 1, 2, 0, 0, 0), (.iload_n 1, 1, 1, 0, 0, 0), (.iload_n 3, 1, 3, 0, 0, 0), (.ishr, 1, 0, 0, 0, 0), (.iconst 1, 1, 0, 0, 0, 1), (.iand, 1, 0, 0, 0, 0), (.iconst 1, 1, 0, 0, 0, 1), (.if_icmp .ne 12, 3, 36, 0, 0, 0), (.aload_n 0, 1, 0, 0, 0, 0), (.getfield 32, 3, 12, 9, 2, 0), (.iload_n 3, 1, 3, 0, 0, 0), (.iaload, 1, 0, 0, 0, 0), (.goto 4, 3, 37, 0, 0, 0)]
def bk_X12_cheapest_36 : List It := [(.iconst 0, 1, 0, 0, 0, 0)]
def bk_X12_cheapest_37 : List It := [(.iadd, 1, 0, 0, 0, 0), (.istore_n 2, 1, 2, 0, 0, 0), (.iinc 3 1, 3, 3, 0, 0, 1), (.goto (-33), 3, 9, 0, 0, 0)]
def bk_X12_cheapest_45 : List It := [(.iload_n 2, 1, 2, 0, 0, 0), (.ireturn, 1, 0, 0, 0, 0)]
def bl_X12_cheapest : List (Nat × List It) := [(0, bk_X12_cheapest_0), (4, bk_X12_cheapest_4), (9, bk_X12_cheapest_9), (36, bk_X12_cheapest_36), (37, bk_X12_cheapest_37), (45, bk_X12_cheapest_45)]
theorem bq_X12_cheapest_0 : lkB bl_X12_cheapest 0 = bk_X12_cheapest_0 := rfl
theorem bq_X12_cheapest_4 : lkB bl_X12_cheapest 4 = bk_X12_cheapest_4 := rfl
theorem bq_X12_cheapest_9 : lkB bl_X12_cheapest 9 = bk_X12_cheapest_9 := rfl
theorem bq_X12_cheapest_36 : lkB bl_X12_cheapest 36 = bk_X12_cheapest_36 := rfl
theorem bq_X12_cheapest_37 : lkB bl_X12_cheapest 37 = bk_X12_cheapest_37 := rfl
theorem bq_X12_cheapest_45 : lkB bl_X12_cheapest 45 = bk_X12_cheapest_45 := rfl
set_option maxRecDepth 20000 in
theorem ck_X12_cheapest : ckB rs_X12_cheapest false 12 4 prog_14_method_32_code bl_X12_cheapest = true := by decide +kernel

def rs_X12_nth : Rs := rf_X12 []
def bk_X12_nth_0 : List It := [(.iload_n 1, 1, 1, 0, 0, 0), (.istore_n 2, 1, 2, 0, 0, 0), (.iconst 0, 1, 0, 0, 0, 0), (.istore_n 3, 1, 3, 0, 0, 0)]
def bk_X12_nth_4 : List It := [(.iload_n 3, 1, 3, 0, 0, 0), (.bipush 24, 2, 0, 0, 0, 24), (.if_icmp .ge 31, 3, 38, 0, 0, 0), (.iload_n 1, 1, 1, 0, 0, 0), (.ifCond .lt 27, 3, 38, 0, 0, 0), (.iload_n 0, 1, 0, 0, 0, 0), (.iload_n 3, 1, 3, 0, 0, 0), (.ishr, 1, 0, 0, 0, 0), (.iconst 1, 1, 0, 0, 0, 1), (.iand, 1, 0, 0, 0, 0), (.iconst 1, 1, 0, 0, 0, 1), (.if_icmp .ne 12, 3, 32, 0, 0, 0), (.iload_n 2, 1, 2, 0, 0, 0), (.ifCond .ne 5, 3, 29, 0, 0, 0), (.iload_n 3, 1, 3, 0, 0, 0), (.ireturn, 1, 0, 0, 0, 0)]
def bk_X12_nth_29 : List It := [(.iinc 2 (-1), 3, 2, 0, 0, (-1))]
def bk_X12_nth_32 : List It := [(.iinc 3 1, 3, 3, 0, 0, 1), (.goto (-31), 3, 4, 0, 0, 0)]
def bk_X12_nth_38 : List It := [(.ldc 154, 2, 0, 0, 0, (-900009)), (.ireturn, 1, 0, 0, 0, 0)]
def bl_X12_nth : List (Nat × List It) := [(0, bk_X12_nth_0), (4, bk_X12_nth_4), (29, bk_X12_nth_29), (32, bk_X12_nth_32), (38, bk_X12_nth_38)]
theorem bq_X12_nth_0 : lkB bl_X12_nth 0 = bk_X12_nth_0 := rfl
theorem bq_X12_nth_4 : lkB bl_X12_nth 4 = bk_X12_nth_4 := rfl
theorem bq_X12_nth_29 : lkB bl_X12_nth 29 = bk_X12_nth_29 := rfl
theorem bq_X12_nth_32 : lkB bl_X12_nth 32 = bk_X12_nth_32 := rfl
theorem bq_X12_nth_38 : lkB bl_X12_nth 38 = bk_X12_nth_38 := rfl
set_option maxRecDepth 20000 in
theorem ck_X12_nth : ckB rs_X12_nth false 12 4 prog_14_method_33_code bl_X12_nth = true := by decide +kernel

def rs_X12_keep : Rs := rf_X12 [(0, 220, 0, 143, 12), (1, 223, 2, 145, 0)]
def bk_X12_keep_0 : List It := [(.aload_n 0, 1, 0, 0, 0, 0), (.invokevirtual 220, 3, 0, 143, 12, 0)]
def bk_X12_keep_4 : List It := [(.iload_n 1, 1, 1, 0, 0, 0), (.invokestatic 223, 3, 2, 145, 0, 0)]
def bk_X12_keep_8 : List It := [(.ireturn, 1, 0, 0, 0, 0)]
def bl_X12_keep : List (Nat × List It) := [(0, bk_X12_keep_0), (4, bk_X12_keep_4), (8, bk_X12_keep_8)]
theorem bq_X12_keep_0 : lkB bl_X12_keep 0 = bk_X12_keep_0 := rfl
theorem bq_X12_keep_4 : lkB bl_X12_keep 4 = bk_X12_keep_4 := rfl
theorem bq_X12_keep_8 : lkB bl_X12_keep 8 = bk_X12_keep_8 := rfl
set_option maxRecDepth 20000 in
theorem ck_X12_keep : ckB rs_X12_keep false 12 2 prog_14_method_34_code bl_X12_keep = true := by decide +kernel

def rs_X12_sure : Rs := rf_X12 [(0, 126, 1, 116, 12), (1, 149, 2, 125, 0), (0, 210, 1, 139, 12), (0, 198, 5, 132, 12), (0, 206, 1, 137, 12)]
def bk_X12_sure_0 : List It := [(.aload_n 0, 1, 0, 0, 0, 0), (.iload_n 1, 1, 1, 0, 0, 0), (.invokevirtual 126, 3, 1, 116, 12, 0)]
def bk_X12_sure_5 : List It := [(.ifCond .eq 11, 3, 16, 0, 0, 0), (.aload_n 0, 1, 0, 0, 0, 0), (.iload_n 2, 1, 2, 0, 0, 0), (.invokevirtual 126, 3, 1, 116, 12, 0)]
def bk_X12_sure_13 : List It := [(.ifCond .ne 6, 3, 19, 0, 0, 0)]
def bk_X12_sure_16 : List It := [(.ldc 130, 2, 0, 0, 0, (-900001)), (.ireturn, 1, 0, 0, 0, 0)]
def bk_X12_sure_19 : List It := [(.iload_n 3, 1, 3, 0, 0, 0), (.iload 4, 2, 4, 0, 0, 0), (.invokestatic 149, 3, 2, 125, 0, 0)]
def bk_X12_sure_25 : List It := [(.ifCond .ne 6, 3, 31, 0, 0, 0), (.ldc 139, 2, 0, 0, 0, (-900002)), (.ireturn, 1, 0, 0, 0, 0)]
def bk_X12_sure_31 : List It := [(.aload_n 0, 1, 0, 0, 0, 0), (.getfield 7, 3, 12, 1, 2, 0), (.iload_n 1, 1, 1, 0, 0, 0), (.baload, 1, 0, 0, 0, 0), (.ifCond .eq 12, 3, 49, 0, 0, 0), (.aload_n 0, 1, 0, 0, 0, 0), (.getfield 7, 3, 12, 1, 2, 0), (.iload_n 2, 1, 2, 0, 0, 0), (.baload, 1, 0, 0, 0, 0), (.ifCond .ne 6, 3, 52, 0, 0, 0)]
def bk_X12_sure_49 : List It := [(.ldc 153, 2, 0, 0, 0, (-900003)), (.ireturn, 1, 0, 0, 0, 0)]
def bk_X12_sure_52 : List It := [(.aload_n 0, 1, 0, 0, 0, 0), (.ldc 209, 2, 0, 0, 0, 16777215), (.invokevirtual 210, 3, 1, 139, 12, 0)]
def bk_X12_sure_58 : List It := [(.istore 5, 2, 5, 0, 0, 0), (.aload_n 0, 1, 0, 0, 0, 0), (.iload_n 1, 1, 1, 0, 0, 0), (.iload_n 2, 1, 2, 0, 0, 0), (.iload_n 3, 1, 3, 0, 0, 0), (.iload 4, 2, 4, 0, 0, 0), (.lconst 0, 1, 0, 0, 0, 0), (.invokevirtual 198, 3, 5, 132, 12, 0)]
def bk_X12_sure_70 : List It := [(.aload_n 0, 1, 0, 0, 0, 0), (.bipush 21, 2, 0, 0, 0, 21), (.invokevirtual 206, 3, 1, 137, 12, 0)]
def bk_X12_sure_76 : List It := [(.iload 5, 2, 5, 0, 0, 0), (.if_icmp .ne 7, 3, 85, 0, 0, 0), (.iconst 1, 1, 0, 0, 0, 1), (.goto 4, 3, 86, 0, 0, 0)]
def bk_X12_sure_85 : List It := [(.iconst 0, 1, 0, 0, 0, 0)]
def bk_X12_sure_86 : List It := [(.ireturn, 1, 0, 0, 0, 0)]
def bl_X12_sure : List (Nat × List It) := [(0, bk_X12_sure_0), (5, bk_X12_sure_5), (13, bk_X12_sure_13), (16, bk_X12_sure_16), (19, bk_X12_sure_19), (25, bk_X12_sure_25), (31, bk_X12_sure_31), (49, bk_X12_sure_49), (52, bk_X12_sure_52), (58, bk_X12_sure_58), (70, bk_X12_sure_70), (76, bk_X12_sure_76), (85, bk_X12_sure_85), (86, bk_X12_sure_86)]
theorem bq_X12_sure_0 : lkB bl_X12_sure 0 = bk_X12_sure_0 := rfl
theorem bq_X12_sure_5 : lkB bl_X12_sure 5 = bk_X12_sure_5 := rfl
theorem bq_X12_sure_13 : lkB bl_X12_sure 13 = bk_X12_sure_13 := rfl
theorem bq_X12_sure_16 : lkB bl_X12_sure 16 = bk_X12_sure_16 := rfl
theorem bq_X12_sure_19 : lkB bl_X12_sure 19 = bk_X12_sure_19 := rfl
theorem bq_X12_sure_25 : lkB bl_X12_sure 25 = bk_X12_sure_25 := rfl
theorem bq_X12_sure_31 : lkB bl_X12_sure 31 = bk_X12_sure_31 := rfl
theorem bq_X12_sure_49 : lkB bl_X12_sure 49 = bk_X12_sure_49 := rfl
theorem bq_X12_sure_52 : lkB bl_X12_sure 52 = bk_X12_sure_52 := rfl
theorem bq_X12_sure_58 : lkB bl_X12_sure 58 = bk_X12_sure_58 := rfl
theorem bq_X12_sure_70 : lkB bl_X12_sure 70 = bk_X12_sure_70 := rfl
theorem bq_X12_sure_76 : lkB bl_X12_sure 76 = bk_X12_sure_76 := rfl
theorem bq_X12_sure_85 : lkB bl_X12_sure 85 = bk_X12_sure_85 := rfl
theorem bq_X12_sure_86 : lkB bl_X12_sure 86 = bk_X12_sure_86 := rfl
set_option maxRecDepth 20000 in
theorem ck_X12_sure : ckB rs_X12_sure false 12 6 prog_14_method_35_code bl_X12_sure = true := by decide +kernel

def rs_X12_without : Rs := rf_X12 [(0, 126, 1, 116, 12), (0, 213, 0, 117, 12), (0, 210, 1, 139, 12)]
def bk_X12_without_0 : List It := [(.aload_n 0, 1, 0, 0, 0, 0), (.iload_n 1, 1, 1, 0, 0, 0), (.invokevirtual 126, 3, 1, 116, 12, 0)]
def bk_X12_without_5 : List It := [(.ifCond .ne 6, 3, 11, 0, 0, 0), (.ldc 130, 2, 0, 0, 0, (-900001)), (.ireturn, 1, 0, 0, 0, 0)]
def bk_X12_without_11 : List It := [(.aload_n 0, 1, 0, 0, 0, 0), (.getfield 7, 3, 12, 1, 2, 0), (.iload_n 1, 1, 1, 0, 0, 0), (.baload, 1, 0, 0, 0, 0), (.ifCond .ne 6, 3, 23, 0, 0, 0), (.ldc 153, 2, 0, 0, 0, (-900003)), (.ireturn, 1, 0, 0, 0, 0)]
def bk_X12_without_23 : List It := [(.aload_n 0, 1, 0, 0, 0, 0), (.getfield 7, 3, 12, 1, 2, 0), (.iload_n 1, 1, 1, 0, 0, 0), (.iconst 0, 1, 0, 0, 0, 0), (.bastore, 1, 0, 0, 0, 0), (.aload_n 0, 1, 0, 0, 0, 0), (.invokevirtual 213, 3, 0, 117, 12, 0)]
def bk_X12_without_34 : List It := [(.istore_n 2, 1, 2, 0, 0, 0), (.iconst 3, 1, 0, 0, 0, 3), (.iload_n 2, 1, 2, 0, 0, 0), (.imul, 1, 0, 0, 0, 0), (.aload_n 0, 1, 0, 0, 0, 0), (.ldc 209, 2, 0, 0, 0, 16777215), (.invokevirtual 210, 3, 1, 139, 12, 0)]
def bk_X12_without_44 : List It := [(.isub, 1, 0, 0, 0, 0), (.iload_n 2, 1, 2, 0, 0, 0), (.ifCond .le 7, 3, 53, 0, 0, 0), (.iconst 3, 1, 0, 0, 0, 3), (.goto 4, 3, 54, 0, 0, 0)]
def bk_X12_without_53 : List It := [(.iconst 0, 1, 0, 0, 0, 0)]
def bk_X12_without_54 : List It := [(.isub, 1, 0, 0, 0, 0), (.istore_n 3, 1, 3, 0, 0, 0), (.aload_n 0, 1, 0, 0, 0, 0), (.getfield 7, 3, 12, 1, 2, 0), (.iload_n 1, 1, 1, 0, 0, 0), (.iconst 1, 1, 0, 0, 0, 1), (.bastore, 1, 0, 0, 0, 0), (.iload_n 3, 1, 3, 0, 0, 0), (.ireturn, 1, 0, 0, 0, 0)]
def bl_X12_without : List (Nat × List It) := [(0, bk_X12_without_0), (5, bk_X12_without_5), (11, bk_X12_without_11), (23, bk_X12_without_23), (34, bk_X12_without_34), (44, bk_X12_without_44), (53, bk_X12_without_53), (54, bk_X12_without_54)]
theorem bq_X12_without_0 : lkB bl_X12_without 0 = bk_X12_without_0 := rfl
theorem bq_X12_without_5 : lkB bl_X12_without 5 = bk_X12_without_5 := rfl
theorem bq_X12_without_11 : lkB bl_X12_without 11 = bk_X12_without_11 := rfl
theorem bq_X12_without_23 : lkB bl_X12_without 23 = bk_X12_without_23 := rfl
theorem bq_X12_without_34 : lkB bl_X12_without 34 = bk_X12_without_34 := rfl
theorem bq_X12_without_44 : lkB bl_X12_without 44 = bk_X12_without_44 := rfl
theorem bq_X12_without_53 : lkB bl_X12_without 53 = bk_X12_without_53 := rfl
theorem bq_X12_without_54 : lkB bl_X12_without 54 = bk_X12_without_54 := rfl
set_option maxRecDepth 20000 in
theorem ck_X12_without : ckB rs_X12_without false 12 4 prog_14_method_36_code bl_X12_without = true := by decide +kernel

def rs_X12_read : Rs := rf_X12 [(0, 155, 1, 124, 12), (1, 121, 3, 115, 0)]
def bk_X12_read_0 : List It := [(.aload_n 0, 1, 0, 0, 0, 0), (.iload_n 1, 1, 1, 0, 0, 0), (.invokevirtual 155, 3, 1, 124, 12, 0)]
def bk_X12_read_5 : List It := [(.ifCond .ne 6, 3, 11, 0, 0, 0), (.ldc 130, 2, 0, 0, 0, (-900001)), (.ireturn, 1, 0, 0, 0, 0)]
def bk_X12_read_11 : List It := [(.iload_n 2, 1, 2, 0, 0, 0), (.ldc 154, 2, 0, 0, 0, (-900009)), (.if_icmp .eq 20, 3, 34, 0, 0, 0), (.iload_n 2, 1, 2, 0, 0, 0), (.i2l, 1, 0, 0, 0, 0), (.ldc2_w 227, 3, 0, 0, 0, (-9999)), (.ldc2_w 229, 3, 0, 0, 0, 9999), (.invokestatic 121, 3, 3, 115, 0, 0)]
def bk_X12_read_28 : List It := [(.ifCond .ne 6, 3, 34, 0, 0, 0), (.ldc 139, 2, 0, 0, 0, (-900002)), (.ireturn, 1, 0, 0, 0, 0)]
def bk_X12_read_34 : List It := [(.aload_n 0, 1, 0, 0, 0, 0), (.getfield 41, 3, 12, 12, 2, 0), (.iload_n 1, 1, 1, 0, 0, 0), (.iaload, 1, 0, 0, 0, 0), (.istore_n 3, 1, 3, 0, 0, 0), (.aload_n 0, 1, 0, 0, 0, 0), (.getfield 41, 3, 12, 12, 2, 0), (.iload_n 1, 1, 1, 0, 0, 0), (.iload_n 2, 1, 2, 0, 0, 0), (.iastore, 1, 0, 0, 0, 0), (.iload_n 3, 1, 3, 0, 0, 0), (.ireturn, 1, 0, 0, 0, 0)]
def bl_X12_read : List (Nat × List It) := [(0, bk_X12_read_0), (5, bk_X12_read_5), (11, bk_X12_read_11), (28, bk_X12_read_28), (34, bk_X12_read_34)]
theorem bq_X12_read_0 : lkB bl_X12_read 0 = bk_X12_read_0 := rfl
theorem bq_X12_read_5 : lkB bl_X12_read 5 = bk_X12_read_5 := rfl
theorem bq_X12_read_11 : lkB bl_X12_read 11 = bk_X12_read_11 := rfl
theorem bq_X12_read_28 : lkB bl_X12_read 28 = bk_X12_read_28 := rfl
theorem bq_X12_read_34 : lkB bl_X12_read 34 = bk_X12_read_34 := rfl
set_option maxRecDepth 20000 in
theorem ck_X12_read : ckB rs_X12_read false 12 4 prog_14_method_37_code bl_X12_read = true := by decide +kernel

def rs_X12_readAll : Rs := rf_X12 [(0, 162, 1, 126, 12), (0, 165, 1, 130, 12)]
def bk_X12_readAll_0 : List It := [(.iconst 0, 1, 0, 0, 0, 0), (.istore_n 1, 1, 1, 0, 0, 0), (.iconst 0, 1, 0, 0, 0, 0), (.istore_n 2, 1, 2, 0, 0, 0)]
def bk_X12_readAll_4 : List It := [(.iload_n 2, 1, 2, 0, 0, 0), (.aload_n 0, 1, 0, 0, 0, 0), (.getfield 146, 3, 12, 4, 0, 0), (.if_icmp .ge 49, 3, 58, 0, 0, 0), (.aload_n 0, 1, 0, 0, 0, 0), (.getfield 41, 3, 12, 12, 2, 0), (.iload_n 2, 1, 2, 0, 0, 0), (.aload_n 0, 1, 0, 0, 0, 0), (.iload_n 2, 1, 2, 0, 0, 0), (.invokevirtual 162, 3, 1, 126, 12, 0)]
def bk_X12_readAll_22 : List It := [(.ifCond .eq 11, 3, 33, 0, 0, 0), (.aload_n 0, 1, 0, 0, 0, 0), (.iload_n 2, 1, 2, 0, 0, 0), (.invokevirtual 165, 3, 1, 130, 12, 0)]
def bk_X12_readAll_30 : List It := [(.goto 5, 3, 35, 0, 0, 0)]
def bk_X12_readAll_33 : List It := [(.ldc 154, 2, 0, 0, 0, (-900009))]
def bk_X12_readAll_35 : List It := [(.iastore, 1, 0, 0, 0, 0), (.iload_n 1, 1, 1, 0, 0, 0), (.aload_n 0, 1, 0, 0, 0, 0), (.iload_n 2, 1, 2, 0, 0, 0), (.invokevirtual 162, 3, 1, 126, 12, 0)]
def bk_X12_readAll_42 : List It := [(.ifCond .eq 7, 3, 49, 0, 0, 0), (.iconst 1, 1, 0, 0, 0, 1), (.goto 4, 3, 50, 0, 0, 0)]
def bk_X12_readAll_49 : List It := [(.iconst 0, 1, 0, 0, 0, 0)]
def bk_X12_readAll_50 : List It := [(.iadd, 1, 0, 0, 0, 0), (.istore_n 1, 1, 1, 0, 0, 0), (.iinc 2 1, 3, 2, 0, 0, 1), (.goto (-51), 3, 4, 0, 0, 0)]
def bk_X12_readAll_58 : List It := [(.iload_n 1, 1, 1, 0, 0, 0), (.ireturn, 1, 0, 0, 0, 0)]
def bl_X12_readAll : List (Nat × List It) := [(0, bk_X12_readAll_0), (4, bk_X12_readAll_4), (22, bk_X12_readAll_22), (30, bk_X12_readAll_30), (33, bk_X12_readAll_33), (35, bk_X12_readAll_35), (42, bk_X12_readAll_42), (49, bk_X12_readAll_49), (50, bk_X12_readAll_50), (58, bk_X12_readAll_58)]
theorem bq_X12_readAll_0 : lkB bl_X12_readAll 0 = bk_X12_readAll_0 := rfl
theorem bq_X12_readAll_4 : lkB bl_X12_readAll 4 = bk_X12_readAll_4 := rfl
theorem bq_X12_readAll_22 : lkB bl_X12_readAll 22 = bk_X12_readAll_22 := rfl
theorem bq_X12_readAll_30 : lkB bl_X12_readAll 30 = bk_X12_readAll_30 := rfl
theorem bq_X12_readAll_33 : lkB bl_X12_readAll 33 = bk_X12_readAll_33 := rfl
theorem bq_X12_readAll_35 : lkB bl_X12_readAll 35 = bk_X12_readAll_35 := rfl
theorem bq_X12_readAll_42 : lkB bl_X12_readAll 42 = bk_X12_readAll_42 := rfl
theorem bq_X12_readAll_49 : lkB bl_X12_readAll 49 = bk_X12_readAll_49 := rfl
theorem bq_X12_readAll_50 : lkB bl_X12_readAll 50 = bk_X12_readAll_50 := rfl
theorem bq_X12_readAll_58 : lkB bl_X12_readAll 58 = bk_X12_readAll_58 := rfl
set_option maxRecDepth 20000 in
theorem ck_X12_readAll : ckB rs_X12_readAll false 12 3 prog_14_method_38_code bl_X12_readAll = true := by decide +kernel

def rs_X12_agrees : Rs := rf_X12 [(0, 202, 2, 138, 12), (0, 206, 1, 137, 12)]
def bk_X12_agrees_0 : List It := [(.aload_n 0, 1, 0, 0, 0, 0), (.iload_n 1, 1, 1, 0, 0, 0), (.iconst 1, 1, 0, 0, 0, 1), (.invokevirtual 202, 3, 2, 138, 12, 0)]
def bk_X12_agrees_6 : List It := [(.aload_n 0, 1, 0, 0, 0, 0), (.bipush 21, 2, 0, 0, 0, 21), (.invokevirtual 206, 3, 1, 137, 12, 0)]
def bk_X12_agrees_12 : List It := [(.aload_n 0, 1, 0, 0, 0, 0), (.bipush 22, 2, 0, 0, 0, 22), (.invokevirtual 206, 3, 1, 137, 12, 0)]
def bk_X12_agrees_18 : List It := [(.if_icmp .ne 7, 3, 25, 0, 0, 0), (.iconst 1, 1, 0, 0, 0, 1), (.goto 4, 3, 26, 0, 0, 0)]
def bk_X12_agrees_25 : List It := [(.iconst 0, 1, 0, 0, 0, 0)]
def bk_X12_agrees_26 : List It := [(.ireturn, 1, 0, 0, 0, 0)]
def bl_X12_agrees : List (Nat × List It) := [(0, bk_X12_agrees_0), (6, bk_X12_agrees_6), (12, bk_X12_agrees_12), (18, bk_X12_agrees_18), (25, bk_X12_agrees_25), (26, bk_X12_agrees_26)]
theorem bq_X12_agrees_0 : lkB bl_X12_agrees 0 = bk_X12_agrees_0 := rfl
theorem bq_X12_agrees_6 : lkB bl_X12_agrees 6 = bk_X12_agrees_6 := rfl
theorem bq_X12_agrees_12 : lkB bl_X12_agrees 12 = bk_X12_agrees_12 := rfl
theorem bq_X12_agrees_18 : lkB bl_X12_agrees 18 = bk_X12_agrees_18 := rfl
theorem bq_X12_agrees_25 : lkB bl_X12_agrees 25 = bk_X12_agrees_25 := rfl
theorem bq_X12_agrees_26 : lkB bl_X12_agrees 26 = bk_X12_agrees_26 := rfl
set_option maxRecDepth 20000 in
theorem ck_X12_agrees : ckB rs_X12_agrees false 12 2 prog_14_method_39_code bl_X12_agrees = true := by decide +kernel

def rs_X12_agree : Rs := rf_X12 [(0, 231, 1, 151, 12)]
def bk_X12_agree_0 : List It := [(.aload_n 0, 1, 0, 0, 0, 0), (.ldc 209, 2, 0, 0, 0, 16777215), (.invokevirtual 231, 3, 1, 151, 12, 0)]
def bk_X12_agree_6 : List It := [(.ifCond .eq 7, 3, 13, 0, 0, 0), (.iconst 1, 1, 0, 0, 0, 1), (.goto 4, 3, 14, 0, 0, 0)]
def bk_X12_agree_13 : List It := [(.iconst 0, 1, 0, 0, 0, 0)]
def bk_X12_agree_14 : List It := [(.ireturn, 1, 0, 0, 0, 0)]
def bl_X12_agree : List (Nat × List It) := [(0, bk_X12_agree_0), (6, bk_X12_agree_6), (13, bk_X12_agree_13), (14, bk_X12_agree_14)]
theorem bq_X12_agree_0 : lkB bl_X12_agree 0 = bk_X12_agree_0 := rfl
theorem bq_X12_agree_6 : lkB bl_X12_agree 6 = bk_X12_agree_6 := rfl
theorem bq_X12_agree_13 : lkB bl_X12_agree 13 = bk_X12_agree_13 := rfl
theorem bq_X12_agree_14 : lkB bl_X12_agree 14 = bk_X12_agree_14 := rfl
set_option maxRecDepth 20000 in
theorem ck_X12_agree : ckB rs_X12_agree false 12 1 prog_14_method_40_code bl_X12_agree = true := by decide +kernel

def rs_X12_liarSet : Rs := rf_X12 [(0, 231, 1, 151, 12), (0, 162, 1, 126, 12)]
def bk_X12_liarSet_0 : List It := [(.iconst 0, 1, 0, 0, 0, 0), (.istore_n 1, 1, 1, 0, 0, 0), (.aload_n 0, 1, 0, 0, 0, 0), (.ldc 209, 2, 0, 0, 0, 16777215), (.invokevirtual 231, 3, 1, 151, 12, 0)]
def bk_X12_liarSet_8 : List It := [(.istore_n 2, 1, 2, 0, 0, 0), (.iconst 0, 1, 0, 0, 0, 0), (.istore_n 3, 1, 3, 0, 0, 0)]
def bk_X12_liarSet_11 : List It := [(.iload_n 3, 1, 3, 0, 0, 0), (.aload_n 0, 1, 0, 0, 0, 0), (.getfield 146, 3, 12, 4, 0, 0), (.if_icmp .ge 57, 3, 73, 0, 0, 0), (.iload_n 2, 1, 2, 0, 0, 0), (.ifCond .ne 53, 3, 73, 0, 0, 0), (.iload_n 1, 1, 1, 0, 0, 0), (.aload_n 0, 1, 0, 0, 0, 0), (.iload_n 3, 1, 3, 0, 0, 0), (.invokevirtual 162, 3, 1, 126, 12, 0)]
def bk_X12_liarSet_29 : List It := [(.ifCond .eq 35, 3, 64, 0, 0, 0), (.aload_n 0, 1, 0, 0, 0, 0), (.getfield 41, 3, 12, 12, 2, 0), (.iload_n 3, 1, 3, 0, 0, 0), (.iaload, 1, 0, 0, 0, 0), (.ldc 154, 2, 0, 0, 0, (-900009)), (.if_icmp .eq 24, 3, 64, 0, 0, 0), (.aload_n 0, 1, 0, 0, 0, 0), (.ldc 209, 2, 0, 0, 0, 16777215), (.iconst 1, 1, 0, 0, 0, 1), (.iload_n 3, 1, 3, 0, 0, 0), (.ishl, 1, 0, 0, 0, 0), (.iconst (-1), 1, 0, 0, 0, (-1)), (.ixor, 1, 0, 0, 0, 0), (.iand, 1, 0, 0, 0, 0), (.invokevirtual 231, 3, 1, 151, 12, 0)]
def bk_X12_liarSet_55 : List It := [(.ifCond .eq 9, 3, 64, 0, 0, 0), (.iconst 1, 1, 0, 0, 0, 1), (.iload_n 3, 1, 3, 0, 0, 0), (.ishl, 1, 0, 0, 0, 0), (.goto 4, 3, 65, 0, 0, 0)]
def bk_X12_liarSet_64 : List It := [(.iconst 0, 1, 0, 0, 0, 0)]
def bk_X12_liarSet_65 : List It := [(.ior, 1, 0, 0, 0, 0), (.istore_n 1, 1, 1, 0, 0, 0), (.iinc 3 1, 3, 3, 0, 0, 1), (.goto (-59), 3, 11, 0, 0, 0)]
def bk_X12_liarSet_73 : List It := [(.iload_n 1, 1, 1, 0, 0, 0), (.ireturn, 1, 0, 0, 0, 0)]
def bl_X12_liarSet : List (Nat × List It) := [(0, bk_X12_liarSet_0), (8, bk_X12_liarSet_8), (11, bk_X12_liarSet_11), (29, bk_X12_liarSet_29), (55, bk_X12_liarSet_55), (64, bk_X12_liarSet_64), (65, bk_X12_liarSet_65), (73, bk_X12_liarSet_73)]
theorem bq_X12_liarSet_0 : lkB bl_X12_liarSet 0 = bk_X12_liarSet_0 := rfl
theorem bq_X12_liarSet_8 : lkB bl_X12_liarSet 8 = bk_X12_liarSet_8 := rfl
theorem bq_X12_liarSet_11 : lkB bl_X12_liarSet 11 = bk_X12_liarSet_11 := rfl
theorem bq_X12_liarSet_29 : lkB bl_X12_liarSet 29 = bk_X12_liarSet_29 := rfl
theorem bq_X12_liarSet_55 : lkB bl_X12_liarSet 55 = bk_X12_liarSet_55 := rfl
theorem bq_X12_liarSet_64 : lkB bl_X12_liarSet 64 = bk_X12_liarSet_64 := rfl
theorem bq_X12_liarSet_65 : lkB bl_X12_liarSet 65 = bk_X12_liarSet_65 := rfl
theorem bq_X12_liarSet_73 : lkB bl_X12_liarSet 73 = bk_X12_liarSet_73 := rfl
set_option maxRecDepth 20000 in
theorem ck_X12_liarSet : ckB rs_X12_liarSet false 12 4 prog_14_method_41_code bl_X12_liarSet = true := by decide +kernel
