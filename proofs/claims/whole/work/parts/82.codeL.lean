-- the law (by wip/gen/gen.py)
def rs_L_law : Rs := rf_L [(2, 9, 0, 55, 0), (2, 12, 0, 114, 0), (0, 13, 0, 56, 11), (0, 17, 0, 118, 12), (0, 18, 2, 57, 11), (0, 22, 2, 119, 12), (0, 23, 4, 58, 11), (0, 27, 4, 120, 12), (0, 28, 2, 59, 11), (0, 32, 2, 121, 12), (0, 33, 5, 60, 11), (0, 37, 5, 127, 12), (0, 38, 2, 61, 11), (0, 41, 2, 128, 12), (0, 42, 2, 62, 11), (0, 45, 2, 129, 12), (0, 46, 1, 63, 11), (0, 50, 1, 131, 12), (0, 51, 1, 64, 11), (0, 55, 1, 140, 12), (0, 56, 0, 65, 11), (0, 59, 0, 141, 12), (0, 60, 1, 66, 11), (0, 63, 1, 142, 12), (0, 64, 0, 67, 11), (0, 67, 0, 144, 12), (0, 68, 1, 68, 11), (0, 71, 1, 146, 12), (0, 72, 4, 69, 11), (0, 75, 4, 147, 12), (0, 76, 1, 70, 11), (0, 79, 1, 148, 12), (0, 80, 2, 71, 11), (0, 83, 2, 149, 12), (0, 84, 0, 72, 11), (0, 87, 0, 150, 12), (0, 88, 0, 73, 11), (0, 91, 0, 152, 12), (0, 92, 0, 74, 11), (0, 95, 0, 154, 12), (0, 96, 1, 75, 11), (0, 99, 1, 155, 12), (0, 100, 5, 76, 11), (0, 103, 5, 156, 12), (0, 104, 2, 77, 11), (0, 107, 2, 157, 12), (0, 108, 1, 78, 11), (0, 111, 1, 159, 12), (0, 112, 1, 79, 11), (0, 115, 1, 160, 12), (0, 116, 4, 80, 11), (0, 119, 4, 161, 12), (0, 120, 1, 81, 11), (0, 123, 1, 162, 12), (0, 124, 1, 82, 11), (0, 127, 1, 163, 12), (0, 128, 0, 83, 11), (0, 131, 0, 170, 12), (0, 132, 1, 84, 11), (0, 135, 1, 171, 12), (0, 136, 0, 85, 11), (0, 139, 0, 172, 12), (0, 140, 3, 86, 11), (0, 144, 3, 173, 12), (0, 145, 3, 87, 11), (0, 148, 3, 174, 12), (0, 149, 2, 88, 11), (0, 152, 2, 176, 12), (0, 153, 0, 89, 11), (0, 156, 0, 178, 12), (0, 157, 1, 90, 11), (0, 160, 1, 179, 12), (0, 161, 2, 91, 11), (0, 164, 2, 180, 12), (0, 165, 1, 92, 11), (0, 168, 1, 181, 12), (0, 169, 1, 93, 11), (0, 172, 1, 185, 12), (0, 173, 2, 94, 11), (0, 176, 2, 186, 12), (0, 177, 3, 95, 11), (0, 180, 3, 188, 12), (0, 181, 2, 96, 11), (0, 184, 2, 189, 12), (0, 185, 1, 97, 11), (0, 188, 1, 190, 12)]
def bk_L_law_0 : List It := [(.new 7, 3, 11, 17, 0, 0), (.dup, 1, 0, 0, 0, 0), (.invokespecial 9, 3, 0, 55, 0, 0)]
def bk_L_law_7 : List It := [(.astore_n 1, 1, 1, 0, 0, 0), (.new 10, 3, 12, 42, 0, 0), (.dup, 1, 0, 0, 0, 0), (.invokespecial 12, 3, 0, 114, 0, 0)]
def bk_L_law_15 : List It := [(.astore_n 2, 1, 2, 0, 0, 0), (.iconst 0, 1, 0, 0, 0, 0), (.istore_n 3, 1, 3, 0, 0, 0)]
def bk_L_law_18 : List It := [(.iload_n 3, 1, 3, 0, 0, 0), (.aload_n 0, 1, 0, 0, 0, 0), (.arraylength, 1, 0, 0, 0, 0), (.bipush 6, 2, 0, 0, 0, 6), (.isub, 1, 0, 0, 0, 0), (.if_icmp .gt 1452, 3, 1476, 0, 0, 0), (.aload_n 0, 1, 0, 0, 0, 0), (.iload_n 3, 1, 3, 0, 0, 0), (.iaload, 1, 0, 0, 0, 0), (.bipush 63, 2, 0, 0, 0, 63), (.iand, 1, 0, 0, 0, 0), (.tableswitch 1437 0 41 #[183, 196, 245, 298, 331, 394, 443, 476, 499, 538, 551, 574, 587, 610, 663, 686, 719, 732, 745, 758, 781, 844, 877, 900, 923, 976, 999, 1022, 1035, 1058, 1071, 1114, 1157, 1190, 1203, 1226, 1259, 1282, 1305, 1338, 1381, 1414], 183, 0, 0, 0, 0)]
def bk_L_law_216 : List It := [(.aload_n 1, 1, 1, 0, 0, 0), (.invokevirtual 13, 3, 0, 56, 11, 0)]
def bk_L_law_220 : List It := [(.aload_n 2, 1, 2, 0, 0, 0), (.invokevirtual 17, 3, 0, 118, 12, 0)]
def bk_L_law_224 : List It := [(.if_icmp .eq 1246, 3, 1470, 0, 0, 0), (.iconst 0, 1, 0, 0, 0, 0), (.ireturn, 1, 0, 0, 0, 0)]
def bk_L_law_229 : List It := [(.aload_n 1, 1, 1, 0, 0, 0), (.aload_n 0, 1, 0, 0, 0, 0), (.iload_n 3, 1, 3, 0, 0, 0), (.iconst 1, 1, 0, 0, 0, 1), (.iadd, 1, 0, 0, 0, 0), (.iaload, 1, 0, 0, 0, 0), (.aload_n 0, 1, 0, 0, 0, 0), (.iload_n 3, 1, 3, 0, 0, 0), (.iconst 2, 1, 0, 0, 0, 2), (.iadd, 1, 0, 0, 0, 0), (.iaload, 1, 0, 0, 0, 0), (.ifCond .eq 7, 3, 247, 0, 0, 0), (.iconst 1, 1, 0, 0, 0, 1), (.goto 4, 3, 248, 0, 0, 0)]
def bk_L_law_247 : List It := [(.iconst 0, 1, 0, 0, 0, 0)]
def bk_L_law_248 : List It := [(.invokevirtual 18, 3, 2, 57, 11, 0)]
def bk_L_law_251 : List It := [(.aload_n 2, 1, 2, 0, 0, 0), (.aload_n 0, 1, 0, 0, 0, 0), (.iload_n 3, 1, 3, 0, 0, 0), (.iconst 1, 1, 0, 0, 0, 1), (.iadd, 1, 0, 0, 0, 0), (.iaload, 1, 0, 0, 0, 0), (.aload_n 0, 1, 0, 0, 0, 0), (.iload_n 3, 1, 3, 0, 0, 0), (.iconst 2, 1, 0, 0, 0, 2), (.iadd, 1, 0, 0, 0, 0), (.iaload, 1, 0, 0, 0, 0), (.ifCond .eq 7, 3, 269, 0, 0, 0), (.iconst 1, 1, 0, 0, 0, 1), (.goto 4, 3, 270, 0, 0, 0)]
def bk_L_law_269 : List It := [(.iconst 0, 1, 0, 0, 0, 0)]
def bk_L_law_270 : List It := [(.invokevirtual 22, 3, 2, 119, 12, 0)]
def bk_L_law_273 : List It := [(.if_icmp .eq 1197, 3, 1470, 0, 0, 0), (.iconst 0, 1, 0, 0, 0, 0), (.ireturn, 1, 0, 0, 0, 0)]
def bk_L_law_278 : List It := [(.aload_n 1, 1, 1, 0, 0, 0), (.aload_n 0, 1, 0, 0, 0, 0), (.iload_n 3, 1, 3, 0, 0, 0), (.iconst 1, 1, 0, 0, 0, 1), (.iadd, 1, 0, 0, 0, 0), (.iaload, 1, 0, 0, 0, 0), (.aload_n 0, 1, 0, 0, 0, 0), (.iload_n 3, 1, 3, 0, 0, 0), (.iconst 2, 1, 0, 0, 0, 2), (.iadd, 1, 0, 0, 0, 0), (.iaload, 1, 0, 0, 0, 0), (.aload_n 0, 1, 0, 0, 0, 0), (.iload_n 3, 1, 3, 0, 0, 0), (.iconst 3, 1, 0, 0, 0, 3), (.iadd, 1, 0, 0, 0, 0), (.iaload, 1, 0, 0, 0, 0), (.aload_n 0, 1, 0, 0, 0, 0), (.iload_n 3, 1, 3, 0, 0, 0), (.iconst 4, 1, 0, 0, 0, 4), (.iadd, 1, 0, 0, 0, 0), (.iaload, 1, 0, 0, 0, 0), (.invokevirtual 23, 3, 4, 58, 11, 0)]
def bk_L_law_302 : List It := [(.aload_n 2, 1, 2, 0, 0, 0), (.aload_n 0, 1, 0, 0, 0, 0), (.iload_n 3, 1, 3, 0, 0, 0), (.iconst 1, 1, 0, 0, 0, 1), (.iadd, 1, 0, 0, 0, 0), (.iaload, 1, 0, 0, 0, 0), (.aload_n 0, 1, 0, 0, 0, 0), (.iload_n 3, 1, 3, 0, 0, 0), (.iconst 2, 1, 0, 0, 0, 2), (.iadd, 1, 0, 0, 0, 0), (.iaload, 1, 0, 0, 0, 0), (.aload_n 0, 1, 0, 0, 0, 0), (.iload_n 3, 1, 3, 0, 0, 0), (.iconst 3, 1, 0, 0, 0, 3), (.iadd, 1, 0, 0, 0, 0), (.iaload, 1, 0, 0, 0, 0), (.aload_n 0, 1, 0, 0, 0, 0), (.iload_n 3, 1, 3, 0, 0, 0), (.iconst 4, 1, 0, 0, 0, 4), (.iadd, 1, 0, 0, 0, 0), (.iaload, 1, 0, 0, 0, 0), (.invokevirtual 27, 3, 4, 120, 12, 0)]
def bk_L_law_326 : List It := [(.if_icmp .eq 1144, 3, 1470, 0, 0, 0), (.iconst 0, 1, 0, 0, 0, 0), (.ireturn, 1, 0, 0, 0, 0)]
def bk_L_law_331 : List It := [(.aload_n 1, 1, 1, 0, 0, 0), (.aload_n 0, 1, 0, 0, 0, 0), (.iload_n 3, 1, 3, 0, 0, 0), (.iconst 1, 1, 0, 0, 0, 1), (.iadd, 1, 0, 0, 0, 0), (.iaload, 1, 0, 0, 0, 0), (.aload_n 0, 1, 0, 0, 0, 0), (.iload_n 3, 1, 3, 0, 0, 0), (.iconst 2, 1, 0, 0, 0, 2), (.iadd, 1, 0, 0, 0, 0), (.iaload, 1, 0, 0, 0, 0), (.invokevirtual 28, 3, 2, 59, 11, 0)]
def bk_L_law_345 : List It := [(.aload_n 2, 1, 2, 0, 0, 0), (.aload_n 0, 1, 0, 0, 0, 0), (.iload_n 3, 1, 3, 0, 0, 0), (.iconst 1, 1, 0, 0, 0, 1), (.iadd, 1, 0, 0, 0, 0), (.iaload, 1, 0, 0, 0, 0), (.aload_n 0, 1, 0, 0, 0, 0), (.iload_n 3, 1, 3, 0, 0, 0), (.iconst 2, 1, 0, 0, 0, 2), (.iadd, 1, 0, 0, 0, 0), (.iaload, 1, 0, 0, 0, 0), (.invokevirtual 32, 3, 2, 121, 12, 0)]
def bk_L_law_359 : List It := [(.if_icmp .eq 1111, 3, 1470, 0, 0, 0), (.iconst 0, 1, 0, 0, 0, 0), (.ireturn, 1, 0, 0, 0, 0)]
def bk_L_law_364 : List It := [(.aload_n 1, 1, 1, 0, 0, 0), (.aload_n 0, 1, 0, 0, 0, 0), (.iload_n 3, 1, 3, 0, 0, 0), (.iconst 1, 1, 0, 0, 0, 1), (.iadd, 1, 0, 0, 0, 0), (.iaload, 1, 0, 0, 0, 0), (.aload_n 0, 1, 0, 0, 0, 0), (.iload_n 3, 1, 3, 0, 0, 0), (.iconst 2, 1, 0, 0, 0, 2), (.iadd, 1, 0, 0, 0, 0), (.iaload, 1, 0, 0, 0, 0), (.aload_n 0, 1, 0, 0, 0, 0), (.iload_n 3, 1, 3, 0, 0, 0), (.iconst 3, 1, 0, 0, 0, 3), (.iadd, 1, 0, 0, 0, 0), (.iaload, 1, 0, 0, 0, 0), (.aload_n 0, 1, 0, 0, 0, 0), (.iload_n 3, 1, 3, 0, 0, 0), (.iconst 4, 1, 0, 0, 0, 4), (.iadd, 1, 0, 0, 0, 0), (.iaload, 1, 0, 0, 0, 0), (.aload_n 0, 1, 0, 0, 0, 0), (.iload_n 3, 1, 3, 0, 0, 0), (.iconst 5, 1, 0, 0, 0, 5), (.iadd, 1, 0, 0, 0, 0), (.iaload, 1, 0, 0, 0, 0), (.invokevirtual 33, 3, 5, 60, 11, 0)]
def bk_L_law_393 : List It := [(.aload_n 2, 1, 2, 0, 0, 0), (.aload_n 0, 1, 0, 0, 0, 0), (.iload_n 3, 1, 3, 0, 0, 0), (.iconst 1, 1, 0, 0, 0, 1), (.iadd, 1, 0, 0, 0, 0), (.iaload, 1, 0, 0, 0, 0), (.aload_n 0, 1, 0, 0, 0, 0), (.iload_n 3, 1, 3, 0, 0, 0), (.iconst 2, 1, 0, 0, 0, 2), (.iadd, 1, 0, 0, 0, 0), (.iaload, 1, 0, 0, 0, 0), (.aload_n 0, 1, 0, 0, 0, 0), (.iload_n 3, 1, 3, 0, 0, 0), (.iconst 3, 1, 0, 0, 0, 3), (.iadd, 1, 0, 0, 0, 0), (.iaload, 1, 0, 0, 0, 0), (.aload_n 0, 1, 0, 0, 0, 0), (.iload_n 3, 1, 3, 0, 0, 0), (.iconst 4, 1, 0, 0, 0, 4), (.iadd, 1, 0, 0, 0, 0), (.iaload, 1, 0, 0, 0, 0), (.aload_n 0, 1, 0, 0, 0, 0), (.iload_n 3, 1, 3, 0, 0, 0), (.iconst 5, 1, 0, 0, 0, 5), (.iadd, 1, 0, 0, 0, 0), (.iaload, 1, 0, 0, 0, 0), (.invokevirtual 37, 3, 5, 127, 12, 0)]
def bk_L_law_422 : List It := [(.if_icmp .eq 1048, 3, 1470, 0, 0, 0), (.iconst 0, 1, 0, 0, 0, 0), (.ireturn, 1, 0, 0, 0, 0)]
def bk_L_law_427 : List It := [(.aload_n 1, 1, 1, 0, 0, 0), (.aload_n 0, 1, 0, 0, 0, 0), (.iload_n 3, 1, 3, 0, 0, 0), (.iconst 1, 1, 0, 0, 0, 1), (.iadd, 1, 0, 0, 0, 0), (.iaload, 1, 0, 0, 0, 0), (.aload_n 0, 1, 0, 0, 0, 0), (.iload_n 3, 1, 3, 0, 0, 0), (.iconst 2, 1, 0, 0, 0, 2), (.iadd, 1, 0, 0, 0, 0), (.iaload, 1, 0, 0, 0, 0), (.ifCond .eq 7, 3, 445, 0, 0, 0), (.iconst 1, 1, 0, 0, 0, 1), (.goto 4, 3, 446, 0, 0, 0)]
def bk_L_law_445 : List It := [(.iconst 0, 1, 0, 0, 0, 0)]
def bk_L_law_446 : List It := [(.invokevirtual 38, 3, 2, 61, 11, 0)]
def bk_L_law_449 : List It := [(.aload_n 2, 1, 2, 0, 0, 0), (.aload_n 0, 1, 0, 0, 0, 0), (.iload_n 3, 1, 3, 0, 0, 0), (.iconst 1, 1, 0, 0, 0, 1), (.iadd, 1, 0, 0, 0, 0), (.iaload, 1, 0, 0, 0, 0), (.aload_n 0, 1, 0, 0, 0, 0), (.iload_n 3, 1, 3, 0, 0, 0), (.iconst 2, 1, 0, 0, 0, 2), (.iadd, 1, 0, 0, 0, 0), (.iaload, 1, 0, 0, 0, 0), (.ifCond .eq 7, 3, 467, 0, 0, 0), (.iconst 1, 1, 0, 0, 0, 1), (.goto 4, 3, 468, 0, 0, 0)]
def bk_L_law_467 : List It := [(.iconst 0, 1, 0, 0, 0, 0)]
def bk_L_law_468 : List It := [(.invokevirtual 41, 3, 2, 128, 12, 0)]
def bk_L_law_471 : List It := [(.if_icmp .eq 999, 3, 1470, 0, 0, 0), (.iconst 0, 1, 0, 0, 0, 0), (.ireturn, 1, 0, 0, 0, 0)]
def bk_L_law_476 : List It := [(.aload_n 1, 1, 1, 0, 0, 0), (.aload_n 0, 1, 0, 0, 0, 0), (.iload_n 3, 1, 3, 0, 0, 0), (.iconst 1, 1, 0, 0, 0, 1), (.iadd, 1, 0, 0, 0, 0), (.iaload, 1, 0, 0, 0, 0), (.aload_n 0, 1, 0, 0, 0, 0), (.iload_n 3, 1, 3, 0, 0, 0), (.iconst 2, 1, 0, 0, 0, 2), (.iadd, 1, 0, 0, 0, 0), (.iaload, 1, 0, 0, 0, 0), (.invokevirtual 42, 3, 2, 62, 11, 0)]
def bk_L_law_490 : List It := [(.aload_n 2, 1, 2, 0, 0, 0), (.aload_n 0, 1, 0, 0, 0, 0), (.iload_n 3, 1, 3, 0, 0, 0), (.iconst 1, 1, 0, 0, 0, 1), (.iadd, 1, 0, 0, 0, 0), (.iaload, 1, 0, 0, 0, 0), (.aload_n 0, 1, 0, 0, 0, 0), (.iload_n 3, 1, 3, 0, 0, 0), (.iconst 2, 1, 0, 0, 0, 2), (.iadd, 1, 0, 0, 0, 0), (.iaload, 1, 0, 0, 0, 0), (.invokevirtual 45, 3, 2, 129, 12, 0)]
def bk_L_law_504 : List It := [(.if_icmp .eq 966, 3, 1470, 0, 0, 0), (.iconst 0, 1, 0, 0, 0, 0), (.ireturn, 1, 0, 0, 0, 0)]
def bk_L_law_509 : List It := [(.aload_n 1, 1, 1, 0, 0, 0), (.aload_n 0, 1, 0, 0, 0, 0), (.iload_n 3, 1, 3, 0, 0, 0), (.iconst 1, 1, 0, 0, 0, 1), (.iadd, 1, 0, 0, 0, 0), (.iaload, 1, 0, 0, 0, 0), (.invokevirtual 46, 3, 1, 63, 11, 0)]
def bk_L_law_518 : List It := [(.aload_n 2, 1, 2, 0, 0, 0), (.aload_n 0, 1, 0, 0, 0, 0), (.iload_n 3, 1, 3, 0, 0, 0), (.iconst 1, 1, 0, 0, 0, 1), (.iadd, 1, 0, 0, 0, 0), (.iaload, 1, 0, 0, 0, 0), (.invokevirtual 50, 3, 1, 131, 12, 0)]
def bk_L_law_527 : List It := [(.if_icmp .eq 943, 3, 1470, 0, 0, 0), (.iconst 0, 1, 0, 0, 0, 0), (.ireturn, 1, 0, 0, 0, 0)]
def bk_L_law_532 : List It := [(.aload_n 1, 1, 1, 0, 0, 0), (.aload_n 0, 1, 0, 0, 0, 0), (.iload_n 3, 1, 3, 0, 0, 0), (.iconst 1, 1, 0, 0, 0, 1), (.iadd, 1, 0, 0, 0, 0), (.iaload, 1, 0, 0, 0, 0), (.ifCond .eq 7, 3, 545, 0, 0, 0), (.iconst 1, 1, 0, 0, 0, 1), (.goto 4, 3, 546, 0, 0, 0)]
def bk_L_law_545 : List It := [(.iconst 0, 1, 0, 0, 0, 0)]
def bk_L_law_546 : List It := [(.invokevirtual 51, 3, 1, 64, 11, 0)]
def bk_L_law_549 : List It := [(.aload_n 2, 1, 2, 0, 0, 0), (.aload_n 0, 1, 0, 0, 0, 0), (.iload_n 3, 1, 3, 0, 0, 0), (.iconst 1, 1, 0, 0, 0, 1), (.iadd, 1, 0, 0, 0, 0), (.iaload, 1, 0, 0, 0, 0), (.ifCond .eq 7, 3, 562, 0, 0, 0), (.iconst 1, 1, 0, 0, 0, 1), (.goto 4, 3, 563, 0, 0, 0)]
def bk_L_law_562 : List It := [(.iconst 0, 1, 0, 0, 0, 0)]
def bk_L_law_563 : List It := [(.invokevirtual 55, 3, 1, 140, 12, 0)]
def bk_L_law_566 : List It := [(.if_icmp .eq 904, 3, 1470, 0, 0, 0), (.iconst 0, 1, 0, 0, 0, 0), (.ireturn, 1, 0, 0, 0, 0)]
def bk_L_law_571 : List It := [(.aload_n 1, 1, 1, 0, 0, 0), (.invokevirtual 56, 3, 0, 65, 11, 0)]
def bk_L_law_575 : List It := [(.aload_n 2, 1, 2, 0, 0, 0), (.invokevirtual 59, 3, 0, 141, 12, 0)]
def bk_L_law_579 : List It := [(.if_icmp .eq 891, 3, 1470, 0, 0, 0), (.iconst 0, 1, 0, 0, 0, 0), (.ireturn, 1, 0, 0, 0, 0)]
def bk_L_law_584 : List It := [(.aload_n 1, 1, 1, 0, 0, 0), (.aload_n 0, 1, 0, 0, 0, 0), (.iload_n 3, 1, 3, 0, 0, 0), (.iconst 1, 1, 0, 0, 0, 1), (.iadd, 1, 0, 0, 0, 0), (.iaload, 1, 0, 0, 0, 0), (.invokevirtual 60, 3, 1, 66, 11, 0)]
def bk_L_law_593 : List It := [(.aload_n 2, 1, 2, 0, 0, 0), (.aload_n 0, 1, 0, 0, 0, 0), (.iload_n 3, 1, 3, 0, 0, 0), (.iconst 1, 1, 0, 0, 0, 1), (.iadd, 1, 0, 0, 0, 0), (.iaload, 1, 0, 0, 0, 0), (.invokevirtual 63, 3, 1, 142, 12, 0)]
def bk_L_law_602 : List It := [(.if_icmp .eq 868, 3, 1470, 0, 0, 0), (.iconst 0, 1, 0, 0, 0, 0), (.ireturn, 1, 0, 0, 0, 0)]
def bk_L_law_607 : List It := [(.aload_n 1, 1, 1, 0, 0, 0), (.invokevirtual 64, 3, 0, 67, 11, 0)]
def bk_L_law_611 : List It := [(.aload_n 2, 1, 2, 0, 0, 0), (.invokevirtual 67, 3, 0, 144, 12, 0)]
def bk_L_law_615 : List It := [(.if_icmp .eq 855, 3, 1470, 0, 0, 0), (.iconst 0, 1, 0, 0, 0, 0), (.ireturn, 1, 0, 0, 0, 0)]
def bk_L_law_620 : List It := [(.aload_n 1, 1, 1, 0, 0, 0), (.aload_n 0, 1, 0, 0, 0, 0), (.iload_n 3, 1, 3, 0, 0, 0), (.iconst 1, 1, 0, 0, 0, 1), (.iadd, 1, 0, 0, 0, 0), (.iaload, 1, 0, 0, 0, 0), (.invokevirtual 68, 3, 1, 68, 11, 0)]
def bk_L_law_629 : List It := [(.aload_n 2, 1, 2, 0, 0, 0), (.aload_n 0, 1, 0, 0, 0, 0), (.iload_n 3, 1, 3, 0, 0, 0), (.iconst 1, 1, 0, 0, 0, 1), (.iadd, 1, 0, 0, 0, 0), (.iaload, 1, 0, 0, 0, 0), (.invokevirtual 71, 3, 1, 146, 12, 0)]
def bk_L_law_638 : List It := [(.if_icmp .eq 832, 3, 1470, 0, 0, 0), (.iconst 0, 1, 0, 0, 0, 0), (.ireturn, 1, 0, 0, 0, 0)]
def bk_L_law_643 : List It := [(.aload_n 1, 1, 1, 0, 0, 0), (.aload_n 0, 1, 0, 0, 0, 0), (.iload_n 3, 1, 3, 0, 0, 0), (.iconst 1, 1, 0, 0, 0, 1), (.iadd, 1, 0, 0, 0, 0), (.iaload, 1, 0, 0, 0, 0), (.aload_n 0, 1, 0, 0, 0, 0), (.iload_n 3, 1, 3, 0, 0, 0), (.iconst 2, 1, 0, 0, 0, 2), (.iadd, 1, 0, 0, 0, 0), (.iaload, 1, 0, 0, 0, 0), (.aload_n 0, 1, 0, 0, 0, 0), (.iload_n 3, 1, 3, 0, 0, 0), (.iconst 3, 1, 0, 0, 0, 3), (.iadd, 1, 0, 0, 0, 0), (.iaload, 1, 0, 0, 0, 0), (.aload_n 0, 1, 0, 0, 0, 0), (.iload_n 3, 1, 3, 0, 0, 0), (.iconst 4, 1, 0, 0, 0, 4), (.iadd, 1, 0, 0, 0, 0), (.iaload, 1, 0, 0, 0, 0), (.invokevirtual 72, 3, 4, 69, 11, 0)]
def bk_L_law_667 : List It := [(.aload_n 2, 1, 2, 0, 0, 0), (.aload_n 0, 1, 0, 0, 0, 0), (.iload_n 3, 1, 3, 0, 0, 0), (.iconst 1, 1, 0, 0, 0, 1), (.iadd, 1, 0, 0, 0, 0), (.iaload, 1, 0, 0, 0, 0), (.aload_n 0, 1, 0, 0, 0, 0), (.iload_n 3, 1, 3, 0, 0, 0), (.iconst 2, 1, 0, 0, 0, 2), (.iadd, 1, 0, 0, 0, 0), (.iaload, 1, 0, 0, 0, 0), (.aload_n 0, 1, 0, 0, 0, 0), (.iload_n 3, 1, 3, 0, 0, 0), (.iconst 3, 1, 0, 0, 0, 3), (.iadd, 1, 0, 0, 0, 0), (.iaload, 1, 0, 0, 0, 0), (.aload_n 0, 1, 0, 0, 0, 0), (.iload_n 3, 1, 3, 0, 0, 0), (.iconst 4, 1, 0, 0, 0, 4), (.iadd, 1, 0, 0, 0, 0), (.iaload, 1, 0, 0, 0, 0), (.invokevirtual 75, 3, 4, 147, 12, 0)]
def bk_L_law_691 : List It := [(.if_icmp .eq 779, 3, 1470, 0, 0, 0), (.iconst 0, 1, 0, 0, 0, 0), (.ireturn, 1, 0, 0, 0, 0)]
def bk_L_law_696 : List It := [(.aload_n 1, 1, 1, 0, 0, 0), (.aload_n 0, 1, 0, 0, 0, 0), (.iload_n 3, 1, 3, 0, 0, 0), (.iconst 1, 1, 0, 0, 0, 1), (.iadd, 1, 0, 0, 0, 0), (.iaload, 1, 0, 0, 0, 0), (.invokevirtual 76, 3, 1, 70, 11, 0)]
def bk_L_law_705 : List It := [(.aload_n 2, 1, 2, 0, 0, 0), (.aload_n 0, 1, 0, 0, 0, 0), (.iload_n 3, 1, 3, 0, 0, 0), (.iconst 1, 1, 0, 0, 0, 1), (.iadd, 1, 0, 0, 0, 0), (.iaload, 1, 0, 0, 0, 0), (.invokevirtual 79, 3, 1, 148, 12, 0)]
def bk_L_law_714 : List It := [(.if_icmp .eq 756, 3, 1470, 0, 0, 0), (.iconst 0, 1, 0, 0, 0, 0), (.ireturn, 1, 0, 0, 0, 0)]
def bk_L_law_719 : List It := [(.aload_n 1, 1, 1, 0, 0, 0), (.aload_n 0, 1, 0, 0, 0, 0), (.iload_n 3, 1, 3, 0, 0, 0), (.iconst 1, 1, 0, 0, 0, 1), (.iadd, 1, 0, 0, 0, 0), (.iaload, 1, 0, 0, 0, 0), (.aload_n 0, 1, 0, 0, 0, 0), (.iload_n 3, 1, 3, 0, 0, 0), (.iconst 2, 1, 0, 0, 0, 2), (.iadd, 1, 0, 0, 0, 0), (.iaload, 1, 0, 0, 0, 0), (.invokevirtual 80, 3, 2, 71, 11, 0)]
def bk_L_law_733 : List It := [(.aload_n 2, 1, 2, 0, 0, 0), (.aload_n 0, 1, 0, 0, 0, 0), (.iload_n 3, 1, 3, 0, 0, 0), (.iconst 1, 1, 0, 0, 0, 1), (.iadd, 1, 0, 0, 0, 0), (.iaload, 1, 0, 0, 0, 0), (.aload_n 0, 1, 0, 0, 0, 0), (.iload_n 3, 1, 3, 0, 0, 0), (.iconst 2, 1, 0, 0, 0, 2), (.iadd, 1, 0, 0, 0, 0), (.iaload, 1, 0, 0, 0, 0), (.invokevirtual 83, 3, 2, 149, 12, 0)]
def bk_L_law_747 : List It := [(.if_icmp .eq 723, 3, 1470, 0, 0, 0), (.iconst 0, 1, 0, 0, 0, 0), (.ireturn, 1, 0, 0, 0, 0)]
def bk_L_law_752 : List It := [(.aload_n 1, 1, 1, 0, 0, 0), (.invokevirtual 84, 3, 0, 72, 11, 0)]
def bk_L_law_756 : List It := [(.aload_n 2, 1, 2, 0, 0, 0), (.invokevirtual 87, 3, 0, 150, 12, 0)]
def bk_L_law_760 : List It := [(.if_icmp .eq 710, 3, 1470, 0, 0, 0), (.iconst 0, 1, 0, 0, 0, 0), (.ireturn, 1, 0, 0, 0, 0)]
def bk_L_law_765 : List It := [(.aload_n 1, 1, 1, 0, 0, 0), (.invokevirtual 88, 3, 0, 73, 11, 0)]
def bk_L_law_769 : List It := [(.aload_n 2, 1, 2, 0, 0, 0), (.invokevirtual 91, 3, 0, 152, 12, 0)]
def bk_L_law_773 : List It := [(.if_icmp .eq 697, 3, 1470, 0, 0, 0), (.iconst 0, 1, 0, 0, 0, 0), (.ireturn, 1, 0, 0, 0, 0)]
def bk_L_law_778 : List It := [(.aload_n 1, 1, 1, 0, 0, 0), (.invokevirtual 92, 3, 0, 74, 11, 0)]
def bk_L_law_782 : List It := [(.aload_n 2, 1, 2, 0, 0, 0), (.invokevirtual 95, 3, 0, 154, 12, 0)]
def bk_L_law_786 : List It := [(.if_icmp .eq 684, 3, 1470, 0, 0, 0), (.iconst 0, 1, 0, 0, 0, 0), (.ireturn, 1, 0, 0, 0, 0)]
def bk_L_law_791 : List It := [(.aload_n 1, 1, 1, 0, 0, 0), (.aload_n 0, 1, 0, 0, 0, 0), (.iload_n 3, 1, 3, 0, 0, 0), (.iconst 1, 1, 0, 0, 0, 1), (.iadd, 1, 0, 0, 0, 0), (.iaload, 1, 0, 0, 0, 0), (.invokevirtual 96, 3, 1, 75, 11, 0)]
def bk_L_law_800 : List It := [(.aload_n 2, 1, 2, 0, 0, 0), (.aload_n 0, 1, 0, 0, 0, 0), (.iload_n 3, 1, 3, 0, 0, 0), (.iconst 1, 1, 0, 0, 0, 1), (.iadd, 1, 0, 0, 0, 0), (.iaload, 1, 0, 0, 0, 0), (.invokevirtual 99, 3, 1, 155, 12, 0)]
def bk_L_law_809 : List It := [(.if_icmp .eq 661, 3, 1470, 0, 0, 0), (.iconst 0, 1, 0, 0, 0, 0), (.ireturn, 1, 0, 0, 0, 0)]
def bk_L_law_814 : List It := [(.aload_n 1, 1, 1, 0, 0, 0), (.aload_n 0, 1, 0, 0, 0, 0), (.iload_n 3, 1, 3, 0, 0, 0), (.iconst 1, 1, 0, 0, 0, 1), (.iadd, 1, 0, 0, 0, 0), (.iaload, 1, 0, 0, 0, 0), (.aload_n 0, 1, 0, 0, 0, 0), (.iload_n 3, 1, 3, 0, 0, 0), (.iconst 2, 1, 0, 0, 0, 2), (.iadd, 1, 0, 0, 0, 0), (.iaload, 1, 0, 0, 0, 0), (.aload_n 0, 1, 0, 0, 0, 0), (.iload_n 3, 1, 3, 0, 0, 0), (.iconst 3, 1, 0, 0, 0, 3), (.iadd, 1, 0, 0, 0, 0), (.iaload, 1, 0, 0, 0, 0), (.aload_n 0, 1, 0, 0, 0, 0), (.iload_n 3, 1, 3, 0, 0, 0), (.iconst 4, 1, 0, 0, 0, 4), (.iadd, 1, 0, 0, 0, 0), (.iaload, 1, 0, 0, 0, 0), (.aload_n 0, 1, 0, 0, 0, 0), (.iload_n 3, 1, 3, 0, 0, 0), (.iconst 5, 1, 0, 0, 0, 5), (.iadd, 1, 0, 0, 0, 0), (.iaload, 1, 0, 0, 0, 0), (.invokevirtual 100, 3, 5, 76, 11, 0)]
def bk_L_law_843 : List It := [(.aload_n 2, 1, 2, 0, 0, 0), (.aload_n 0, 1, 0, 0, 0, 0), (.iload_n 3, 1, 3, 0, 0, 0), (.iconst 1, 1, 0, 0, 0, 1), (.iadd, 1, 0, 0, 0, 0), (.iaload, 1, 0, 0, 0, 0), (.aload_n 0, 1, 0, 0, 0, 0), (.iload_n 3, 1, 3, 0, 0, 0), (.iconst 2, 1, 0, 0, 0, 2), (.iadd, 1, 0, 0, 0, 0), (.iaload, 1, 0, 0, 0, 0), (.aload_n 0, 1, 0, 0, 0, 0), (.iload_n 3, 1, 3, 0, 0, 0), (.iconst 3, 1, 0, 0, 0, 3), (.iadd, 1, 0, 0, 0, 0), (.iaload, 1, 0, 0, 0, 0), (.aload_n 0, 1, 0, 0, 0, 0), (.iload_n 3, 1, 3, 0, 0, 0), (.iconst 4, 1, 0, 0, 0, 4), (.iadd, 1, 0, 0, 0, 0), (.iaload, 1, 0, 0, 0, 0), (.aload_n 0, 1, 0, 0, 0, 0), (.iload_n 3, 1, 3, 0, 0, 0), (.iconst 5, 1, 0, 0, 0, 5), (.iadd, 1, 0, 0, 0, 0), (.iaload, 1, 0, 0, 0, 0), (.invokevirtual 103, 3, 5, 156, 12, 0)]
def bk_L_law_872 : List It := [(.if_icmp .eq 598, 3, 1470, 0, 0, 0), (.iconst 0, 1, 0, 0, 0, 0), (.ireturn, 1, 0, 0, 0, 0)]
def bk_L_law_877 : List It := [(.aload_n 1, 1, 1, 0, 0, 0), (.aload_n 0, 1, 0, 0, 0, 0), (.iload_n 3, 1, 3, 0, 0, 0), (.iconst 1, 1, 0, 0, 0, 1), (.iadd, 1, 0, 0, 0, 0), (.iaload, 1, 0, 0, 0, 0), (.aload_n 0, 1, 0, 0, 0, 0), (.iload_n 3, 1, 3, 0, 0, 0), (.iconst 2, 1, 0, 0, 0, 2), (.iadd, 1, 0, 0, 0, 0), (.iaload, 1, 0, 0, 0, 0), (.invokevirtual 104, 3, 2, 77, 11, 0)]
def bk_L_law_891 : List It := [(.aload_n 2, 1, 2, 0, 0, 0), (.aload_n 0, 1, 0, 0, 0, 0), (.iload_n 3, 1, 3, 0, 0, 0), (.iconst 1, 1, 0, 0, 0, 1), (.iadd, 1, 0, 0, 0, 0), (.iaload, 1, 0, 0, 0, 0), (.aload_n 0, 1, 0, 0, 0, 0), (.iload_n 3, 1, 3, 0, 0, 0), (.iconst 2, 1, 0, 0, 0, 2), (.iadd, 1, 0, 0, 0, 0), (.iaload, 1, 0, 0, 0, 0), (.invokevirtual 107, 3, 2, 157, 12, 0)]
def bk_L_law_905 : List It := [(.if_icmp .eq 565, 3, 1470, 0, 0, 0), (.iconst 0, 1, 0, 0, 0, 0), (.ireturn, 1, 0, 0, 0, 0)]
def bk_L_law_910 : List It := [(.aload_n 1, 1, 1, 0, 0, 0), (.aload_n 0, 1, 0, 0, 0, 0), (.iload_n 3, 1, 3, 0, 0, 0), (.iconst 1, 1, 0, 0, 0, 1), (.iadd, 1, 0, 0, 0, 0), (.iaload, 1, 0, 0, 0, 0), (.invokevirtual 108, 3, 1, 78, 11, 0)]
def bk_L_law_919 : List It := [(.aload_n 2, 1, 2, 0, 0, 0), (.aload_n 0, 1, 0, 0, 0, 0), (.iload_n 3, 1, 3, 0, 0, 0), (.iconst 1, 1, 0, 0, 0, 1), (.iadd, 1, 0, 0, 0, 0), (.iaload, 1, 0, 0, 0, 0), (.invokevirtual 111, 3, 1, 159, 12, 0)]
def bk_L_law_928 : List It := [(.if_icmp .eq 542, 3, 1470, 0, 0, 0), (.iconst 0, 1, 0, 0, 0, 0), (.ireturn, 1, 0, 0, 0, 0)]
def bk_L_law_933 : List It := [(.aload_n 1, 1, 1, 0, 0, 0), (.aload_n 0, 1, 0, 0, 0, 0), (.iload_n 3, 1, 3, 0, 0, 0), (.iconst 1, 1, 0, 0, 0, 1), (.iadd, 1, 0, 0, 0, 0), (.iaload, 1, 0, 0, 0, 0), (.invokevirtual 112, 3, 1, 79, 11, 0)]
def bk_L_law_942 : List It := [(.aload_n 2, 1, 2, 0, 0, 0), (.aload_n 0, 1, 0, 0, 0, 0), (.iload_n 3, 1, 3, 0, 0, 0), (.iconst 1, 1, 0, 0, 0, 1), (.iadd, 1, 0, 0, 0, 0), (.iaload, 1, 0, 0, 0, 0), (.invokevirtual 115, 3, 1, 160, 12, 0)]
def bk_L_law_951 : List It := [(.if_icmp .eq 519, 3, 1470, 0, 0, 0), (.iconst 0, 1, 0, 0, 0, 0), (.ireturn, 1, 0, 0, 0, 0)]
def bk_L_law_956 : List It := [(.aload_n 1, 1, 1, 0, 0, 0), (.aload_n 0, 1, 0, 0, 0, 0), (.iload_n 3, 1, 3, 0, 0, 0), (.iconst 1, 1, 0, 0, 0, 1), (.iadd, 1, 0, 0, 0, 0), (.iaload, 1, 0, 0, 0, 0), (.aload_n 0, 1, 0, 0, 0, 0), (.iload_n 3, 1, 3, 0, 0, 0), (.iconst 2, 1, 0, 0, 0, 2), (.iadd, 1, 0, 0, 0, 0), (.iaload, 1, 0, 0, 0, 0), (.aload_n 0, 1, 0, 0, 0, 0), (.iload_n 3, 1, 3, 0, 0, 0), (.iconst 3, 1, 0, 0, 0, 3), (.iadd, 1, 0, 0, 0, 0), (.iaload, 1, 0, 0, 0, 0), (.aload_n 0, 1, 0, 0, 0, 0), (.iload_n 3, 1, 3, 0, 0, 0), (.iconst 4, 1, 0, 0, 0, 4), (.iadd, 1, 0, 0, 0, 0), (.iaload, 1, 0, 0, 0, 0), (.invokevirtual 116, 3, 4, 80, 11, 0)]
def bk_L_law_980 : List It := [(.aload_n 2, 1, 2, 0, 0, 0), (.aload_n 0, 1, 0, 0, 0, 0), (.iload_n 3, 1, 3, 0, 0, 0), (.iconst 1, 1, 0, 0, 0, 1), (.iadd, 1, 0, 0, 0, 0), (.iaload, 1, 0, 0, 0, 0), (.aload_n 0, 1, 0, 0, 0, 0), (.iload_n 3, 1, 3, 0, 0, 0), (.iconst 2, 1, 0, 0, 0, 2), (.iadd, 1, 0, 0, 0, 0), (.iaload, 1, 0, 0, 0, 0), (.aload_n 0, 1, 0, 0, 0, 0), (.iload_n 3, 1, 3, 0, 0, 0), (.iconst 3, 1, 0, 0, 0, 3), (.iadd, 1, 0, 0, 0, 0), (.iaload, 1, 0, 0, 0, 0), (.aload_n 0, 1, 0, 0, 0, 0), (.iload_n 3, 1, 3, 0, 0, 0), (.iconst 4, 1, 0, 0, 0, 4), (.iadd, 1, 0, 0, 0, 0), (.iaload, 1, 0, 0, 0, 0), (.invokevirtual 119, 3, 4, 161, 12, 0)]
def bk_L_law_1004 : List It := [(.if_icmp .eq 466, 3, 1470, 0, 0, 0), (.iconst 0, 1, 0, 0, 0, 0), (.ireturn, 1, 0, 0, 0, 0)]
def bk_L_law_1009 : List It := [(.aload_n 1, 1, 1, 0, 0, 0), (.aload_n 0, 1, 0, 0, 0, 0), (.iload_n 3, 1, 3, 0, 0, 0), (.iconst 1, 1, 0, 0, 0, 1), (.iadd, 1, 0, 0, 0, 0), (.iaload, 1, 0, 0, 0, 0), (.invokevirtual 120, 3, 1, 81, 11, 0)]
def bk_L_law_1018 : List It := [(.aload_n 2, 1, 2, 0, 0, 0), (.aload_n 0, 1, 0, 0, 0, 0), (.iload_n 3, 1, 3, 0, 0, 0), (.iconst 1, 1, 0, 0, 0, 1), (.iadd, 1, 0, 0, 0, 0), (.iaload, 1, 0, 0, 0, 0), (.invokevirtual 123, 3, 1, 162, 12, 0)]
def bk_L_law_1027 : List It := [(.if_icmp .eq 443, 3, 1470, 0, 0, 0), (.iconst 0, 1, 0, 0, 0, 0), (.ireturn, 1, 0, 0, 0, 0)]
def bk_L_law_1032 : List It := [(.aload_n 1, 1, 1, 0, 0, 0), (.aload_n 0, 1, 0, 0, 0, 0), (.iload_n 3, 1, 3, 0, 0, 0), (.iconst 1, 1, 0, 0, 0, 1), (.iadd, 1, 0, 0, 0, 0), (.iaload, 1, 0, 0, 0, 0), (.invokevirtual 124, 3, 1, 82, 11, 0)]
def bk_L_law_1041 : List It := [(.aload_n 2, 1, 2, 0, 0, 0), (.aload_n 0, 1, 0, 0, 0, 0), (.iload_n 3, 1, 3, 0, 0, 0), (.iconst 1, 1, 0, 0, 0, 1), (.iadd, 1, 0, 0, 0, 0), (.iaload, 1, 0, 0, 0, 0), (.invokevirtual 127, 3, 1, 163, 12, 0)]
def bk_L_law_1050 : List It := [(.if_icmp .eq 420, 3, 1470, 0, 0, 0), (.iconst 0, 1, 0, 0, 0, 0), (.ireturn, 1, 0, 0, 0, 0)]
def bk_L_law_1055 : List It := [(.aload_n 1, 1, 1, 0, 0, 0), (.invokevirtual 128, 3, 0, 83, 11, 0)]
def bk_L_law_1059 : List It := [(.aload_n 2, 1, 2, 0, 0, 0), (.invokevirtual 131, 3, 0, 170, 12, 0)]
def bk_L_law_1063 : List It := [(.if_icmp .eq 407, 3, 1470, 0, 0, 0), (.iconst 0, 1, 0, 0, 0, 0), (.ireturn, 1, 0, 0, 0, 0)]
def bk_L_law_1068 : List It := [(.aload_n 1, 1, 1, 0, 0, 0), (.aload_n 0, 1, 0, 0, 0, 0), (.iload_n 3, 1, 3, 0, 0, 0), (.iconst 1, 1, 0, 0, 0, 1), (.iadd, 1, 0, 0, 0, 0), (.iaload, 1, 0, 0, 0, 0), (.invokevirtual 132, 3, 1, 84, 11, 0)]
def bk_L_law_1077 : List It := [(.aload_n 2, 1, 2, 0, 0, 0), (.aload_n 0, 1, 0, 0, 0, 0), (.iload_n 3, 1, 3, 0, 0, 0), (.iconst 1, 1, 0, 0, 0, 1), (.iadd, 1, 0, 0, 0, 0), (.iaload, 1, 0, 0, 0, 0), (.invokevirtual 135, 3, 1, 171, 12, 0)]
def bk_L_law_1086 : List It := [(.if_icmp .eq 384, 3, 1470, 0, 0, 0), (.iconst 0, 1, 0, 0, 0, 0), (.ireturn, 1, 0, 0, 0, 0)]
def bk_L_law_1091 : List It := [(.aload_n 1, 1, 1, 0, 0, 0), (.invokevirtual 136, 3, 0, 85, 11, 0)]
def bk_L_law_1095 : List It := [(.aload_n 2, 1, 2, 0, 0, 0), (.invokevirtual 139, 3, 0, 172, 12, 0)]
def bk_L_law_1099 : List It := [(.if_icmp .eq 371, 3, 1470, 0, 0, 0), (.iconst 0, 1, 0, 0, 0, 0), (.ireturn, 1, 0, 0, 0, 0)]
def bk_L_law_1104 : List It := [(.aload_n 1, 1, 1, 0, 0, 0), (.aload_n 0, 1, 0, 0, 0, 0), (.iload_n 3, 1, 3, 0, 0, 0), (.iconst 1, 1, 0, 0, 0, 1), (.iadd, 1, 0, 0, 0, 0), (.iaload, 1, 0, 0, 0, 0), (.aload_n 0, 1, 0, 0, 0, 0), (.iload_n 3, 1, 3, 0, 0, 0), (.iconst 2, 1, 0, 0, 0, 2), (.iadd, 1, 0, 0, 0, 0), (.iaload, 1, 0, 0, 0, 0), (.aload_n 0, 1, 0, 0, 0, 0), (.iload_n 3, 1, 3, 0, 0, 0), (.iconst 3, 1, 0, 0, 0, 3), (.iadd, 1, 0, 0, 0, 0), (.iaload, 1, 0, 0, 0, 0), (.invokevirtual 140, 3, 3, 86, 11, 0)]
def bk_L_law_1123 : List It := [(.aload_n 2, 1, 2, 0, 0, 0), (.aload_n 0, 1, 0, 0, 0, 0), (.iload_n 3, 1, 3, 0, 0, 0), (.iconst 1, 1, 0, 0, 0, 1), (.iadd, 1, 0, 0, 0, 0), (.iaload, 1, 0, 0, 0, 0), (.aload_n 0, 1, 0, 0, 0, 0), (.iload_n 3, 1, 3, 0, 0, 0), (.iconst 2, 1, 0, 0, 0, 2), (.iadd, 1, 0, 0, 0, 0), (.iaload, 1, 0, 0, 0, 0), (.aload_n 0, 1, 0, 0, 0, 0), (.iload_n 3, 1, 3, 0, 0, 0), (.iconst 3, 1, 0, 0, 0, 3), (.iadd, 1, 0, 0, 0, 0), (.iaload, 1, 0, 0, 0, 0), (.invokevirtual 144, 3, 3, 173, 12, 0)]
def bk_L_law_1142 : List It := [(.if_icmp .eq 328, 3, 1470, 0, 0, 0), (.iconst 0, 1, 0, 0, 0, 0), (.ireturn, 1, 0, 0, 0, 0)]
def bk_L_law_1147 : List It := [(.aload_n 1, 1, 1, 0, 0, 0), (.aload_n 0, 1, 0, 0, 0, 0), (.iload_n 3, 1, 3, 0, 0, 0), (.iconst 1, 1, 0, 0, 0, 1), (.iadd, 1, 0, 0, 0, 0), (.iaload, 1, 0, 0, 0, 0), (.aload_n 0, 1, 0, 0, 0, 0), (.iload_n 3, 1, 3, 0, 0, 0), (.iconst 2, 1, 0, 0, 0, 2), (.iadd, 1, 0, 0, 0, 0), (.iaload, 1, 0, 0, 0, 0), (.aload_n 0, 1, 0, 0, 0, 0), (.iload_n 3, 1, 3, 0, 0, 0), (.iconst 3, 1, 0, 0, 0, 3), (.iadd, 1, 0, 0, 0, 0), (.iaload, 1, 0, 0, 0, 0), (.invokevirtual 145, 3, 3, 87, 11, 0)]
def bk_L_law_1166 : List It := [(.aload_n 2, 1, 2, 0, 0, 0), (.aload_n 0, 1, 0, 0, 0, 0), (.iload_n 3, 1, 3, 0, 0, 0), (.iconst 1, 1, 0, 0, 0, 1), (.iadd, 1, 0, 0, 0, 0), (.iaload, 1, 0, 0, 0, 0), (.aload_n 0, 1, 0, 0, 0, 0), (.iload_n 3, 1, 3, 0, 0, 0), (.iconst 2, 1, 0, 0, 0, 2), (.iadd, 1, 0, 0, 0, 0), (.iaload, 1, 0, 0, 0, 0), (.aload_n 0, 1, 0, 0, 0, 0), (.iload_n 3, 1, 3, 0, 0, 0), (.iconst 3, 1, 0, 0, 0, 3), (.iadd, 1, 0, 0, 0, 0), (.iaload, 1, 0, 0, 0, 0), (.invokevirtual 148, 3, 3, 174, 12, 0)]
def bk_L_law_1185 : List It := [(.if_icmp .eq 285, 3, 1470, 0, 0, 0), (.iconst 0, 1, 0, 0, 0, 0), (.ireturn, 1, 0, 0, 0, 0)]
def bk_L_law_1190 : List It := [(.aload_n 1, 1, 1, 0, 0, 0), (.aload_n 0, 1, 0, 0, 0, 0), (.iload_n 3, 1, 3, 0, 0, 0), (.iconst 1, 1, 0, 0, 0, 1), (.iadd, 1, 0, 0, 0, 0), (.iaload, 1, 0, 0, 0, 0), (.aload_n 0, 1, 0, 0, 0, 0), (.iload_n 3, 1, 3, 0, 0, 0), (.iconst 2, 1, 0, 0, 0, 2), (.iadd, 1, 0, 0, 0, 0), (.iaload, 1, 0, 0, 0, 0), (.invokevirtual 149, 3, 2, 88, 11, 0)]
def bk_L_law_1204 : List It := [(.aload_n 2, 1, 2, 0, 0, 0), (.aload_n 0, 1, 0, 0, 0, 0), (.iload_n 3, 1, 3, 0, 0, 0), (.iconst 1, 1, 0, 0, 0, 1), (.iadd, 1, 0, 0, 0, 0), (.iaload, 1, 0, 0, 0, 0), (.aload_n 0, 1, 0, 0, 0, 0), (.iload_n 3, 1, 3, 0, 0, 0), (.iconst 2, 1, 0, 0, 0, 2), (.iadd, 1, 0, 0, 0, 0), (.iaload, 1, 0, 0, 0, 0), (.invokevirtual 152, 3, 2, 176, 12, 0)]
def bk_L_law_1218 : List It := [(.if_icmp .eq 252, 3, 1470, 0, 0, 0), (.iconst 0, 1, 0, 0, 0, 0), (.ireturn, 1, 0, 0, 0, 0)]
def bk_L_law_1223 : List It := [(.aload_n 1, 1, 1, 0, 0, 0), (.invokevirtual 153, 3, 0, 89, 11, 0)]
def bk_L_law_1227 : List It := [(.aload_n 2, 1, 2, 0, 0, 0), (.invokevirtual 156, 3, 0, 178, 12, 0)]
def bk_L_law_1231 : List It := [(.if_icmp .eq 239, 3, 1470, 0, 0, 0), (.iconst 0, 1, 0, 0, 0, 0), (.ireturn, 1, 0, 0, 0, 0)]
def bk_L_law_1236 : List It := [(.aload_n 1, 1, 1, 0, 0, 0), (.aload_n 0, 1, 0, 0, 0, 0), (.iload_n 3, 1, 3, 0, 0, 0), (.iconst 1, 1, 0, 0, 0, 1), (.iadd, 1, 0, 0, 0, 0), (.iaload, 1, 0, 0, 0, 0), (.invokevirtual 157, 3, 1, 90, 11, 0)]
def bk_L_law_1245 : List It := [(.aload_n 2, 1, 2, 0, 0, 0), (.aload_n 0, 1, 0, 0, 0, 0), (.iload_n 3, 1, 3, 0, 0, 0), (.iconst 1, 1, 0, 0, 0, 1), (.iadd, 1, 0, 0, 0, 0), (.iaload, 1, 0, 0, 0, 0), (.invokevirtual 160, 3, 1, 179, 12, 0)]
def bk_L_law_1254 : List It := [(.if_icmp .eq 216, 3, 1470, 0, 0, 0), (.iconst 0, 1, 0, 0, 0, 0), (.ireturn, 1, 0, 0, 0, 0)]
def bk_L_law_1259 : List It := [(.aload_n 1, 1, 1, 0, 0, 0), (.aload_n 0, 1, 0, 0, 0, 0), (.iload_n 3, 1, 3, 0, 0, 0), (.iconst 1, 1, 0, 0, 0, 1), (.iadd, 1, 0, 0, 0, 0), (.iaload, 1, 0, 0, 0, 0), (.aload_n 0, 1, 0, 0, 0, 0), (.iload_n 3, 1, 3, 0, 0, 0), (.iconst 2, 1, 0, 0, 0, 2), (.iadd, 1, 0, 0, 0, 0), (.iaload, 1, 0, 0, 0, 0), (.invokevirtual 161, 3, 2, 91, 11, 0)]
def bk_L_law_1273 : List It := [(.aload_n 2, 1, 2, 0, 0, 0), (.aload_n 0, 1, 0, 0, 0, 0), (.iload_n 3, 1, 3, 0, 0, 0), (.iconst 1, 1, 0, 0, 0, 1), (.iadd, 1, 0, 0, 0, 0), (.iaload, 1, 0, 0, 0, 0), (.aload_n 0, 1, 0, 0, 0, 0), (.iload_n 3, 1, 3, 0, 0, 0), (.iconst 2, 1, 0, 0, 0, 2), (.iadd, 1, 0, 0, 0, 0), (.iaload, 1, 0, 0, 0, 0), (.invokevirtual 164, 3, 2, 180, 12, 0)]
def bk_L_law_1287 : List It := [(.if_icmp .eq 183, 3, 1470, 0, 0, 0), (.iconst 0, 1, 0, 0, 0, 0), (.ireturn, 1, 0, 0, 0, 0)]
def bk_L_law_1292 : List It := [(.aload_n 1, 1, 1, 0, 0, 0), (.aload_n 0, 1, 0, 0, 0, 0), (.iload_n 3, 1, 3, 0, 0, 0), (.iconst 1, 1, 0, 0, 0, 1), (.iadd, 1, 0, 0, 0, 0), (.iaload, 1, 0, 0, 0, 0), (.invokevirtual 165, 3, 1, 92, 11, 0)]
def bk_L_law_1301 : List It := [(.aload_n 2, 1, 2, 0, 0, 0), (.aload_n 0, 1, 0, 0, 0, 0), (.iload_n 3, 1, 3, 0, 0, 0), (.iconst 1, 1, 0, 0, 0, 1), (.iadd, 1, 0, 0, 0, 0), (.iaload, 1, 0, 0, 0, 0), (.invokevirtual 168, 3, 1, 181, 12, 0)]
def bk_L_law_1310 : List It := [(.if_icmp .eq 160, 3, 1470, 0, 0, 0), (.iconst 0, 1, 0, 0, 0, 0), (.ireturn, 1, 0, 0, 0, 0)]
def bk_L_law_1315 : List It := [(.aload_n 1, 1, 1, 0, 0, 0), (.aload_n 0, 1, 0, 0, 0, 0), (.iload_n 3, 1, 3, 0, 0, 0), (.iconst 1, 1, 0, 0, 0, 1), (.iadd, 1, 0, 0, 0, 0), (.iaload, 1, 0, 0, 0, 0), (.invokevirtual 169, 3, 1, 93, 11, 0)]
def bk_L_law_1324 : List It := [(.aload_n 2, 1, 2, 0, 0, 0), (.aload_n 0, 1, 0, 0, 0, 0), (.iload_n 3, 1, 3, 0, 0, 0), (.iconst 1, 1, 0, 0, 0, 1), (.iadd, 1, 0, 0, 0, 0), (.iaload, 1, 0, 0, 0, 0), (.invokevirtual 172, 3, 1, 185, 12, 0)]
def bk_L_law_1333 : List It := [(.if_icmp .eq 137, 3, 1470, 0, 0, 0), (.iconst 0, 1, 0, 0, 0, 0), (.ireturn, 1, 0, 0, 0, 0)]
def bk_L_law_1338 : List It := [(.aload_n 1, 1, 1, 0, 0, 0), (.aload_n 0, 1, 0, 0, 0, 0), (.iload_n 3, 1, 3, 0, 0, 0), (.iconst 1, 1, 0, 0, 0, 1), (.iadd, 1, 0, 0, 0, 0), (.iaload, 1, 0, 0, 0, 0), (.aload_n 0, 1, 0, 0, 0, 0), (.iload_n 3, 1, 3, 0, 0, 0), (.iconst 2, 1, 0, 0, 0, 2), (.iadd, 1, 0, 0, 0, 0), (.iaload, 1, 0, 0, 0, 0), (.invokevirtual 173, 3, 2, 94, 11, 0)]
def bk_L_law_1352 : List It := [(.aload_n 2, 1, 2, 0, 0, 0), (.aload_n 0, 1, 0, 0, 0, 0), (.iload_n 3, 1, 3, 0, 0, 0), (.iconst 1, 1, 0, 0, 0, 1), (.iadd, 1, 0, 0, 0, 0), (.iaload, 1, 0, 0, 0, 0), (.aload_n 0, 1, 0, 0, 0, 0), (.iload_n 3, 1, 3, 0, 0, 0), (.iconst 2, 1, 0, 0, 0, 2), (.iadd, 1, 0, 0, 0, 0), (.iaload, 1, 0, 0, 0, 0), (.invokevirtual 176, 3, 2, 186, 12, 0)]
def bk_L_law_1366 : List It := [(.if_icmp .eq 104, 3, 1470, 0, 0, 0), (.iconst 0, 1, 0, 0, 0, 0), (.ireturn, 1, 0, 0, 0, 0)]
def bk_L_law_1371 : List It := [(.aload_n 1, 1, 1, 0, 0, 0), (.aload_n 0, 1, 0, 0, 0, 0), (.iload_n 3, 1, 3, 0, 0, 0), (.iconst 1, 1, 0, 0, 0, 1), (.iadd, 1, 0, 0, 0, 0), (.iaload, 1, 0, 0, 0, 0), (.aload_n 0, 1, 0, 0, 0, 0), (.iload_n 3, 1, 3, 0, 0, 0), (.iconst 2, 1, 0, 0, 0, 2), (.iadd, 1, 0, 0, 0, 0), (.iaload, 1, 0, 0, 0, 0), (.aload_n 0, 1, 0, 0, 0, 0), (.iload_n 3, 1, 3, 0, 0, 0), (.iconst 3, 1, 0, 0, 0, 3), (.iadd, 1, 0, 0, 0, 0), (.iaload, 1, 0, 0, 0, 0), (.invokevirtual 177, 3, 3, 95, 11, 0)]
def bk_L_law_1390 : List It := [(.aload_n 2, 1, 2, 0, 0, 0), (.aload_n 0, 1, 0, 0, 0, 0), (.iload_n 3, 1, 3, 0, 0, 0), (.iconst 1, 1, 0, 0, 0, 1), (.iadd, 1, 0, 0, 0, 0), (.iaload, 1, 0, 0, 0, 0), (.aload_n 0, 1, 0, 0, 0, 0), (.iload_n 3, 1, 3, 0, 0, 0), (.iconst 2, 1, 0, 0, 0, 2), (.iadd, 1, 0, 0, 0, 0), (.iaload, 1, 0, 0, 0, 0), (.aload_n 0, 1, 0, 0, 0, 0), (.iload_n 3, 1, 3, 0, 0, 0), (.iconst 3, 1, 0, 0, 0, 3), (.iadd, 1, 0, 0, 0, 0), (.iaload, 1, 0, 0, 0, 0), (.invokevirtual 180, 3, 3, 188, 12, 0)]
def bk_L_law_1409 : List It := [(.if_icmp .eq 61, 3, 1470, 0, 0, 0), (.iconst 0, 1, 0, 0, 0, 0), (.ireturn, 1, 0, 0, 0, 0)]
def bk_L_law_1414 : List It := [(.aload_n 1, 1, 1, 0, 0, 0), (.aload_n 0, 1, 0, 0, 0, 0), (.iload_n 3, 1, 3, 0, 0, 0), (.iconst 1, 1, 0, 0, 0, 1), (.iadd, 1, 0, 0, 0, 0), (.iaload, 1, 0, 0, 0, 0), (.aload_n 0, 1, 0, 0, 0, 0), (.iload_n 3, 1, 3, 0, 0, 0), (.iconst 2, 1, 0, 0, 0, 2), (.iadd, 1, 0, 0, 0, 0), (.iaload, 1, 0, 0, 0, 0), (.invokevirtual 181, 3, 2, 96, 11, 0)]
def bk_L_law_1428 : List It := [(.aload_n 2, 1, 2, 0, 0, 0), (.aload_n 0, 1, 0, 0, 0, 0), (.iload_n 3, 1, 3, 0, 0, 0), (.iconst 1, 1, 0, 0, 0, 1), (.iadd, 1, 0, 0, 0, 0), (.iaload, 1, 0, 0, 0, 0), (.aload_n 0, 1, 0, 0, 0, 0), (.iload_n 3, 1, 3, 0, 0, 0), (.iconst 2, 1, 0, 0, 0, 2), (.iadd, 1, 0, 0, 0, 0), (.iaload, 1, 0, 0, 0, 0), (.invokevirtual 184, 3, 2, 189, 12, 0)]
def bk_L_law_1442 : List It := [(.if_icmp .eq 28, 3, 1470, 0, 0, 0), (.iconst 0, 1, 0, 0, 0, 0), (.ireturn, 1, 0, 0, 0, 0)]
def bk_L_law_1447 : List It := [(.aload_n 1, 1, 1, 0, 0, 0), (.aload_n 0, 1, 0, 0, 0, 0), (.iload_n 3, 1, 3, 0, 0, 0), (.iconst 1, 1, 0, 0, 0, 1), (.iadd, 1, 0, 0, 0, 0), (.iaload, 1, 0, 0, 0, 0), (.invokevirtual 185, 3, 1, 97, 11, 0)]
def bk_L_law_1456 : List It := [(.aload_n 2, 1, 2, 0, 0, 0), (.aload_n 0, 1, 0, 0, 0, 0), (.iload_n 3, 1, 3, 0, 0, 0), (.iconst 1, 1, 0, 0, 0, 1), (.iadd, 1, 0, 0, 0, 0), (.iaload, 1, 0, 0, 0, 0), (.invokevirtual 188, 3, 1, 190, 12, 0)]
def bk_L_law_1465 : List It := [(.if_icmp .eq 5, 3, 1470, 0, 0, 0), (.iconst 0, 1, 0, 0, 0, 0), (.ireturn, 1, 0, 0, 0, 0)]
def bk_L_law_1470 : List It := [(.iinc 3 6, 3, 3, 0, 0, 6), (.goto (-1455), 3, 18, 0, 0, 0)]
def bk_L_law_1476 : List It := [(.iconst 1, 1, 0, 0, 0, 1), (.ireturn, 1, 0, 0, 0, 0)]
def bl_L_law : List (Nat × List It) := [(0, bk_L_law_0), (7, bk_L_law_7), (15, bk_L_law_15), (18, bk_L_law_18), (216, bk_L_law_216), (220, bk_L_law_220), (224, bk_L_law_224), (229, bk_L_law_229), (247, bk_L_law_247), (248, bk_L_law_248), (251, bk_L_law_251), (269, bk_L_law_269), (270, bk_L_law_270), (273, bk_L_law_273), (278, bk_L_law_278), (302, bk_L_law_302), (326, bk_L_law_326), (331, bk_L_law_331), (345, bk_L_law_345), (359, bk_L_law_359), (364, bk_L_law_364), (393, bk_L_law_393), (422, bk_L_law_422), (427, bk_L_law_427), (445, bk_L_law_445), (446, bk_L_law_446), (449, bk_L_law_449), (467, bk_L_law_467), (468, bk_L_law_468), (471, bk_L_law_471), (476, bk_L_law_476), (490, bk_L_law_490), (504, bk_L_law_504), (509, bk_L_law_509), (518, bk_L_law_518), (527, bk_L_law_527), (532, bk_L_law_532), (545, bk_L_law_545), (546, bk_L_law_546), (549, bk_L_law_549), (562, bk_L_law_562), (563, bk_L_law_563), (566, bk_L_law_566), (571, bk_L_law_571), (575, bk_L_law_575), (579, bk_L_law_579), (584, bk_L_law_584), (593, bk_L_law_593), (602, bk_L_law_602), (607, bk_L_law_607), (611, bk_L_law_611), (615, bk_L_law_615), (620, bk_L_law_620), (629, bk_L_law_629), (638, bk_L_law_638), (643, bk_L_law_643), (667, bk_L_law_667), (691, bk_L_law_691), (696, bk_L_law_696), (705, bk_L_law_705), (714, bk_L_law_714), (719, bk_L_law_719), (733, bk_L_law_733), (747, bk_L_law_747), (752, bk_L_law_752), (756, bk_L_law_756), (760, bk_L_law_760), (765, bk_L_law_765), (769, bk_L_law_769), (773, bk_L_law_773), (778, bk_L_law_778), (782, bk_L_law_782), (786, bk_L_law_786), (791, bk_L_law_791), (800, bk_L_law_800), (809, bk_L_law_809), (814, bk_L_law_814), (843, bk_L_law_843), (872, bk_L_law_872), (877, bk_L_law_877), (891, bk_L_law_891), (905, bk_L_law_905), (910, bk_L_law_910), (919, bk_L_law_919), (928, bk_L_law_928), (933, bk_L_law_933), (942, bk_L_law_942), (951, bk_L_law_951), (956, bk_L_law_956), (980, bk_L_law_980), (1004, bk_L_law_1004), (1009, bk_L_law_1009), (1018, bk_L_law_1018), (1027, bk_L_law_1027), (1032, bk_L_law_1032), (1041, bk_L_law_1041), (1050, bk_L_law_1050), (1055, bk_L_law_1055), (1059, bk_L_law_1059), (1063, bk_L_law_1063), (1068, bk_L_law_1068), (1077, bk_L_law_1077), (1086, bk_L_law_1086), (1091, bk_L_law_1091), (1095, bk_L_law_1095), (1099, bk_L_law_1099), (1104, bk_L_law_1104), (1123, bk_L_law_1123), (1142, bk_L_law_1142), (1147, bk_L_law_1147), (1166, bk_L_law_1166), (1185, bk_L_law_1185), (1190, bk_L_law_1190), (1204, bk_L_law_1204), (1218, bk_L_law_1218), (1223, bk_L_law_1223), (1227, bk_L_law_1227), (1231, bk_L_law_1231), (1236, bk_L_law_1236), (1245, bk_L_law_1245), (1254, bk_L_law_1254), (1259, bk_L_law_1259), (1273, bk_L_law_1273), (1287, bk_L_law_1287), (1292, bk_L_law_1292), (1301, bk_L_law_1301), (1310, bk_L_law_1310), (1315, bk_L_law_1315), (1324, bk_L_law_1324), (1333, bk_L_law_1333), (1338, bk_L_law_1338), (1352, bk_L_law_1352), (1366, bk_L_law_1366), (1371, bk_L_law_1371), (1390, bk_L_law_1390), (1409, bk_L_law_1409), (1414, bk_L_law_1414), (1428, bk_L_law_1428), (1442, bk_L_law_1442), (1447, bk_L_law_1447), (1456, bk_L_law_1456), (1465, bk_L_law_1465), (1470, bk_L_law_1470), (1476, bk_L_law_1476)]
set_option maxRecDepth 20000 in
theorem bq_L_law_0 : lkB bl_L_law 0 = bk_L_law_0 := rfl
set_option maxRecDepth 20000 in
theorem bq_L_law_7 : lkB bl_L_law 7 = bk_L_law_7 := rfl
set_option maxRecDepth 20000 in
theorem bq_L_law_15 : lkB bl_L_law 15 = bk_L_law_15 := rfl
set_option maxRecDepth 20000 in
theorem bq_L_law_18 : lkB bl_L_law 18 = bk_L_law_18 := rfl
set_option maxRecDepth 20000 in
theorem bq_L_law_216 : lkB bl_L_law 216 = bk_L_law_216 := rfl
set_option maxRecDepth 20000 in
theorem bq_L_law_220 : lkB bl_L_law 220 = bk_L_law_220 := rfl
set_option maxRecDepth 20000 in
theorem bq_L_law_224 : lkB bl_L_law 224 = bk_L_law_224 := rfl
set_option maxRecDepth 20000 in
theorem bq_L_law_229 : lkB bl_L_law 229 = bk_L_law_229 := rfl
set_option maxRecDepth 20000 in
theorem bq_L_law_247 : lkB bl_L_law 247 = bk_L_law_247 := rfl
set_option maxRecDepth 20000 in
theorem bq_L_law_248 : lkB bl_L_law 248 = bk_L_law_248 := rfl
set_option maxRecDepth 20000 in
theorem bq_L_law_251 : lkB bl_L_law 251 = bk_L_law_251 := rfl
set_option maxRecDepth 20000 in
theorem bq_L_law_269 : lkB bl_L_law 269 = bk_L_law_269 := rfl
set_option maxRecDepth 20000 in
theorem bq_L_law_270 : lkB bl_L_law 270 = bk_L_law_270 := rfl
set_option maxRecDepth 20000 in
theorem bq_L_law_273 : lkB bl_L_law 273 = bk_L_law_273 := rfl
set_option maxRecDepth 20000 in
theorem bq_L_law_278 : lkB bl_L_law 278 = bk_L_law_278 := rfl
set_option maxRecDepth 20000 in
theorem bq_L_law_302 : lkB bl_L_law 302 = bk_L_law_302 := rfl
set_option maxRecDepth 20000 in
theorem bq_L_law_326 : lkB bl_L_law 326 = bk_L_law_326 := rfl
set_option maxRecDepth 20000 in
theorem bq_L_law_331 : lkB bl_L_law 331 = bk_L_law_331 := rfl
set_option maxRecDepth 20000 in
theorem bq_L_law_345 : lkB bl_L_law 345 = bk_L_law_345 := rfl
set_option maxRecDepth 20000 in
theorem bq_L_law_359 : lkB bl_L_law 359 = bk_L_law_359 := rfl
set_option maxRecDepth 20000 in
theorem bq_L_law_364 : lkB bl_L_law 364 = bk_L_law_364 := rfl
set_option maxRecDepth 20000 in
theorem bq_L_law_393 : lkB bl_L_law 393 = bk_L_law_393 := rfl
set_option maxRecDepth 20000 in
theorem bq_L_law_422 : lkB bl_L_law 422 = bk_L_law_422 := rfl
set_option maxRecDepth 20000 in
theorem bq_L_law_427 : lkB bl_L_law 427 = bk_L_law_427 := rfl
set_option maxRecDepth 20000 in
theorem bq_L_law_445 : lkB bl_L_law 445 = bk_L_law_445 := rfl
set_option maxRecDepth 20000 in
theorem bq_L_law_446 : lkB bl_L_law 446 = bk_L_law_446 := rfl
set_option maxRecDepth 20000 in
theorem bq_L_law_449 : lkB bl_L_law 449 = bk_L_law_449 := rfl
set_option maxRecDepth 20000 in
theorem bq_L_law_467 : lkB bl_L_law 467 = bk_L_law_467 := rfl
set_option maxRecDepth 20000 in
theorem bq_L_law_468 : lkB bl_L_law 468 = bk_L_law_468 := rfl
set_option maxRecDepth 20000 in
theorem bq_L_law_471 : lkB bl_L_law 471 = bk_L_law_471 := rfl
set_option maxRecDepth 20000 in
theorem bq_L_law_476 : lkB bl_L_law 476 = bk_L_law_476 := rfl
set_option maxRecDepth 20000 in
theorem bq_L_law_490 : lkB bl_L_law 490 = bk_L_law_490 := rfl
set_option maxRecDepth 20000 in
theorem bq_L_law_504 : lkB bl_L_law 504 = bk_L_law_504 := rfl
set_option maxRecDepth 20000 in
theorem bq_L_law_509 : lkB bl_L_law 509 = bk_L_law_509 := rfl
set_option maxRecDepth 20000 in
theorem bq_L_law_518 : lkB bl_L_law 518 = bk_L_law_518 := rfl
set_option maxRecDepth 20000 in
theorem bq_L_law_527 : lkB bl_L_law 527 = bk_L_law_527 := rfl
set_option maxRecDepth 20000 in
theorem bq_L_law_532 : lkB bl_L_law 532 = bk_L_law_532 := rfl
set_option maxRecDepth 20000 in
theorem bq_L_law_545 : lkB bl_L_law 545 = bk_L_law_545 := rfl
set_option maxRecDepth 20000 in
theorem bq_L_law_546 : lkB bl_L_law 546 = bk_L_law_546 := rfl
set_option maxRecDepth 20000 in
theorem bq_L_law_549 : lkB bl_L_law 549 = bk_L_law_549 := rfl
set_option maxRecDepth 20000 in
theorem bq_L_law_562 : lkB bl_L_law 562 = bk_L_law_562 := rfl
set_option maxRecDepth 20000 in
theorem bq_L_law_563 : lkB bl_L_law 563 = bk_L_law_563 := rfl
set_option maxRecDepth 20000 in
theorem bq_L_law_566 : lkB bl_L_law 566 = bk_L_law_566 := rfl
set_option maxRecDepth 20000 in
theorem bq_L_law_571 : lkB bl_L_law 571 = bk_L_law_571 := rfl
set_option maxRecDepth 20000 in
theorem bq_L_law_575 : lkB bl_L_law 575 = bk_L_law_575 := rfl
set_option maxRecDepth 20000 in
theorem bq_L_law_579 : lkB bl_L_law 579 = bk_L_law_579 := rfl
set_option maxRecDepth 20000 in
theorem bq_L_law_584 : lkB bl_L_law 584 = bk_L_law_584 := rfl
set_option maxRecDepth 20000 in
theorem bq_L_law_593 : lkB bl_L_law 593 = bk_L_law_593 := rfl
set_option maxRecDepth 20000 in
theorem bq_L_law_602 : lkB bl_L_law 602 = bk_L_law_602 := rfl
set_option maxRecDepth 20000 in
theorem bq_L_law_607 : lkB bl_L_law 607 = bk_L_law_607 := rfl
set_option maxRecDepth 20000 in
theorem bq_L_law_611 : lkB bl_L_law 611 = bk_L_law_611 := rfl
set_option maxRecDepth 20000 in
theorem bq_L_law_615 : lkB bl_L_law 615 = bk_L_law_615 := rfl
set_option maxRecDepth 20000 in
theorem bq_L_law_620 : lkB bl_L_law 620 = bk_L_law_620 := rfl
set_option maxRecDepth 20000 in
theorem bq_L_law_629 : lkB bl_L_law 629 = bk_L_law_629 := rfl
set_option maxRecDepth 20000 in
theorem bq_L_law_638 : lkB bl_L_law 638 = bk_L_law_638 := rfl
set_option maxRecDepth 20000 in
theorem bq_L_law_643 : lkB bl_L_law 643 = bk_L_law_643 := rfl
set_option maxRecDepth 20000 in
theorem bq_L_law_667 : lkB bl_L_law 667 = bk_L_law_667 := rfl
set_option maxRecDepth 20000 in
theorem bq_L_law_691 : lkB bl_L_law 691 = bk_L_law_691 := rfl
set_option maxRecDepth 20000 in
theorem bq_L_law_696 : lkB bl_L_law 696 = bk_L_law_696 := rfl
set_option maxRecDepth 20000 in
theorem bq_L_law_705 : lkB bl_L_law 705 = bk_L_law_705 := rfl
set_option maxRecDepth 20000 in
theorem bq_L_law_714 : lkB bl_L_law 714 = bk_L_law_714 := rfl
set_option maxRecDepth 20000 in
theorem bq_L_law_719 : lkB bl_L_law 719 = bk_L_law_719 := rfl
set_option maxRecDepth 20000 in
theorem bq_L_law_733 : lkB bl_L_law 733 = bk_L_law_733 := rfl
set_option maxRecDepth 20000 in
theorem bq_L_law_747 : lkB bl_L_law 747 = bk_L_law_747 := rfl
set_option maxRecDepth 20000 in
theorem bq_L_law_752 : lkB bl_L_law 752 = bk_L_law_752 := rfl
set_option maxRecDepth 20000 in
theorem bq_L_law_756 : lkB bl_L_law 756 = bk_L_law_756 := rfl
set_option maxRecDepth 20000 in
theorem bq_L_law_760 : lkB bl_L_law 760 = bk_L_law_760 := rfl
set_option maxRecDepth 20000 in
theorem bq_L_law_765 : lkB bl_L_law 765 = bk_L_law_765 := rfl
set_option maxRecDepth 20000 in
theorem bq_L_law_769 : lkB bl_L_law 769 = bk_L_law_769 := rfl
set_option maxRecDepth 20000 in
theorem bq_L_law_773 : lkB bl_L_law 773 = bk_L_law_773 := rfl
set_option maxRecDepth 20000 in
theorem bq_L_law_778 : lkB bl_L_law 778 = bk_L_law_778 := rfl
set_option maxRecDepth 20000 in
theorem bq_L_law_782 : lkB bl_L_law 782 = bk_L_law_782 := rfl
set_option maxRecDepth 20000 in
theorem bq_L_law_786 : lkB bl_L_law 786 = bk_L_law_786 := rfl
set_option maxRecDepth 20000 in
theorem bq_L_law_791 : lkB bl_L_law 791 = bk_L_law_791 := rfl
set_option maxRecDepth 20000 in
theorem bq_L_law_800 : lkB bl_L_law 800 = bk_L_law_800 := rfl
set_option maxRecDepth 20000 in
theorem bq_L_law_809 : lkB bl_L_law 809 = bk_L_law_809 := rfl
set_option maxRecDepth 20000 in
theorem bq_L_law_814 : lkB bl_L_law 814 = bk_L_law_814 := rfl
set_option maxRecDepth 20000 in
theorem bq_L_law_843 : lkB bl_L_law 843 = bk_L_law_843 := rfl
set_option maxRecDepth 20000 in
theorem bq_L_law_872 : lkB bl_L_law 872 = bk_L_law_872 := rfl
set_option maxRecDepth 20000 in
theorem bq_L_law_877 : lkB bl_L_law 877 = bk_L_law_877 := rfl
set_option maxRecDepth 20000 in
theorem bq_L_law_891 : lkB bl_L_law 891 = bk_L_law_891 := rfl
set_option maxRecDepth 20000 in
theorem bq_L_law_905 : lkB bl_L_law 905 = bk_L_law_905 := rfl
set_option maxRecDepth 20000 in
theorem bq_L_law_910 : lkB bl_L_law 910 = bk_L_law_910 := rfl
set_option maxRecDepth 20000 in
theorem bq_L_law_919 : lkB bl_L_law 919 = bk_L_law_919 := rfl
set_option maxRecDepth 20000 in
theorem bq_L_law_928 : lkB bl_L_law 928 = bk_L_law_928 := rfl
set_option maxRecDepth 20000 in
theorem bq_L_law_933 : lkB bl_L_law 933 = bk_L_law_933 := rfl
set_option maxRecDepth 20000 in
theorem bq_L_law_942 : lkB bl_L_law 942 = bk_L_law_942 := rfl
set_option maxRecDepth 20000 in
theorem bq_L_law_951 : lkB bl_L_law 951 = bk_L_law_951 := rfl
set_option maxRecDepth 20000 in
theorem bq_L_law_956 : lkB bl_L_law 956 = bk_L_law_956 := rfl
set_option maxRecDepth 20000 in
theorem bq_L_law_980 : lkB bl_L_law 980 = bk_L_law_980 := rfl
set_option maxRecDepth 20000 in
theorem bq_L_law_1004 : lkB bl_L_law 1004 = bk_L_law_1004 := rfl
set_option maxRecDepth 20000 in
theorem bq_L_law_1009 : lkB bl_L_law 1009 = bk_L_law_1009 := rfl
set_option maxRecDepth 20000 in
theorem bq_L_law_1018 : lkB bl_L_law 1018 = bk_L_law_1018 := rfl
set_option maxRecDepth 20000 in
theorem bq_L_law_1027 : lkB bl_L_law 1027 = bk_L_law_1027 := rfl
set_option maxRecDepth 20000 in
theorem bq_L_law_1032 : lkB bl_L_law 1032 = bk_L_law_1032 := rfl
set_option maxRecDepth 20000 in
theorem bq_L_law_1041 : lkB bl_L_law 1041 = bk_L_law_1041 := rfl
set_option maxRecDepth 20000 in
theorem bq_L_law_1050 : lkB bl_L_law 1050 = bk_L_law_1050 := rfl
set_option maxRecDepth 20000 in
theorem bq_L_law_1055 : lkB bl_L_law 1055 = bk_L_law_1055 := rfl
set_option maxRecDepth 20000 in
theorem bq_L_law_1059 : lkB bl_L_law 1059 = bk_L_law_1059 := rfl
set_option maxRecDepth 20000 in
theorem bq_L_law_1063 : lkB bl_L_law 1063 = bk_L_law_1063 := rfl
set_option maxRecDepth 20000 in
theorem bq_L_law_1068 : lkB bl_L_law 1068 = bk_L_law_1068 := rfl
set_option maxRecDepth 20000 in
theorem bq_L_law_1077 : lkB bl_L_law 1077 = bk_L_law_1077 := rfl
set_option maxRecDepth 20000 in
theorem bq_L_law_1086 : lkB bl_L_law 1086 = bk_L_law_1086 := rfl
set_option maxRecDepth 20000 in
theorem bq_L_law_1091 : lkB bl_L_law 1091 = bk_L_law_1091 := rfl
set_option maxRecDepth 20000 in
theorem bq_L_law_1095 : lkB bl_L_law 1095 = bk_L_law_1095 := rfl
set_option maxRecDepth 20000 in
theorem bq_L_law_1099 : lkB bl_L_law 1099 = bk_L_law_1099 := rfl
set_option maxRecDepth 20000 in
theorem bq_L_law_1104 : lkB bl_L_law 1104 = bk_L_law_1104 := rfl
set_option maxRecDepth 20000 in
theorem bq_L_law_1123 : lkB bl_L_law 1123 = bk_L_law_1123 := rfl
set_option maxRecDepth 20000 in
theorem bq_L_law_1142 : lkB bl_L_law 1142 = bk_L_law_1142 := rfl
set_option maxRecDepth 20000 in
theorem bq_L_law_1147 : lkB bl_L_law 1147 = bk_L_law_1147 := rfl
set_option maxRecDepth 20000 in
theorem bq_L_law_1166 : lkB bl_L_law 1166 = bk_L_law_1166 := rfl
set_option maxRecDepth 20000 in
theorem bq_L_law_1185 : lkB bl_L_law 1185 = bk_L_law_1185 := rfl
set_option maxRecDepth 20000 in
theorem bq_L_law_1190 : lkB bl_L_law 1190 = bk_L_law_1190 := rfl
set_option maxRecDepth 20000 in
theorem bq_L_law_1204 : lkB bl_L_law 1204 = bk_L_law_1204 := rfl
set_option maxRecDepth 20000 in
theorem bq_L_law_1218 : lkB bl_L_law 1218 = bk_L_law_1218 := rfl
set_option maxRecDepth 20000 in
theorem bq_L_law_1223 : lkB bl_L_law 1223 = bk_L_law_1223 := rfl
set_option maxRecDepth 20000 in
theorem bq_L_law_1227 : lkB bl_L_law 1227 = bk_L_law_1227 := rfl
set_option maxRecDepth 20000 in
theorem bq_L_law_1231 : lkB bl_L_law 1231 = bk_L_law_1231 := rfl
set_option maxRecDepth 20000 in
theorem bq_L_law_1236 : lkB bl_L_law 1236 = bk_L_law_1236 := rfl
set_option maxRecDepth 20000 in
theorem bq_L_law_1245 : lkB bl_L_law 1245 = bk_L_law_1245 := rfl
set_option maxRecDepth 20000 in
theorem bq_L_law_1254 : lkB bl_L_law 1254 = bk_L_law_1254 := rfl
set_option maxRecDepth 20000 in
theorem bq_L_law_1259 : lkB bl_L_law 1259 = bk_L_law_1259 := rfl
set_option maxRecDepth 20000 in
theorem bq_L_law_1273 : lkB bl_L_law 1273 = bk_L_law_1273 := rfl
set_option maxRecDepth 20000 in
theorem bq_L_law_1287 : lkB bl_L_law 1287 = bk_L_law_1287 := rfl
set_option maxRecDepth 20000 in
theorem bq_L_law_1292 : lkB bl_L_law 1292 = bk_L_law_1292 := rfl
set_option maxRecDepth 20000 in
theorem bq_L_law_1301 : lkB bl_L_law 1301 = bk_L_law_1301 := rfl
set_option maxRecDepth 20000 in
theorem bq_L_law_1310 : lkB bl_L_law 1310 = bk_L_law_1310 := rfl
set_option maxRecDepth 20000 in
theorem bq_L_law_1315 : lkB bl_L_law 1315 = bk_L_law_1315 := rfl
set_option maxRecDepth 20000 in
theorem bq_L_law_1324 : lkB bl_L_law 1324 = bk_L_law_1324 := rfl
set_option maxRecDepth 20000 in
theorem bq_L_law_1333 : lkB bl_L_law 1333 = bk_L_law_1333 := rfl
set_option maxRecDepth 20000 in
theorem bq_L_law_1338 : lkB bl_L_law 1338 = bk_L_law_1338 := rfl
set_option maxRecDepth 20000 in
theorem bq_L_law_1352 : lkB bl_L_law 1352 = bk_L_law_1352 := rfl
set_option maxRecDepth 20000 in
theorem bq_L_law_1366 : lkB bl_L_law 1366 = bk_L_law_1366 := rfl
set_option maxRecDepth 20000 in
theorem bq_L_law_1371 : lkB bl_L_law 1371 = bk_L_law_1371 := rfl
set_option maxRecDepth 20000 in
theorem bq_L_law_1390 : lkB bl_L_law 1390 = bk_L_law_1390 := rfl
set_option maxRecDepth 20000 in
theorem bq_L_law_1409 : lkB bl_L_law 1409 = bk_L_law_1409 := rfl
set_option maxRecDepth 20000 in
theorem bq_L_law_1414 : lkB bl_L_law 1414 = bk_L_law_1414 := rfl
set_option maxRecDepth 20000 in
theorem bq_L_law_1428 : lkB bl_L_law 1428 = bk_L_law_1428 := rfl
set_option maxRecDepth 20000 in
theorem bq_L_law_1442 : lkB bl_L_law 1442 = bk_L_law_1442 := rfl
set_option maxRecDepth 20000 in
theorem bq_L_law_1447 : lkB bl_L_law 1447 = bk_L_law_1447 := rfl
set_option maxRecDepth 20000 in
theorem bq_L_law_1456 : lkB bl_L_law 1456 = bk_L_law_1456 := rfl
set_option maxRecDepth 20000 in
theorem bq_L_law_1465 : lkB bl_L_law 1465 = bk_L_law_1465 := rfl
set_option maxRecDepth 20000 in
theorem bq_L_law_1470 : lkB bl_L_law 1470 = bk_L_law_1470 := rfl
set_option maxRecDepth 20000 in
theorem bq_L_law_1476 : lkB bl_L_law 1476 = bk_L_law_1476 := rfl
set_option maxRecDepth 20000 in
theorem cb_L_law_0 : ckL rs_L_law false 99 4 code 0 bk_L_law_0 = true := by decide +kernel
set_option maxRecDepth 20000 in
theorem cb_L_law_7 : ckL rs_L_law false 99 4 code 7 bk_L_law_7 = true := by decide +kernel
set_option maxRecDepth 20000 in
theorem cb_L_law_15 : ckL rs_L_law false 99 4 code 15 bk_L_law_15 = true := by decide +kernel
set_option maxRecDepth 20000 in
theorem cb_L_law_18 : ckL rs_L_law false 99 4 code 18 bk_L_law_18 = true := by decide +kernel
set_option maxRecDepth 20000 in
theorem cb_L_law_216 : ckL rs_L_law false 99 4 code 216 bk_L_law_216 = true := by decide +kernel
set_option maxRecDepth 20000 in
theorem cb_L_law_220 : ckL rs_L_law false 99 4 code 220 bk_L_law_220 = true := by decide +kernel
set_option maxRecDepth 20000 in
theorem cb_L_law_224 : ckL rs_L_law false 99 4 code 224 bk_L_law_224 = true := by decide +kernel
set_option maxRecDepth 20000 in
theorem cb_L_law_229 : ckL rs_L_law false 99 4 code 229 bk_L_law_229 = true := by decide +kernel
set_option maxRecDepth 20000 in
theorem cb_L_law_247 : ckL rs_L_law false 99 4 code 247 bk_L_law_247 = true := by decide +kernel
set_option maxRecDepth 20000 in
theorem cb_L_law_248 : ckL rs_L_law false 99 4 code 248 bk_L_law_248 = true := by decide +kernel
set_option maxRecDepth 20000 in
theorem cb_L_law_251 : ckL rs_L_law false 99 4 code 251 bk_L_law_251 = true := by decide +kernel
set_option maxRecDepth 20000 in
theorem cb_L_law_269 : ckL rs_L_law false 99 4 code 269 bk_L_law_269 = true := by decide +kernel
set_option maxRecDepth 20000 in
theorem cb_L_law_270 : ckL rs_L_law false 99 4 code 270 bk_L_law_270 = true := by decide +kernel
set_option maxRecDepth 20000 in
theorem cb_L_law_273 : ckL rs_L_law false 99 4 code 273 bk_L_law_273 = true := by decide +kernel
set_option maxRecDepth 20000 in
theorem cb_L_law_278 : ckL rs_L_law false 99 4 code 278 bk_L_law_278 = true := by decide +kernel
set_option maxRecDepth 20000 in
theorem cb_L_law_302 : ckL rs_L_law false 99 4 code 302 bk_L_law_302 = true := by decide +kernel
set_option maxRecDepth 20000 in
theorem cb_L_law_326 : ckL rs_L_law false 99 4 code 326 bk_L_law_326 = true := by decide +kernel
set_option maxRecDepth 20000 in
theorem cb_L_law_331 : ckL rs_L_law false 99 4 code 331 bk_L_law_331 = true := by decide +kernel
set_option maxRecDepth 20000 in
theorem cb_L_law_345 : ckL rs_L_law false 99 4 code 345 bk_L_law_345 = true := by decide +kernel
set_option maxRecDepth 20000 in
theorem cb_L_law_359 : ckL rs_L_law false 99 4 code 359 bk_L_law_359 = true := by decide +kernel
set_option maxRecDepth 20000 in
theorem cb_L_law_364 : ckL rs_L_law false 99 4 code 364 bk_L_law_364 = true := by decide +kernel
set_option maxRecDepth 20000 in
theorem cb_L_law_393 : ckL rs_L_law false 99 4 code 393 bk_L_law_393 = true := by decide +kernel
set_option maxRecDepth 20000 in
theorem cb_L_law_422 : ckL rs_L_law false 99 4 code 422 bk_L_law_422 = true := by decide +kernel
set_option maxRecDepth 20000 in
theorem cb_L_law_427 : ckL rs_L_law false 99 4 code 427 bk_L_law_427 = true := by decide +kernel
set_option maxRecDepth 20000 in
theorem cb_L_law_445 : ckL rs_L_law false 99 4 code 445 bk_L_law_445 = true := by decide +kernel
set_option maxRecDepth 20000 in
theorem cb_L_law_446 : ckL rs_L_law false 99 4 code 446 bk_L_law_446 = true := by decide +kernel
set_option maxRecDepth 20000 in
theorem cb_L_law_449 : ckL rs_L_law false 99 4 code 449 bk_L_law_449 = true := by decide +kernel
set_option maxRecDepth 20000 in
theorem cb_L_law_467 : ckL rs_L_law false 99 4 code 467 bk_L_law_467 = true := by decide +kernel
set_option maxRecDepth 20000 in
theorem cb_L_law_468 : ckL rs_L_law false 99 4 code 468 bk_L_law_468 = true := by decide +kernel
set_option maxRecDepth 20000 in
theorem cb_L_law_471 : ckL rs_L_law false 99 4 code 471 bk_L_law_471 = true := by decide +kernel
set_option maxRecDepth 20000 in
theorem cb_L_law_476 : ckL rs_L_law false 99 4 code 476 bk_L_law_476 = true := by decide +kernel
set_option maxRecDepth 20000 in
theorem cb_L_law_490 : ckL rs_L_law false 99 4 code 490 bk_L_law_490 = true := by decide +kernel
set_option maxRecDepth 20000 in
theorem cb_L_law_504 : ckL rs_L_law false 99 4 code 504 bk_L_law_504 = true := by decide +kernel
set_option maxRecDepth 20000 in
theorem cb_L_law_509 : ckL rs_L_law false 99 4 code 509 bk_L_law_509 = true := by decide +kernel
set_option maxRecDepth 20000 in
theorem cb_L_law_518 : ckL rs_L_law false 99 4 code 518 bk_L_law_518 = true := by decide +kernel
set_option maxRecDepth 20000 in
theorem cb_L_law_527 : ckL rs_L_law false 99 4 code 527 bk_L_law_527 = true := by decide +kernel
set_option maxRecDepth 20000 in
theorem cb_L_law_532 : ckL rs_L_law false 99 4 code 532 bk_L_law_532 = true := by decide +kernel
set_option maxRecDepth 20000 in
theorem cb_L_law_545 : ckL rs_L_law false 99 4 code 545 bk_L_law_545 = true := by decide +kernel
set_option maxRecDepth 20000 in
theorem cb_L_law_546 : ckL rs_L_law false 99 4 code 546 bk_L_law_546 = true := by decide +kernel
set_option maxRecDepth 20000 in
theorem cb_L_law_549 : ckL rs_L_law false 99 4 code 549 bk_L_law_549 = true := by decide +kernel
set_option maxRecDepth 20000 in
theorem cb_L_law_562 : ckL rs_L_law false 99 4 code 562 bk_L_law_562 = true := by decide +kernel
set_option maxRecDepth 20000 in
theorem cb_L_law_563 : ckL rs_L_law false 99 4 code 563 bk_L_law_563 = true := by decide +kernel
set_option maxRecDepth 20000 in
theorem cb_L_law_566 : ckL rs_L_law false 99 4 code 566 bk_L_law_566 = true := by decide +kernel
set_option maxRecDepth 20000 in
theorem cb_L_law_571 : ckL rs_L_law false 99 4 code 571 bk_L_law_571 = true := by decide +kernel
set_option maxRecDepth 20000 in
theorem cb_L_law_575 : ckL rs_L_law false 99 4 code 575 bk_L_law_575 = true := by decide +kernel
set_option maxRecDepth 20000 in
theorem cb_L_law_579 : ckL rs_L_law false 99 4 code 579 bk_L_law_579 = true := by decide +kernel
set_option maxRecDepth 20000 in
theorem cb_L_law_584 : ckL rs_L_law false 99 4 code 584 bk_L_law_584 = true := by decide +kernel
set_option maxRecDepth 20000 in
theorem cb_L_law_593 : ckL rs_L_law false 99 4 code 593 bk_L_law_593 = true := by decide +kernel
set_option maxRecDepth 20000 in
theorem cb_L_law_602 : ckL rs_L_law false 99 4 code 602 bk_L_law_602 = true := by decide +kernel
set_option maxRecDepth 20000 in
theorem cb_L_law_607 : ckL rs_L_law false 99 4 code 607 bk_L_law_607 = true := by decide +kernel
set_option maxRecDepth 20000 in
theorem cb_L_law_611 : ckL rs_L_law false 99 4 code 611 bk_L_law_611 = true := by decide +kernel
set_option maxRecDepth 20000 in
theorem cb_L_law_615 : ckL rs_L_law false 99 4 code 615 bk_L_law_615 = true := by decide +kernel
set_option maxRecDepth 20000 in
theorem cb_L_law_620 : ckL rs_L_law false 99 4 code 620 bk_L_law_620 = true := by decide +kernel
set_option maxRecDepth 20000 in
theorem cb_L_law_629 : ckL rs_L_law false 99 4 code 629 bk_L_law_629 = true := by decide +kernel
set_option maxRecDepth 20000 in
theorem cb_L_law_638 : ckL rs_L_law false 99 4 code 638 bk_L_law_638 = true := by decide +kernel
set_option maxRecDepth 20000 in
theorem cb_L_law_643 : ckL rs_L_law false 99 4 code 643 bk_L_law_643 = true := by decide +kernel
set_option maxRecDepth 20000 in
theorem cb_L_law_667 : ckL rs_L_law false 99 4 code 667 bk_L_law_667 = true := by decide +kernel
set_option maxRecDepth 20000 in
theorem cb_L_law_691 : ckL rs_L_law false 99 4 code 691 bk_L_law_691 = true := by decide +kernel
set_option maxRecDepth 20000 in
theorem cb_L_law_696 : ckL rs_L_law false 99 4 code 696 bk_L_law_696 = true := by decide +kernel
set_option maxRecDepth 20000 in
theorem cb_L_law_705 : ckL rs_L_law false 99 4 code 705 bk_L_law_705 = true := by decide +kernel
set_option maxRecDepth 20000 in
theorem cb_L_law_714 : ckL rs_L_law false 99 4 code 714 bk_L_law_714 = true := by decide +kernel
set_option maxRecDepth 20000 in
theorem cb_L_law_719 : ckL rs_L_law false 99 4 code 719 bk_L_law_719 = true := by decide +kernel
set_option maxRecDepth 20000 in
theorem cb_L_law_733 : ckL rs_L_law false 99 4 code 733 bk_L_law_733 = true := by decide +kernel
set_option maxRecDepth 20000 in
theorem cb_L_law_747 : ckL rs_L_law false 99 4 code 747 bk_L_law_747 = true := by decide +kernel
set_option maxRecDepth 20000 in
theorem cb_L_law_752 : ckL rs_L_law false 99 4 code 752 bk_L_law_752 = true := by decide +kernel
set_option maxRecDepth 20000 in
theorem cb_L_law_756 : ckL rs_L_law false 99 4 code 756 bk_L_law_756 = true := by decide +kernel
set_option maxRecDepth 20000 in
theorem cb_L_law_760 : ckL rs_L_law false 99 4 code 760 bk_L_law_760 = true := by decide +kernel
set_option maxRecDepth 20000 in
theorem cb_L_law_765 : ckL rs_L_law false 99 4 code 765 bk_L_law_765 = true := by decide +kernel
set_option maxRecDepth 20000 in
theorem cb_L_law_769 : ckL rs_L_law false 99 4 code 769 bk_L_law_769 = true := by decide +kernel
set_option maxRecDepth 20000 in
theorem cb_L_law_773 : ckL rs_L_law false 99 4 code 773 bk_L_law_773 = true := by decide +kernel
set_option maxRecDepth 20000 in
theorem cb_L_law_778 : ckL rs_L_law false 99 4 code 778 bk_L_law_778 = true := by decide +kernel
set_option maxRecDepth 20000 in
theorem cb_L_law_782 : ckL rs_L_law false 99 4 code 782 bk_L_law_782 = true := by decide +kernel
set_option maxRecDepth 20000 in
theorem cb_L_law_786 : ckL rs_L_law false 99 4 code 786 bk_L_law_786 = true := by decide +kernel
set_option maxRecDepth 20000 in
theorem cb_L_law_791 : ckL rs_L_law false 99 4 code 791 bk_L_law_791 = true := by decide +kernel
set_option maxRecDepth 20000 in
theorem cb_L_law_800 : ckL rs_L_law false 99 4 code 800 bk_L_law_800 = true := by decide +kernel
set_option maxRecDepth 20000 in
theorem cb_L_law_809 : ckL rs_L_law false 99 4 code 809 bk_L_law_809 = true := by decide +kernel
set_option maxRecDepth 20000 in
theorem cb_L_law_814 : ckL rs_L_law false 99 4 code 814 bk_L_law_814 = true := by decide +kernel
set_option maxRecDepth 20000 in
theorem cb_L_law_843 : ckL rs_L_law false 99 4 code 843 bk_L_law_843 = true := by decide +kernel
set_option maxRecDepth 20000 in
theorem cb_L_law_872 : ckL rs_L_law false 99 4 code 872 bk_L_law_872 = true := by decide +kernel
set_option maxRecDepth 20000 in
theorem cb_L_law_877 : ckL rs_L_law false 99 4 code 877 bk_L_law_877 = true := by decide +kernel
set_option maxRecDepth 20000 in
theorem cb_L_law_891 : ckL rs_L_law false 99 4 code 891 bk_L_law_891 = true := by decide +kernel
set_option maxRecDepth 20000 in
theorem cb_L_law_905 : ckL rs_L_law false 99 4 code 905 bk_L_law_905 = true := by decide +kernel
set_option maxRecDepth 20000 in
theorem cb_L_law_910 : ckL rs_L_law false 99 4 code 910 bk_L_law_910 = true := by decide +kernel
set_option maxRecDepth 20000 in
theorem cb_L_law_919 : ckL rs_L_law false 99 4 code 919 bk_L_law_919 = true := by decide +kernel
set_option maxRecDepth 20000 in
theorem cb_L_law_928 : ckL rs_L_law false 99 4 code 928 bk_L_law_928 = true := by decide +kernel
set_option maxRecDepth 20000 in
theorem cb_L_law_933 : ckL rs_L_law false 99 4 code 933 bk_L_law_933 = true := by decide +kernel
set_option maxRecDepth 20000 in
theorem cb_L_law_942 : ckL rs_L_law false 99 4 code 942 bk_L_law_942 = true := by decide +kernel
set_option maxRecDepth 20000 in
theorem cb_L_law_951 : ckL rs_L_law false 99 4 code 951 bk_L_law_951 = true := by decide +kernel
set_option maxRecDepth 20000 in
theorem cb_L_law_956 : ckL rs_L_law false 99 4 code 956 bk_L_law_956 = true := by decide +kernel
set_option maxRecDepth 20000 in
theorem cb_L_law_980 : ckL rs_L_law false 99 4 code 980 bk_L_law_980 = true := by decide +kernel
set_option maxRecDepth 20000 in
theorem cb_L_law_1004 : ckL rs_L_law false 99 4 code 1004 bk_L_law_1004 = true := by decide +kernel
set_option maxRecDepth 20000 in
theorem cb_L_law_1009 : ckL rs_L_law false 99 4 code 1009 bk_L_law_1009 = true := by decide +kernel
set_option maxRecDepth 20000 in
theorem cb_L_law_1018 : ckL rs_L_law false 99 4 code 1018 bk_L_law_1018 = true := by decide +kernel
set_option maxRecDepth 20000 in
theorem cb_L_law_1027 : ckL rs_L_law false 99 4 code 1027 bk_L_law_1027 = true := by decide +kernel
set_option maxRecDepth 20000 in
theorem cb_L_law_1032 : ckL rs_L_law false 99 4 code 1032 bk_L_law_1032 = true := by decide +kernel
set_option maxRecDepth 20000 in
theorem cb_L_law_1041 : ckL rs_L_law false 99 4 code 1041 bk_L_law_1041 = true := by decide +kernel
set_option maxRecDepth 20000 in
theorem cb_L_law_1050 : ckL rs_L_law false 99 4 code 1050 bk_L_law_1050 = true := by decide +kernel
set_option maxRecDepth 20000 in
theorem cb_L_law_1055 : ckL rs_L_law false 99 4 code 1055 bk_L_law_1055 = true := by decide +kernel
set_option maxRecDepth 20000 in
theorem cb_L_law_1059 : ckL rs_L_law false 99 4 code 1059 bk_L_law_1059 = true := by decide +kernel
set_option maxRecDepth 20000 in
theorem cb_L_law_1063 : ckL rs_L_law false 99 4 code 1063 bk_L_law_1063 = true := by decide +kernel
set_option maxRecDepth 20000 in
theorem cb_L_law_1068 : ckL rs_L_law false 99 4 code 1068 bk_L_law_1068 = true := by decide +kernel
set_option maxRecDepth 20000 in
theorem cb_L_law_1077 : ckL rs_L_law false 99 4 code 1077 bk_L_law_1077 = true := by decide +kernel
set_option maxRecDepth 20000 in
theorem cb_L_law_1086 : ckL rs_L_law false 99 4 code 1086 bk_L_law_1086 = true := by decide +kernel
set_option maxRecDepth 20000 in
theorem cb_L_law_1091 : ckL rs_L_law false 99 4 code 1091 bk_L_law_1091 = true := by decide +kernel
set_option maxRecDepth 20000 in
theorem cb_L_law_1095 : ckL rs_L_law false 99 4 code 1095 bk_L_law_1095 = true := by decide +kernel
set_option maxRecDepth 20000 in
theorem cb_L_law_1099 : ckL rs_L_law false 99 4 code 1099 bk_L_law_1099 = true := by decide +kernel
set_option maxRecDepth 20000 in
theorem cb_L_law_1104 : ckL rs_L_law false 99 4 code 1104 bk_L_law_1104 = true := by decide +kernel
set_option maxRecDepth 20000 in
theorem cb_L_law_1123 : ckL rs_L_law false 99 4 code 1123 bk_L_law_1123 = true := by decide +kernel
set_option maxRecDepth 20000 in
theorem cb_L_law_1142 : ckL rs_L_law false 99 4 code 1142 bk_L_law_1142 = true := by decide +kernel
set_option maxRecDepth 20000 in
theorem cb_L_law_1147 : ckL rs_L_law false 99 4 code 1147 bk_L_law_1147 = true := by decide +kernel
set_option maxRecDepth 20000 in
theorem cb_L_law_1166 : ckL rs_L_law false 99 4 code 1166 bk_L_law_1166 = true := by decide +kernel
set_option maxRecDepth 20000 in
theorem cb_L_law_1185 : ckL rs_L_law false 99 4 code 1185 bk_L_law_1185 = true := by decide +kernel
set_option maxRecDepth 20000 in
theorem cb_L_law_1190 : ckL rs_L_law false 99 4 code 1190 bk_L_law_1190 = true := by decide +kernel
set_option maxRecDepth 20000 in
theorem cb_L_law_1204 : ckL rs_L_law false 99 4 code 1204 bk_L_law_1204 = true := by decide +kernel
set_option maxRecDepth 20000 in
theorem cb_L_law_1218 : ckL rs_L_law false 99 4 code 1218 bk_L_law_1218 = true := by decide +kernel
set_option maxRecDepth 20000 in
theorem cb_L_law_1223 : ckL rs_L_law false 99 4 code 1223 bk_L_law_1223 = true := by decide +kernel
set_option maxRecDepth 20000 in
theorem cb_L_law_1227 : ckL rs_L_law false 99 4 code 1227 bk_L_law_1227 = true := by decide +kernel
set_option maxRecDepth 20000 in
theorem cb_L_law_1231 : ckL rs_L_law false 99 4 code 1231 bk_L_law_1231 = true := by decide +kernel
set_option maxRecDepth 20000 in
theorem cb_L_law_1236 : ckL rs_L_law false 99 4 code 1236 bk_L_law_1236 = true := by decide +kernel
set_option maxRecDepth 20000 in
theorem cb_L_law_1245 : ckL rs_L_law false 99 4 code 1245 bk_L_law_1245 = true := by decide +kernel
set_option maxRecDepth 20000 in
theorem cb_L_law_1254 : ckL rs_L_law false 99 4 code 1254 bk_L_law_1254 = true := by decide +kernel
set_option maxRecDepth 20000 in
theorem cb_L_law_1259 : ckL rs_L_law false 99 4 code 1259 bk_L_law_1259 = true := by decide +kernel
set_option maxRecDepth 20000 in
theorem cb_L_law_1273 : ckL rs_L_law false 99 4 code 1273 bk_L_law_1273 = true := by decide +kernel
set_option maxRecDepth 20000 in
theorem cb_L_law_1287 : ckL rs_L_law false 99 4 code 1287 bk_L_law_1287 = true := by decide +kernel
set_option maxRecDepth 20000 in
theorem cb_L_law_1292 : ckL rs_L_law false 99 4 code 1292 bk_L_law_1292 = true := by decide +kernel
set_option maxRecDepth 20000 in
theorem cb_L_law_1301 : ckL rs_L_law false 99 4 code 1301 bk_L_law_1301 = true := by decide +kernel
set_option maxRecDepth 20000 in
theorem cb_L_law_1310 : ckL rs_L_law false 99 4 code 1310 bk_L_law_1310 = true := by decide +kernel
set_option maxRecDepth 20000 in
theorem cb_L_law_1315 : ckL rs_L_law false 99 4 code 1315 bk_L_law_1315 = true := by decide +kernel
set_option maxRecDepth 20000 in
theorem cb_L_law_1324 : ckL rs_L_law false 99 4 code 1324 bk_L_law_1324 = true := by decide +kernel
set_option maxRecDepth 20000 in
theorem cb_L_law_1333 : ckL rs_L_law false 99 4 code 1333 bk_L_law_1333 = true := by decide +kernel
set_option maxRecDepth 20000 in
theorem cb_L_law_1338 : ckL rs_L_law false 99 4 code 1338 bk_L_law_1338 = true := by decide +kernel
set_option maxRecDepth 20000 in
theorem cb_L_law_1352 : ckL rs_L_law false 99 4 code 1352 bk_L_law_1352 = true := by decide +kernel
set_option maxRecDepth 20000 in
theorem cb_L_law_1366 : ckL rs_L_law false 99 4 code 1366 bk_L_law_1366 = true := by decide +kernel
set_option maxRecDepth 20000 in
theorem cb_L_law_1371 : ckL rs_L_law false 99 4 code 1371 bk_L_law_1371 = true := by decide +kernel
set_option maxRecDepth 20000 in
theorem cb_L_law_1390 : ckL rs_L_law false 99 4 code 1390 bk_L_law_1390 = true := by decide +kernel
set_option maxRecDepth 20000 in
theorem cb_L_law_1409 : ckL rs_L_law false 99 4 code 1409 bk_L_law_1409 = true := by decide +kernel
set_option maxRecDepth 20000 in
theorem cb_L_law_1414 : ckL rs_L_law false 99 4 code 1414 bk_L_law_1414 = true := by decide +kernel
set_option maxRecDepth 20000 in
theorem cb_L_law_1428 : ckL rs_L_law false 99 4 code 1428 bk_L_law_1428 = true := by decide +kernel
set_option maxRecDepth 20000 in
theorem cb_L_law_1442 : ckL rs_L_law false 99 4 code 1442 bk_L_law_1442 = true := by decide +kernel
set_option maxRecDepth 20000 in
theorem cb_L_law_1447 : ckL rs_L_law false 99 4 code 1447 bk_L_law_1447 = true := by decide +kernel
set_option maxRecDepth 20000 in
theorem cb_L_law_1456 : ckL rs_L_law false 99 4 code 1456 bk_L_law_1456 = true := by decide +kernel
set_option maxRecDepth 20000 in
theorem cb_L_law_1465 : ckL rs_L_law false 99 4 code 1465 bk_L_law_1465 = true := by decide +kernel
set_option maxRecDepth 20000 in
theorem cb_L_law_1470 : ckL rs_L_law false 99 4 code 1470 bk_L_law_1470 = true := by decide +kernel
set_option maxRecDepth 20000 in
theorem cb_L_law_1476 : ckL rs_L_law false 99 4 code 1476 bk_L_law_1476 = true := by decide +kernel
theorem ckB_n (rs : Rs) (ini : Bool) (on nL : Nat) (code : ByteArray) : ckB rs ini on nL code [] = true := rfl
theorem ckB_c {rs : Rs} {ini : Bool} {on nL : Nat} {code : ByteArray} {pc : Nat} {b : List It} {bl : List (Nat × List It)} (h1 : ckL rs ini on nL code pc b = true) (h2 : ckB rs ini on nL code bl = true) : ckB rs ini on nL code ((pc, b) :: bl) = true := by
  unfold ckB at h2 ⊢
  rw [List.all_cons, h2, h1]
  rfl
set_option maxRecDepth 20000 in
theorem ck_L_law : ckB rs_L_law false 99 4 code bl_L_law = true := (ckB_c cb_L_law_0 (ckB_c cb_L_law_7 (ckB_c cb_L_law_15 (ckB_c cb_L_law_18 (ckB_c cb_L_law_216 (ckB_c cb_L_law_220 (ckB_c cb_L_law_224 (ckB_c cb_L_law_229 (ckB_c cb_L_law_247 (ckB_c cb_L_law_248 (ckB_c cb_L_law_251 (ckB_c cb_L_law_269 (ckB_c cb_L_law_270 (ckB_c cb_L_law_273 (ckB_c cb_L_law_278 (ckB_c cb_L_law_302 (ckB_c cb_L_law_326 (ckB_c cb_L_law_331 (ckB_c cb_L_law_345 (ckB_c cb_L_law_359 (ckB_c cb_L_law_364 (ckB_c cb_L_law_393 (ckB_c cb_L_law_422 (ckB_c cb_L_law_427 (ckB_c cb_L_law_445 (ckB_c cb_L_law_446 (ckB_c cb_L_law_449 (ckB_c cb_L_law_467 (ckB_c cb_L_law_468 (ckB_c cb_L_law_471 (ckB_c cb_L_law_476 (ckB_c cb_L_law_490 (ckB_c cb_L_law_504 (ckB_c cb_L_law_509 (ckB_c cb_L_law_518 (ckB_c cb_L_law_527 (ckB_c cb_L_law_532 (ckB_c cb_L_law_545 (ckB_c cb_L_law_546 (ckB_c cb_L_law_549 (ckB_c cb_L_law_562 (ckB_c cb_L_law_563 (ckB_c cb_L_law_566 (ckB_c cb_L_law_571 (ckB_c cb_L_law_575 (ckB_c cb_L_law_579 (ckB_c cb_L_law_584 (ckB_c cb_L_law_593 (ckB_c cb_L_law_602 (ckB_c cb_L_law_607 (ckB_c cb_L_law_611 (ckB_c cb_L_law_615 (ckB_c cb_L_law_620 (ckB_c cb_L_law_629 (ckB_c cb_L_law_638 (ckB_c cb_L_law_643 (ckB_c cb_L_law_667 (ckB_c cb_L_law_691 (ckB_c cb_L_law_696 (ckB_c cb_L_law_705 (ckB_c cb_L_law_714 (ckB_c cb_L_law_719 (ckB_c cb_L_law_733 (ckB_c cb_L_law_747 (ckB_c cb_L_law_752 (ckB_c cb_L_law_756 (ckB_c cb_L_law_760 (ckB_c cb_L_law_765 (ckB_c cb_L_law_769 (ckB_c cb_L_law_773 (ckB_c cb_L_law_778 (ckB_c cb_L_law_782 (ckB_c cb_L_law_786 (ckB_c cb_L_law_791 (ckB_c cb_L_law_800 (ckB_c cb_L_law_809 (ckB_c cb_L_law_814 (ckB_c cb_L_law_843 (ckB_c cb_L_law_872 (ckB_c cb_L_law_877 (ckB_c cb_L_law_891 (ckB_c cb_L_law_905 (ckB_c cb_L_law_910 (ckB_c cb_L_law_919 (ckB_c cb_L_law_928 (ckB_c cb_L_law_933 (ckB_c cb_L_law_942 (ckB_c cb_L_law_951 (ckB_c cb_L_law_956 (ckB_c cb_L_law_980 (ckB_c cb_L_law_1004 (ckB_c cb_L_law_1009 (ckB_c cb_L_law_1018 (ckB_c cb_L_law_1027 (ckB_c cb_L_law_1032 (ckB_c cb_L_law_1041 (ckB_c cb_L_law_1050 (ckB_c cb_L_law_1055 (ckB_c cb_L_law_1059 (ckB_c cb_L_law_1063 (ckB_c cb_L_law_1068 (ckB_c cb_L_law_1077 (ckB_c cb_L_law_1086 (ckB_c cb_L_law_1091 (ckB_c cb_L_law_1095 (ckB_c cb_L_law_1099 (ckB_c cb_L_law_1104 (ckB_c cb_L_law_1123 (ckB_c cb_L_law_1142 (ckB_c cb_L_law_1147 (ckB_c cb_L_law_1166 (ckB_c cb_L_law_1185 (ckB_c cb_L_law_1190 (ckB_c cb_L_law_1204 (ckB_c cb_L_law_1218 (ckB_c cb_L_law_1223 (ckB_c cb_L_law_1227 (ckB_c cb_L_law_1231 (ckB_c cb_L_law_1236 (ckB_c cb_L_law_1245 (ckB_c cb_L_law_1254 (ckB_c cb_L_law_1259 (ckB_c cb_L_law_1273 (ckB_c cb_L_law_1287 (ckB_c cb_L_law_1292 (ckB_c cb_L_law_1301 (ckB_c cb_L_law_1310 (ckB_c cb_L_law_1315 (ckB_c cb_L_law_1324 (ckB_c cb_L_law_1333 (ckB_c cb_L_law_1338 (ckB_c cb_L_law_1352 (ckB_c cb_L_law_1366 (ckB_c cb_L_law_1371 (ckB_c cb_L_law_1390 (ckB_c cb_L_law_1409 (ckB_c cb_L_law_1414 (ckB_c cb_L_law_1428 (ckB_c cb_L_law_1442 (ckB_c cb_L_law_1447 (ckB_c cb_L_law_1456 (ckB_c cb_L_law_1465 (ckB_c cb_L_law_1470 (ckB_c cb_L_law_1476 (ckB_n _ _ _ _ _)))))))))))))))))))))))))))))))))))))))))))))))))))))))))))))))))))))))))))))))))))))))))))))))))))))))))))))))))))))))))))))))))))))))))))))))))
