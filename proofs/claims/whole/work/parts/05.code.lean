/-- BanksDealt$Plain.reset()V -/
def P_0 : bk_P := [(0, [.aload 0, .sipush 5, .putfield 320, .aload 0, .sipush 5, .putfield 321, .aload 0, .sipush 0, .putfield 322, .aload 0, .sipush 2, .putfield 323, .aload 0, .sipush 0, .putfield 326, .aload 0, .sipush 0, .putfield 331, .aload 0, .sipush 0, .putfield 337, .sipush 0, .istore 1, .goto 37]),
  (37, [.iload 1, .sipush 36, .if_icmp .ge 56, .aload 0, .getfield 231748, .iload 1, .sipush 5, .iastore, .iinc 1 (1), .goto 37]),
  (56, [.sipush 0, .istore 1, .goto 58]),
  (58, [.iload 1, .sipush 6, .if_icmp .ge 77, .aload 0, .getfield 239941, .iload 1, .sipush 0, .iastore, .iinc 1 (1), .goto 58]),
  (77, [.sipush 0, .istore 1, .goto 79]),
  (79, [.iload 1, .sipush 1, .if_icmp .gt 105, .aload 0, .getfield 305487, .iload 1, .sipush 9, .iastore, .aload 0, .getfield 313680, .iload 1, .sipush 0, .iastore, .iinc 1 (1), .goto 79]),
  (105, [.return_])]
/-- BanksDealt.feed(IIIII)I -/
def P_1 : bk_P := [(0, [.aload 0, .getfield 84672, .getfield 641, .sipush 920, .if_icmp .le 15, .sipush (-1), .ireturn]),
  (15, [.aload 0, .getfield 84672, .iload 1, .invokestatic 1409160, .aload 0, .getfield 84672, .iload 2, .invokestatic 1409160, .aload 0, .getfield 84672, .iload 3, .invokestatic 1409160, .aload 0, .getfield 84672, .iload 4, .invokestatic 1409160, .aload 0, .getfield 84672, .iload 5, .invokestatic 1409160, .aload 0, .getfield 84672, .getfield 641, .ireturn])]
/-- BanksDealt$Tape.add(I)V -/
def P_2 : bk_P := [(0, [.sipush 24, .istore 2, .goto 3]),
  (3, [.iload 2, .ifCond .lt 49, .aload 0, .getfield 641, .sipush 940, .if_icmp .ge 49, .aload 0, .getfield 436864, .aload 0, .getfield 641, .iload 1, .iload 2, .iushr, .sipush 255, .iand, .iastore, .aload 0, .dup, .getfield 641, .sipush 1, .iadd, .putfield 641, .iinc 2 (-8), .goto 3]),
  (49, [.return_])]
/-- BanksDealt.end(I)Z -/
def P_3 : bk_P := [(0, [.iload 1, .ifCond .lt 15, .iload 1, .aload 0, .getfield 84672, .getfield 641, .if_icmp .le 17, .goto 15]),
  (15, [.sipush 0, .freturn]),
  (17, [.aload 0, .getfield 84672, .iload 1, .putfield 641, .sipush 1, .freturn])]
/-- BanksDealt.plain()I -/
def P_4 : bk_P := [(0, [.aload 0, .getfield 51909, .aload 0, .getfield 84672, .aload 0, .getfield 44738, .invokestatic 1802573, .istore 1, .aload 0, .invokestatic 919492, .iload 1, .sipush (-1), .if_icmp .ne 35, .sipush (-1), .aload 0, .getfield 84672, .getfield 647, .isub, .ireturn]),
  (35, [.aload 0, .getfield 68292, .aload 0, .getfield 44738, .invokestatic 1345544, .aload 0, .getfield 44737, .astore 2, .aload 0, .aload 0, .getfield 44738, .putfield 44737, .aload 0, .aload 2, .putfield 44738, .aload 0, .getfield 77511, .invokestatic 854340, .aload 0, .getfield 27340, .invokestatic 657796, .iload 1, .ireturn])]
/-- BanksDealt$PlainReader.readText(LBanksDealt$Tape;LBanksDealt$Plain;)I -/
def P_5 : bk_P := [(0, [.aload 2, .invokestatic 720900, .aload 0, .sipush 0, .putfield 384, .aload 0, .sipush 0, .putfield 385, .aload 0, .bipush 0, .putfield 1410, .aload 0, .sipush 0, .putfield 4483, .aload 1, .sipush 900, .invokestatic 1409416, .sipush 0, .istore 3, .goto 33]),
  (33, [.iload 3, .sipush 900, .if_icmp .ge 79, .aload 1, .getfield 642, .ifCond .ne 49, .iload 3, .ireturn]),
  (49, [.aload 0, .aload 1, .aload 2, .invokestatic 1803085, .ifCond .eq 67, .aload 1, .sipush 59, .invokestatic 1410953, .ifCond .ne 69, .goto 67]),
  (67, [.sipush (-1), .ireturn]),
  (69, [.aload 1, .invokestatic 885188, .iinc 3 (1), .goto 33]),
  (79, [.sipush (-1), .ireturn])]
/-- BanksDealt$Tape.begin(I)V -/
def P_6 : bk_P := [(0, [.aload 0, .iload 1, .putfield 649, .aload 0, .sipush 0, .putfield 650, .aload 0, .sipush 0, .putfield 646, .aload 0, .sipush 0, .putfield 647, .aload 0, .invokestatic 885188, .return_])]
/-- BanksDealt$Tape.step()V -/
def P_7 : bk_P := [(0, [.aload 0, .getfield 650, .istore 1, .goto 5]),
  (5, [.iload 1, .aload 0, .getfield 641, .if_icmp .ge 41, .aload 0, .getfield 436864, .iload 1, .iaload, .sipush 32, .if_icmp .eq 35, .aload 0, .getfield 436864, .iload 1, .iaload, .sipush 10, .if_icmp .ne 41, .goto 35]),
  (35, [.iinc 1 (1), .goto 5]),
  (41, [.aload 0, .iload 1, .putfield 650, .aload 0, .iload 1, .putfield 651, .iload 1, .aload 0, .getfield 649, .if_icmp .lt 86, .aload 0, .getfield 641, .aload 0, .getfield 649, .if_icmp .le 86, .aload 0, .aload 0, .getfield 649, .putfield 651, .aload 0, .sipush 1, .putfield 642, .goto 198]),
  (86, [.iload 1, .aload 0, .getfield 641, .if_icmp .lt 102, .aload 0, .sipush 0, .putfield 642, .goto 198]),
  (102, [.aload 0, .getfield 436864, .iload 1, .iaload, .invokestatic 524805, .ifCond .ne 126, .aload 0, .getfield 436864, .iload 1, .iaload, .invokestatic 524869, .ifCond .eq 165, .goto 126]),
  (126, [.aload 0, .invokestatic 885380, .aload 0, .aload 0, .getfield 642, .sipush 2, .if_icmp .ne 158, .aload 0, .getfield 445064, .aload 0, .getfield 445064, .arraylength, .aload 0, .getfield 1667, .invokestatic 2097869, .goto 159]),
  (158, [.sipush (-1), .goto 159]),
  (159, [.putfield 644, .goto 198]),
  (165, [.aload 0, .iload 1, .sipush 1, .iadd, .putfield 650, .aload 0, .aload 0, .getfield 436864, .iload 1, .iaload, .invokestatic 525061, .ifCond .eq 194, .aload 0, .getfield 436864, .iload 1, .iaload, .goto 195]),
  (194, [.sipush 1, .goto 195]),
  (195, [.putfield 642, .goto 198]),
  (198, [.return_])]
/-- BanksDealt$Tape.isSmall(I)Z -/
def P_8 : bk_P := [(0, [.iload 0, .sipush 97, .if_icmp .lt 16, .iload 0, .sipush 122, .if_icmp .gt 16, .sipush 1, .goto 17]),
  (16, [.sipush 0, .goto 17]),
  (17, [.freturn])]
/-- BanksDealt$Tape.isDigit(I)Z -/
def P_9 : bk_P := [(0, [.iload 0, .sipush 48, .if_icmp .lt 16, .iload 0, .sipush 57, .if_icmp .gt 16, .sipush 1, .goto 17]),
  (16, [.sipush 0, .goto 17]),
  (17, [.freturn])]
/-- BanksDealt$Tape.readWordOrNumber()V -/
def P_10 : bk_P := [(0, [.sipush 0, .istore 1, .sipush 0, .istore 2, .bipush 0, .lstore 3, .sipush 0, .istore 5, .aload 0, .getfield 651, .istore 6, .goto 15]),
  (15, [.iload 6, .aload 0, .getfield 641, .if_icmp .ge 102, .aload 0, .getfield 436864, .iload 6, .iaload, .istore 7, .iload 7, .sipush 97, .if_icmp .lt 66, .iload 7, .sipush 122, .if_icmp .gt 66, .iinc 1 (1), .lload 3, .sipush 5, .fmul, .iload 7, .sipush 97, .dsub, .sipush 1, .dadd, .i2l, .fadd, .lstore 3, .goto 96]),
  (66, [.iload 7, .sipush 48, .if_icmp .lt 102, .iload 7, .sipush 57, .if_icmp .gt 102, .iinc 2 (1), .sipush 10, .iload 5, .dmul, .iload 7, .dadd, .sipush 48, .dsub, .istore 5, .goto 96]),
  (96, [.iinc 6 (1), .goto 15]),
  (102, [.aload 0, .iload 6, .putfield 650, .aload 0, .sipush 1, .putfield 642, .iload 2, .ifCond .ne 136, .iload 1, .sipush 7, .if_icmp .gt 136, .aload 0, .sipush 2, .putfield 642, .aload 0, .lload 3, .putfield 1667, .goto 156]),
  (136, [.iload 1, .ifCond .ne 156, .iload 2, .sipush 3, .if_icmp .gt 156, .aload 0, .sipush 3, .putfield 642, .aload 0, .iload 5, .putfield 645, .goto 156]),
  (156, [.return_])]
/-- BanksDealt.indexOfName([JIJ)I -/
def P_11 : bk_P := [(0, [.sipush 0, .istore 4, .goto 3]),
  (3, [.iload 4, .iload 1, .if_icmp .ge 34, .iload 4, .aload 0, .arraylength, .if_icmp .ge 34, .aload 0, .iload 4, .laload, .lload 2, .lcmp, .ifCond .ne 28, .iload 4, .ireturn]),
  (28, [.iinc 4 (1), .goto 3]),
  (34, [.sipush (-1), .ireturn])]
/-- BanksDealt$Tape.isSign(I)Z -/
def P_12 : bk_P := [(0, [.iload 0, .sipush 59, .if_icmp .eq 36, .iload 0, .sipush 60, .if_icmp .eq 36, .iload 0, .sipush 61, .if_icmp .eq 36, .iload 0, .sipush 62, .if_icmp .eq 36, .iload 0, .sipush 40, .if_icmp .eq 36, .iload 0, .sipush 41, .if_icmp .ne 40, .goto 36]),
  (36, [.sipush 1, .goto 41]),
  (40, [.sipush 0, .goto 41]),
  (41, [.freturn])]
/-- BanksDealt$PlainReader.readLine(LBanksDealt$Tape;LBanksDealt$Plain;)Z -/
def P_13 : bk_P := [(0, [.aload 1, .getfield 642, .sipush 2, .if_icmp .ne 15, .aload 1, .getfield 644, .goto 16]),
  (15, [.sipush (-1), .goto 16]),
  (16, [.tableswitch 117 0 8 #[68, 75, 82, 89, 96, 103, 117, 117, 110]]),
  (68, [.aload 0, .aload 1, .aload 2, .invokestatic 1803149, .freturn]),
  (75, [.aload 0, .aload 1, .aload 2, .invokestatic 1803405, .freturn]),
  (82, [.aload 0, .aload 1, .aload 2, .invokestatic 1803597, .freturn]),
  (89, [.aload 0, .aload 1, .aload 2, .invokestatic 1803661, .freturn]),
  (96, [.aload 0, .aload 1, .aload 2, .invokestatic 1803917, .freturn]),
  (103, [.aload 0, .aload 1, .aload 2, .invokestatic 1803981, .freturn]),
  (110, [.aload 0, .aload 1, .aload 2, .invokestatic 1804109, .freturn]),
  (117, [.aload 1, .sipush 1, .invokestatic 1410057, .freturn])]
/-- BanksDealt$PlainReader.readSize(LBanksDealt$Tape;LBanksDealt$Plain;)Z -/
def P_14 : bk_P := [(0, [.aload 0, .getfield 4483, .ifCond .ne 27, .aload 0, .getfield 384, .sipush 2, .ishr, .sipush 1, .iand, .sipush 1, .if_icmp .eq 27, .aload 0, .sipush 0, .invokestatic 1278921, .ifCond .ne 33, .goto 27]),
  (27, [.aload 1, .sipush 3, .invokestatic 1410057, .freturn]),
  (33, [.aload 1, .sipush 3, .sipush 6, .invokestatic 1934413, .ifCond .ne 45, .sipush 0, .freturn]),
  (45, [.aload 2, .aload 1, .getfield 645, .putfield 320, .aload 1, .sipush 2, .sipush 6, .invokestatic 1934413, .ifCond .ne 65, .sipush 0, .freturn]),
  (65, [.aload 2, .aload 1, .getfield 645, .putfield 321, .sipush 1, .freturn])]
/-- BanksDealt$PlainReader.isFirst(I)Z -/
def P_15 : bk_P := [(0, [.aload 0, .getfield 384, .iload 1, .ishr, .sipush 1, .iand, .ifCond .ne 15, .sipush 1, .goto 16]),
  (15, [.sipush 0, .goto 16]),
  (16, [.istore 2, .aload 0, .dup, .getfield 384, .sipush 1, .iload 1, .ishl, .ior, .putfield 384, .iload 2, .freturn])]
/-- BanksDealt$Tape.fails(I)Z -/
def P_16 : bk_P := [(0, [.aload 0, .iload 1, .putfield 646, .aload 0, .aload 0, .getfield 651, .putfield 647, .sipush 0, .freturn])]
/-- BanksDealt$Tape.between(II)Z -/
def P_17 : bk_P := [(0, [.aload 0, .invokestatic 885188, .aload 0, .getfield 642, .sipush 3, .if_icmp .eq 18, .aload 0, .sipush 1, .invokestatic 1410057, .freturn]),
  (18, [.aload 0, .getfield 645, .iload 1, .if_icmp .lt 34, .aload 0, .getfield 645, .iload 2, .if_icmp .le 42, .goto 34]),
  (34, [.aload 0, .sipush 2, .invokestatic 1410057, .ifCond .eq 46, .goto 42]),
  (42, [.sipush 1, .goto 47]),
  (46, [.sipush 0, .goto 47]),
  (47, [.freturn])]
/-- BanksDealt$PlainReader.readLand(LBanksDealt$Tape;LBanksDealt$Plain;)Z -/
def P_18 : bk_P := [(0, [.aload 0, .aload 1, .aload 2, .invokestatic 1803469, .istore 3, .iload 3, .sipush (-1), .if_icmp .ne 14, .sipush 0, .freturn]),
  (14, [.aload 0, .getfield 1410, .iload 3, .lshr, .bipush 1, .land, .bipush 1, .lcmp, .ifCond .ne 33, .aload 1, .sipush 3, .invokestatic 1410057, .freturn]),
  (33, [.aload 0, .dup, .getfield 1410, .bipush 1, .iload 3, .lshl, .lor, .putfield 1410, .aload 1, .sipush 0, .sipush 9, .invokestatic 1934413, .ifCond .ne 57, .sipush 0, .freturn]),
  (57, [.aload 2, .getfield 231748, .iload 3, .aload 1, .getfield 645, .iastore, .sipush 1, .freturn])]
/-- BanksDealt$PlainReader.readCell(LBanksDealt$Tape;LBanksDealt$Plain;)I -/
def P_19 : bk_P := [(0, [.aload 1, .sipush 0, .aload 2, .getfield 320, .sipush 1, .isub, .invokestatic 1934413, .ifCond .ne 16, .sipush (-1), .ireturn]),
  (16, [.aload 1, .getfield 645, .istore 3, .aload 1, .sipush 0, .aload 2, .getfield 321, .sipush 1, .isub, .invokestatic 1934413, .ifCond .ne 37, .sipush (-1), .ireturn]),
  (37, [.aload 0, .sipush 1, .putfield 4483, .aload 2, .iload 3, .aload 1, .getfield 645, .invokestatic 1770765, .ireturn])]
/-- BanksDealt$Plain.cellAt(II)I -/
def P_20 : bk_P := [(0, [.iload 1, .ifCond .lt 33, .iload 1, .aload 0, .getfield 320, .if_icmp .ge 33, .iload 2, .ifCond .lt 33, .iload 2, .aload 0, .getfield 321, .if_icmp .ge 33, .sipush 6, .iload 2, .imul, .iload 1, .iadd, .goto 34]),
  (33, [.sipush (-1), .goto 34]),
  (34, [.ireturn])]
/-- BanksDealt$PlainReader.readSource(LBanksDealt$Tape;LBanksDealt$Plain;)Z -/
def P_21 : bk_P := [(0, [.aload 0, .sipush 2, .invokestatic 1278921, .ifCond .ne 14, .aload 1, .sipush 3, .invokestatic 1410057, .freturn]),
  (14, [.aload 1, .sipush 0, .aload 2, .getfield 320, .sipush 1, .isub, .invokestatic 1934413, .ifCond .ne 30, .sipush 0, .freturn]),
  (30, [.aload 2, .aload 1, .getfield 645, .putfield 322, .sipush 1, .freturn])]
/-- BanksDealt$PlainReader.readField(LBanksDealt$Tape;LBanksDealt$Plain;)Z -/
def P_22 : bk_P := [(0, [.aload 2, .getfield 326, .istore 3, .iload 3, .sipush 10, .if_icmp .lt 17, .aload 1, .sipush 4, .invokestatic 1410057, .freturn]),
  (17, [.aload 0, .aload 1, .aload 2, .invokestatic 1803725, .ifCond .ne 28, .sipush 0, .freturn]),
  (28, [.aload 2, .getfield 272714, .iload 3, .aload 1, .getfield 1667, .lastore, .aload 0, .aload 1, .aload 2, .invokestatic 1803469, .istore 4, .iload 4, .sipush (-1), .if_icmp .ne 54, .sipush 0, .freturn]),
  (54, [.aload 2, .iload 4, .invokestatic 1050185, .ifCond .eq 69, .aload 1, .sipush 3, .invokestatic 1410057, .freturn]),
  (69, [.aload 1, .sipush 1, .sipush 20, .invokestatic 1934413, .ifCond .ne 81, .sipush 0, .freturn]),
  (81, [.aload 2, .getfield 248135, .iload 3, .iload 4, .iastore, .aload 2, .getfield 256328, .iload 3, .aload 1, .getfield 645, .iastore, .aload 2, .getfield 264521, .iload 3, .sipush 0, .iastore, .aload 2, .dup, .getfield 326, .sipush 1, .iadd, .putfield 326, .sipush 1, .freturn])]
/-- BanksDealt$PlainReader.readNewName(LBanksDealt$Tape;LBanksDealt$Plain;)Z -/
def P_23 : bk_P := [(0, [.aload 1, .invokestatic 885188, .aload 1, .invokestatic 886277, .ifCond .ne 17, .aload 1, .sipush 1, .invokestatic 1410057, .freturn]),
  (17, [.aload 2, .getfield 272714, .aload 2, .getfield 326, .aload 1, .getfield 1667, .invokestatic 2097869, .sipush (-1), .if_icmp .ne 55, .aload 2, .getfield 297294, .aload 2, .getfield 331, .aload 1, .getfield 1667, .invokestatic 2097869, .sipush (-1), .if_icmp .eq 59, .goto 55]),
  (55, [.sipush 1, .goto 60]),
  (59, [.sipush 0, .goto 60]),
  (60, [.istore 3, .iload 3, .ifCond .eq 73, .aload 1, .sipush 3, .invokestatic 1410057, .ifCond .eq 77, .goto 73]),
  (73, [.sipush 1, .goto 78]),
  (77, [.sipush 0, .goto 78]),
  (78, [.freturn])]
/-- BanksDealt$Tape.isName()Z -/
def P_24 : bk_P := [(0, [.aload 0, .getfield 642, .sipush 2, .if_icmp .ne 20, .aload 0, .getfield 644, .sipush (-1), .if_icmp .ne 20, .sipush 1, .goto 21]),
  (20, [.sipush 0, .goto 21]),
  (21, [.freturn])]
/-- BanksDealt$PlainReader.isTaken(LBanksDealt$Plain;I)Z -/
def P_25 : bk_P := [(0, [.sipush 0, .istore 2, .goto 2]),
  (2, [.iload 2, .aload 0, .getfield 326, .if_icmp .ge 28, .aload 0, .getfield 248135, .iload 2, .iaload, .iload 1, .if_icmp .ne 22, .sipush 1, .freturn]),
  (22, [.iinc 2 (1), .goto 2]),
  (28, [.sipush 0, .freturn])]
/-- BanksDealt$PlainReader.readMill(LBanksDealt$Tape;LBanksDealt$Plain;)Z -/
def P_26 : bk_P := [(0, [.aload 2, .getfield 331, .istore 3, .iload 3, .sipush 3, .if_icmp .lt 16, .aload 1, .sipush 4, .invokestatic 1410057, .freturn]),
  (16, [.aload 0, .aload 1, .aload 2, .invokestatic 1803725, .ifCond .ne 27, .sipush 0, .freturn]),
  (27, [.aload 2, .getfield 297294, .iload 3, .aload 1, .getfield 1667, .lastore, .aload 0, .aload 1, .aload 2, .invokestatic 1803469, .istore 4, .iload 4, .sipush (-1), .if_icmp .ne 53, .sipush 0, .freturn]),
  (53, [.aload 2, .getfield 280908, .iload 3, .iload 4, .iastore, .aload 2, .getfield 289101, .iload 3, .sipush 0, .iastore, .aload 2, .dup, .getfield 331, .sipush 1, .iadd, .putfield 331, .sipush 1, .freturn])]
/-- BanksDealt$PlainReader.readPurse(LBanksDealt$Tape;LBanksDealt$Plain;)Z -/
def P_27 : bk_P := [(0, [.aload 1, .invokestatic 885188, .aload 1, .sipush 6, .invokestatic 1410825, .ifCond .ne 28, .aload 1, .sipush 7, .invokestatic 1410825, .ifCond .ne 28, .aload 1, .sipush 1, .invokestatic 1410057, .freturn]),
  (28, [.aload 1, .getfield 644, .sipush 6, .if_icmp .ne 41, .sipush 0, .goto 42]),
  (41, [.sipush 1, .goto 42]),
  (42, [.istore 3, .aload 0, .getfield 385, .iload 3, .ishr, .sipush 1, .iand, .sipush 1, .if_icmp .ne 61, .aload 1, .sipush 3, .invokestatic 1410057, .freturn]),
  (61, [.aload 0, .dup, .getfield 385, .sipush 1, .iload 3, .ishl, .ior, .putfield 385, .aload 1, .sipush 0, .sipush 99, .invokestatic 1934413, .ifCond .ne 85, .sipush 0, .freturn]),
  (85, [.aload 2, .getfield 305487, .iload 3, .aload 1, .getfield 645, .iastore, .sipush 1, .freturn])]
/-- BanksDealt$Tape.isWord(I)Z -/
def P_28 : bk_P := [(0, [.aload 0, .getfield 642, .sipush 2, .if_icmp .ne 20, .aload 0, .getfield 644, .iload 1, .if_icmp .ne 20, .sipush 1, .goto 21]),
  (20, [.sipush 0, .goto 21]),
  (21, [.freturn])]
/-- BanksDealt$PlainReader.readIce(LBanksDealt$Tape;LBanksDealt$Plain;)Z -/
def P_29 : bk_P := [(0, [.aload 0, .sipush 8, .invokestatic 1278921, .ifCond .ne 15, .aload 1, .sipush 3, .invokestatic 1410057, .freturn]),
  (15, [.aload 1, .sipush 0, .sipush 5, .invokestatic 1934413, .ifCond .ne 26, .sipush 0, .freturn]),
  (26, [.aload 2, .aload 1, .getfield 645, .putfield 323, .sipush 1, .freturn])]
/-- BanksDealt$Tape.sign(I)Z -/
def P_30 : bk_P := [(0, [.aload 0, .invokestatic 885188, .aload 0, .getfield 642, .iload 1, .if_icmp .eq 20, .aload 0, .sipush 1, .invokestatic 1410057, .ifCond .eq 24, .goto 20]),
  (20, [.sipush 1, .goto 25]),
  (24, [.sipush 0, .goto 25]),
  (25, [.freturn])]
/-- BanksDealt.emptyTape()V -/
def P_31 : bk_P := [(0, [.aload 0, .aload 0, .getfield 84672, .getfield 646, .putfield 720, .aload 0, .getfield 84672, .sipush 0, .putfield 641, .return_])]
/-- BanksDealt$River.takeLeast(LBanksDealt$Plain;)V -/
def P_32 : bk_P := [(0, [.aload 0, .aload 1, .invokestatic 1345608, .aload 0, .getfield 379393, .sipush 0, .aload 1, .getfield 239941, .sipush 0, .sipush 6, .invokevirtual 0, .return_])]
/-- BanksDealt$River.runFreely(LBanksDealt$Plain;)V -/
def P_33 : bk_P := [(0, [.aload 0, .aload 1, .invokestatic 1345672, .aload 0, .aload 1, .invokestatic 1345736, .return_])]
/-- BanksDealt$River.load(LBanksDealt$Plain;)V -/
def P_34 : bk_P := [(0, [.aload 1, .getfield 231748, .sipush 0, .aload 0, .getfield 371200, .sipush 0, .sipush 36, .invokevirtual 0, .return_])]
/-- BanksDealt$River.run(LBanksDealt$Plain;)V -/
def P_35 : bk_P := [(0, [.aload 1, .getfield 321, .sipush 1, .isub, .istore 2, .iload 2, .istore 3, .goto 9]),
  (9, [.iload 3, .ifCond .lt 125, .aload 1, .getfield 320, .sipush 1, .isub, .aload 1, .getfield 322, .iload 3, .iadd, .invokevirtual 1, .istore 4, .sipush 0, .aload 1, .getfield 322, .iload 3, .isub, .invokevirtual 2, .istore 5, .goto 42]),
  (42, [.iload 5, .iload 4, .if_icmp .gt 119, .sipush 6, .iload 3, .imul, .iload 5, .iadd, .istore 6, .aload 0, .getfield 387588, .iload 6, .aload 0, .getfield 371200, .iload 6, .iaload, .iastore, .iload 3, .iload 2, .if_icmp .ge 113, .aload 0, .getfield 395781, .iload 6, .aload 0, .aload 1, .iload 6, .invokestatic 1870093, .iastore, .aload 0, .getfield 387588, .iload 6, .dup2, .iaload, .aload 0, .getfield 387588, .aload 0, .getfield 395781, .iload 6, .iaload, .iaload, .iadd, .iastore, .goto 113]),
  (113, [.iinc 5 (1), .goto 42]),
  (119, [.iinc 3 (-1), .goto 9]),
  (125, [.aload 1, .getfield 322, .istore 3, .aload 0, .aload 0, .getfield 387588, .iload 3, .iaload, .putfield 514, .sipush 0, .istore 4, .goto 143]),
  (143, [.iload 4, .iload 2, .if_icmp .ge 173, .aload 0, .getfield 379393, .iload 4, .iload 3, .sipush 6, .irem, .iastore, .aload 0, .getfield 395781, .iload 3, .iaload, .istore 3, .iinc 4 (1), .goto 143]),
  (173, [.aload 0, .getfield 379393, .iload 2, .iload 3, .sipush 6, .irem, .iastore, .return_])]
/-- BanksDealt$River.leastBelow(LBanksDealt$Plain;I)I -/
def P_36 : bk_P := [(0, [.iload 2, .sipush 6, .irem, .istore 3, .iload 2, .sipush 6, .iadd, .istore 4, .iload 3, .ifCond .le 22, .iload 4, .sipush 1, .isub, .goto 24]),
  (22, [.iload 4, .goto 24]),
  (24, [.istore 5, .aload 0, .getfield 387588, .iload 4, .iaload, .aload 0, .getfield 387588, .iload 5, .iaload, .if_icmp .ge 47, .iload 4, .istore 5, .goto 47]),
  (47, [.iload 3, .sipush 1, .iadd, .aload 1, .getfield 320, .if_icmp .ge 82, .aload 0, .getfield 387588, .iload 4, .sipush 1, .iadd, .iaload, .aload 0, .getfield 387588, .iload 5, .iaload, .if_icmp .ge 82, .iload 4, .sipush 1, .iadd, .istore 5, .goto 82]),
  (82, [.iload 5, .ireturn])]
/-- BanksDealt$Sentence.forget()V -/
def P_37 : bk_P := [(0, [.aload 0, .sipush 0, .putfield 576, .aload 0, .sipush 0, .putfield 577, .return_])]
/-- BanksDealt$History.forget()V -/
def P_38 : bk_P := [(0, [.aload 0, .sipush 0, .putfield 192, .return_])]
/-- BanksDealt.fault()I -/
def P_39 : bk_P := [(0, [.aload 0, .getfield 720, .ireturn])]
/-- BanksDealt.mill(II)I -/
def P_40 : bk_P := [(0, [.iload 1, .ifCond .lt 15, .iload 1, .aload 0, .getfield 44737, .getfield 331, .if_icmp .lt 17, .goto 15]),
  (15, [.sipush (-1), .ireturn]),
  (17, [.aload 0, .getfield 44737, .getfield 280908, .iload 1, .iaload, .istore 3, .iload 2, .tableswitch 92 0 3 #[60, 65, 70, 82]]),
  (60, [.iload 3, .sipush 6, .irem, .ireturn]),
  (65, [.iload 3, .sipush 6, .idiv, .ireturn]),
  (70, [.aload 0, .getfield 44737, .getfield 239941, .iload 3, .invokestatic 1051209, .ireturn]),
  (82, [.aload 0, .getfield 44737, .getfield 289101, .iload 1, .iaload, .ireturn]),
  (92, [.sipush (-1), .ireturn])]
/-- BanksDealt.bankBy([II)I -/
def P_41 : bk_P := [(0, [.iload 1, .sipush 6, .idiv, .istore 2, .iload 1, .ifCond .lt 15, .iload 2, .aload 0, .arraylength, .if_icmp .lt 17, .goto 15]),
  (15, [.sipush (-1), .ireturn]),
  (17, [.iload 1, .sipush 6, .irem, .istore 3, .iload 3, .aload 0, .iload 2, .iaload, .if_icmp .ne 31, .sipush 2, .ireturn]),
  (31, [.iload 3, .aload 0, .iload 2, .iaload, .if_icmp .ge 42, .sipush 0, .goto 43]),
  (42, [.sipush 1, .goto 43]),
  (43, [.ireturn])]
/-- BanksDealt.height(II)I -/
def P_42 : bk_P := [(0, [.aload 0, .getfield 44737, .iload 1, .iload 2, .invokestatic 1770765, .istore 3, .iload 3, .sipush (-1), .if_icmp .ne 19, .sipush (-1), .goto 28]),
  (19, [.aload 0, .getfield 44737, .getfield 231748, .iload 3, .iaload, .goto 28]),
  (28, [.ireturn])]
/-- BanksDealt.bank(II)I -/
def P_43 : bk_P := [(0, [.aload 0, .getfield 44737, .iload 1, .iload 2, .invokestatic 1770765, .istore 3, .iload 3, .sipush (-1), .if_icmp .ne 19, .sipush (-1), .goto 30]),
  (19, [.aload 0, .getfield 44737, .getfield 239941, .iload 3, .invokestatic 1051209, .goto 30]),
  (30, [.ireturn])]
/-- BanksDealt.bed(I)I -/
def P_44 : bk_P := [(0, [.aload 0, .iload 1, .invokestatic 1444681, .ifCond .eq 20, .aload 0, .getfield 44737, .getfield 239941, .iload 1, .iaload, .goto 21]),
  (20, [.sipush (-1), .goto 21]),
  (21, [.ireturn])]
/-- BanksDealt.isRow(I)Z -/
def P_45 : bk_P := [(0, [.iload 1, .ifCond .lt 19, .iload 1, .aload 0, .getfield 44737, .getfield 321, .if_icmp .ge 19, .sipush 1, .goto 20]),
  (19, [.sipush 0, .goto 20]),
  (20, [.freturn])]
/-- BanksDealt.side(II)I -/
def P_46 : bk_P := [(0, [.iload 1, .invokestatic 527301, .ifCond .ne 9, .sipush (-1), .ireturn]),
  (9, [.iload 2, .tableswitch 92 0 3 #[40, 50, 66, 82]]),
  (40, [.aload 0, .getfield 44737, .getfield 305487, .iload 1, .iaload, .ireturn]),
  (50, [.aload 0, .getfield 44737, .aload 0, .getfield 44737, .getfield 239941, .iload 1, .invokestatic 1772557, .ireturn]),
  (66, [.aload 0, .getfield 44737, .aload 0, .getfield 44737, .getfield 239941, .iload 1, .invokestatic 1772621, .ireturn]),
  (82, [.aload 0, .getfield 44737, .getfield 313680, .iload 1, .iaload, .ireturn]),
  (92, [.sipush (-1), .ireturn])]
/-- BanksDealt.isSide(I)Z -/
def P_47 : bk_P := [(0, [.iload 0, .ifCond .eq 9, .iload 0, .sipush 1, .if_icmp .ne 13, .goto 9]),
  (9, [.sipush 1, .goto 14]),
  (13, [.sipush 0, .goto 14]),
  (14, [.freturn])]
/-- BanksDealt$Plain.fieldsBy([II)I -/
def P_48 : bk_P := [(0, [.sipush 0, .istore 3, .sipush 0, .istore 4, .goto 5]),
  (5, [.iload 4, .aload 0, .getfield 326, .if_icmp .ge 42, .aload 1, .aload 0, .getfield 248135, .iload 4, .iaload, .invokestatic 1051209, .iload 2, .if_icmp .ne 36, .iload 3, .sipush 1, .iload 4, .ishl, .ior, .istore 3, .goto 36]),
  (36, [.iinc 4 (1), .goto 5]),
  (42, [.iload 3, .ireturn])]
/-- BanksDealt$Plain.worthBy([II)I -/
def P_49 : bk_P := [(0, [.sipush 0, .istore 3, .sipush 0, .istore 4, .goto 5]),
  (5, [.iload 4, .aload 0, .getfield 326, .if_icmp .ge 45, .aload 1, .aload 0, .getfield 248135, .iload 4, .iaload, .invokestatic 1051209, .iload 2, .if_icmp .ne 39, .iload 3, .aload 0, .getfield 256328, .iload 4, .iaload, .iadd, .istore 3, .goto 39]),
  (39, [.iinc 4 (1), .goto 5]),
  (45, [.iload 3, .ireturn])]
/-- BanksDealt.now(I)I -/
def P_50 : bk_P := [(0, [.iload 1, .tableswitch 84 0 4 #[36, 44, 60, 68, 76]]),
  (36, [.aload 0, .getfield 44737, .getfield 337, .ireturn]),
  (44, [.aload 0, .getfield 44737, .aload 0, .getfield 44737, .getfield 239941, .sipush 2, .invokestatic 1772557, .ireturn]),
  (60, [.aload 0, .getfield 44737, .invokestatic 724165, .ireturn]),
  (68, [.aload 0, .getfield 44737, .invokestatic 724229, .ireturn]),
  (76, [.aload 0, .getfield 44737, .invokestatic 724293, .ireturn]),
  (84, [.sipush (-1), .ireturn])]
/-- BanksDealt$Plain.bedHeights()I -/
def P_51 : bk_P := [(0, [.sipush 0, .istore 1, .sipush 0, .istore 2, .goto 4]),
  (4, [.iload 2, .aload 0, .getfield 321, .if_icmp .ge 37, .iload 1, .aload 0, .getfield 231748, .sipush 6, .iload 2, .imul, .aload 0, .getfield 239941, .iload 2, .iaload, .iadd, .iaload, .iadd, .istore 1, .iinc 2 (1), .goto 4]),
  (37, [.iload 1, .ireturn])]
/-- BanksDealt$Plain.bends()I -/
def P_52 : bk_P := [(0, [.sipush 0, .istore 1, .sipush 1, .istore 2, .goto 4]),
  (4, [.iload 2, .aload 0, .getfield 321, .if_icmp .ge 38, .aload 0, .getfield 239941, .iload 2, .iaload, .aload 0, .getfield 239941, .iload 2, .sipush 1, .isub, .iaload, .if_icmp .eq 32, .iinc 1 (1), .goto 32]),
  (32, [.iinc 2 (1), .goto 4]),
  (38, [.iload 1, .ireturn])]
/-- BanksDealt$Plain.changes()I -/
def P_53 : bk_P := [(0, [.sipush 0, .istore 1, .sipush 0, .istore 2, .goto 4]),
  (4, [.iload 2, .aload 0, .getfield 326, .if_icmp .ge 27, .iload 1, .aload 0, .getfield 264521, .iload 2, .iaload, .iadd, .istore 1, .iinc 2 (1), .goto 4]),
  (27, [.iload 1, .ireturn])]
/-- BanksDealt.dig(III)I -/
def P_54 : bk_P := [(0, [.aload 0, .iload 1, .iload 2, .iload 3, .sipush (-1), .invokestatic 3018197, .ireturn])]
/-- BanksDealt.workBy(IIII)I -/
def P_55 : bk_P := [(0, [.aload 0, .getfield 44737, .iload 2, .iload 3, .invokestatic 1770765, .istore 5, .iload 1, .invokestatic 527301, .ifCond .eq 24, .iload 5, .sipush (-1), .if_icmp .ne 26, .goto 24]),
  (24, [.sipush (-1), .ireturn]),
  (26, [.aload 0, .getfield 44737, .iload 1, .iload 5, .iload 4, .invokestatic 2297361, .istore 6, .iload 6, .ifCond .ne 68, .aload 0, .getfield 27340, .aload 0, .getfield 44737, .invokestatic 1183304, .aload 0, .getfield 44737, .iload 1, .iload 5, .iload 4, .invokestatic 2297552, .goto 68]),
  (68, [.iload 6, .ireturn])]
/-- BanksDealt$Plain.whyNoWork(III)I -/
def P_56 : bk_P := [(0, [.aload 0, .getfield 305487, .iload 1, .iaload, .sipush 1, .if_icmp .ge 12, .sipush 1, .ireturn]),
  (12, [.aload 0, .getfield 239941, .iload 2, .invokestatic 1051209, .sipush 1, .iload 1, .isub, .if_icmp .ne 28, .sipush 2, .ireturn]),
  (28, [.aload 0, .getfield 231748, .iload 2, .iaload, .iload 3, .iadd, .istore 4, .iload 4, .ifCond .lt 50, .iload 4, .sipush 9, .if_icmp .le 54, .goto 50]),
  (50, [.sipush 3, .goto 55]),
  (54, [.sipush 0, .goto 55]),
  (55, [.ireturn])]
/-- BanksDealt$History.keep(LBanksDealt$Plain;)V -/
def P_57 : bk_P := [(0, [.aload 0, .getfield 223426, .aload 0, .getfield 193, .aaload, .aload 1, .invokestatic 1248904, .aload 0, .aload 0, .getfield 193, .sipush 1, .iadd, .sipush 8, .irem, .putfield 193, .aload 0, .sipush 8, .aload 0, .getfield 192, .sipush 1, .iadd, .invokevirtual 1, .putfield 192, .return_])]
/-- BanksDealt$Plain.copyOf(LBanksDealt$Plain;)V -/
def P_58 : bk_P := [(0, [.aload 0, .aload 1, .getfield 320, .putfield 320, .aload 0, .aload 1, .getfield 321, .putfield 321, .aload 0, .aload 1, .getfield 322, .putfield 322, .aload 0, .aload 1, .getfield 323, .putfield 323, .aload 0, .aload 1, .getfield 326, .putfield 326, .aload 0, .aload 1, .getfield 331, .putfield 331, .aload 0, .aload 1, .getfield 337, .putfield 337, .aload 1, .getfield 231748, .sipush 0, .aload 0, .getfield 231748, .sipush 0, .sipush 36, .invokevirtual 0, .aload 1, .getfield 239941, .sipush 0, .aload 0, .getfield 239941, .sipush 0, .sipush 6, .invokevirtual 0, .aload 1, .getfield 248135, .sipush 0, .aload 0, .getfield 248135, .sipush 0, .sipush 10, .invokevirtual 0, .aload 1, .getfield 256328, .sipush 0, .aload 0, .getfield 256328, .sipush 0, .sipush 10, .invokevirtual 0, .aload 1, .getfield 264521, .sipush 0, .aload 0, .getfield 264521, .sipush 0, .sipush 10, .invokevirtual 0, .aload 1, .getfield 272714, .sipush 0, .aload 0, .getfield 272714, .sipush 0, .sipush 10, .invokevirtual 0, .aload 1, .getfield 280908, .sipush 0, .aload 0, .getfield 280908, .sipush 0, .sipush 3, .invokevirtual 0, .aload 1, .getfield 289101, .sipush 0, .aload 0, .getfield 289101, .sipush 0, .sipush 3, .invokevirtual 0, .aload 1, .getfield 297294, .sipush 0, .aload 0, .getfield 297294, .sipush 0, .sipush 3, .invokevirtual 0, .aload 1, .getfield 305487, .sipush 0, .aload 0, .getfield 305487, .sipush 0, .sipush 2, .invokevirtual 0, .aload 1, .getfield 313680, .sipush 0, .aload 0, .getfield 313680, .sipush 0, .sipush 2, .invokevirtual 0, .aload 1, .getfield 321874, .sipush 0, .aload 0, .getfield 321874, .sipush 0, .sipush 48, .invokevirtual 0, .return_])]
/-- BanksDealt$Plain.work(III)V -/
def P_59 : bk_P := [(0, [.aload 0, .getfield 231748, .iload 2, .dup2, .iaload, .iload 3, .dadd, .iastore, .aload 0, .getfield 305487, .iload 1, .dup2, .iaload, .sipush 1, .isub, .iastore, .aload 0, .getfield 313680, .iload 1, .dup2, .iaload, .sipush 1, .dadd, .iastore, .return_])]
/-- BanksDealt.lay(III)I -/
def P_60 : bk_P := [(0, [.aload 0, .iload 1, .iload 2, .iload 3, .sipush 1, .invokestatic 3018197, .ireturn])]
/-- BanksDealt.roll(III)I -/
def P_61 : bk_P := [(0, [.aload 0, .getfield 44737, .iload 2, .iload 3, .invokestatic 1770765, .istore 4, .iload 1, .ifCond .lt 32, .iload 1, .aload 0, .getfield 44737, .getfield 331, .if_icmp .ge 32, .iload 4, .sipush (-1), .if_icmp .ne 34, .goto 32]),
  (32, [.sipush (-1), .ireturn]),
  (34, [.aload 0, .getfield 44737, .iload 1, .iload 4, .invokestatic 1773453, .istore 5, .iload 5, .ifCond .ne 72, .aload 0, .getfield 27340, .aload 0, .getfield 44737, .invokestatic 1183304, .aload 0, .getfield 44737, .iload 1, .iload 4, .invokestatic 1773516, .goto 72]),
  (72, [.iload 5, .ireturn])]
/-- BanksDealt$Plain.whyNoRoll(II)I -/
def P_62 : bk_P := [(0, [.aload 0, .getfield 280908, .iload 1, .iaload, .sipush 6, .irem, .iload 2, .sipush 6, .irem, .isub, .invokevirtual 3, .istore 3, .aload 0, .getfield 280908, .iload 1, .iaload, .sipush 6, .idiv, .iload 2, .sipush 6, .idiv, .isub, .invokevirtual 3, .istore 4, .iload 3, .iload 4, .iadd, .sipush 1, .if_icmp .eq 47, .sipush 1, .ireturn]),
  (47, [.aload 0, .getfield 239941, .aload 0, .getfield 280908, .iload 1, .iaload, .invokestatic 1051209, .sipush 2, .if_icmp .ne 68, .sipush 2, .goto 69]),
  (68, [.sipush 0, .goto 69]),
  (69, [.ireturn])]
/-- BanksDealt$Plain.rollTo(II)V -/
def P_63 : bk_P := [(0, [.aload 0, .getfield 280908, .iload 1, .iload 2, .iastore, .aload 0, .getfield 289101, .iload 1, .dup2, .iaload, .sipush 1, .dadd, .iastore, .return_])]
/-- BanksDealt.spring(I)I -/
def P_64 : bk_P := [(0, [.aload 0, .getfield 44737, .getfield 337, .sipush 400, .if_icmp .lt 15, .sipush (-1), .ireturn]),
  (15, [.aload 0, .getfield 27340, .aload 0, .getfield 44737, .invokestatic 1183304, .aload 0, .getfield 68292, .iload 1, .putfield 515, .aload 0, .getfield 68292, .aload 0, .getfield 44737, .invokestatic 1347657, .ireturn])]
/-- BanksDealt$River.flood(LBanksDealt$Plain;)I -/
def P_65 : bk_P := [(0, [.sipush 0, .istore 2, .goto 2]),
  (2, [.iload 2, .aload 1, .getfield 321, .if_icmp .ge 65, .sipush 0, .istore 3, .goto 12]),
  (12, [.iload 3, .aload 1, .getfield 320, .if_icmp .ge 59, .sipush 6, .iload 2, .imul, .iload 3, .iadd, .istore 4, .aload 0, .getfield 371200, .iload 4, .aload 1, .getfield 231748, .iload 4, .iaload, .aload 0, .aload 1, .getfield 323, .sipush 1, .iadd, .invokestatic 1347721, .iadd, .iastore, .iinc 3 (1), .goto 12]),
  (59, [.iinc 2 (1), .goto 2]),
  (65, [.aload 0, .aload 1, .invokestatic 1345736, .aload 1, .aload 0, .getfield 379393, .invokestatic 1249481, .istore 2, .aload 1, .invokestatic 725252, .iload 2, .ireturn])]
/-- BanksDealt$River.draw(I)I -/
def P_66 : bk_P := [(0, [.aload 0, .aload 0, .getfield 515, .sipush 1103515245, .dmul, .sipush 12345, .dadd, .putfield 515, .iload 1, .sipush 1, .if_icmp .ge 24, .sipush 0, .goto 33]),
  (24, [.aload 0, .getfield 515, .sipush 8, .iushr, .iload 1, .irem, .goto 33]),
  (33, [.ireturn])]
/-- BanksDealt$Plain.takeBed([I)I -/
def P_67 : bk_P := [(0, [.sipush 0, .istore 2, .sipush 0, .istore 3, .goto 4]),
  (4, [.iload 3, .aload 0, .getfield 326, .if_icmp .ge 57, .aload 1, .aload 0, .getfield 248135, .iload 3, .iaload, .invokestatic 1051209, .aload 0, .getfield 239941, .aload 0, .getfield 248135, .iload 3, .iaload, .invokestatic 1051209, .if_icmp .eq 51, .aload 0, .getfield 264521, .iload 3, .dup2, .iaload, .sipush 1, .iadd, .iastore, .iinc 2 (1), .goto 51]),
  (51, [.iinc 3 (1), .goto 4]),
  (57, [.aload 0, .getfield 239941, .sipush 0, .aload 0, .getfield 321874, .aload 0, .getfield 337, .sipush 8, .irem, .sipush 6, .imul, .sipush 6, .invokevirtual 0, .aload 1, .sipush 0, .aload 0, .getfield 239941, .sipush 0, .sipush 6, .invokevirtual 0, .aload 0, .dup, .getfield 337, .sipush 1, .iadd, .putfield 337, .iload 2, .ireturn])]
/-- BanksDealt$Plain.earn()V -/
def P_68 : bk_P := [(0, [.sipush 0, .istore 1, .goto 2]),
  (2, [.iload 1, .sipush 1, .if_icmp .gt 81, .aload 0, .aload 0, .getfield 239941, .iload 1, .invokestatic 1772621, .sipush 4, .idiv, .istore 2, .sipush 0, .istore 3, .goto 21]),
  (21, [.iload 3, .aload 0, .getfield 331, .if_icmp .ge 55, .aload 0, .getfield 239941, .aload 0, .getfield 280908, .iload 3, .iaload, .invokestatic 1051209, .iload 1, .if_icmp .ne 49, .iinc 2 (2), .goto 49]),
  (49, [.iinc 3 (1), .goto 21]),
  (55, [.aload 0, .getfield 305487, .iload 1, .sipush 999, .aload 0, .getfield 305487, .iload 1, .iaload, .iload 2, .iadd, .invokevirtual 1, .iastore, .iinc 1 (1), .goto 2]),
  (81, [.return_])]
/-- BanksDealt.years(II)I -/
def P_69 : bk_P := [(0, [.iload 1, .sipush 1, .if_icmp .lt 11, .iload 1, .sipush 30, .if_icmp .le 13, .goto 11]),
  (11, [.sipush (-1), .ireturn]),
  (13, [.aload 0, .getfield 44737, .getfield 337, .sipush 400, .if_icmp .lt 28, .sipush 0, .ireturn]),
  (28, [.aload 0, .getfield 27340, .aload 0, .getfield 44737, .invokestatic 1183304, .aload 0, .getfield 68292, .iload 2, .putfield 515, .aload 0, .getfield 68292, .aload 0, .getfield 44737, .iload 1, .invokestatic 1872269, .ireturn])]
/-- BanksDealt$River.floods(LBanksDealt$Plain;I)I -/
def P_70 : bk_P := [(0, [.sipush 0, .istore 3, .sipush 0, .istore 4, .goto 5]),
  (5, [.iload 4, .iload 2, .if_icmp .ge 36, .aload 1, .getfield 337, .sipush 400, .if_icmp .ge 36, .aload 0, .aload 1, .invokestatic 1347657, .pop, .iinc 3 (1), .iinc 4 (1), .goto 5]),
  (36, [.iload 3, .ireturn])]
/-- BanksDealt.undo()I -/
def P_71 : bk_P := [(0, [.aload 0, .getfield 27340, .getfield 192, .ifCond .ne 12, .sipush (-1), .ireturn]),
  (12, [.aload 0, .getfield 27340, .aload 0, .getfield 44737, .invokestatic 1184264, .aload 0, .getfield 27340, .getfield 192, .ireturn])]
/-- BanksDealt$History.takeBack(LBanksDealt$Plain;)V -/
def P_72 : bk_P := [(0, [.aload 0, .getfield 192, .ifCond .le 46, .aload 0, .aload 0, .getfield 193, .sipush 8, .iadd, .sipush 1, .isub, .sipush 8, .irem, .putfield 193, .aload 0, .dup, .getfield 192, .sipush 1, .isub, .putfield 192, .aload 1, .aload 0, .getfield 223426, .aload 0, .getfield 193, .aaload, .invokestatic 1248904, .goto 46]),
  (46, [.return_])]
/-- BanksDealt.would()I -/
def P_73 : bk_P := [(0, [.aload 0, .getfield 68292, .aload 0, .getfield 44737, .invokestatic 1345608, .aload 0, .getfield 68292, .getfield 514, .ireturn])]
/-- BanksDealt.wouldAt(I)I -/
def P_74 : bk_P := [(0, [.aload 0, .iload 1, .invokestatic 1444681, .ifCond .ne 10, .sipush (-1), .ireturn]),
  (10, [.aload 0, .getfield 68292, .aload 0, .getfield 44737, .invokestatic 1345608, .aload 0, .getfield 68292, .getfield 379393, .iload 1, .iaload, .ireturn])]
/-- BanksDealt.wouldBe(I)I -/
def P_75 : bk_P := [(0, [.iload 1, .ifCond .lt 9, .iload 1, .sipush 2, .if_icmp .le 11, .goto 9]),
  (9, [.sipush (-1), .ireturn]),
  (11, [.aload 0, .getfield 68292, .aload 0, .getfield 44737, .invokestatic 1345608, .aload 0, .getfield 44737, .aload 0, .getfield 68292, .getfield 379393, .iload 1, .invokestatic 1772557, .ireturn])]
/-- BanksDealt.tempted(III)I -/
def P_76 : bk_P := [(0, [.aload 0, .iload 1, .invokestatic 1446729, .ifCond .eq 24, .iload 2, .invokestatic 527301, .ifCond .eq 24, .iload 3, .ifCond .lt 24, .iload 3, .sipush 1, .if_icmp .le 26, .goto 24]),
  (24, [.sipush (-1), .ireturn]),
  (26, [.aload 0, .getfield 60105, .aload 0, .getfield 44737, .iload 1, .iload 2, .iload 3, .sipush 1, .if_icmp .ne 45, .sipush 1, .goto 46]),
  (45, [.sipush (-1), .goto 46]),
  (46, [.invokestatic 2888597, .ireturn])]
/-- BanksDealt.isField(I)Z -/
def P_77 : bk_P := [(0, [.iload 1, .ifCond .lt 19, .iload 1, .aload 0, .getfield 44737, .getfield 326, .if_icmp .ge 19, .sipush 1, .goto 20]),
  (19, [.sipush 0, .goto 20]),
  (20, [.freturn])]
/-- BanksDealt$Plans.tempt(LBanksDealt$Plain;III)I -/
def P_78 : bk_P := [(0, [.aload 0, .getfield 1116614, .aload 1, .invokestatic 1345672, .aload 0, .iload 2, .putfield 458, .aload 0, .iload 3, .putfield 459, .aload 0, .aload 1, .iload 3, .iload 4, .sipush (-1), .if_icmp .ne 31, .sipush 0, .goto 33]),
  (31, [.sipush 36, .goto 33]),
  (33, [.iload 4, .sipush (-1), .if_icmp .ne 44, .sipush 36, .goto 46]),
  (44, [.sipush 72, .goto 46]),
  (46, [.invokestatic 2888660, .sipush 0, .istore 5, .goto 52]),
  (52, [.iload 5, .aload 0, .getfield 362953, .arraylength, .if_icmp .gt 122, .aload 0, .aload 1, .sipush 0, .iload 5, .sipush 0, .invokestatic 2626645, .ifCond .eq 116, .sipush 0, .istore 6, .goto 77]),
  (77, [.iload 6, .iload 5, .if_icmp .ge 107, .aload 0, .getfield 330176, .iload 6, .aload 0, .getfield 362953, .iload 6, .iaload, .sipush 36, .irem, .iastore, .iinc 6 (1), .goto 77]),
  (107, [.aload 0, .iload 5, .putfield 449, .iload 5, .ireturn]),
  (116, [.iinc 5 (1), .goto 52]),
  (122, [.sipush (-1), .ireturn])]
/-- BanksDealt$Plans.listWorks(LBanksDealt$Plain;III)V -/
def P_79 : bk_P := [(0, [.aload 0, .sipush 0, .putfield 456, .iload 3, .istore 5, .goto 8]),
  (8, [.iload 5, .iload 4, .if_icmp .ge 65, .aload 0, .getfield 456, .aload 0, .getfield 354759, .arraylength, .if_icmp .ge 65, .aload 0, .aload 1, .iload 2, .iload 5, .invokestatic 2364433, .ifCond .eq 59, .aload 0, .getfield 354759, .aload 0, .getfield 456, .iload 5, .iastore, .aload 0, .dup, .getfield 456, .sipush 1, .iadd, .putfield 456, .goto 59]),
  (59, [.iinc 5 (1), .goto 8]),
  (65, [.return_])]
/-- BanksDealt$Plans.may(LBanksDealt$Plain;II)Z -/
def P_80 : bk_P := [(0, [.iload 3, .sipush 36, .irem, .istore 4, .iload 4, .sipush 6, .irem, .istore 5, .iload 4, .sipush 6, .idiv, .istore 6, .iload 6, .sipush 1, .if_icmp .lt 59, .iload 6, .aload 1, .getfield 321, .if_icmp .ge 59, .iload 5, .aload 1, .getfield 320, .if_icmp .ge 59, .iload 5, .aload 1, .getfield 322, .isub, .invokevirtual 3, .iload 6, .if_icmp .le 61, .goto 59]),
  (59, [.sipush 0, .freturn]),
  (61, [.aload 1, .getfield 239941, .iload 4, .invokestatic 1051209, .sipush 1, .iload 2, .isub, .if_icmp .ne 78, .sipush 0, .freturn]),
  (78, [.iload 3, .sipush 36, .if_icmp .ge 105, .aload 0, .getfield 1116614, .getfield 371200, .iload 4, .iaload, .ifCond .le 101, .sipush 1, .goto 125]),
  (101, [.sipush 0, .goto 125]),
  (105, [.aload 0, .getfield 1116614, .getfield 371200, .iload 4, .iaload, .sipush 9, .if_icmp .ge 124, .sipush 1, .goto 125]),
  (124, [.sipush 0, .goto 125]),
  (125, [.freturn])]
/-- BanksDealt$Plans.tempts(LBanksDealt$Plans;LBanksDealt$Plain;III)Z -/
def P_81 : bk_P := [(0, [.iload 2, .iload 3, .if_icmp .ge 14, .iload 2, .aload 0, .getfield 362953, .arraylength, .if_icmp .lt 20, .goto 14]),
  (14, [.aload 0, .aload 1, .invokestatic 1328905, .freturn]),
  (20, [.iload 4, .istore 5, .goto 24]),
  (24, [.iload 5, .aload 0, .getfield 456, .if_icmp .ge 96, .aload 0, .getfield 362953, .iload 2, .aload 0, .getfield 354759, .iload 5, .iaload, .iastore, .aload 0, .aload 0, .getfield 354759, .iload 5, .iaload, .invokestatic 1315976, .aload 0, .aload 1, .iload 2, .sipush 1, .iadd, .iload 3, .iload 5, .sipush 1, .iadd, .invokestatic 2626645, .istore 6, .aload 0, .aload 0, .getfield 354759, .iload 5, .iaload, .invokestatic 1316040, .iload 6, .ifCond .eq 90, .sipush 1, .freturn]),
  (90, [.iinc 5 (1), .goto 24]),
  (96, [.sipush 0, .freturn])]
/-- BanksDealt$Plans.apply(I)V -/
def P_82 : bk_P := [(0, [.aload 0, .getfield 1116614, .getfield 371200, .iload 1, .sipush 36, .irem, .dup2, .iaload, .iload 1, .sipush 36, .if_icmp .ge 23, .sipush (-1), .goto 24]),
  (23, [.sipush 1, .goto 24]),
  (24, [.iadd, .iastore, .return_])]
/-- BanksDealt$Plans.takeBack(I)V -/
def P_83 : bk_P := [(0, [.aload 0, .getfield 1116614, .getfield 371200, .iload 1, .sipush 36, .irem, .dup2, .iaload, .iload 1, .sipush 36, .if_icmp .ge 23, .sipush (-1), .goto 24]),
  (23, [.sipush 1, .goto 24]),
  (24, [.isub, .iastore, .return_])]
/-- BanksDealt.temptedAt(I)I -/
def P_84 : bk_P := [(0, [.iload 1, .ifCond .lt 27, .iload 1, .aload 0, .getfield 60105, .getfield 449, .if_icmp .ge 27, .aload 0, .getfield 60105, .getfield 330176, .iload 1, .iaload, .goto 28]),
  (27, [.sipush (-1), .goto 28]),
  (28, [.ireturn])]
/-- BanksDealt.duelAt(I)I -/
def P_85 : bk_P := [(0, [.aload 0, .getfield 60105, .getfield 4547, .ifCond .eq 31, .iload 1, .ifCond .lt 31, .iload 1, .sipush 2, .if_icmp .ge 31, .aload 0, .getfield 60105, .getfield 338370, .iload 1, .iaload, .goto 32]),
  (31, [.sipush (-1), .goto 32]),
  (32, [.ireturn])]
/-- BanksDealt.pushed(II)I -/
def P_86 : bk_P := [(0, [.iload 1, .invokestatic 527301, .ifCond .eq 16, .iload 2, .ifCond .lt 16, .iload 2, .sipush 2, .if_icmp .le 18, .goto 16]),
  (16, [.sipush (-1), .ireturn]),
  (18, [.aload 0, .getfield 60105, .aload 0, .getfield 44737, .iload 1, .iload 2, .invokestatic 2364881, .ireturn])]
/-- BanksDealt$Plans.push(LBanksDealt$Plain;II)I -/
def P_87 : bk_P := [(0, [.aload 0, .getfield 1116614, .aload 1, .invokestatic 1345672, .aload 0, .aload 1, .iload 2, .sipush 0, .sipush 72, .invokestatic 2888660, .aload 0, .sipush 0, .putfield 453, .aload 0, .getfield 1116614, .aload 1, .invokestatic 1345736, .aload 0, .aload 1, .aload 0, .getfield 1116614, .getfield 379393, .iload 2, .invokestatic 1772621, .putfield 461, .sipush 0, .istore 4, .goto 49]),
  (49, [.iload 4, .aload 0, .getfield 456, .if_icmp .ge 106, .iload 3, .sipush 1, .if_icmp .lt 106, .aload 0, .aload 0, .getfield 354759, .iload 4, .iaload, .invokestatic 1315976, .aload 0, .aload 1, .iload 2, .aload 0, .getfield 354759, .iload 4, .iaload, .sipush (-2), .invokestatic 2889236, .aload 0, .aload 0, .getfield 354759, .iload 4, .iaload, .invokestatic 1316040, .iinc 4 (1), .goto 49]),
  (106, [.sipush 0, .istore 4, .goto 109]),
  (109, [.iload 4, .aload 0, .getfield 456, .if_icmp .ge 234, .iload 3, .sipush 2, .if_icmp .lt 234, .aload 0, .aload 0, .getfield 354759, .iload 4, .iaload, .invokestatic 1315976, .iload 4, .sipush 1, .iadd, .istore 5, .goto 140]),
  (140, [.iload 5, .aload 0, .getfield 456, .if_icmp .ge 217, .aload 0, .getfield 354759, .iload 5, .iaload, .aload 0, .getfield 354759, .iload 4, .iaload, .sipush 36, .iadd, .if_icmp .eq 211, .aload 0, .aload 0, .getfield 354759, .iload 5, .iaload, .invokestatic 1315976, .aload 0, .aload 1, .iload 2, .aload 0, .getfield 354759, .iload 4, .iaload, .aload 0, .getfield 354759, .iload 5, .iaload, .invokestatic 2889236, .aload 0, .aload 0, .getfield 354759, .iload 5, .iaload, .invokestatic 1316040, .goto 211]),
  (211, [.iinc 5 (1), .goto 140]),
  (217, [.aload 0, .aload 0, .getfield 354759, .iload 4, .iaload, .invokestatic 1316040, .iinc 4 (1), .goto 109]),
  (234, [.aload 0, .getfield 461, .ireturn])]
/-- BanksDealt$Plans.weigh(LBanksDealt$Plain;III)V -/
def P_88 : bk_P := [(0, [.aload 0, .getfield 1116614, .aload 1, .invokestatic 1345736, .aload 1, .aload 0, .getfield 1116614, .getfield 379393, .iload 2, .invokestatic 1772621, .istore 5, .iload 5, .aload 0, .getfield 461, .if_icmp .le 68, .aload 0, .iload 5, .putfield 461, .aload 0, .getfield 346564, .sipush 0, .iload 3, .iastore, .aload 0, .getfield 346564, .sipush 1, .iload 4, .iastore, .aload 0, .iload 4, .sipush (-2), .if_icmp .ne 64, .sipush 1, .goto 65]),
  (64, [.sipush 2, .goto 65]),
  (65, [.putfield 453, .goto 68]),
  (68, [.return_])]
/-- BanksDealt.pushedAt(I)I -/
def P_89 : bk_P := [(0, [.iload 1, .ifCond .lt 27, .iload 1, .aload 0, .getfield 60105, .getfield 453, .if_icmp .ge 27, .aload 0, .getfield 60105, .getfield 346564, .iload 1, .iaload, .goto 28]),
  (27, [.sipush (-1), .goto 28]),
  (28, [.ireturn])]
/-- BanksDealt.ago(II)I -/
def P_90 : bk_P := [(0, [.iload 1, .sipush 1, .if_icmp .lt 30, .iload 1, .sipush 8, .if_icmp .gt 30, .iload 1, .aload 0, .getfield 44737, .getfield 337, .if_icmp .gt 30, .aload 0, .iload 2, .invokestatic 1444681, .ifCond .ne 32, .goto 30]),
  (30, [.sipush (-1), .ireturn]),
  (32, [.aload 0, .getfield 44737, .getfield 321874, .aload 0, .getfield 44737, .getfield 337, .iload 1, .isub, .sipush 8, .irem, .sipush 6, .imul, .iload 2, .iadd, .iaload, .ireturn])]
/-- BanksDealt.shares(IIII)I -/
def P_91 : bk_P := [(0, [.iload 1, .invokestatic 527301, .ifCond .eq 15, .iload 2, .iload 3, .invokestatic 1054473, .ifCond .ne 17, .goto 15]),
  (15, [.sipush (-1), .ireturn]),
  (17, [.sipush 0, .istore 5, .sipush 0, .istore 6, .goto 23]),
  (23, [.iload 6, .iload 3, .if_icmp .ge 109, .aload 0, .getfield 2140867, .aload 0, .getfield 44737, .invokestatic 1248904, .aload 0, .getfield 68292, .iload 4, .iload 6, .dadd, .putfield 515, .sipush 0, .istore 7, .goto 55]),
  (55, [.iload 7, .iload 2, .if_icmp .ge 103, .aload 0, .getfield 68292, .aload 0, .getfield 2140867, .sipush 1, .invokestatic 1872269, .sipush 1, .if_icmp .ne 103, .iload 5, .aload 0, .getfield 2140867, .aload 0, .getfield 2140867, .getfield 239941, .iload 1, .invokestatic 1772621, .dadd, .istore 5, .iinc 7 (1), .goto 55]),
  (103, [.iinc 6 (1), .goto 23]),
  (109, [.iload 5, .ireturn])]
/-- BanksDealt.areTrials(II)Z -/
def P_92 : bk_P := [(0, [.iload 0, .sipush 1, .if_icmp .lt 26, .iload 0, .sipush 10, .if_icmp .gt 26, .iload 1, .sipush 1, .if_icmp .lt 26, .iload 1, .sipush 30, .if_icmp .gt 26, .sipush 1, .goto 27]),
  (26, [.sipush 0, .goto 27]),
  (27, [.freturn])]
/-- BanksDealt.ran()I -/
def P_93 : bk_P := [(0, [.aload 0, .getfield 10954, .aload 0, .getfield 84672, .aload 0, .getfield 44737, .invokestatic 1644429, .istore 1, .aload 0, .getfield 84672, .sipush 0, .putfield 641, .iload 1, .ireturn])]
/-- BanksDealt$Bygone.findBeds(LBanksDealt$Tape;LBanksDealt$Plain;)I -/
def P_94 : bk_P := [(0, [.aload 0, .aload 1, .aload 2, .invokestatic 1644493, .ifCond .ne 11, .sipush (-1), .ireturn]),
  (11, [.aload 0, .aload 2, .invokestatic 1120265, .istore 3, .iload 3, .ifCond .le 39, .aload 0, .aload 2, .getfield 321, .putfield 66, .aload 0, .aload 2, .invokestatic 1120392, .aload 0, .aload 2, .invokestatic 1120456, .goto 39]),
  (39, [.iload 3, .ireturn])]
/-- BanksDealt$Bygone.readPairs(LBanksDealt$Tape;LBanksDealt$Plain;)Z -/
def P_95 : bk_P := [(0, [.aload 1, .getfield 641, .sipush 2, .if_icmp .lt 26, .aload 1, .getfield 641, .sipush 20, .if_icmp .gt 26, .aload 1, .getfield 641, .sipush 2, .irem, .ifCond .eq 28, .goto 26]),
  (26, [.sipush 0, .freturn]),
  (28, [.sipush 0, .istore 3, .goto 30]),
  (30, [.iload 3, .sipush 6, .if_icmp .ge 61, .aload 0, .getfield 182339, .iload 3, .sipush 0, .iastore, .aload 0, .getfield 190532, .iload 3, .aload 2, .getfield 320, .sipush 1, .isub, .iastore, .iinc 3 (1), .goto 30]),
  (61, [.sipush 0, .istore 3, .goto 63]),
  (63, [.iload 3, .sipush 1, .iadd, .aload 1, .getfield 641, .if_icmp .ge 212, .aload 1, .getfield 436864, .iload 3, .iaload, .istore 4, .aload 1, .getfield 436864, .iload 3, .sipush 1, .iadd, .iaload, .istore 5, .iload 4, .aload 2, .getfield 326, .if_icmp .ge 106, .iload 5, .sipush 2, .if_icmp .le 108, .goto 106]),
  (106, [.sipush 0, .freturn]),
  (108, [.aload 2, .getfield 248135, .iload 4, .iaload, .sipush 6, .irem, .istore 6, .aload 2, .getfield 248135, .iload 4, .iaload, .sipush 6, .idiv, .istore 7, .iload 5, .sipush 1, .if_icmp .eq 169, .aload 0, .getfield 182339, .iload 7, .aload 0, .getfield 182339, .iload 7, .iaload, .iload 5, .ifCond .ne 163, .iload 6, .sipush 1, .iadd, .goto 165]),
  (163, [.iload 6, .goto 165]),
  (165, [.invokevirtual 2, .iastore, .goto 169]),
  (169, [.iload 5, .ifCond .eq 206, .aload 0, .getfield 190532, .iload 7, .aload 0, .getfield 190532, .iload 7, .iaload, .iload 5, .sipush 1, .if_icmp .ne 200, .iload 6, .sipush 1, .isub, .goto 202]),
  (200, [.iload 6, .goto 202]),
  (202, [.invokevirtual 1, .iastore, .goto 206]),
  (206, [.iinc 3 (2), .goto 63]),
  (212, [.sipush 1, .freturn])]
/-- BanksDealt$Bygone.countBeds(LBanksDealt$Plain;)I -/
def P_96 : bk_P := [(0, [.sipush 0, .istore 2, .aload 1, .getfield 321, .sipush 1, .isub, .istore 3, .goto 9]),
  (9, [.iload 3, .ifCond .lt 99, .sipush 0, .istore 2, .sipush 0, .istore 4, .goto 18]),
  (18, [.iload 4, .aload 1, .getfield 320, .if_icmp .ge 93, .sipush 6, .iload 3, .imul, .iload 4, .iadd, .istore 5, .aload 0, .getfield 198725, .iload 5, .iload 4, .aload 0, .getfield 182339, .iload 3, .iaload, .if_icmp .lt 64, .iload 4, .aload 0, .getfield 190532, .iload 3, .iaload, .if_icmp .le 68, .goto 64]),
  (64, [.sipush 0, .goto 76]),
  (68, [.aload 0, .aload 1, .iload 4, .iload 3, .invokestatic 2168913, .goto 76]),
  (76, [.iastore, .iload 2, .aload 0, .getfield 198725, .iload 5, .iaload, .iadd, .istore 2, .iinc 4 (1), .goto 18]),
  (93, [.iinc 3 (-1), .goto 9]),
  (99, [.iload 2, .ireturn])]
/-- BanksDealt$Bygone.waysOn(LBanksDealt$Plain;II)I -/
def P_97 : bk_P := [(0, [.iload 3, .aload 1, .getfield 321, .sipush 1, .isub, .if_icmp .ne 12, .sipush 1, .ireturn]),
  (12, [.sipush 0, .istore 4, .sipush 0, .iload 2, .sipush 1, .isub, .invokevirtual 2, .istore 5, .goto 24]),
  (24, [.iload 5, .iload 2, .sipush 1, .iadd, .if_icmp .gt 66, .iload 5, .aload 1, .getfield 320, .if_icmp .ge 66, .iload 4, .aload 0, .getfield 198725, .sipush 6, .iload 3, .sipush 1, .iadd, .imul, .iload 5, .iadd, .iaload, .iadd, .istore 4, .iinc 5 (1), .goto 24]),
  (66, [.iload 4, .ireturn])]
/-- BanksDealt$Bygone.keepFirst(LBanksDealt$Plain;)V -/
def P_98 : bk_P := [(0, [.sipush 0, .istore 2, .sipush 0, .istore 3, .goto 4]),
  (4, [.iload 3, .aload 1, .getfield 321, .if_icmp .ge 70, .iload 2, .istore 4, .goto 15]),
  (15, [.iload 4, .aload 1, .getfield 320, .sipush 1, .isub, .if_icmp .ge 47, .aload 0, .getfield 198725, .sipush 6, .iload 3, .imul, .iload 4, .iadd, .iaload, .ifCond .ne 47, .iinc 4 (1), .goto 15]),
  (47, [.aload 0, .getfield 165952, .iload 3, .iload 4, .iastore, .sipush 0, .iload 4, .sipush 1, .isub, .invokevirtual 2, .istore 2, .iinc 3 (1), .goto 4]),
  (70, [.return_])]
/-- BanksDealt$Bygone.keepSure(LBanksDealt$Plain;)V -/
def P_99 : bk_P := [(0, [.sipush 0, .istore 2, .goto 2]),
  (2, [.iload 2, .aload 1, .getfield 321, .if_icmp .ge 117, .sipush 0, .istore 3, .sipush 0, .istore 4, .goto 15]),
  (15, [.iload 4, .aload 1, .getfield 320, .if_icmp .ge 99, .sipush 6, .iload 2, .imul, .iload 4, .iadd, .istore 5, .aload 0, .getfield 206918, .iload 5, .aload 0, .getfield 198725, .iload 5, .iaload, .ifCond .le 70, .iload 2, .ifCond .eq 66, .aload 0, .aload 1, .iload 4, .iload 2, .sipush 1, .isub, .invokestatic 2169105, .ifCond .eq 70, .goto 66]),
  (66, [.sipush 1, .goto 71]),
  (70, [.sipush 0, .goto 71]),
  (71, [.bastore, .aload 0, .getfield 206918, .iload 5, .baload, .ifCond .eq 93, .iinc 3 (1), .aload 0, .getfield 174145, .iload 2, .iload 4, .iastore, .goto 93]),
  (93, [.iinc 4 (1), .goto 15]),
  (99, [.iload 3, .sipush 1, .if_icmp .eq 111, .aload 0, .getfield 174145, .iload 2, .sipush (-1), .iastore, .goto 111]),
  (111, [.iinc 2 (1), .goto 2]),
  (117, [.return_])]
/-- BanksDealt$Bygone.isReached(LBanksDealt$Plain;II)Z -/
def P_100 : bk_P := [(0, [.sipush 0, .iload 2, .sipush 1, .isub, .invokevirtual 2, .istore 4, .goto 9]),
  (9, [.iload 4, .iload 2, .sipush 1, .iadd, .if_icmp .gt 49, .iload 4, .aload 1, .getfield 320, .if_icmp .ge 49, .aload 0, .getfield 206918, .sipush 6, .iload 3, .imul, .iload 4, .iadd, .baload, .ifCond .eq 43, .sipush 1, .freturn]),
  (43, [.iinc 4 (1), .goto 9]),
  (49, [.sipush 0, .freturn])]
/-- BanksDealt.ranAt(I)I -/
def P_101 : bk_P := [(0, [.iload 1, .ifCond .lt 27, .iload 1, .aload 0, .getfield 10954, .getfield 66, .if_icmp .ge 27, .aload 0, .getfield 10954, .getfield 165952, .iload 1, .iaload, .goto 28]),
  (27, [.sipush (-1), .goto 28]),
  (28, [.ireturn])]
/-- BanksDealt.sure(I)I -/
def P_102 : bk_P := [(0, [.iload 1, .ifCond .lt 27, .iload 1, .aload 0, .getfield 10954, .getfield 66, .if_icmp .ge 27, .aload 0, .getfield 10954, .getfield 174145, .iload 1, .iaload, .goto 28]),
  (27, [.sipush (-1), .goto 28]),
  (28, [.ireturn])]
/-- BanksDealt.odds(IIIII)I -/
def P_103 : bk_P := [(0, [.aload 0, .iload 1, .invokestatic 1446729, .ifCond .eq 26, .iload 2, .ifCond .lt 26, .iload 2, .sipush 2, .if_icmp .gt 26, .iload 3, .iload 4, .invokestatic 1054473, .ifCond .ne 28, .goto 26]),
  (26, [.sipush (-1), .ireturn]),
  (28, [.sipush 0, .istore 6, .sipush 0, .istore 7, .goto 34]),
  (34, [.iload 7, .iload 4, .if_icmp .ge 109, .aload 0, .getfield 2140867, .aload 0, .getfield 44737, .invokestatic 1248904, .aload 0, .getfield 68292, .iload 5, .iload 7, .dadd, .putfield 515, .aload 0, .getfield 68292, .aload 0, .getfield 2140867, .iload 3, .invokestatic 1872269, .pop, .aload 0, .getfield 2140867, .getfield 239941, .aload 0, .getfield 2140867, .getfield 248135, .iload 1, .iaload, .invokestatic 1051209, .iload 2, .if_icmp .ne 103, .iinc 6 (1), .goto 103]),
  (103, [.iinc 7 (1), .goto 34]),
  (109, [.iload 6, .ireturn])]
/-- BanksDealt.richest(I)I -/
def P_104 : bk_P := [(0, [.iload 1, .invokestatic 527301, .ifCond .ne 9, .sipush (-1), .ireturn]),
  (9, [.sipush (-1), .istore 2, .sipush 0, .istore 3, .sipush 0, .istore 4, .goto 16]),
  (16, [.iload 4, .aload 0, .getfield 44737, .getfield 326, .if_icmp .ge 86, .aload 0, .getfield 44737, .getfield 256328, .iload 4, .iaload, .iload 3, .if_icmp .le 80, .aload 0, .getfield 44737, .getfield 239941, .aload 0, .getfield 44737, .getfield 248135, .iload 4, .iaload, .invokestatic 1051209, .iload 1, .if_icmp .ne 80, .iload 4, .istore 2, .aload 0, .getfield 44737, .getfield 256328, .iload 4, .iaload, .istore 3, .goto 80]),
  (80, [.iinc 4 (1), .goto 16]),
  (86, [.iload 2, .ireturn])]
/-- BanksDealt.deed(I)I -/
def P_105 : bk_P := [(0, [.aload 0, .iload 1, .invokestatic 1446729, .ifCond .ne 10, .sipush (-1), .ireturn]),
  (10, [.aload 0, .getfield 19147, .aload 0, .getfield 44737, .iload 1, .invokestatic 1677964, .aload 0, .getfield 19147, .getfield 129, .ireturn])]
/-- BanksDealt$Deed.write(LBanksDealt$Plain;I)V -/
def P_106 : bk_P := [(0, [.aload 0, .sipush 0, .putfield 129, .aload 1, .getfield 248135, .iload 2, .iaload, .istore 3, .aload 1, .getfield 239941, .iload 3, .invokestatic 1051209, .istore 4, .aload 0, .aload 1, .getfield 272714, .iload 2, .laload, .invokestatic 1678024, .aload 0, .iload 4, .ifCond .ne 43, .ldc 0, .goto 56]),
  (43, [.iload 4, .sipush 1, .if_icmp .ne 54, .ldc 1, .goto 56]),
  (54, [.ldc 2, .goto 56]),
  (56, [.invokestatic 1153864, .aload 0, .ldc 3, .invokestatic 1153864, .aload 0, .sipush 48, .iload 3, .sipush 6, .irem, .iadd, .invokestatic 1153800, .aload 0, .sipush 32, .invokestatic 1153800, .aload 0, .sipush 48, .iload 3, .sipush 6, .idiv, .iadd, .invokestatic 1153800, .return_])]
/-- BanksDealt$Deed.putName(J)V -/
def P_107 : bk_P := [(0, [.sipush 6, .istore 3, .goto 3]),
  (3, [.iload 3, .ifCond .lt 41, .lload 1, .sipush 5, .iload 3, .imul, .lshr, .bipush 31, .land, .l2i, .istore 4, .iload 4, .ifCond .le 35, .aload 0, .sipush 97, .iload 4, .iadd, .sipush 1, .isub, .invokestatic 1153800, .goto 35]),
  (35, [.iinc 3 (-1), .goto 3]),
  (41, [.return_])]
/-- BanksDealt$Deed.put(I)V -/
def P_108 : bk_P := [(0, [.aload 0, .getfield 129, .aload 0, .getfield 215168, .arraylength, .if_icmp .ge 32, .aload 0, .getfield 215168, .aload 0, .getfield 129, .iload 1, .iastore, .aload 0, .dup, .getfield 129, .sipush 1, .iadd, .putfield 129, .goto 32]),
  (32, [.return_])]
/-- BanksDealt$Deed.putText(Ljava.lang.String;)V -/
def P_109 : bk_P := [(0, [.sipush 0, .istore 2, .goto 2]),
  (2, [.iload 2, .aload 1, .invokevirtual 4, .if_icmp .ge 25, .aload 0, .aload 1, .iload 2, .invokevirtual 5, .invokestatic 1153800, .iinc 2 (1), .goto 2]),
  (25, [.return_])]
/-- BanksDealt.byteAt(I)I -/
def P_110 : bk_P := [(0, [.iload 1, .ifCond .lt 27, .iload 1, .aload 0, .getfield 19147, .getfield 129, .if_icmp .ge 27, .aload 0, .getfield 19147, .getfield 215168, .iload 1, .iaload, .goto 28]),
  (27, [.sipush (-1), .goto 28]),
  (28, [.ireturn])]
/-- BanksDealt.book(I)I -/
def P_111 : bk_P := [(0, [.iload 1, .ifCond .eq 13, .iload 1, .sipush 1, .if_icmp .eq 13, .sipush (-1000), .ireturn]),
  (13, [.aload 0, .getfield 2758, .aload 0, .getfield 84672, .aload 0, .getfield 44737, .invokestatic 1612813, .istore 2, .aload 0, .invokestatic 919492, .iload 2, .ifCond .ne 48, .sipush (-2), .aload 0, .getfield 84672, .getfield 647, .isub, .ireturn]),
  (48, [.aload 0, .getfield 2140867, .aload 0, .getfield 44737, .invokestatic 1248904, .aload 0, .getfield 2758, .aload 0, .getfield 2140867, .aload 0, .getfield 68292, .invokestatic 1613133, .istore 3, .aload 0, .getfield 461518, .sipush 0, .aload 0, .getfield 2758, .getfield 0, .iastore, .aload 0, .getfield 461518, .sipush 1, .iload 3, .iastore, .aload 0, .getfield 461518, .sipush 2, .aload 0, .getfield 2140867, .getfield 337, .iastore, .aload 0, .getfield 461518, .sipush 3, .aload 0, .getfield 2140867, .aload 0, .getfield 2140867, .getfield 239941, .sipush 0, .invokestatic 1772557, .iastore, .aload 0, .sipush 1, .putfield 4815, .iload 1, .sipush 1, .if_icmp .ne 165, .iload 3, .ifCond .le 165, .aload 0, .getfield 27340, .aload 0, .getfield 44737, .invokestatic 1183304, .aload 0, .getfield 44737, .aload 0, .getfield 2140867, .invokestatic 1248904, .goto 165]),
  (165, [.aload 0, .getfield 2758, .getfield 0, .ifCond .ne 179, .sipush (-1), .goto 180]),
  (179, [.iload 3, .goto 180]),
  (180, [.ireturn])]
/-- BanksDealt$Book.readText(LBanksDealt$Tape;LBanksDealt$Plain;)Z -/
def P_112 : bk_P := [(0, [.aload 0, .sipush 0, .putfield 1, .aload 1, .sipush 400, .invokestatic 1409416, .sipush 0, .istore 3, .goto 14]),
  (14, [.iload 3, .sipush 40, .if_icmp .gt 69, .aload 1, .getfield 642, .ifCond .ne 29, .sipush 1, .freturn]),
  (29, [.aload 0, .aload 1, .aload 2, .invokestatic 1612877, .ifCond .eq 47, .aload 1, .sipush 59, .invokestatic 1410953, .ifCond .ne 49, .goto 47]),
  (47, [.sipush 0, .freturn]),
  (49, [.aload 0, .dup, .getfield 1, .sipush 1, .iadd, .putfield 1, .aload 1, .invokestatic 885188, .iinc 3 (1), .goto 14]),
  (69, [.sipush 0, .freturn])]
/-- BanksDealt$Book.readLine(LBanksDealt$Tape;LBanksDealt$Plain;)Z -/
def P_113 : bk_P := [(0, [.aload 1, .invokestatic 886277, .ifCond .eq 25, .aload 2, .getfield 297294, .aload 2, .getfield 331, .aload 1, .getfield 1667, .invokestatic 2097869, .goto 26]),
  (25, [.sipush (-1), .goto 26]),
  (26, [.istore 3, .aload 1, .invokestatic 886277, .ifCond .eq 45, .iload 3, .sipush (-1), .if_icmp .ne 45, .aload 1, .sipush 3, .invokestatic 1410057, .freturn]),
  (45, [.iload 3, .sipush (-1), .if_icmp .ne 63, .aload 1, .invokestatic 531589, .ifCond .ne 63, .aload 1, .sipush 1, .invokestatic 1410057, .freturn]),
  (63, [.aload 0, .getfield 1, .sipush 40, .if_icmp .lt 78, .aload 1, .sipush 4, .invokestatic 1410057, .freturn]),
  (78, [.aload 0, .getfield 133122, .aload 0, .getfield 1, .aload 1, .getfield 644, .iastore, .aload 1, .sipush 12, .invokestatic 1410825, .ifCond .eq 110, .aload 0, .aload 1, .sipush 0, .sipush 999, .invokestatic 2137297, .freturn]),
  (110, [.aload 1, .sipush 13, .invokestatic 1410825, .ifCond .eq 128, .aload 0, .aload 1, .sipush 1, .sipush 30, .invokestatic 2137297, .freturn]),
  (128, [.aload 0, .getfield 141315, .aload 0, .getfield 1, .iload 3, .sipush (-1), .if_icmp .eq 145, .iload 3, .goto 159]),
  (145, [.aload 1, .getfield 644, .sipush 6, .if_icmp .ne 158, .sipush 0, .goto 159]),
  (158, [.sipush 1, .goto 159]),
  (159, [.iastore, .aload 1, .invokestatic 885188, .iload 3, .sipush (-1), .if_icmp .eq 178, .aload 1, .sipush 11, .invokestatic 1410825, .goto 201]),
  (178, [.aload 1, .sipush 9, .invokestatic 1410825, .ifCond .ne 196, .aload 1, .sipush 10, .invokestatic 1410825, .ifCond .eq 200, .goto 196]),
  (196, [.sipush 1, .goto 201]),
  (200, [.sipush 0, .goto 201]),
  (201, [.istore 4, .iload 4, .ifCond .eq 216, .aload 0, .aload 1, .invokestatic 1088777, .goto 221]),
  (216, [.aload 1, .sipush 1, .invokestatic 1410057, .goto 221]),
  (221, [.freturn])]
/-- BanksDealt$Book.isBeginning(LBanksDealt$Tape;)Z -/
def P_114 : bk_P := [(0, [.aload 0, .sipush 6, .invokestatic 1410825, .ifCond .ne 36, .aload 0, .sipush 7, .invokestatic 1410825, .ifCond .ne 36, .aload 0, .sipush 12, .invokestatic 1410825, .ifCond .ne 36, .aload 0, .sipush 13, .invokestatic 1410825, .ifCond .eq 40, .goto 36]),
  (36, [.sipush 1, .goto 41]),
  (40, [.sipush 0, .goto 41]),
  (41, [.freturn])]
/-- BanksDealt$Book.readOne(LBanksDealt$Tape;II)Z -/
def P_115 : bk_P := [(0, [.aload 1, .iload 2, .iload 3, .invokestatic 1934413, .ifCond .ne 11, .sipush 0, .freturn]),
  (11, [.aload 0, .getfield 149508, .aload 0, .getfield 1, .aload 1, .getfield 645, .iastore, .sipush 1, .freturn])]
/-- BanksDealt$Book.readPlace(LBanksDealt$Tape;)Z -/
def P_116 : bk_P := [(0, [.aload 0, .getfield 133122, .aload 0, .getfield 1, .aload 1, .getfield 644, .iastore, .aload 0, .aload 1, .sipush 0, .sipush 5, .invokestatic 2137297, .ifCond .eq 32, .aload 1, .sipush 0, .sipush 5, .invokestatic 1934413, .ifCond .ne 34, .goto 32]),
  (32, [.sipush 0, .freturn]),
  (34, [.aload 0, .getfield 157701, .aload 0, .getfield 1, .aload 1, .getfield 645, .iastore, .sipush 1, .freturn])]
/-- BanksDealt$Book.live(LBanksDealt$Plain;LBanksDealt$River;)I -/
def P_117 : bk_P := [(0, [.aload 0, .sipush 0, .putfield 0, .sipush 0, .istore 3, .goto 7]),
  (7, [.iload 3, .aload 0, .getfield 1, .if_icmp .ge 41, .aload 0, .aload 0, .aload 1, .aload 2, .iload 3, .invokestatic 2137489, .putfield 0, .aload 0, .getfield 0, .ifCond .eq 35, .iload 3, .ireturn]),
  (35, [.iinc 3 (1), .goto 7]),
  (41, [.aload 0, .getfield 1, .ireturn])]
/-- BanksDealt$Book.liveLine(LBanksDealt$Plain;LBanksDealt$River;I)I -/
def P_118 : bk_P := [(0, [.aload 0, .getfield 133122, .iload 3, .iaload, .tableswitch 58 9 11 #[32, 41, 51]]),
  (32, [.aload 0, .aload 1, .iload 3, .sipush (-1), .sipush 0, .invokestatic 2661845, .ireturn]),
  (41, [.aload 0, .aload 1, .iload 3, .sipush 1, .sipush 10, .invokestatic 2661845, .ireturn]),
  (51, [.aload 0, .aload 1, .iload 3, .invokestatic 1613325, .ireturn]),
  (58, [.aload 0, .aload 1, .aload 2, .iload 3, .invokestatic 2137681, .ireturn])]
/-- BanksDealt$Book.liveWork(LBanksDealt$Plain;III)I -/
def P_119 : bk_P := [(0, [.aload 1, .aload 0, .getfield 149508, .iload 2, .iaload, .aload 0, .getfield 157701, .iload 2, .iaload, .invokestatic 1770765, .istore 5, .iload 5, .sipush (-1), .if_icmp .ne 30, .iload 4, .sipush 9, .iadd, .ireturn]),
  (30, [.aload 1, .aload 0, .getfield 141315, .iload 2, .iaload, .iload 5, .iload 3, .invokestatic 2297361, .istore 6, .iload 6, .ifCond .eq 56, .iload 4, .iload 6, .iadd, .ireturn]),
  (56, [.aload 1, .aload 0, .getfield 141315, .iload 2, .iaload, .iload 5, .iload 3, .invokestatic 2297552, .sipush 0, .ireturn])]
/-- BanksDealt$Book.liveRoll(LBanksDealt$Plain;I)I -/
def P_120 : bk_P := [(0, [.aload 1, .aload 0, .getfield 149508, .iload 2, .iaload, .aload 0, .getfield 157701, .iload 2, .iaload, .invokestatic 1770765, .istore 3, .iload 3, .sipush (-1), .if_icmp .ne 25, .sipush 49, .ireturn]),
  (25, [.aload 1, .aload 0, .getfield 141315, .iload 2, .iaload, .iload 3, .invokestatic 1773453, .istore 4, .iload 4, .ifCond .eq 49, .sipush 40, .iload 4, .iadd, .ireturn]),
  (49, [.aload 1, .aload 0, .getfield 141315, .iload 2, .iaload, .iload 3, .invokestatic 1773516, .sipush 0, .ireturn])]
/-- BanksDealt$Book.liveSprings(LBanksDealt$Plain;LBanksDealt$River;I)I -/
def P_121 : bk_P := [(0, [.aload 0, .getfield 133122, .iload 3, .iaload, .sipush 12, .if_icmp .ne 15, .sipush 1, .goto 21]),
  (15, [.aload 0, .getfield 149508, .iload 3, .iaload, .goto 21]),
  (21, [.istore 4, .aload 1, .getfield 337, .iload 4, .iadd, .sipush 400, .if_icmp .le 39, .sipush 31, .ireturn]),
  (39, [.aload 2, .aload 0, .getfield 149508, .iload 3, .iaload, .putfield 515, .sipush 0, .istore 5, .goto 52]),
  (52, [.iload 5, .iload 4, .if_icmp .ge 71, .aload 2, .aload 1, .invokestatic 1347657, .pop, .iinc 5 (1), .goto 52]),
  (71, [.sipush 0, .ireturn])]
/-- BanksDealt.told(I)I -/
def P_122 : bk_P := [(0, [.aload 0, .getfield 4815, .ifCond .eq 29, .iload 1, .ifCond .lt 29, .iload 1, .aload 0, .getfield 461518, .arraylength, .if_icmp .ge 29, .aload 0, .getfield 461518, .iload 1, .iaload, .goto 30]),
  (29, [.sipush (-1), .goto 30]),
  (30, [.ireturn])]
/-- BanksDealt.sentence()I -/
def P_123 : bk_P := [(0, [.aload 0, .getfield 77512, .aload 0, .getfield 84672, .aload 0, .getfield 44737, .invokestatic 1908493, .istore 1, .aload 0, .invokestatic 919492, .iload 1, .ifCond .ne 34, .sipush (-1), .aload 0, .getfield 84672, .getfield 647, .isub, .ireturn]),
  (34, [.aload 0, .getfield 77511, .astore 2, .aload 0, .aload 0, .getfield 77512, .putfield 77511, .aload 0, .aload 2, .putfield 77512, .aload 0, .getfield 77511, .getfield 577, .ireturn])]
/-- BanksDealt$Sentence.readText(LBanksDealt$Tape;LBanksDealt$Plain;)Z -/
def P_124 : bk_P := [(0, [.aload 0, .invokestatic 854340, .aload 1, .sipush 200, .invokestatic 1409416, .aload 0, .aload 1, .aload 2, .sipush 1, .invokestatic 2432849, .ifCond .eq 40, .aload 1, .getfield 642, .ifCond .eq 36, .aload 1, .sipush 1, .invokestatic 1410057, .ifCond .eq 40, .goto 36]),
  (36, [.sipush 1, .goto 41]),
  (40, [.sipush 0, .goto 41]),
  (41, [.freturn])]
/-- BanksDealt$Sentence.readCond(LBanksDealt$Tape;LBanksDealt$Plain;I)Z -/
def P_125 : bk_P := [(0, [.aload 0, .aload 1, .aload 2, .iload 3, .invokestatic 2432913, .ifCond .ne 12, .sipush 0, .freturn]),
  (12, [.sipush 0, .istore 4, .goto 15]),
  (15, [.iload 4, .sipush 200, .if_icmp .ge 63, .aload 1, .sipush 14, .invokestatic 1410825, .ifCond .eq 63, .aload 1, .invokestatic 885188, .aload 0, .aload 1, .aload 2, .iload 3, .invokestatic 2432913, .ifCond .ne 48, .sipush 0, .freturn]),
  (48, [.aload 0, .sipush 14, .sipush 0, .sipush 0, .invokestatic 2433105, .pop, .iinc 4 (1), .goto 15]),
  (63, [.sipush 1, .freturn])]
/-- BanksDealt$Sentence.readAll(LBanksDealt$Tape;LBanksDealt$Plain;I)Z -/
def P_126 : bk_P := [(0, [.aload 0, .aload 1, .aload 2, .iload 3, .invokestatic 2432977, .ifCond .ne 12, .sipush 0, .freturn]),
  (12, [.sipush 0, .istore 4, .goto 15]),
  (15, [.iload 4, .sipush 200, .if_icmp .ge 63, .aload 1, .sipush 15, .invokestatic 1410825, .ifCond .eq 63, .aload 1, .invokestatic 885188, .aload 0, .aload 1, .aload 2, .iload 3, .invokestatic 2432977, .ifCond .ne 48, .sipush 0, .freturn]),
  (48, [.aload 0, .sipush 15, .sipush 0, .sipush 0, .invokestatic 2433105, .pop, .iinc 4 (1), .goto 15]),
  (63, [.sipush 1, .freturn])]
/-- BanksDealt$Sentence.readOne(LBanksDealt$Tape;LBanksDealt$Plain;I)Z -/
def P_127 : bk_P := [(0, [.aload 1, .invokestatic 532485, .ifCond .ne 13, .aload 1, .sipush 1, .invokestatic 1410057, .freturn]),
  (13, [.aload 0, .getfield 577, .sipush 20, .if_icmp .ge 28, .iload 3, .sipush 8, .if_icmp .le 34, .goto 28]),
  (28, [.aload 1, .sipush 4, .invokestatic 1410057, .freturn]),
  (34, [.aload 0, .dup, .getfield 577, .sipush 1, .iadd, .putfield 577, .aload 1, .getfield 642, .sipush 40, .if_icmp .ne 61, .aload 0, .aload 1, .aload 2, .iload 3, .invokestatic 2443089, .freturn]),
  (61, [.aload 1, .getfield 644, .sipush 16, .if_icmp .ne 78, .aload 0, .aload 1, .aload 2, .iload 3, .invokestatic 2443153, .freturn]),
  (78, [.aload 0, .aload 1, .aload 2, .invokestatic 1908877, .istore 4, .iload 4, .ifCond .eq 95, .aload 1, .invokestatic 885188, .goto 95]),
  (95, [.iload 4, .freturn])]
/-- BanksDealt$Sentence.isBeginning(LBanksDealt$Tape;)Z -/
def P_128 : bk_P := [(0, [.aload 0, .getfield 642, .sipush 40, .if_icmp .eq 53, .aload 0, .getfield 642, .sipush 2, .if_icmp .ne 57, .aload 0, .getfield 644, .sipush 6, .if_icmp .eq 53, .aload 0, .getfield 644, .sipush 7, .if_icmp .eq 53, .aload 0, .getfield 644, .sipush 16, .if_icmp .eq 53, .aload 0, .getfield 644, .sipush 17, .if_icmp .lt 57, .goto 53]),
  (53, [.sipush 1, .goto 58]),
  (57, [.sipush 0, .goto 58]),
  (58, [.freturn])]
/-- BanksDealt$Sentence.put(III)Z -/
def P_129 : bk_P := [(0, [.aload 0, .getfield 576, .aload 0, .getfield 404034, .arraylength, .if_icmp .ge 52, .aload 0, .getfield 404034, .aload 0, .getfield 576, .iload 1, .iastore, .aload 0, .getfield 412227, .aload 0, .getfield 576, .iload 2, .iastore, .aload 0, .getfield 420420, .aload 0, .getfield 576, .iload 3, .iastore, .aload 0, .dup, .getfield 576, .sipush 1, .iadd, .putfield 576, .goto 52]),
  (52, [.sipush 1, .freturn])]
/-- BanksDealt$Sentence.readPlainOne(LBanksDealt$Tape;LBanksDealt$Plain;)Z -/
def P_130 : bk_P := [(0, [.aload 1, .getfield 644, .istore 3, .iload 3, .sipush 19, .if_icmp .eq 17, .iload 3, .sipush 20, .if_icmp .ne 74, .goto 17]),
  (17, [.aload 1, .invokestatic 885188, .aload 1, .invokestatic 886277, .ifCond .ne 34, .aload 1, .sipush 1, .invokestatic 1410057, .freturn]),
  (34, [.aload 2, .getfield 272714, .aload 2, .getfield 326, .aload 1, .getfield 1667, .invokestatic 2097869, .istore 4, .iload 4, .sipush (-1), .if_icmp .ne 65, .aload 1, .sipush 3, .invokestatic 1410057, .goto 73]),
  (65, [.aload 0, .iload 3, .iload 4, .sipush 0, .invokestatic 2433105, .goto 73]),
  (73, [.freturn]),
  (74, [.iload 3, .sipush 21, .if_icmp .lt 149, .aload 1, .invokestatic 885188, .aload 1, .getfield 642, .istore 4, .iload 4, .sipush 60, .if_icmp .eq 117, .iload 4, .sipush 61, .if_icmp .eq 117, .iload 4, .sipush 62, .if_icmp .eq 117, .aload 1, .sipush 1, .invokestatic 1410057, .freturn]),
  (117, [.aload 1, .invokestatic 885188, .aload 1, .getfield 642, .sipush 3, .if_icmp .ne 143, .aload 0, .iload 3, .aload 1, .getfield 645, .iload 4, .invokestatic 2433105, .goto 148]),
  (143, [.aload 1, .sipush 1, .invokestatic 1410057, .goto 148]),
  (148, [.freturn]),
  (149, [.aload 0, .iload 3, .sipush 0, .sipush 0, .invokestatic 2433105, .freturn])]
/-- BanksDealt.said(I)I -/
def P_131 : bk_P := [(0, [.aload 0, .getfield 77511, .getfield 576, .ifCond .eq 15, .iload 1, .sipush (-1), .if_icmp .ge 17, .goto 15]),
  (15, [.sipush (-1), .ireturn]),
  (17, [.aload 0, .getfield 77511, .aload 0, .getfield 44737, .invokestatic 1384713, .istore 2, .iload 1, .sipush (-1), .if_icmp .ne 39, .iload 2, .invokestatic 532997, .ireturn]),
  (39, [.sipush 0, .istore 3, .sipush 0, .istore 4, .goto 44]),
  (44, [.iload 4, .aload 0, .getfield 44737, .getfield 326, .if_icmp .ge 83, .iload 2, .iload 4, .ishr, .sipush 1, .iand, .sipush 1, .if_icmp .ne 77, .iload 3, .iload 1, .if_icmp .ne 74, .iload 4, .ireturn]),
  (74, [.iinc 3 (1), .goto 77]),
  (77, [.iinc 4 (1), .goto 44]),
  (83, [.sipush (-1), .ireturn])]
/-- BanksDealt$Sentence.fieldsSaid(LBanksDealt$Plain;)I -/
def P_132 : bk_P := [(0, [.sipush 1, .aload 1, .getfield 326, .ishl, .sipush 1, .isub, .istore 2, .sipush 0, .istore 3, .sipush 0, .istore 4, .goto 14]),
  (14, [.iload 4, .aload 0, .getfield 576, .if_icmp .ge 185, .aload 0, .getfield 404034, .iload 4, .iaload, .sipush 16, .if_icmp .ne 62, .iload 3, .ifCond .le 179, .aload 0, .getfield 428613, .iload 3, .sipush 1, .isub, .iload 2, .aload 0, .getfield 428613, .iload 3, .sipush 1, .isub, .iaload, .sipush (-1), .ixor, .iand, .iastore, .goto 179]),
  (62, [.aload 0, .getfield 404034, .iload 4, .iaload, .sipush 15, .if_icmp .eq 86, .aload 0, .getfield 404034, .iload 4, .iaload, .sipush 14, .if_icmp .ne 154, .goto 86]),
  (86, [.iload 3, .sipush 1, .if_icmp .le 179, .iinc 3 (-1), .aload 0, .getfield 428613, .iload 3, .sipush 1, .isub, .iaload, .aload 0, .getfield 428613, .iload 3, .iaload, .iand, .istore 5, .aload 0, .getfield 428613, .iload 3, .sipush 1, .isub, .aload 0, .getfield 404034, .iload 4, .iaload, .sipush 15, .if_icmp .ne 135, .iload 5, .goto 150]),
  (135, [.aload 0, .getfield 428613, .iload 3, .sipush 1, .isub, .iaload, .aload 0, .getfield 428613, .iload 3, .iaload, .ior, .goto 150]),
  (150, [.iastore, .goto 179]),
  (154, [.iload 3, .aload 0, .getfield 428613, .arraylength, .if_icmp .ge 179, .aload 0, .getfield 428613, .iload 3, .aload 0, .aload 1, .iload 4, .invokestatic 1909069, .iastore, .iinc 3 (1), .goto 179]),
  (179, [.iinc 4 (1), .goto 14]),
  (185, [.iload 3, .sipush 1, .if_icmp .ne 199, .aload 0, .getfield 428613, .sipush 0, .iaload, .goto 200]),
  (199, [.sipush 0, .goto 200]),
  (200, [.ireturn])]
/-- BanksDealt$Sentence.fieldsOfOne(LBanksDealt$Plain;I)I -/
def P_133 : bk_P := [(0, [.sipush 0, .istore 3, .sipush 0, .istore 4, .goto 5]),
  (5, [.iload 4, .aload 1, .getfield 326, .if_icmp .ge 38, .aload 0, .aload 1, .iload 4, .iload 2, .invokestatic 2433425, .ifCond .eq 32, .iload 3, .sipush 1, .iload 4, .ishl, .ior, .istore 3, .goto 32]),
  (32, [.iinc 4 (1), .goto 5]),
  (38, [.iload 3, .ireturn])]
/-- BanksDealt$Sentence.isSo(LBanksDealt$Plain;II)Z -/
def P_134 : bk_P := [(0, [.aload 1, .getfield 248135, .iload 2, .iaload, .istore 4, .aload 1, .getfield 239941, .iload 4, .invokestatic 1051209, .istore 5, .aload 0, .getfield 404034, .iload 3, .iaload, .tableswitch 276 6 23 #[112, 123, 276, 276, 276, 276, 276, 276, 276, 276, 276, 135, 147, 176, 211, 239, 251, 264]]),
  (112, [.iload 5, .ifCond .ne 121, .sipush 1, .goto 122]),
  (121, [.sipush 0, .goto 122]),
  (122, [.freturn]),
  (123, [.iload 5, .sipush 1, .if_icmp .ne 133, .sipush 1, .goto 134]),
  (133, [.sipush 0, .goto 134]),
  (134, [.freturn]),
  (135, [.iload 5, .sipush 2, .if_icmp .ne 145, .sipush 1, .goto 146]),
  (145, [.sipush 0, .goto 146]),
  (146, [.freturn]),
  (147, [.aload 1, .getfield 239941, .iload 4, .sipush 6, .idiv, .iaload, .iload 4, .sipush 6, .irem, .isub, .invokevirtual 3, .sipush 1, .if_icmp .ne 174, .sipush 1, .goto 175]),
  (174, [.sipush 0, .goto 175]),
  (175, [.freturn]),
  (176, [.iload 5, .sipush 2, .if_icmp .eq 209, .iload 5, .aload 1, .getfield 239941, .aload 1, .getfield 248135, .aload 0, .getfield 412227, .iload 3, .iaload, .iaload, .invokestatic 1051209, .if_icmp .ne 209, .sipush 1, .goto 210]),
  (209, [.sipush 0, .goto 210]),
  (210, [.freturn]),
  (211, [.iload 4, .sipush 6, .idiv, .aload 1, .getfield 248135, .aload 0, .getfield 412227, .iload 3, .iaload, .iaload, .sipush 6, .idiv, .if_icmp .ge 237, .sipush 1, .goto 238]),
  (237, [.sipush 0, .goto 238]),
  (238, [.freturn]),
  (239, [.aload 0, .aload 1, .getfield 256328, .iload 2, .iaload, .iload 3, .invokestatic 1909197, .freturn]),
  (251, [.aload 0, .aload 1, .getfield 231748, .iload 4, .iaload, .iload 3, .invokestatic 1909197, .freturn]),
  (264, [.aload 0, .aload 1, .getfield 264521, .iload 2, .iaload, .iload 3, .invokestatic 1909197, .freturn]),
  (276, [.aload 0, .iload 2, .iload 3, .invokestatic 1909197, .freturn])]
/-- BanksDealt$Sentence.compares(II)Z -/
def P_135 : bk_P := [(0, [.aload 0, .getfield 420420, .iload 2, .iaload, .sipush 60, .if_icmp .ne 27, .iload 1, .aload 0, .getfield 412227, .iload 2, .iaload, .if_icmp .ge 25, .sipush 1, .goto 26]),
  (25, [.sipush 0, .goto 26]),
  (26, [.freturn]),
  (27, [.aload 0, .getfield 420420, .iload 2, .iaload, .sipush 62, .if_icmp .ne 56, .iload 1, .aload 0, .getfield 412227, .iload 2, .iaload, .if_icmp .le 52, .sipush 1, .goto 71]),
  (52, [.sipush 0, .goto 71]),
  (56, [.iload 1, .aload 0, .getfield 412227, .iload 2, .iaload, .if_icmp .ne 70, .sipush 1, .goto 71]),
  (70, [.sipush 0, .goto 71]),
  (71, [.freturn])]
/-- java/lang/Integer.bitCount(I)I -/
def P_136 : bk_P := [(0, [.iload 0, .iload 0, .sipush 1, .iushr, .sipush 1431655765, .iand, .isub, .istore 0, .iload 0, .sipush 858993459, .iand, .iload 0, .sipush 2, .iushr, .sipush 858993459, .iand, .iadd, .istore 0, .iload 0, .iload 0, .sipush 4, .iushr, .iadd, .sipush 252645135, .iand, .istore 0, .iload 0, .iload 0, .sipush 8, .iushr, .iadd, .istore 0, .iload 0, .iload 0, .sipush 16, .iushr, .iadd, .istore 0, .iload 0, .sipush 63, .iand, .ireturn])]
/-- BanksDealt.image(I)Z -/
def P_137 : bk_P := [(0, [.iload 1, .ifCond .lt 13, .iload 1, .aload 0, .getfield 453325, .arraylength, .if_icmp .lt 15, .goto 13]),
  (13, [.sipush 0, .freturn]),
  (15, [.aload 0, .getfield 453325, .iload 1, .aaload, .getfield 11577600, .aload 0, .getfield 44737, .invokestatic 1248904, .aload 0, .getfield 453325, .iload 1, .aaload, .getfield 2173185, .aload 0, .getfield 77511, .invokestatic 1385096, .aload 0, .getfield 453325, .iload 1, .aaload, .sipush 1, .putfield 4354, .sipush 1, .freturn])]
/-- BanksDealt$Sentence.copyOf(LBanksDealt$Sentence;)V -/
def P_138 : bk_P := [(0, [.aload 0, .aload 1, .getfield 576, .putfield 576, .aload 0, .aload 1, .getfield 577, .putfield 577, .aload 1, .getfield 404034, .sipush 0, .aload 0, .getfield 404034, .sipush 0, .aload 0, .getfield 404034, .arraylength, .invokevirtual 0, .aload 1, .getfield 412227, .sipush 0, .aload 0, .getfield 412227, .sipush 0, .aload 0, .getfield 412227, .arraylength, .invokevirtual 0, .aload 1, .getfield 420420, .sipush 0, .aload 0, .getfield 420420, .sipush 0, .aload 0, .getfield 420420, .arraylength, .invokevirtual 0, .return_])]
/-- BanksDealt.restore(I)Z -/
def P_139 : bk_P := [(0, [.iload 1, .ifCond .lt 25, .iload 1, .aload 0, .getfield 453325, .arraylength, .if_icmp .ge 25, .aload 0, .getfield 453325, .iload 1, .aaload, .getfield 4354, .ifCond .ne 27, .goto 25]),
  (25, [.sipush 0, .freturn]),
  (27, [.aload 0, .getfield 44737, .aload 0, .getfield 453325, .iload 1, .aaload, .getfield 11577600, .invokestatic 1248904, .aload 0, .getfield 77511, .aload 0, .getfield 453325, .iload 1, .aaload, .getfield 2173185, .invokestatic 1385096, .aload 0, .getfield 27340, .invokestatic 657796, .sipush 1, .freturn])]
/-- BanksDealt.count(I)I -/
def P_140 : bk_P := [(0, [.iload 1, .tableswitch 100 0 6 #[44, 52, 60, 68, 76, 84, 92]]),
  (44, [.aload 0, .getfield 44737, .getfield 326, .ireturn]),
  (52, [.aload 0, .getfield 44737, .getfield 320, .ireturn]),
  (60, [.aload 0, .getfield 44737, .getfield 321, .ireturn]),
  (68, [.aload 0, .getfield 44737, .getfield 322, .ireturn]),
  (76, [.aload 0, .getfield 44737, .getfield 323, .ireturn]),
  (84, [.aload 0, .getfield 44737, .getfield 331, .ireturn]),
  (92, [.aload 0, .getfield 84672, .getfield 641, .ireturn]),
  (100, [.sipush (-1), .ireturn])]
/-- BanksDealt.field(II)I -/
def P_141 : bk_P := [(0, [.aload 0, .iload 1, .invokestatic 1446729, .ifCond .eq 17, .iload 2, .ifCond .lt 17, .iload 2, .sipush 4, .if_icmp .le 25, .goto 17]),
  (17, [.athrow]),
  (25, [.aload 0, .getfield 44737, .getfield 248135, .iload 1, .iaload, .istore 3, .iload 2, .tableswitch 100 0 3 #[68, 73, 78, 88]]),
  (68, [.iload 3, .sipush 6, .irem, .ireturn]),
  (73, [.iload 3, .sipush 6, .idiv, .ireturn]),
  (78, [.aload 0, .getfield 44737, .getfield 256328, .iload 1, .iaload, .ireturn]),
  (88, [.aload 0, .getfield 44737, .getfield 239941, .iload 3, .invokestatic 1051209, .ireturn]),
  (100, [.aload 0, .getfield 44737, .getfield 264521, .iload 1, .iaload, .ireturn])]
/-- BanksDealt.duel(I)I -/
def P_142 : bk_P := [(0, [.iload 1, .invokestatic 527301, .ifCond .ne 15, .athrow]),
  (15, [.aload 0, .getfield 60105, .aload 0, .getfield 44737, .iload 1, .invokestatic 1844173, .ireturn])]
/-- BanksDealt$Plans.fight(LBanksDealt$Plain;I)I -/
def P_143 : bk_P := [(0, [.aload 0, .getfield 1116614, .aload 1, .invokestatic 1345672, .aload 0, .sipush 1, .putfield 4547, .aload 0, .aload 0, .aload 1, .iload 2, .sipush (-1000), .invokestatic 2368529, .putfield 461, .aload 0, .getfield 338370, .sipush 0, .sipush (-2), .iastore, .aload 0, .getfield 338370, .sipush 1, .aload 0, .getfield 460, .iastore, .sipush 0, .istore 3, .goto 46]),
  (46, [.iload 3, .sipush 72, .if_icmp .ge 131, .aload 1, .getfield 305487, .iload 2, .iaload, .ifCond .le 131, .aload 0, .aload 1, .iload 2, .iload 3, .invokestatic 2364433, .ifCond .eq 125, .aload 0, .iload 3, .invokestatic 1315976, .aload 0, .aload 1, .iload 2, .aload 0, .getfield 461, .invokestatic 2368529, .istore 4, .aload 0, .iload 3, .invokestatic 1316040, .iload 4, .aload 0, .getfield 461, .if_icmp .le 125, .aload 0, .iload 4, .putfield 461, .aload 0, .getfield 338370, .sipush 0, .iload 3, .iastore, .aload 0, .getfield 338370, .sipush 1, .aload 0, .getfield 460, .iastore, .goto 125]),
  (125, [.iinc 3 (1), .goto 46]),
  (131, [.aload 0, .getfield 461, .ireturn])]
/-- BanksDealt$Plans.answered(LBanksDealt$Plain;II)I -/
def P_144 : bk_P := [(0, [.sipush 1, .iload 2, .isub, .istore 4, .aload 0, .aload 1, .iload 2, .invokestatic 1844301, .istore 5, .aload 0, .sipush (-2), .putfield 460, .sipush 0, .istore 6, .goto 22]),
  (22, [.iload 6, .sipush 72, .if_icmp .ge 100, .aload 1, .getfield 305487, .iload 4, .iaload, .ifCond .le 100, .iload 5, .iload 3, .if_icmp .le 100, .aload 0, .aload 1, .iload 4, .iload 6, .invokestatic 2364433, .ifCond .eq 94, .aload 0, .iload 6, .invokestatic 1315976, .aload 0, .aload 1, .iload 2, .invokestatic 1844301, .istore 7, .aload 0, .iload 6, .invokestatic 1316040, .iload 7, .iload 5, .if_icmp .ge 94, .iload 7, .istore 5, .aload 0, .iload 6, .putfield 460, .goto 94]),
  (94, [.iinc 6 (1), .goto 22]),
  (100, [.iload 5, .ireturn])]
/-- BanksDealt$Plans.lead(LBanksDealt$Plain;I)I -/
def P_145 : bk_P := [(0, [.aload 0, .getfield 1116614, .aload 1, .invokestatic 1345736, .aload 1, .aload 0, .getfield 1116614, .getfield 379393, .iload 2, .invokestatic 1772621, .aload 1, .aload 0, .getfield 1116614, .getfield 379393, .sipush 1, .iload 2, .isub, .invokestatic 1772621, .isub, .ireturn])]
/-- BanksDealtModel.thrown()I -/
def P_146 : bk_P := [(0, [.aload 0, .getfield 768, .ireturn])]
/-- BanksDealtModel.feed(IIIII)I -/
def P_147 : bk_P := [(0, [.aload 0, .sipush 0, .putfield 768, .aload 0, .getfield 770, .sipush 20, .iadd, .sipush 940, .if_icmp .le 20, .sipush (-1), .ireturn]),
  (20, [.aload 0, .iload 1, .invokestatic 1484040, .aload 0, .iload 2, .invokestatic 1484040, .aload 0, .iload 3, .invokestatic 1484040, .aload 0, .iload 4, .invokestatic 1484040, .aload 0, .iload 5, .invokestatic 1484040, .aload 0, .getfield 770, .ireturn])]
/-- BanksDealtModel.come(I)V -/
def P_148 : bk_P := [(0, [.sipush 24, .istore 2, .goto 3]),
  (3, [.iload 2, .ifCond .lt 39, .aload 0, .getfield 469761, .aload 0, .getfield 770, .iload 1, .iload 2, .iushr, .sipush 255, .iand, .iastore, .aload 0, .dup, .getfield 770, .sipush 1, .iadd, .putfield 770, .iinc 2 (-8), .goto 3]),
  (39, [.return_])]
/-- BanksDealtModel.end(I)Z -/
def P_149 : bk_P := [(0, [.aload 0, .sipush 0, .putfield 768, .iload 1, .ifCond .lt 17, .iload 1, .aload 0, .getfield 770, .if_icmp .le 19, .goto 17]),
  (17, [.sipush 0, .freturn]),
  (19, [.aload 0, .iload 1, .putfield 770, .sipush 1, .freturn])]
/-- BanksDealtModel.startRead()V -/
def P_150 : bk_P := [(0, [.sipush 0, .istore 1, .goto 2]),
  (2, [.iload 1, .sipush 80, .if_icmp .ge 21, .aload 0, .getfield 486159, .iload 1, .sipush 0, .iastore, .iinc 1 (1), .goto 2]),
  (21, [.sipush 0, .istore 1, .goto 23]),
  (23, [.iload 1, .sipush 5, .if_icmp .ge 41, .aload 0, .getfield 551703, .iload 1, .sipush 0, .bastore, .iinc 1 (1), .goto 23]),
  (41, [.sipush 0, .istore 1, .goto 43]),
  (43, [.iload 1, .sipush 36, .if_icmp .ge 72, .aload 0, .getfield 559896, .iload 1, .sipush 0, .bastore, .aload 0, .getfield 486159, .sipush 6, .iload 1, .iadd, .sipush 5, .iastore, .iinc 1 (1), .goto 43]),
  (72, [.aload 0, .getfield 486159, .sipush 2, .sipush 5, .iastore, .aload 0, .getfield 486159, .sipush 3, .sipush 5, .iastore, .aload 0, .getfield 486159, .sipush 5, .sipush 2, .iastore, .aload 0, .getfield 486159, .sipush 78, .sipush 9, .iastore, .aload 0, .getfield 486159, .sipush 79, .sipush 9, .iastore, .aload 0, .sipush 0, .putfield 4890, .return_])]
/-- BanksDealtModel.startSo()V -/
def P_151 : bk_P := [(0, [.sipush 80, .istore 1, .goto 3]),
  (3, [.iload 1, .sipush 437, .if_icmp .ge 23, .aload 0, .getfield 477966, .iload 1, .sipush 0, .iastore, .iinc 1 (1), .goto 3]),
  (23, [.sipush 0, .istore 1, .goto 25]),
  (25, [.iload 1, .sipush 2, .if_icmp .ge 54, .aload 0, .getfield 477966, .sipush 81, .iload 1, .iadd, .aload 0, .getfield 477966, .sipush 78, .iload 1, .iadd, .iaload, .iastore, .iinc 1 (1), .goto 25]),
  (54, [.sipush 0, .istore 1, .goto 56]),
  (56, [.iload 1, .sipush 36, .if_icmp .ge 86, .aload 0, .getfield 477966, .sipush 85, .iload 1, .iadd, .aload 0, .getfield 477966, .sipush 6, .iload 1, .iadd, .iaload, .iastore, .iinc 1 (1), .goto 56]),
  (86, [.sipush 0, .istore 1, .goto 88]),
  (88, [.iload 1, .sipush 3, .if_icmp .ge 136, .aload 0, .getfield 477966, .sipush 127, .iload 1, .iadd, .aload 0, .getfield 477966, .sipush 72, .iload 1, .iadd, .iaload, .iastore, .aload 0, .getfield 477966, .sipush 130, .iload 1, .iadd, .aload 0, .getfield 477966, .sipush 75, .iload 1, .iadd, .iaload, .iastore, .iinc 1 (1), .goto 88]),
  (136, [.aload 0, .invokestatic 960004, .aload 0, .invokestatic 960069, .pop, .sipush 0, .istore 1, .goto 147]),
  (147, [.iload 1, .sipush 6, .if_icmp .ge 174, .aload 0, .getfield 477966, .sipush 121, .iload 1, .iadd, .aload 0, .getfield 584477, .iload 1, .iaload, .iastore, .iinc 1 (1), .goto 147]),
  (174, [.return_])]
/-- BanksDealtModel.melt()V -/
def P_152 : bk_P := [(0, [.sipush 0, .istore 1, .goto 2]),
  (2, [.iload 1, .sipush 36, .if_icmp .ge 21, .aload 0, .getfield 568091, .iload 1, .sipush 0, .iastore, .iinc 1 (1), .goto 2]),
  (21, [.return_])]
/-- BanksDealtModel.layBest()I -/
def P_153 : bk_P := [(0, [.aload 0, .getfield 477966, .sipush 3, .iaload, .sipush 1, .isub, .istore 1, .goto 9]),
  (9, [.iload 1, .ifCond .lt 91, .sipush 0, .istore 2, .goto 15]),
  (15, [.iload 2, .aload 0, .getfield 477966, .sipush 2, .iaload, .if_icmp .ge 85, .sipush 6, .iload 1, .imul, .iload 2, .iadd, .istore 3, .aload 0, .getfield 576284, .iload 3, .aload 0, .getfield 477966, .sipush 85, .iload 3, .iadd, .iaload, .aload 0, .getfield 568091, .iload 3, .iaload, .iadd, .iload 1, .aload 0, .getfield 477966, .sipush 3, .iaload, .sipush 1, .isub, .if_icmp .ne 69, .sipush 0, .goto 77]),
  (69, [.aload 0, .iload 2, .iload 1, .sipush 1, .iadd, .invokestatic 2008717, .goto 77]),
  (77, [.iadd, .iastore, .iinc 2 (1), .goto 15]),
  (85, [.iinc 1 (-1), .goto 9]),
  (91, [.aload 0, .getfield 584477, .sipush 0, .aload 0, .getfield 477966, .sipush 4, .iaload, .iastore, .sipush 1, .istore 1, .goto 105]),
  (105, [.iload 1, .aload 0, .getfield 477966, .sipush 3, .iaload, .if_icmp .ge 162, .aload 0, .getfield 584477, .iload 1, .sipush 1, .isub, .iaload, .istore 2, .iload 2, .sipush 1, .isub, .istore 3, .goto 128]),
  (128, [.aload 0, .iload 3, .iload 1, .invokestatic 2008781, .aload 0, .iload 2, .iload 1, .invokestatic 2008717, .if_icmp .eq 149, .iinc 3 (1), .goto 128]),
  (149, [.aload 0, .getfield 584477, .iload 1, .iload 3, .iastore, .iinc 1 (1), .goto 105]),
  (162, [.aload 0, .getfield 576284, .aload 0, .getfield 477966, .sipush 4, .iaload, .iaload, .ireturn])]
/-- BanksDealtModel.leastNext(II)I -/
def P_154 : bk_P := [(0, [.aload 0, .iload 1, .sipush 1, .isub, .iload 2, .invokestatic 2008781, .aload 0, .iload 1, .iload 2, .invokestatic 2008781, .aload 0, .iload 1, .sipush 1, .iadd, .iload 2, .invokestatic 2008781, .invokestatic 1058697, .invokestatic 1058697, .ireturn])]
/-- BanksDealtModel.costAt(II)I -/
def P_155 : bk_P := [(0, [.aload 0, .iload 1, .iload 2, .invokestatic 2008845, .ifCond .eq 23, .aload 0, .getfield 576284, .sipush 6, .iload 2, .imul, .iload 1, .iadd, .iaload, .goto 26]),
  (23, [.sipush 100000, .goto 26]),
  (26, [.ireturn])]
/-- BanksDealtModel.isCell(II)Z -/
def P_156 : bk_P := [(0, [.iload 1, .sipush 0, .aload 0, .getfield 477966, .sipush 2, .iaload, .sipush 1, .isub, .invokestatic 1582925, .ifCond .eq 36, .iload 2, .sipush 0, .aload 0, .getfield 477966, .sipush 3, .iaload, .sipush 1, .isub, .invokestatic 1582925, .ifCond .eq 36, .sipush 1, .goto 37]),
  (36, [.sipush 0, .goto 37]),
  (37, [.freturn])]
/-- BanksDealtModel.isIn(III)Z -/
def P_157 : bk_P := [(0, [.iload 0, .iload 1, .if_icmp .lt 14, .iload 0, .iload 2, .if_icmp .gt 14, .sipush 1, .goto 15]),
  (14, [.sipush 0, .goto 15]),
  (15, [.freturn])]
/-- BanksDealtModel.least(II)I -/
def P_158 : bk_P := [(0, [.iload 0, .iload 1, .if_icmp .ge 9, .iload 0, .goto 10]),
  (9, [.iload 1, .goto 10]),
  (10, [.ireturn])]
/-- BanksDealtModel.plain()I -/
def P_159 : bk_P := [(0, [.aload 0, .sipush 900, .invokestatic 1484808, .aload 0, .invokestatic 959876, .sipush 0, .istore 1, .goto 13]),
  (13, [.aload 0, .getfield 775, .ifCond .eq 47, .aload 0, .invokestatic 960901, .ifCond .eq 34, .aload 0, .invokestatic 962309, .ifCond .ne 41, .goto 34]),
  (34, [.sipush (-1), .aload 0, .getfield 779, .isub, .ireturn]),
  (41, [.iinc 1 (1), .goto 13]),
  (47, [.sipush 0, .istore 2, .goto 49]),
  (49, [.iload 2, .sipush 80, .if_icmp .ge 73, .aload 0, .getfield 477966, .iload 2, .aload 0, .getfield 486159, .iload 2, .iaload, .iastore, .iinc 2 (1), .goto 49]),
  (73, [.sipush 0, .istore 2, .goto 75]),
  (75, [.iload 2, .sipush 13, .if_icmp .ge 99, .aload 0, .getfield 518931, .iload 2, .aload 0, .getfield 527124, .iload 2, .laload, .lastore, .iinc 2 (1), .goto 75]),
  (99, [.aload 0, .invokestatic 959940, .aload 0, .sipush 0, .putfield 793, .iload 1, .ireturn])]
/-- BanksDealtModel.begin(I)V -/
def P_160 : bk_P := [(0, [.aload 0, .sipush 0, .putfield 768, .aload 0, .aload 0, .invokestatic 960581, .putfield 771, .aload 0, .iload 1, .putfield 772, .aload 0, .sipush 0, .putfield 778, .aload 0, .sipush 0, .putfield 773, .aload 0, .invokestatic 960644, .return_])]
/-- BanksDealtModel.take()I -/
def P_161 : bk_P := [(0, [.aload 0, .getfield 770, .istore 1, .aload 0, .sipush 0, .putfield 770, .iload 1, .ireturn])]
/-- BanksDealtModel.go()V -/
def P_162 : bk_P := [(0, [.aload 0, .getfield 773, .aload 0, .getfield 771, .if_icmp .ge 52, .aload 0, .getfield 469761, .aload 0, .getfield 773, .iaload, .sipush 32, .if_icmp .eq 39, .aload 0, .getfield 469761, .aload 0, .getfield 773, .iaload, .sipush 10, .if_icmp .ne 52, .goto 39]),
  (39, [.aload 0, .dup, .getfield 773, .sipush 1, .iadd, .putfield 773, .goto 0]),
  (52, [.aload 0, .aload 0, .getfield 773, .putfield 774, .aload 0, .getfield 771, .aload 0, .getfield 772, .if_icmp .le 96, .aload 0, .getfield 774, .aload 0, .getfield 772, .if_icmp .lt 96, .aload 0, .aload 0, .getfield 772, .putfield 774, .aload 0, .sipush 1, .putfield 775, .return_]),
  (96, [.aload 0, .getfield 773, .aload 0, .getfield 771, .if_icmp .lt 113, .aload 0, .sipush 0, .putfield 775, .return_]),
  (113, [.aload 0, .getfield 469761, .aload 0, .getfield 773, .iaload, .istore 1, .iload 1, .invokestatic 534725, .ifCond .ne 198, .iload 1, .invokestatic 534789, .ifCond .ne 198, .aload 0, .iload 1, .sipush 59, .if_icmp .eq 174, .iload 1, .sipush 60, .if_icmp .eq 174, .iload 1, .sipush 61, .if_icmp .eq 174, .iload 1, .sipush 62, .if_icmp .eq 174, .iload 1, .sipush 40, .if_icmp .eq 174, .iload 1, .sipush 41, .if_icmp .ne 178, .goto 174]),
  (174, [.sipush 4, .goto 179]),
  (178, [.sipush 1, .goto 179]),
  (179, [.putfield 775, .aload 0, .iload 1, .putfield 777, .aload 0, .dup, .getfield 773, .sipush 1, .iadd, .putfield 773, .return_]),
  (198, [.iload 1, .invokestatic 534725, .istore 2, .sipush 1, .istore 3, .aload 0, .bipush 0, .putfield 1804, .aload 0, .sipush 0, .putfield 776, .goto 215]),
  (215, [.aload 0, .aload 0, .getfield 773, .invokestatic 1485129, .invokestatic 534725, .ifCond .ne 243, .aload 0, .aload 0, .getfield 773, .invokestatic 1485129, .invokestatic 534789, .ifCond .eq 350, .goto 243]),
  (243, [.aload 0, .getfield 469761, .aload 0, .getfield 773, .iaload, .istore 4, .iload 3, .ifCond .eq 271, .iload 4, .invokestatic 534725, .iload 2, .if_icmp .ne 271, .sipush 1, .goto 272]),
  (271, [.sipush 0, .goto 272]),
  (272, [.istore 3, .aload 0, .getfield 773, .aload 0, .getfield 774, .isub, .sipush 7, .if_icmp .ge 307, .aload 0, .bipush 27, .aload 0, .getfield 1804, .lmul, .iload 4, .i2l, .ladd, .bipush 96, .lsub, .putfield 1804, .goto 307]),
  (307, [.aload 0, .getfield 773, .aload 0, .getfield 774, .isub, .sipush 3, .if_icmp .ge 337, .aload 0, .sipush 10, .aload 0, .getfield 776, .imul, .iload 4, .iadd, .sipush 48, .isub, .putfield 776, .goto 337]),
  (337, [.aload 0, .dup, .getfield 773, .sipush 1, .iadd, .putfield 773, .goto 215]),
  (350, [.aload 0, .iload 3, .ifCond .eq 377, .aload 0, .getfield 773, .aload 0, .getfield 774, .isub, .iload 2, .ifCond .eq 373, .sipush 7, .goto 374]),
  (373, [.sipush 3, .goto 374]),
  (374, [.if_icmp .le 381, .goto 377]),
  (377, [.sipush 1, .goto 390]),
  (381, [.iload 2, .ifCond .eq 389, .sipush 2, .goto 390]),
  (389, [.sipush 3, .goto 390]),
  (390, [.putfield 775, .return_])]
/-- BanksDealtModel.isLetter(I)Z -/
def P_163 : bk_P := [(0, [.iload 0, .sipush 97, .if_icmp .lt 16, .iload 0, .sipush 122, .if_icmp .gt 16, .sipush 1, .goto 17]),
  (16, [.sipush 0, .goto 17]),
  (17, [.freturn])]
/-- BanksDealtModel.isDigit(I)Z -/
def P_164 : bk_P := [(0, [.iload 0, .sipush 48, .if_icmp .lt 16, .iload 0, .sipush 57, .if_icmp .gt 16, .sipush 1, .goto 17]),
  (16, [.sipush 0, .goto 17]),
  (17, [.freturn])]
/-- BanksDealtModel.tapeAt(I)I -/
def P_165 : bk_P := [(0, [.iload 1, .aload 0, .getfield 771, .if_icmp .ge 17, .aload 0, .getfield 469761, .iload 1, .iaload, .goto 18]),
  (17, [.sipush 0, .goto 18]),
  (18, [.ireturn])]
/-- BanksDealtModel.readLine()Z -/
def P_166 : bk_P := [(0, [.aload 0, .sipush 0, .invokestatic 1485257, .ifCond .eq 13, .aload 0, .invokestatic 961157, .freturn]),
  (13, [.aload 0, .sipush 1, .invokestatic 1485257, .ifCond .eq 26, .aload 0, .invokestatic 961541, .freturn]),
  (26, [.aload 0, .sipush 2, .invokestatic 1485257, .ifCond .eq 60, .aload 0, .sipush 1, .invokestatic 1485577, .ifCond .eq 58, .aload 0, .sipush 4, .aload 0, .invokestatic 961605, .invokestatic 2010061, .ifCond .eq 58, .sipush 1, .goto 59]),
  (58, [.sipush 0, .goto 59]),
  (59, [.freturn]),
  (60, [.aload 0, .sipush 3, .invokestatic 1485257, .ifCond .eq 73, .aload 0, .invokestatic 961733, .freturn]),
  (73, [.aload 0, .sipush 4, .invokestatic 1485257, .ifCond .eq 86, .aload 0, .invokestatic 962117, .freturn]),
  (86, [.aload 0, .sipush 5, .invokestatic 1485257, .ifCond .eq 99, .aload 0, .invokestatic 962181, .freturn]),
  (99, [.aload 0, .sipush 6, .invokestatic 1485257, .ifCond .eq 138, .aload 0, .sipush 2, .invokestatic 1485577, .ifCond .eq 134, .aload 0, .sipush 5, .aload 0, .sipush 0, .sipush 5, .invokestatic 2009997, .invokestatic 2010061, .ifCond .eq 134, .sipush 1, .goto 143]),
  (134, [.sipush 0, .goto 143]),
  (138, [.aload 0, .sipush 1, .invokestatic 1485513, .goto 143]),
  (143, [.freturn])]
/-- BanksDealtModel.isWord(I)Z -/
def P_167 : bk_P := [(0, [.aload 0, .getfield 775, .sipush 2, .if_icmp .ne 24, .aload 0, .getfield 1804, .iload 1, .invokestatic 535046, .lcmp, .ifCond .ne 24, .sipush 1, .goto 25]),
  (24, [.sipush 0, .goto 25]),
  (25, [.freturn])]
/-- BanksDealtModel.wordOf(I)J -/
def P_168 : bk_P := [(0, [.iload 0, .tableswitch 483 0 23 #[112, 128, 143, 160, 176, 191, 207, 221, 236, 251, 267, 284, 300, 313, 327, 341, 356, 372, 386, 401, 416, 432, 448, 465]]),
  (112, [.sipush 112, .sipush 108, .sipush 97, .sipush 105, .sipush 110, .sipush 0, .sipush 0, .invokestatic 3680862, .lreturn]),
  (128, [.sipush 108, .sipush 97, .sipush 110, .sipush 100, .sipush 0, .sipush 0, .sipush 0, .invokestatic 3680862, .lreturn]),
  (143, [.sipush 115, .sipush 111, .sipush 117, .sipush 114, .sipush 99, .sipush 101, .sipush 0, .invokestatic 3680862, .lreturn]),
  (160, [.sipush 102, .sipush 105, .sipush 101, .sipush 108, .sipush 100, .sipush 0, .sipush 0, .invokestatic 3680862, .lreturn]),
  (176, [.sipush 109, .sipush 105, .sipush 108, .sipush 108, .sipush 0, .sipush 0, .sipush 0, .invokestatic 3680862, .lreturn]),
  (191, [.sipush 112, .sipush 117, .sipush 114, .sipush 115, .sipush 101, .sipush 0, .sipush 0, .invokestatic 3680862, .lreturn]),
  (207, [.sipush 105, .sipush 99, .sipush 101, .sipush 0, .sipush 0, .sipush 0, .sipush 0, .invokestatic 3680862, .lreturn]),
  (221, [.sipush 100, .sipush 105, .sipush 103, .sipush 115, .sipush 0, .sipush 0, .sipush 0, .invokestatic 3680862, .lreturn]),
  (236, [.sipush 108, .sipush 97, .sipush 121, .sipush 115, .sipush 0, .sipush 0, .sipush 0, .invokestatic 3680862, .lreturn]),
  (251, [.sipush 114, .sipush 111, .sipush 108, .sipush 108, .sipush 115, .sipush 0, .sipush 0, .invokestatic 3680862, .lreturn]),
  (267, [.sipush 115, .sipush 112, .sipush 114, .sipush 105, .sipush 110, .sipush 103, .sipush 0, .invokestatic 3680862, .lreturn]),
  (284, [.sipush 121, .sipush 101, .sipush 97, .sipush 114, .sipush 115, .sipush 0, .sipush 0, .invokestatic 3680862, .lreturn]),
  (300, [.sipush 111, .sipush 114, .sipush 0, .sipush 0, .sipush 0, .sipush 0, .sipush 0, .invokestatic 3680862, .lreturn]),
  (313, [.sipush 97, .sipush 110, .sipush 100, .sipush 0, .sipush 0, .sipush 0, .sipush 0, .invokestatic 3680862, .lreturn]),
  (327, [.sipush 110, .sipush 111, .sipush 116, .sipush 0, .sipush 0, .sipush 0, .sipush 0, .invokestatic 3680862, .lreturn]),
  (341, [.sipush 108, .sipush 101, .sipush 102, .sipush 116, .sipush 0, .sipush 0, .sipush 0, .invokestatic 3680862, .lreturn]),
  (356, [.sipush 114, .sipush 105, .sipush 103, .sipush 104, .sipush 116, .sipush 0, .sipush 0, .invokestatic 3680862, .lreturn]),
  (372, [.sipush 119, .sipush 101, .sipush 116, .sipush 0, .sipush 0, .sipush 0, .sipush 0, .invokestatic 3680862, .lreturn]),
  (386, [.sipush 110, .sipush 101, .sipush 97, .sipush 114, .sipush 0, .sipush 0, .sipush 0, .invokestatic 3680862, .lreturn]),
  (401, [.sipush 115, .sipush 97, .sipush 109, .sipush 101, .sipush 0, .sipush 0, .sipush 0, .invokestatic 3680862, .lreturn]),
  (416, [.sipush 97, .sipush 98, .sipush 111, .sipush 118, .sipush 101, .sipush 0, .sipush 0, .invokestatic 3680862, .lreturn]),
  (432, [.sipush 119, .sipush 111, .sipush 114, .sipush 116, .sipush 104, .sipush 0, .sipush 0, .invokestatic 3680862, .lreturn]),
  (448, [.sipush 104, .sipush 101, .sipush 105, .sipush 103, .sipush 104, .sipush 116, .sipush 0, .invokestatic 3680862, .lreturn]),
  (465, [.sipush 99, .sipush 104, .sipush 97, .sipush 110, .sipush 103, .sipush 101, .sipush 100, .invokestatic 3680862, .lreturn]),
  (483, [.sipush 110, .sipush 117, .sipush 109, .sipush 98, .sipush 101, .sipush 114, .sipush 0, .invokestatic 3680862, .lreturn])]
/-- BanksDealtModel.spelt(IIIIIII)J -/
def P_169 : bk_P := [(0, [.bipush 27, .iload 0, .i2l, .bipush 96, .lsub, .lmul, .iload 1, .i2l, .ladd, .bipush 96, .lsub, .lstore 7, .iload 2, .ifCond .le 38, .bipush 27, .lload 7, .lmul, .iload 2, .i2l, .ladd, .bipush 96, .lsub, .lstore 7, .goto 38]),
  (38, [.iload 3, .ifCond .le 57, .bipush 27, .lload 7, .lmul, .iload 3, .i2l, .ladd, .bipush 96, .lsub, .lstore 7, .goto 57]),
  (57, [.iload 4, .ifCond .le 78, .bipush 27, .lload 7, .lmul, .iload 4, .i2l, .ladd, .bipush 96, .lsub, .lstore 7, .goto 78]),
  (78, [.iload 5, .ifCond .le 99, .bipush 27, .lload 7, .lmul, .iload 5, .i2l, .ladd, .bipush 96, .lsub, .lstore 7, .goto 99]),
  (99, [.iload 6, .ifCond .le 120, .bipush 27, .lload 7, .lmul, .iload 6, .i2l, .ladd, .bipush 96, .lsub, .lstore 7, .goto 120]),
  (120, [.lload 7, .lreturn])]
/-- BanksDealtModel.readPlain()Z -/
def P_170 : bk_P := [(0, [.aload 0, .getfield 4890, .ifCond .eq 13, .aload 0, .sipush 3, .invokestatic 1485513, .freturn]),
  (13, [.aload 0, .sipush 0, .invokestatic 1485577, .ifCond .eq 55, .aload 0, .sipush 2, .aload 0, .sipush 3, .sipush 6, .invokestatic 2009933, .invokestatic 2010061, .ifCond .eq 55, .aload 0, .sipush 3, .aload 0, .sipush 2, .sipush 6, .invokestatic 2009933, .invokestatic 2010061, .ifCond .eq 55, .sipush 1, .goto 56]),
  (55, [.sipush 0, .goto 56]),
  (56, [.freturn])]
/-- BanksDealtModel.bad(I)Z -/
def P_171 : bk_P := [(0, [.aload 0, .aload 0, .getfield 775, .sipush 1, .if_icmp .ne 13, .sipush 1, .goto 14]),
  (13, [.iload 1, .goto 14]),
  (14, [.putfield 778, .aload 0, .aload 0, .getfield 774, .putfield 779, .sipush 0, .freturn])]
/-- BanksDealtModel.isFresh(I)Z -/
def P_172 : bk_P := [(0, [.aload 0, .getfield 551703, .iload 1, .baload, .ifCond .eq 15, .aload 0, .sipush 3, .invokestatic 1485513, .freturn]),
  (15, [.aload 0, .getfield 551703, .iload 1, .sipush 1, .bastore, .aload 0, .invokestatic 960644, .sipush 1, .freturn])]
/-- BanksDealtModel.readBetween(II)Z -/
def P_173 : bk_P := [(0, [.aload 0, .iload 1, .iload 2, .invokestatic 2009997, .freturn])]
/-- BanksDealtModel.readNumber(II)Z -/
def P_174 : bk_P := [(0, [.aload 0, .getfield 775, .sipush 3, .if_icmp .eq 14, .aload 0, .sipush 1, .invokestatic 1485513, .freturn]),
  (14, [.aload 0, .getfield 776, .iload 1, .iload 2, .invokestatic 1582925, .ifCond .ne 32, .aload 0, .sipush 2, .invokestatic 1485513, .freturn]),
  (32, [.aload 0, .aload 0, .getfield 776, .putfield 781, .aload 0, .invokestatic 960644, .sipush 1, .freturn])]
/-- BanksDealtModel.put(IZ)Z -/
def P_175 : bk_P := [(0, [.iload 2, .ifCond .eq 14, .aload 0, .getfield 486159, .iload 1, .aload 0, .getfield 781, .iastore, .goto 14]),
  (14, [.iload 2, .freturn])]
/-- BanksDealtModel.readLand()Z -/
def P_176 : bk_P := [(0, [.aload 0, .invokestatic 960644, .aload 0, .invokestatic 961605, .ifCond .ne 13, .sipush 0, .freturn]),
  (13, [.aload 0, .getfield 781, .istore 1, .aload 0, .aload 0, .getfield 486159, .sipush 3, .iaload, .invokestatic 1485961, .ifCond .ne 33, .sipush 0, .freturn]),
  (33, [.sipush 6, .aload 0, .getfield 776, .imul, .iload 1, .iadd, .istore 2, .aload 0, .getfield 559896, .iload 2, .baload, .ifCond .eq 58, .aload 0, .sipush 3, .invokestatic 1485513, .freturn]),
  (58, [.aload 0, .getfield 559896, .iload 2, .sipush 1, .bastore, .aload 0, .invokestatic 960644, .aload 0, .sipush 6, .iload 2, .iadd, .aload 0, .sipush 0, .sipush 9, .invokestatic 2009997, .invokestatic 2010061, .freturn])]
/-- BanksDealtModel.readX()Z -/
def P_177 : bk_P := [(0, [.aload 0, .sipush 1, .putfield 4890, .aload 0, .sipush 0, .aload 0, .getfield 486159, .sipush 2, .iaload, .sipush 1, .isub, .invokestatic 2009997, .freturn])]
/-- BanksDealtModel.isBelow(I)Z -/
def P_178 : bk_P := [(0, [.aload 0, .getfield 775, .sipush 3, .if_icmp .eq 14, .aload 0, .sipush 1, .invokestatic 1485513, .freturn]),
  (14, [.aload 0, .getfield 776, .iload 1, .if_icmp .lt 30, .aload 0, .sipush 2, .invokestatic 1485513, .ifCond .eq 34, .goto 30]),
  (30, [.sipush 1, .goto 35]),
  (34, [.sipush 0, .goto 35]),
  (35, [.freturn])]
/-- BanksDealtModel.readField()Z -/
def P_179 : bk_P := [(0, [.aload 0, .sipush 0, .sipush 10, .invokestatic 2010381, .ifCond .ne 12, .sipush 0, .freturn]),
  (12, [.aload 0, .getfield 486159, .sipush 0, .iaload, .istore 1, .aload 0, .iload 1, .invokestatic 1486153, .ifCond .eq 55, .aload 0, .sipush 42, .iload 1, .iadd, .aload 0, .invokestatic 961605, .invokestatic 2010061, .ifCond .eq 55, .aload 0, .aload 0, .getfield 486159, .sipush 3, .iaload, .invokestatic 1485961, .ifCond .ne 57, .goto 55]),
  (55, [.sipush 0, .freturn]),
  (57, [.aload 0, .aload 0, .getfield 486159, .sipush 42, .iload 1, .iadd, .iaload, .aload 0, .getfield 776, .invokestatic 2010637, .ifCond .eq 83, .aload 0, .sipush 3, .invokestatic 1485513, .freturn]),
  (83, [.aload 0, .getfield 486159, .sipush 52, .iload 1, .iadd, .aload 0, .getfield 776, .iastore, .aload 0, .invokestatic 960644, .aload 0, .sipush 62, .iload 1, .iadd, .aload 0, .sipush 1, .sipush 20, .invokestatic 2009997, .invokestatic 2010061, .ifCond .ne 120, .sipush 0, .freturn]),
  (120, [.aload 0, .getfield 486159, .sipush 0, .dup2, .iaload, .sipush 1, .iadd, .iastore, .sipush 1, .freturn])]
/-- BanksDealtModel.readFirst(II)Z -/
def P_180 : bk_P := [(0, [.aload 0, .getfield 486159, .iload 1, .iaload, .iload 2, .if_icmp .ne 16, .aload 0, .sipush 4, .invokestatic 1485513, .freturn]),
  (16, [.aload 0, .invokestatic 960644, .sipush 1, .freturn])]
/-- BanksDealtModel.readNew(I)Z -/
def P_181 : bk_P := [(0, [.aload 0, .invokestatic 961925, .ifCond .ne 13, .aload 0, .sipush 1, .invokestatic 1485513, .freturn]),
  (13, [.aload 0, .getfield 527124, .sipush 0, .aload 0, .getfield 486159, .sipush 0, .iaload, .aload 0, .getfield 1804, .invokestatic 2633169, .sipush (-1), .if_icmp .ne 58, .aload 0, .getfield 527124, .sipush 10, .aload 0, .getfield 486159, .sipush 1, .iaload, .aload 0, .getfield 1804, .invokestatic 2633169, .sipush (-1), .if_icmp .eq 64, .goto 58]),
  (58, [.aload 0, .sipush 3, .invokestatic 1485513, .freturn]),
  (64, [.aload 0, .getfield 527124, .iload 1, .aload 0, .getfield 1804, .lastore, .aload 0, .invokestatic 960644, .sipush 1, .freturn])]
/-- BanksDealtModel.isName()Z -/
def P_182 : bk_P := [(0, [.aload 0, .getfield 775, .sipush 2, .if_icmp .eq 10, .sipush 0, .freturn]),
  (10, [.sipush 0, .istore 1, .goto 12]),
  (12, [.iload 1, .sipush 24, .if_icmp .gt 38, .aload 0, .getfield 1804, .iload 1, .invokestatic 535046, .lcmp, .ifCond .ne 32, .sipush 0, .freturn]),
  (32, [.iinc 1 (1), .goto 12]),
  (38, [.sipush 1, .freturn])]
/-- BanksDealtModel.findIn([JIIJ)I -/
def P_183 : bk_P := [(0, [.sipush 0, .istore 5, .goto 3]),
  (3, [.iload 5, .iload 2, .if_icmp .ge 29, .aload 0, .iload 1, .iload 5, .iadd, .laload, .lload 3, .lcmp, .ifCond .ne 23, .iload 5, .ireturn]),
  (23, [.iinc 5 (1), .goto 3]),
  (29, [.sipush (-1), .ireturn])]
/-- BanksDealtModel.isField(II)Z -/
def P_184 : bk_P := [(0, [.sipush 0, .istore 3, .goto 2]),
  (2, [.iload 3, .aload 0, .getfield 486159, .sipush 0, .iaload, .if_icmp .ge 46, .aload 0, .getfield 486159, .sipush 42, .iload 3, .iadd, .iaload, .iload 1, .if_icmp .ne 40, .aload 0, .getfield 486159, .sipush 52, .iload 3, .iadd, .iaload, .iload 2, .if_icmp .ne 40, .sipush 1, .freturn]),
  (40, [.iinc 3 (1), .goto 2]),
  (46, [.sipush 0, .freturn])]
/-- BanksDealtModel.readMill()Z -/
def P_185 : bk_P := [(0, [.aload 0, .sipush 1, .sipush 3, .invokestatic 2010381, .ifCond .ne 11, .sipush 0, .freturn]),
  (11, [.aload 0, .getfield 486159, .sipush 1, .iaload, .istore 1, .aload 0, .sipush 10, .iload 1, .iadd, .invokestatic 1486153, .ifCond .eq 68, .aload 0, .sipush 72, .iload 1, .iadd, .aload 0, .invokestatic 961605, .invokestatic 2010061, .ifCond .eq 68, .aload 0, .sipush 75, .iload 1, .iadd, .aload 0, .sipush 0, .aload 0, .getfield 486159, .sipush 3, .iaload, .sipush 1, .isub, .invokestatic 2009997, .invokestatic 2010061, .ifCond .ne 70, .goto 68]),
  (68, [.sipush 0, .freturn]),
  (70, [.aload 0, .getfield 486159, .sipush 1, .dup2, .iaload, .sipush 1, .iadd, .iastore, .sipush 1, .freturn])]
/-- BanksDealtModel.readPurse()Z -/
def P_186 : bk_P := [(0, [.aload 0, .invokestatic 960644, .aload 0, .invokestatic 962245, .ifCond .ne 17, .aload 0, .sipush 1, .invokestatic 1485513, .freturn]),
  (17, [.aload 0, .sipush 15, .invokestatic 1485257, .ifCond .eq 30, .sipush 0, .goto 31]),
  (30, [.sipush 1, .goto 31]),
  (31, [.istore 1, .aload 0, .sipush 3, .iload 1, .iadd, .invokestatic 1485577, .ifCond .eq 64, .aload 0, .sipush 78, .iload 1, .iadd, .aload 0, .sipush 0, .sipush 99, .invokestatic 2009997, .invokestatic 2010061, .ifCond .eq 64, .sipush 1, .goto 65]),
  (64, [.sipush 0, .goto 65]),
  (65, [.freturn])]
/-- BanksDealtModel.isSideHere()Z -/
def P_187 : bk_P := [(0, [.aload 0, .sipush 15, .invokestatic 1485257, .ifCond .ne 18, .aload 0, .sipush 16, .invokestatic 1485257, .ifCond .eq 22, .goto 18]),
  (18, [.sipush 1, .goto 23]),
  (22, [.sipush 0, .goto 23]),
  (23, [.freturn])]
/-- BanksDealtModel.readEnd()Z -/
def P_188 : bk_P := [(0, [.aload 0, .sipush 59, .invokestatic 1486665, .ifCond .ne 15, .aload 0, .sipush 1, .invokestatic 1485513, .freturn]),
  (15, [.aload 0, .invokestatic 960644, .sipush 1, .freturn])]
/-- BanksDealtModel.isSign(I)Z -/
def P_189 : bk_P := [(0, [.aload 0, .getfield 775, .sipush 4, .if_icmp .ne 20, .aload 0, .getfield 777, .iload 1, .if_icmp .ne 20, .sipush 1, .goto 21]),
  (20, [.sipush 0, .goto 21]),
  (21, [.freturn])]
/-- BanksDealtModel.fault()I -/
def P_190 : bk_P := [(0, [.aload 0, .sipush 0, .putfield 768, .aload 0, .getfield 778, .ireturn])]
/-- BanksDealtModel.field(II)I -/
def P_191 : bk_P := [(0, [.aload 0, .sipush 0, .putfield 768, .aload 0, .iload 1, .invokestatic 1486857, .ifCond .ne 18, .aload 0, .invokestatic 962629, .ireturn]),
  (18, [.iload 2, .tableswitch 99 0 4 #[52, 62, 72, 82, 88]]),
  (52, [.aload 0, .getfield 477966, .sipush 42, .iload 1, .iadd, .iaload, .ireturn]),
  (62, [.aload 0, .getfield 477966, .sipush 52, .iload 1, .iadd, .iaload, .ireturn]),
  (72, [.aload 0, .getfield 477966, .sipush 62, .iload 1, .iadd, .iaload, .ireturn]),
  (82, [.aload 0, .iload 1, .invokestatic 1486985, .ireturn]),
  (88, [.aload 0, .getfield 477966, .sipush 136, .iload 1, .iadd, .iaload, .ireturn]),
  (99, [.aload 0, .invokestatic 962629, .ireturn])]
/-- BanksDealtModel.isFieldAt(I)Z -/
def P_192 : bk_P := [(0, [.iload 1, .sipush 0, .aload 0, .getfield 477966, .sipush 0, .iaload, .sipush 1, .isub, .invokestatic 1582925, .freturn])]
/-- BanksDealtModel.refuse()I -/
def P_193 : bk_P := [(0, [.aload 0, .sipush 1, .putfield 768, .sipush 0, .ireturn])]
/-- BanksDealtModel.whose(I)I -/
def P_194 : bk_P := [(0, [.aload 0, .aload 0, .getfield 477966, .sipush 42, .iload 1, .iadd, .iaload, .aload 0, .getfield 477966, .sipush 52, .iload 1, .iadd, .iaload, .invokestatic 2011341, .ireturn])]
/-- BanksDealtModel.bankOf(II)I -/
def P_195 : bk_P := [(0, [.iload 1, .aload 0, .getfield 477966, .sipush 121, .iload 2, .iadd, .iaload, .invokestatic 1061129, .ireturn])]
/-- BanksDealtModel.sideOf(II)I -/
def P_196 : bk_P := [(0, [.iload 0, .iload 1, .if_icmp .ge 9, .sipush 0, .goto 19]),
  (9, [.iload 0, .iload 1, .if_icmp .le 18, .sipush 1, .goto 19]),
  (18, [.sipush 2, .goto 19]),
  (19, [.ireturn])]
/-- BanksDealtModel.mill(II)I -/
def P_197 : bk_P := [(0, [.aload 0, .sipush 0, .putfield 768, .aload 0, .iload 1, .invokestatic 1487241, .ifCond .ne 15, .sipush (-1), .ireturn]),
  (15, [.iload 2, .tableswitch 104 0 3 #[48, 58, 69, 93]]),
  (48, [.aload 0, .getfield 477966, .sipush 127, .iload 1, .iadd, .iaload, .ireturn]),
  (58, [.aload 0, .getfield 477966, .sipush 130, .iload 1, .iadd, .iaload, .ireturn]),
  (69, [.aload 0, .aload 0, .getfield 477966, .sipush 127, .iload 1, .iadd, .iaload, .aload 0, .getfield 477966, .sipush 130, .iload 1, .iadd, .iaload, .invokestatic 2011341, .ireturn]),
  (93, [.aload 0, .getfield 477966, .sipush 133, .iload 1, .iadd, .iaload, .ireturn]),
  (104, [.sipush (-1), .ireturn])]
/-- BanksDealtModel.isMill(I)Z -/
def P_198 : bk_P := [(0, [.iload 1, .sipush 0, .aload 0, .getfield 477966, .sipush 1, .iaload, .sipush 1, .isub, .invokestatic 1582925, .freturn])]
/-- BanksDealtModel.height(II)I -/
def P_199 : bk_P := [(0, [.aload 0, .sipush 0, .putfield 768, .aload 0, .iload 1, .iload 2, .invokestatic 2008845, .ifCond .eq 31, .aload 0, .getfield 477966, .sipush 85, .sipush 6, .iload 2, .imul, .iadd, .iload 1, .iadd, .iaload, .goto 32]),
  (31, [.sipush (-1), .goto 32]),
  (32, [.ireturn])]
/-- BanksDealtModel.bank(II)I -/
def P_200 : bk_P := [(0, [.aload 0, .sipush 0, .putfield 768, .aload 0, .iload 1, .iload 2, .invokestatic 2008845, .ifCond .eq 23, .aload 0, .iload 1, .iload 2, .invokestatic 2011341, .goto 24]),
  (23, [.sipush (-1), .goto 24]),
  (24, [.ireturn])]
/-- BanksDealtModel.bed(I)I -/
def P_201 : bk_P := [(0, [.aload 0, .sipush 0, .putfield 768, .aload 0, .iload 1, .invokestatic 1487497, .ifCond .eq 25, .aload 0, .getfield 477966, .sipush 121, .iload 1, .iadd, .iaload, .goto 26]),
  (25, [.sipush (-1), .goto 26]),
  (26, [.ireturn])]
/-- BanksDealtModel.isRow(I)Z -/
def P_202 : bk_P := [(0, [.iload 1, .sipush 0, .aload 0, .getfield 477966, .sipush 3, .iaload, .sipush 1, .isub, .invokestatic 1582925, .freturn])]
/-- BanksDealtModel.side(II)I -/
def P_203 : bk_P := [(0, [.aload 0, .sipush 0, .putfield 768, .iload 1, .sipush 0, .sipush 1, .invokestatic 1582925, .ifCond .ne 16, .sipush (-1), .ireturn]),
  (16, [.iload 2, .tableswitch 84 0 3 #[48, 58, 64, 74]]),
  (48, [.aload 0, .getfield 477966, .sipush 81, .iload 1, .iadd, .iaload, .ireturn]),
  (58, [.aload 0, .iload 1, .invokestatic 1487625, .ireturn]),
  (64, [.aload 0, .aload 0, .iload 1, .invokestatic 1487625, .invokestatic 1487689, .ireturn]),
  (74, [.aload 0, .getfield 477966, .sipush 83, .iload 1, .iadd, .iaload, .ireturn]),
  (84, [.sipush (-1), .ireturn])]
/-- BanksDealtModel.fieldsOf(I)I -/
def P_204 : bk_P := [(0, [.sipush 0, .istore 2, .sipush 0, .istore 3, .goto 4]),
  (4, [.iload 3, .aload 0, .getfield 477966, .sipush 0, .iaload, .if_icmp .ge 35, .aload 0, .iload 3, .invokestatic 1486985, .iload 1, .if_icmp .ne 29, .iload 2, .sipush 1, .iload 3, .ishl, .ior, .istore 2, .goto 29]),
  (29, [.iinc 3 (1), .goto 4]),
  (35, [.iload 2, .ireturn])]
/-- BanksDealtModel.worthOf(I)I -/
def P_205 : bk_P := [(0, [.sipush 0, .istore 2, .sipush 0, .istore 3, .goto 4]),
  (4, [.iload 3, .sipush 10, .if_icmp .ge 36, .iload 1, .iload 3, .invokestatic 1061769, .ifCond .eq 30, .iload 2, .aload 0, .getfield 477966, .sipush 62, .iload 3, .iadd, .iaload, .iadd, .istore 2, .goto 30]),
  (30, [.iinc 3 (1), .goto 4]),
  (36, [.iload 2, .ireturn])]
/-- BanksDealtModel.has(II)Z -/
def P_206 : bk_P := [(0, [.iload 0, .iload 1, .ishr, .sipush 1, .iand, .sipush 1, .if_icmp .ne 13, .sipush 1, .goto 14]),
  (13, [.sipush 0, .goto 14]),
  (14, [.freturn])]
/-- BanksDealtModel.now(I)I -/
def P_207 : bk_P := [(0, [.aload 0, .sipush 0, .putfield 768, .sipush 0, .istore 2, .iload 1, .tableswitch 178 0 4 #[44, 52, 58, 103, 149]]),
  (44, [.aload 0, .getfield 477966, .sipush 80, .iaload, .ireturn]),
  (52, [.aload 0, .sipush 2, .invokestatic 1487625, .ireturn]),
  (58, [.sipush 0, .istore 3, .goto 60]),
  (60, [.iload 3, .aload 0, .getfield 477966, .sipush 3, .iaload, .if_icmp .ge 101, .iload 2, .aload 0, .getfield 477966, .sipush 85, .sipush 6, .iload 3, .imul, .iadd, .aload 0, .getfield 477966, .sipush 121, .iload 3, .iadd, .iaload, .iadd, .iaload, .iadd, .istore 2, .iinc 3 (1), .goto 60]),
  (101, [.iload 2, .ireturn]),
  (103, [.sipush 1, .istore 3, .goto 105]),
  (105, [.iload 3, .aload 0, .getfield 477966, .sipush 3, .iaload, .if_icmp .ge 147, .aload 0, .getfield 477966, .sipush 121, .iload 3, .iadd, .iaload, .aload 0, .getfield 477966, .sipush 121, .iload 3, .iadd, .sipush 1, .isub, .iaload, .if_icmp .eq 141, .iinc 2 (1), .goto 141]),
  (141, [.iinc 3 (1), .goto 105]),
  (147, [.iload 2, .ireturn]),
  (149, [.sipush 0, .istore 3, .goto 151]),
  (151, [.iload 3, .sipush 10, .if_icmp .ge 176, .iload 2, .aload 0, .getfield 477966, .sipush 136, .iload 3, .iadd, .iaload, .iadd, .istore 2, .iinc 3 (1), .goto 151]),
  (176, [.iload 2, .ireturn]),
  (178, [.sipush (-1), .ireturn])]
/-- BanksDealtModel.dig(III)I -/
def P_208 : bk_P := [(0, [.aload 0, .sipush 0, .putfield 768, .iload 1, .sipush 0, .sipush 1, .invokestatic 1582925, .ifCond .eq 34, .aload 0, .iload 2, .iload 3, .invokestatic 2008845, .ifCond .eq 34, .aload 0, .sipush 0, .iload 1, .iload 2, .iload 3, .invokestatic 3060821, .goto 35]),
  (34, [.sipush (-1), .goto 35]),
  (35, [.ireturn])]
/-- BanksDealtModel.act(IIII)I -/
def P_209 : bk_P := [(0, [.aload 0, .iload 1, .iload 2, .iload 3, .iload 4, .invokestatic 3060885, .istore 5, .iload 5, .ifCond .eq 19, .iload 5, .ireturn]),
  (19, [.aload 0, .invokestatic 963908, .aload 0, .iload 1, .iload 2, .iload 3, .iload 4, .invokestatic 3061140, .sipush 0, .ireturn])]
/-- BanksDealtModel.why(IIII)I -/
def P_210 : bk_P := [(0, [.iload 1, .sipush 4, .if_icmp .ne 77, .aload 0, .getfield 477966, .sipush 127, .iload 2, .iadd, .iaload, .iload 3, .isub, .invokestatic 537797, .aload 0, .getfield 477966, .sipush 130, .iload 2, .iadd, .iaload, .iload 4, .isub, .invokestatic 537797, .iadd, .sipush 1, .if_icmp .eq 44, .sipush 1, .goto 76]),
  (44, [.aload 0, .aload 0, .getfield 477966, .sipush 127, .iload 2, .iadd, .iaload, .aload 0, .getfield 477966, .sipush 130, .iload 2, .iadd, .iaload, .invokestatic 2011341, .sipush 2, .if_icmp .ne 75, .sipush 2, .goto 76]),
  (75, [.sipush 0, .goto 76]),
  (76, [.ireturn]),
  (77, [.aload 0, .getfield 477966, .sipush 81, .iload 2, .iadd, .iaload, .ifCond .ne 93, .sipush 1, .goto 127]),
  (93, [.aload 0, .iload 3, .iload 4, .invokestatic 2011341, .sipush 1, .iload 2, .isub, .if_icmp .ne 110, .sipush 2, .goto 127]),
  (110, [.aload 0, .iload 1, .iload 2, .iload 3, .iload 4, .invokestatic 3061013, .ifCond .eq 126, .sipush 0, .goto 127]),
  (126, [.sipush 3, .goto 127]),
  (127, [.ireturn])]
/-- BanksDealtModel.size(I)I -/
def P_211 : bk_P := [(0, [.iload 0, .ifCond .ge 9, .iload 0, .ineg, .goto 10]),
  (9, [.iload 0, .goto 10]),
  (10, [.ireturn])]
/-- BanksDealtModel.mayWork(IIII)Z -/
def P_212 : bk_P := [(0, [.aload 0, .iload 3, .iload 4, .invokestatic 2011341, .sipush 1, .iload 2, .isub, .if_icmp .eq 45, .aload 0, .getfield 477966, .sipush 85, .sipush 6, .iload 4, .imul, .iadd, .iload 3, .iadd, .iaload, .iload 1, .ifCond .ne 36, .sipush 0, .goto 38]),
  (36, [.sipush 9, .goto 38]),
  (38, [.if_icmp .eq 45, .sipush 1, .goto 46]),
  (45, [.sipush 0, .goto 46]),
  (46, [.freturn])]
/-- BanksDealtModel.snap()V -/
def P_213 : bk_P := [(0, [.aload 0, .getfield 793, .sipush 8, .if_icmp .ne 49, .sipush 0, .istore 1, .goto 11]),
  (11, [.iload 1, .sipush 805, .if_icmp .ge 39, .aload 0, .getfield 502545, .iload 1, .aload 0, .getfield 502545, .iload 1, .sipush 115, .iadd, .iaload, .iastore, .iinc 1 (1), .goto 11]),
  (39, [.aload 0, .dup, .getfield 793, .sipush 1, .isub, .putfield 793, .goto 49]),
  (49, [.sipush 0, .istore 1, .goto 51]),
  (51, [.iload 1, .sipush 115, .if_icmp .ge 86, .aload 0, .getfield 502545, .sipush 115, .aload 0, .getfield 793, .imul, .iload 1, .iadd, .aload 0, .getfield 477966, .sipush 80, .iload 1, .iadd, .iaload, .iastore, .iinc 1 (1), .goto 51]),
  (86, [.aload 0, .dup, .getfield 793, .sipush 1, .iadd, .putfield 793, .return_])]
/-- BanksDealtModel.live(IIII)V -/
def P_214 : bk_P := [(0, [.iload 1, .sipush 4, .if_icmp .ne 42, .aload 0, .getfield 477966, .sipush 127, .iload 2, .dadd, .iload 3, .iastore, .aload 0, .getfield 477966, .sipush 130, .iload 2, .dadd, .iload 4, .iastore, .aload 0, .getfield 477966, .sipush 133, .iload 2, .dadd, .dup2, .iaload, .sipush 1, .dadd, .iastore, .return_]),
  (42, [.aload 0, .getfield 477966, .sipush 81, .iload 2, .dadd, .dup2, .iaload, .sipush 1, .isub, .iastore, .aload 0, .getfield 477966, .sipush 83, .iload 2, .dadd, .dup2, .iaload, .sipush 1, .dadd, .iastore, .aload 0, .getfield 477966, .sipush 85, .sipush 6, .iload 4, .imul, .dadd, .iload 3, .dadd, .dup2, .iaload, .iload 1, .ifCond .ne 92, .sipush (-1), .goto 93]),
  (92, [.sipush 1, .goto 93]),
  (93, [.dadd, .iastore, .return_])]
/-- BanksDealtModel.lay(III)I -/
def P_215 : bk_P := [(0, [.aload 0, .sipush 0, .putfield 768, .iload 1, .sipush 0, .sipush 1, .invokestatic 1582925, .ifCond .eq 34, .aload 0, .iload 2, .iload 3, .invokestatic 2008845, .ifCond .eq 34, .aload 0, .sipush 1, .iload 1, .iload 2, .iload 3, .invokestatic 3060821, .goto 35]),
  (34, [.sipush (-1), .goto 35]),
  (35, [.ireturn])]
/-- BanksDealtModel.roll(III)I -/
def P_216 : bk_P := [(0, [.aload 0, .sipush 0, .putfield 768, .aload 0, .iload 1, .invokestatic 1487241, .ifCond .eq 33, .aload 0, .iload 2, .iload 3, .invokestatic 2008845, .ifCond .eq 33, .aload 0, .sipush 4, .iload 1, .iload 2, .iload 3, .invokestatic 3060821, .goto 34]),
  (33, [.sipush (-1), .goto 34]),
  (34, [.ireturn])]
/-- BanksDealtModel.undo()I -/
def P_217 : bk_P := [(0, [.aload 0, .sipush 0, .putfield 768, .aload 0, .getfield 793, .ifCond .ne 14, .sipush (-1), .ireturn]),
  (14, [.aload 0, .dup, .getfield 793, .sipush 1, .isub, .putfield 793, .sipush 0, .istore 1, .goto 26]),
  (26, [.iload 1, .sipush 115, .if_icmp .ge 61, .aload 0, .getfield 477966, .sipush 80, .iload 1, .iadd, .aload 0, .getfield 502545, .sipush 115, .aload 0, .getfield 793, .imul, .iload 1, .iadd, .iaload, .iastore, .iinc 1 (1), .goto 26]),
  (61, [.aload 0, .getfield 793, .ireturn])]
/-- BanksDealtModel.spring(I)I -/
def P_218 : bk_P := [(0, [.aload 0, .sipush 0, .putfield 768, .aload 0, .getfield 477966, .sipush 80, .iaload, .sipush 400, .if_icmp .ne 20, .sipush (-1), .ireturn]),
  (20, [.aload 0, .invokestatic 963908, .aload 0, .iload 1, .putfield 798, .aload 0, .invokestatic 964293, .ireturn])]
/-- BanksDealtModel.oneSpring()I -/
def P_219 : bk_P := [(0, [.sipush 0, .istore 1, .goto 2]),
  (2, [.iload 1, .aload 0, .getfield 477966, .sipush 3, .iaload, .if_icmp .ge 59, .sipush 0, .istore 2, .goto 14]),
  (14, [.iload 2, .aload 0, .getfield 477966, .sipush 2, .iaload, .if_icmp .ge 53, .aload 0, .getfield 568091, .sipush 6, .iload 1, .imul, .iload 2, .iadd, .aload 0, .aload 0, .getfield 477966, .sipush 5, .iaload, .sipush 1, .iadd, .invokestatic 1488649, .iastore, .iinc 2 (1), .goto 14]),
  (53, [.iinc 1 (1), .goto 2]),
  (59, [.aload 0, .invokestatic 960069, .pop, .aload 0, .invokestatic 960004, .aload 0, .invokestatic 964420, .sipush 0, .istore 1, .sipush 0, .istore 2, .goto 76]),
  (76, [.iload 2, .aload 0, .getfield 477966, .sipush 0, .iaload, .if_icmp .ge 125, .aload 0, .iload 2, .invokestatic 1486985, .aload 0, .iload 2, .invokestatic 1488777, .if_icmp .ne 102, .goto 119]),
  (102, [.aload 0, .getfield 477966, .sipush 136, .iload 2, .iadd, .dup2, .iaload, .sipush 1, .iadd, .iastore, .iinc 1 (1), .goto 119]),
  (119, [.iinc 2 (1), .goto 76]),
  (125, [.sipush 0, .istore 2, .goto 127]),
  (127, [.iload 2, .aload 0, .getfield 477966, .sipush 3, .iaload, .if_icmp .ge 158, .aload 0, .getfield 477966, .sipush 121, .iload 2, .iadd, .aload 0, .getfield 584477, .iload 2, .iaload, .iastore, .iinc 2 (1), .goto 127]),
  (158, [.aload 0, .sipush 0, .invokestatic 1488840, .aload 0, .sipush 1, .invokestatic 1488840, .aload 0, .getfield 477966, .sipush 80, .dup2, .iaload, .sipush 1, .iadd, .iastore, .iload 1, .ireturn])]
/-- BanksDealtModel.draw(I)I -/
def P_220 : bk_P := [(0, [.aload 0, .aload 0, .getfield 798, .sipush 1103515245, .dmul, .sipush 12345, .dadd, .putfield 798, .aload 0, .getfield 798, .sipush 8, .iushr, .iload 1, .irem, .ireturn])]
/-- BanksDealtModel.keepPast()V -/
def P_221 : bk_P := [(0, [.sipush 47, .istore 1, .goto 3]),
  (3, [.iload 1, .sipush 6, .if_icmp .lt 38, .aload 0, .getfield 477966, .sipush 146, .iload 1, .iadd, .aload 0, .getfield 477966, .sipush 146, .iload 1, .iadd, .sipush 6, .isub, .iaload, .iastore, .iinc 1 (-1), .goto 3]),
  (38, [.sipush 0, .istore 1, .goto 40]),
  (40, [.iload 1, .sipush 6, .if_icmp .ge 71, .aload 0, .getfield 477966, .sipush 146, .iload 1, .iadd, .aload 0, .getfield 477966, .sipush 121, .iload 1, .iadd, .iaload, .iastore, .iinc 1 (1), .goto 40]),
  (71, [.aload 0, .getfield 477966, .sipush 194, .iaload, .sipush 8, .if_icmp .ge 96, .aload 0, .getfield 477966, .sipush 194, .dup2, .iaload, .sipush 1, .iadd, .iastore, .goto 96]),
  (96, [.return_])]
/-- BanksDealtModel.whoseByBest(I)I -/
def P_222 : bk_P := [(0, [.aload 0, .getfield 477966, .sipush 42, .iload 1, .iadd, .iaload, .aload 0, .getfield 584477, .aload 0, .getfield 477966, .sipush 52, .iload 1, .iadd, .iaload, .iaload, .invokestatic 1061129, .ireturn])]
/-- BanksDealtModel.earns(I)V -/
def P_223 : bk_P := [(0, [.aload 0, .aload 0, .iload 1, .invokestatic 1487625, .invokestatic 1487689, .sipush 4, .idiv, .istore 2, .sipush 0, .istore 3, .goto 14]),
  (14, [.iload 3, .aload 0, .getfield 477966, .sipush 1, .iaload, .if_icmp .ge 60, .aload 0, .aload 0, .getfield 477966, .sipush 127, .iload 3, .iadd, .iaload, .aload 0, .getfield 477966, .sipush 130, .iload 3, .iadd, .iaload, .invokestatic 2011341, .iload 1, .if_icmp .ne 54, .iinc 2 (2), .goto 54]),
  (54, [.iinc 3 (1), .goto 14]),
  (60, [.aload 0, .getfield 477966, .sipush 81, .iload 1, .iadd, .sipush 999, .aload 0, .getfield 477966, .sipush 81, .iload 1, .iadd, .iaload, .iload 2, .iadd, .invokestatic 1058697, .iastore, .return_])]
/-- BanksDealtModel.years(II)I -/
def P_224 : bk_P := [(0, [.aload 0, .sipush 0, .putfield 768, .iload 1, .sipush 1, .sipush 30, .invokestatic 1582925, .ifCond .ne 17, .sipush (-1), .ireturn]),
  (17, [.aload 0, .getfield 477966, .sipush 80, .iaload, .sipush 400, .if_icmp .ne 32, .sipush 0, .ireturn]),
  (32, [.aload 0, .invokestatic 963908, .aload 0, .iload 1, .iload 2, .invokestatic 2013261, .ireturn])]
/-- BanksDealtModel.passYears(II)I -/
def P_225 : bk_P := [(0, [.aload 0, .iload 2, .putfield 798, .iload 1, .sipush 400, .aload 0, .getfield 477966, .sipush 80, .iaload, .isub, .invokestatic 1058697, .istore 3, .sipush 0, .istore 4, .goto 24]),
  (24, [.iload 4, .iload 3, .if_icmp .ge 41, .aload 0, .invokestatic 964293, .pop, .iinc 4 (1), .goto 24]),
  (41, [.iload 3, .ireturn])]
/-- BanksDealtModel.ago(II)I -/
def P_226 : bk_P := [(0, [.aload 0, .sipush 0, .putfield 768, .iload 1, .sipush 1, .aload 0, .getfield 477966, .sipush 194, .iaload, .invokestatic 1582925, .ifCond .eq 49, .aload 0, .iload 2, .invokestatic 1487497, .ifCond .eq 49, .aload 0, .getfield 477966, .sipush 146, .sipush 6, .iload 1, .sipush 1, .isub, .imul, .iadd, .iload 2, .iadd, .iaload, .goto 50]),
  (49, [.sipush (-1), .goto 50]),
  (50, [.ireturn])]
/-- BanksDealtModel.would()I -/
def P_227 : bk_P := [(0, [.aload 0, .sipush 0, .putfield 768, .aload 0, .invokestatic 960069, .ireturn])]
/-- BanksDealtModel.wouldAt(I)I -/
def P_228 : bk_P := [(0, [.aload 0, .sipush 0, .putfield 768, .aload 0, .iload 1, .invokestatic 1487497, .ifCond .ne 15, .sipush (-1), .ireturn]),
  (15, [.aload 0, .invokestatic 960069, .pop, .aload 0, .getfield 584477, .iload 1, .iaload, .ireturn])]
/-- BanksDealtModel.wouldBe(I)I -/
def P_229 : bk_P := [(0, [.aload 0, .sipush 0, .putfield 768, .iload 1, .sipush 0, .sipush 2, .invokestatic 1582925, .ifCond .ne 16, .sipush (-1), .ireturn]),
  (16, [.aload 0, .invokestatic 960069, .pop, .aload 0, .iload 1, .invokestatic 1489289, .ireturn])]
/-- BanksDealtModel.fieldsByBest(I)I -/
def P_230 : bk_P := [(0, [.sipush 0, .istore 2, .sipush 0, .istore 3, .goto 4]),
  (4, [.iload 3, .aload 0, .getfield 477966, .sipush 0, .iaload, .if_icmp .ge 35, .aload 0, .iload 3, .invokestatic 1488777, .iload 1, .if_icmp .ne 29, .iload 2, .sipush 1, .iload 3, .ishl, .ior, .istore 2, .goto 29]),
  (29, [.iinc 3 (1), .goto 4]),
  (35, [.iload 2, .ireturn])]
/-- BanksDealtModel.tempted(III)I -/
def P_231 : bk_P := [(0, [.aload 0, .sipush 0, .putfield 768, .aload 0, .iload 1, .invokestatic 1486857, .ifCond .eq 31, .iload 2, .sipush 0, .sipush 1, .invokestatic 1582925, .ifCond .eq 31, .iload 3, .sipush 0, .sipush 1, .invokestatic 1582925, .ifCond .ne 33, .goto 31]),
  (31, [.sipush (-1), .ireturn]),
  (33, [.sipush 0, .istore 4, .goto 36]),
  (36, [.iload 4, .sipush 3, .if_icmp .gt 104, .aload 0, .sipush 0, .iload 4, .sipush 0, .iload 1, .iload 2, .iload 3, .invokestatic 4110877, .ifCond .ne 59, .goto 98]),
  (59, [.aload 0, .iload 4, .putfield 801, .sipush 0, .istore 5, .goto 68]),
  (68, [.iload 5, .iload 4, .if_icmp .ge 95, .aload 0, .getfield 600864, .iload 5, .aload 0, .getfield 592671, .iload 5, .iaload, .iastore, .iinc 5 (1), .goto 68]),
  (95, [.iload 4, .ireturn]),
  (98, [.iinc 4 (1), .goto 36]),
  (104, [.sipush (-1), .ireturn])]
/-- BanksDealtModel.tempts(IIIIII)Z -/
def P_232 : bk_P := [(0, [.iload 1, .iload 2, .if_icmp .ne 27, .aload 0, .invokestatic 960069, .pop, .aload 0, .iload 4, .invokestatic 1488777, .iload 5, .if_icmp .ne 25, .sipush 1, .goto 26]),
  (25, [.sipush 0, .goto 26]),
  (26, [.freturn]),
  (27, [.iload 3, .istore 7, .goto 30]),
  (30, [.iload 7, .sipush 36, .if_icmp .ge 163, .iload 7, .sipush 6, .irem, .istore 8, .iload 7, .sipush 6, .idiv, .istore 9, .aload 0, .iload 8, .iload 9, .invokestatic 2008845, .ifCond .eq 157, .aload 0, .iload 6, .iload 5, .iload 8, .iload 9, .invokestatic 3061013, .ifCond .ne 80, .goto 157]),
  (80, [.iload 6, .ifCond .ne 89, .sipush (-1), .goto 90]),
  (89, [.sipush 1, .goto 90]),
  (90, [.istore 10, .aload 0, .getfield 477966, .sipush 85, .iload 7, .iadd, .dup2, .iaload, .iload 10, .iadd, .iastore, .aload 0, .getfield 592671, .iload 1, .iload 7, .iastore, .aload 0, .iload 1, .sipush 1, .iadd, .iload 2, .iload 7, .sipush 1, .iadd, .iload 4, .iload 5, .iload 6, .invokestatic 4110877, .istore 11, .aload 0, .getfield 477966, .sipush 85, .iload 7, .iadd, .dup2, .iaload, .iload 10, .isub, .iastore, .iload 11, .ifCond .eq 157, .sipush 1, .freturn]),
  (157, [.iinc 7 (1), .goto 30]),
  (163, [.sipush 0, .freturn])]
/-- BanksDealtModel.temptedAt(I)I -/
def P_233 : bk_P := [(0, [.aload 0, .sipush 0, .putfield 768, .iload 1, .sipush 0, .aload 0, .getfield 801, .sipush 1, .isub, .invokestatic 1582925, .ifCond .eq 28, .aload 0, .getfield 600864, .iload 1, .iaload, .goto 29]),
  (28, [.sipush (-1), .goto 29]),
  (29, [.ireturn])]
/-- BanksDealtModel.duel(I)I -/
def P_234 : bk_P := [(0, [.aload 0, .sipush 0, .putfield 768, .iload 1, .sipush 0, .sipush 1, .invokestatic 1582925, .ifCond .ne 19, .aload 0, .invokestatic 962629, .ireturn]),
  (19, [.aload 0, .iload 1, .invokestatic 1489609, .istore 2, .aload 0, .getfield 609058, .sipush 0, .sipush (-2), .iastore, .aload 0, .getfield 609058, .sipush 1, .aload 0, .getfield 804, .iastore, .aload 0, .sipush 1, .putfield 4899, .aload 0, .getfield 477966, .sipush 81, .iload 1, .iadd, .iaload, .ifCond .ne 62, .iload 2, .ireturn]),
  (62, [.sipush 0, .istore 3, .goto 64]),
  (64, [.iload 3, .sipush 72, .if_icmp .ge 162, .aload 0, .iload 3, .iload 1, .invokestatic 2014029, .ifCond .ne 82, .goto 156]),
  (82, [.aload 0, .getfield 477966, .sipush 85, .iload 3, .sipush 36, .irem, .iadd, .dup2, .iaload, .iload 3, .invokestatic 539525, .iadd, .iastore, .aload 0, .iload 1, .invokestatic 1489609, .istore 4, .aload 0, .getfield 477966, .sipush 85, .iload 3, .sipush 36, .irem, .iadd, .dup2, .iaload, .iload 3, .invokestatic 539525, .isub, .iastore, .iload 4, .iload 2, .if_icmp .gt 136, .goto 156]),
  (136, [.iload 4, .istore 2, .aload 0, .getfield 609058, .sipush 0, .iload 3, .iastore, .aload 0, .getfield 609058, .sipush 1, .aload 0, .getfield 804, .iastore, .goto 156]),
  (156, [.iinc 3 (1), .goto 64]),
  (162, [.iload 2, .ireturn])]
/-- BanksDealtModel.answered(I)I -/
def P_235 : bk_P := [(0, [.aload 0, .iload 1, .invokestatic 1489673, .istore 2, .aload 0, .sipush (-2), .putfield 804, .aload 0, .getfield 477966, .sipush 82, .iload 1, .isub, .iaload, .ifCond .ne 26, .iload 2, .ireturn]),
  (26, [.sipush 0, .istore 3, .goto 28]),
  (28, [.iload 3, .sipush 72, .if_icmp .ge 116, .aload 0, .iload 3, .sipush 1, .iload 1, .isub, .invokestatic 2014029, .ifCond .ne 48, .goto 110]),
  (48, [.aload 0, .getfield 477966, .sipush 85, .iload 3, .sipush 36, .irem, .iadd, .dup2, .iaload, .iload 3, .invokestatic 539525, .iadd, .iastore, .aload 0, .iload 1, .invokestatic 1489673, .istore 4, .aload 0, .getfield 477966, .sipush 85, .iload 3, .sipush 36, .irem, .iadd, .dup2, .iaload, .iload 3, .invokestatic 539525, .isub, .iastore, .iload 4, .iload 2, .if_icmp .lt 102, .goto 110]),
  (102, [.iload 4, .istore 2, .aload 0, .iload 3, .putfield 804, .goto 110]),
  (110, [.iinc 3 (1), .goto 28]),
  (116, [.iload 2, .ireturn])]
/-- BanksDealtModel.edge(I)I -/
def P_236 : bk_P := [(0, [.aload 0, .invokestatic 960069, .pop, .aload 0, .aload 0, .iload 1, .invokestatic 1489289, .invokestatic 1487689, .aload 0, .aload 0, .sipush 1, .iload 1, .isub, .invokestatic 1489289, .invokestatic 1487689, .isub, .ireturn])]
/-- BanksDealtModel.mayCode(II)Z -/
def P_237 : bk_P := [(0, [.iload 1, .sipush 36, .irem, .istore 3, .aload 0, .iload 3, .sipush 6, .irem, .iload 3, .sipush 6, .idiv, .invokestatic 2008845, .ifCond .eq 44, .aload 0, .iload 1, .sipush 36, .idiv, .iload 2, .iload 3, .sipush 6, .irem, .iload 3, .sipush 6, .idiv, .invokestatic 3061013, .ifCond .eq 44, .sipush 1, .goto 45]),
  (44, [.sipush 0, .goto 45]),
  (45, [.freturn])]
/-- BanksDealtModel.byCode(I)I -/
def P_238 : bk_P := [(0, [.iload 0, .sipush 36, .if_icmp .ge 10, .sipush (-1), .goto 11]),
  (10, [.sipush 1, .goto 11]),
  (11, [.ireturn])]
/-- BanksDealtModel.duelAt(I)I -/
def P_239 : bk_P := [(0, [.aload 0, .sipush 0, .putfield 768, .aload 0, .getfield 4899, .ifCond .eq 30, .iload 1, .sipush 0, .sipush 1, .invokestatic 1582925, .ifCond .eq 30, .aload 0, .getfield 609058, .iload 1, .iaload, .goto 31]),
  (30, [.sipush (-1), .goto 31]),
  (31, [.ireturn])]
/-- BanksDealtModel.pushed(II)I -/
def P_240 : bk_P := [(0, [.aload 0, .sipush 0, .putfield 768, .iload 1, .sipush 0, .sipush 1, .invokestatic 1582925, .ifCond .eq 23, .iload 2, .sipush 0, .sipush 2, .invokestatic 1582925, .ifCond .ne 25, .goto 23]),
  (23, [.sipush (-1), .ireturn]),
  (25, [.aload 0, .sipush (-1), .putfield 808, .sipush 0, .istore 3, .goto 32]),
  (32, [.iload 3, .iload 2, .if_icmp .gt 51, .aload 0, .sipush 0, .iload 3, .sipush 0, .iload 1, .invokestatic 3062868, .iinc 3 (1), .goto 32]),
  (51, [.aload 0, .getfield 808, .ireturn])]
/-- BanksDealtModel.pushFrom(IIII)V -/
def P_241 : bk_P := [(0, [.iload 1, .iload 2, .if_icmp .ne 73, .aload 0, .invokestatic 960069, .pop, .aload 0, .aload 0, .iload 4, .invokestatic 1489289, .invokestatic 1487689, .istore 5, .iload 5, .aload 0, .getfield 808, .if_icmp .gt 32, .return_]),
  (32, [.aload 0, .iload 5, .putfield 808, .aload 0, .iload 2, .putfield 807, .sipush 0, .istore 6, .goto 46]),
  (46, [.iload 6, .iload 2, .if_icmp .ge 72, .aload 0, .getfield 625446, .iload 6, .aload 0, .getfield 617253, .iload 6, .iaload, .iastore, .iinc 6 (1), .goto 46]),
  (72, [.return_]),
  (73, [.iload 3, .istore 5, .goto 76]),
  (76, [.iload 5, .sipush 72, .if_icmp .ge 188, .iload 1, .ifCond .le 104, .iload 5, .sipush 36, .irem, .aload 0, .getfield 617253, .sipush 0, .iaload, .sipush 36, .irem, .if_icmp .eq 182, .goto 104]),
  (104, [.aload 0, .iload 5, .iload 4, .invokestatic 2014029, .ifCond .ne 118, .goto 182]),
  (118, [.aload 0, .getfield 477966, .sipush 85, .iload 5, .sipush 36, .irem, .iadd, .dup2, .iaload, .iload 5, .invokestatic 539525, .iadd, .iastore, .aload 0, .getfield 617253, .iload 1, .iload 5, .iastore, .aload 0, .iload 1, .sipush 1, .iadd, .iload 2, .iload 5, .sipush 1, .iadd, .iload 4, .invokestatic 3062868, .aload 0, .getfield 477966, .sipush 85, .iload 5, .sipush 36, .irem, .iadd, .dup2, .iaload, .iload 5, .invokestatic 539525, .isub, .iastore, .goto 182]),
  (182, [.iinc 5 (1), .goto 76]),
  (188, [.return_])]
/-- BanksDealtModel.pushedAt(I)I -/
def P_242 : bk_P := [(0, [.aload 0, .sipush 0, .putfield 768, .iload 1, .sipush 0, .aload 0, .getfield 807, .sipush 1, .isub, .invokestatic 1582925, .ifCond .eq 28, .aload 0, .getfield 625446, .iload 1, .iaload, .goto 29]),
  (28, [.sipush (-1), .goto 29]),
  (29, [.ireturn])]
/-- BanksDealtModel.shares(IIII)I -/
def P_243 : bk_P := [(0, [.aload 0, .sipush 0, .putfield 768, .iload 1, .sipush 0, .sipush 1, .invokestatic 1582925, .ifCond .eq 34, .iload 2, .sipush 1, .sipush 10, .invokestatic 1582925, .ifCond .eq 34, .iload 3, .sipush 1, .sipush 30, .invokestatic 1582925, .ifCond .ne 36, .goto 34]),
  (34, [.sipush (-1), .ireturn]),
  (36, [.aload 0, .invokestatic 965892, .sipush 0, .istore 5, .sipush 0, .istore 6, .goto 46]),
  (46, [.iload 6, .iload 3, .if_icmp .ge 118, .aload 0, .iload 4, .iload 6, .dadd, .putfield 798, .sipush 0, .istore 7, .goto 64]),
  (64, [.iload 7, .iload 2, .if_icmp .ge 108, .aload 0, .getfield 477966, .sipush 80, .iaload, .sipush 400, .if_icmp .ge 108, .aload 0, .invokestatic 964293, .pop, .iload 5, .aload 0, .aload 0, .iload 1, .invokestatic 1487625, .invokestatic 1487689, .dadd, .istore 5, .iinc 7 (1), .goto 64]),
  (108, [.aload 0, .invokestatic 965956, .iinc 6 (1), .goto 46]),
  (118, [.iload 5, .ireturn])]
/-- BanksDealtModel.layAside()V -/
def P_244 : bk_P := [(0, [.sipush 0, .istore 1, .goto 2]),
  (2, [.iload 1, .sipush 115, .if_icmp .ge 29, .aload 0, .getfield 510738, .iload 1, .aload 0, .getfield 477966, .sipush 80, .iload 1, .iadd, .iaload, .iastore, .iinc 1 (1), .goto 2]),
  (29, [.return_])]
/-- BanksDealtModel.takeBack()V -/
def P_245 : bk_P := [(0, [.sipush 0, .istore 1, .goto 2]),
  (2, [.iload 1, .sipush 115, .if_icmp .ge 29, .aload 0, .getfield 477966, .sipush 80, .iload 1, .iadd, .aload 0, .getfield 510738, .iload 1, .iaload, .iastore, .iinc 1 (1), .goto 2]),
  (29, [.return_])]
/-- BanksDealtModel.odds(IIIII)I -/
def P_246 : bk_P := [(0, [.aload 0, .sipush 0, .putfield 768, .aload 0, .iload 1, .invokestatic 1486857, .ifCond .eq 43, .iload 2, .sipush 0, .sipush 2, .invokestatic 1582925, .ifCond .eq 43, .iload 3, .sipush 1, .sipush 10, .invokestatic 1582925, .ifCond .eq 43, .iload 4, .sipush 1, .sipush 30, .invokestatic 1582925, .ifCond .ne 45, .goto 43]),
  (43, [.sipush (-1), .ireturn]),
  (45, [.aload 0, .invokestatic 965892, .sipush 0, .istore 6, .sipush 0, .istore 7, .goto 55]),
  (55, [.iload 7, .iload 4, .if_icmp .ge 95, .aload 0, .iload 3, .iload 5, .iload 7, .dadd, .invokestatic 2013261, .pop, .aload 0, .iload 1, .invokestatic 1486985, .iload 2, .if_icmp .ne 85, .iinc 6 (1), .goto 85]),
  (85, [.aload 0, .invokestatic 965956, .iinc 7 (1), .goto 55]),
  (95, [.iload 6, .ireturn])]
/-- BanksDealtModel.ran()I -/
def P_247 : bk_P := [(0, [.aload 0, .sipush 0, .putfield 768, .aload 0, .invokestatic 960581, .istore 1, .iload 1, .sipush 2, .irem, .ifCond .ne 28, .iload 1, .sipush 2, .idiv, .sipush 1, .sipush 10, .invokestatic 1582925, .ifCond .ne 30, .goto 28]),
  (28, [.sipush (-1), .ireturn]),
  (30, [.sipush 0, .istore 2, .goto 32]),
  (32, [.iload 2, .iload 1, .if_icmp .ge 70, .aload 0, .aload 0, .getfield 469761, .iload 2, .iaload, .invokestatic 1486857, .ifCond .eq 62, .aload 0, .getfield 469761, .iload 2, .sipush 1, .iadd, .iaload, .sipush 2, .if_icmp .le 64, .goto 62]),
  (62, [.sipush (-1), .ireturn]),
  (64, [.iinc 2 (2), .goto 32]),
  (70, [.aload 0, .sipush 0, .putfield 813, .sipush 0, .istore 2, .goto 77]),
  (77, [.iload 2, .sipush 6, .if_icmp .ge 113, .aload 0, .getfield 658222, .iload 2, .aload 0, .getfield 641834, .iload 2, .iaload, .iastore, .aload 0, .getfield 666415, .iload 2, .aload 0, .getfield 650027, .iload 2, .iaload, .iastore, .iinc 2 (1), .goto 77]),
  (113, [.aload 0, .sipush 0, .iload 1, .invokestatic 2014732, .aload 0, .getfield 813, .ifCond .le 136, .aload 0, .aload 0, .getfield 477966, .sipush 3, .iaload, .putfield 812, .goto 136]),
  (136, [.sipush 0, .istore 2, .goto 138]),
  (138, [.iload 2, .sipush 6, .if_icmp .ge 181, .aload 0, .getfield 813, .ifCond .ne 181, .aload 0, .getfield 641834, .iload 2, .aload 0, .getfield 658222, .iload 2, .iaload, .iastore, .aload 0, .getfield 650027, .iload 2, .aload 0, .getfield 666415, .iload 2, .iaload, .iastore, .iinc 2 (1), .goto 138]),
  (181, [.aload 0, .getfield 813, .ireturn])]
/-- BanksDealtModel.runFrom(II)V -/
def P_248 : bk_P := [(0, [.iload 1, .aload 0, .getfield 477966, .sipush 3, .iaload, .if_icmp .ne 96, .aload 0, .dup, .getfield 813, .sipush 1, .iadd, .putfield 813, .sipush 0, .istore 3, .goto 22]),
  (22, [.iload 3, .iload 1, .if_icmp .ge 95, .aload 0, .getfield 813, .sipush 1, .if_icmp .ne 47, .aload 0, .getfield 641834, .iload 3, .aload 0, .getfield 633641, .iload 3, .iaload, .iastore, .goto 47]),
  (47, [.aload 0, .getfield 813, .sipush 1, .if_icmp .ne 67, .aload 0, .getfield 650027, .iload 3, .aload 0, .getfield 633641, .iload 3, .iaload, .iastore, .goto 67]),
  (67, [.aload 0, .getfield 650027, .iload 3, .iaload, .aload 0, .getfield 633641, .iload 3, .iaload, .if_icmp .eq 89, .aload 0, .getfield 650027, .iload 3, .sipush (-1), .iastore, .goto 89]),
  (89, [.iinc 3 (1), .goto 22]),
  (95, [.return_]),
  (96, [.iload 1, .ifCond .ne 104, .sipush 0, .goto 114]),
  (104, [.aload 0, .getfield 633641, .iload 1, .sipush 1, .isub, .iaload, .sipush 1, .isub, .goto 114]),
  (114, [.istore 3, .iload 1, .ifCond .ne 130, .aload 0, .getfield 477966, .sipush 2, .iaload, .sipush 1, .isub, .goto 140]),
  (130, [.aload 0, .getfield 633641, .iload 1, .sipush 1, .isub, .iaload, .sipush 1, .iadd, .goto 140]),
  (140, [.istore 4, .iload 3, .istore 5, .goto 145]),
  (145, [.iload 5, .iload 4, .if_icmp .gt 198, .aload 0, .iload 5, .iload 1, .invokestatic 2008845, .ifCond .eq 192, .aload 0, .iload 1, .iload 5, .iload 2, .invokestatic 2539089, .ifCond .ne 176, .goto 192]),
  (176, [.aload 0, .getfield 633641, .iload 1, .iload 5, .iastore, .aload 0, .iload 1, .sipush 1, .iadd, .iload 2, .invokestatic 2014732, .goto 192]),
  (192, [.iinc 5 (1), .goto 145]),
  (198, [.return_])]
/-- BanksDealtModel.rowFits(III)Z -/
def P_249 : bk_P := [(0, [.sipush 0, .istore 4, .goto 3]),
  (3, [.iload 4, .iload 3, .if_icmp .ge 67, .aload 0, .getfield 477966, .sipush 52, .aload 0, .getfield 469761, .iload 4, .iaload, .iadd, .iaload, .iload 1, .if_icmp .ne 61, .aload 0, .getfield 477966, .sipush 42, .aload 0, .getfield 469761, .iload 4, .iaload, .iadd, .iaload, .iload 2, .invokestatic 1061129, .aload 0, .getfield 469761, .iload 4, .sipush 1, .iadd, .iaload, .if_icmp .eq 61, .sipush 0, .freturn]),
  (61, [.iinc 4 (2), .goto 3]),
  (67, [.sipush 1, .freturn])]
/-- BanksDealtModel.ranAt(I)I -/
def P_250 : bk_P := [(0, [.aload 0, .sipush 0, .putfield 768, .iload 1, .sipush 0, .aload 0, .getfield 812, .sipush 1, .isub, .invokestatic 1582925, .ifCond .eq 28, .aload 0, .getfield 641834, .iload 1, .iaload, .goto 29]),
  (28, [.sipush (-1), .goto 29]),
  (29, [.ireturn])]
/-- BanksDealtModel.sure(I)I -/
def P_251 : bk_P := [(0, [.aload 0, .sipush 0, .putfield 768, .iload 1, .sipush 0, .aload 0, .getfield 812, .sipush 1, .isub, .invokestatic 1582925, .ifCond .eq 28, .aload 0, .getfield 650027, .iload 1, .iaload, .goto 29]),
  (28, [.sipush (-1), .goto 29]),
  (29, [.ireturn])]
/-- BanksDealtModel.richest(I)I -/
def P_252 : bk_P := [(0, [.aload 0, .sipush 0, .putfield 768, .iload 1, .sipush 0, .sipush 1, .invokestatic 1582925, .ifCond .ne 16, .sipush (-1), .ireturn]),
  (16, [.sipush (-1), .istore 2, .sipush 0, .istore 3, .goto 20]),
  (20, [.iload 3, .aload 0, .getfield 477966, .sipush 0, .iaload, .if_icmp .ge 73, .aload 0, .iload 3, .invokestatic 1486985, .iload 1, .if_icmp .ne 67, .iload 2, .sipush (-1), .if_icmp .eq 65, .aload 0, .getfield 477966, .sipush 62, .iload 3, .iadd, .iaload, .aload 0, .getfield 477966, .sipush 62, .iload 2, .iadd, .iaload, .if_icmp .le 67, .goto 65]),
  (65, [.iload 3, .istore 2, .goto 67]),
  (67, [.iinc 3 (1), .goto 20]),
  (73, [.iload 2, .ireturn])]
/-- BanksDealtModel.deed(I)I -/
def P_253 : bk_P := [(0, [.aload 0, .sipush 0, .putfield 768, .aload 0, .iload 1, .invokestatic 1486857, .ifCond .ne 15, .sipush (-1), .ireturn]),
  (15, [.aload 0, .sipush 0, .putfield 817, .aload 0, .aload 0, .getfield 518931, .iload 1, .laload, .invokestatic 2015112, .aload 0, .sipush 105, .sipush 115, .sipush 0, .sipush 0, .sipush 0, .sipush 0, .sipush 0, .invokestatic 3680862, .invokestatic 2015240, .aload 0, .sipush 15, .aload 0, .iload 1, .invokestatic 1486985, .iadd, .invokestatic 535046, .invokestatic 2015240, .aload 0, .sipush 97, .sipush 116, .sipush 0, .sipush 0, .sipush 0, .sipush 0, .sipush 0, .invokestatic 3680862, .invokestatic 2015240, .aload 0, .sipush 32, .invokestatic 1490888, .aload 0, .sipush 48, .aload 0, .getfield 477966, .sipush 42, .iload 1, .iadd, .iaload, .iadd, .invokestatic 1490888, .aload 0, .sipush 32, .invokestatic 1490888, .aload 0, .sipush 48, .aload 0, .getfield 477966, .sipush 52, .iload 1, .iadd, .iaload, .iadd, .invokestatic 1490888, .aload 0, .getfield 817, .ireturn])]
/-- BanksDealtModel.writeWord(J)V -/
def P_254 : bk_P := [(0, [.lload 1, .bipush 27, .lcmp, .ifCond .lt 17, .aload 0, .lload 1, .bipush 27, .ldiv, .invokestatic 2015112, .goto 17]),
  (17, [.aload 0, .sipush 96, .lload 1, .bipush 27, .lrem, .l2i, .iadd, .invokestatic 1490888, .return_])]
/-- BanksDealtModel.write(I)V -/
def P_255 : bk_P := [(0, [.aload 0, .getfield 674608, .aload 0, .getfield 817, .iload 1, .iastore, .aload 0, .dup, .getfield 817, .sipush 1, .iadd, .putfield 817, .return_])]
/-- BanksDealtModel.writeNext(J)V -/
def P_256 : bk_P := [(0, [.aload 0, .sipush 32, .invokestatic 1490888, .aload 0, .lload 1, .invokestatic 2015112, .return_])]
/-- BanksDealtModel.byteAt(I)I -/
def P_257 : bk_P := [(0, [.aload 0, .sipush 0, .putfield 768, .iload 1, .sipush 0, .aload 0, .getfield 817, .sipush 1, .isub, .invokestatic 1582925, .ifCond .eq 28, .aload 0, .getfield 674608, .iload 1, .iaload, .goto 29]),
  (28, [.sipush (-1), .goto 29]),
  (29, [.ireturn])]
/-- BanksDealtModel.book(I)I -/
def P_258 : bk_P := [(0, [.aload 0, .sipush 0, .putfield 768, .iload 1, .sipush 0, .sipush 1, .invokestatic 1582925, .ifCond .ne 18, .sipush (-1000), .ireturn]),
  (18, [.aload 0, .sipush 400, .invokestatic 1484808, .aload 0, .sipush 0, .putfield 820, .goto 30]),
  (30, [.aload 0, .getfield 775, .ifCond .eq 65, .aload 0, .invokestatic 966853, .ifCond .ne 52, .sipush (-2), .aload 0, .getfield 779, .isub, .ireturn]),
  (52, [.aload 0, .dup, .getfield 820, .sipush 1, .iadd, .putfield 820, .goto 30]),
  (65, [.aload 0, .invokestatic 965892, .sipush 0, .istore 2, .sipush 0, .istore 3, .goto 73]),
  (73, [.iload 2, .aload 0, .getfield 820, .if_icmp .ge 103, .iload 3, .ifCond .ne 103, .aload 0, .sipush 4, .iload 2, .imul, .invokestatic 1491529, .istore 3, .iload 3, .ifCond .ne 73, .iinc 2 (1), .goto 73]),
  (103, [.aload 0, .getfield 690995, .sipush 0, .iload 3, .iastore, .aload 0, .getfield 690995, .sipush 1, .iload 2, .iastore, .aload 0, .getfield 690995, .sipush 2, .aload 0, .getfield 477966, .sipush 80, .iaload, .iastore, .aload 0, .getfield 690995, .sipush 3, .aload 0, .sipush 0, .invokestatic 1487625, .iastore, .aload 0, .sipush 1, .putfield 4917, .aload 0, .iload 1, .sipush 1, .if_icmp .ne 160, .iload 2, .ifCond .le 160, .sipush 1, .goto 161]),
  (160, [.sipush 0, .goto 161]),
  (161, [.invokestatic 1491592, .iload 3, .ifCond .ne 172, .sipush (-1), .goto 173]),
  (172, [.iload 2, .goto 173]),
  (173, [.ireturn])]
/-- BanksDealtModel.readBookLine()Z -/
def P_259 : bk_P := [(0, [.aload 0, .invokestatic 962245, .istore 1, .aload 0, .sipush 10, .invokestatic 1485257, .ifCond .ne 23, .aload 0, .sipush 11, .invokestatic 1485257, .ifCond .eq 27, .goto 23]),
  (23, [.sipush 1, .goto 28]),
  (27, [.sipush 0, .goto 28]),
  (28, [.istore 2, .iload 1, .ifCond .ne 79, .iload 2, .ifCond .ne 79, .aload 0, .invokestatic 961925, .ifCond .ne 50, .aload 0, .sipush 1, .invokestatic 1485513, .freturn]),
  (50, [.aload 0, .getfield 518931, .sipush 10, .aload 0, .getfield 477966, .sipush 1, .iaload, .aload 0, .getfield 1804, .invokestatic 2633169, .sipush (-1), .if_icmp .ne 79, .aload 0, .sipush 3, .invokestatic 1485513, .freturn]),
  (79, [.aload 0, .getfield 820, .sipush 40, .if_icmp .ne 94, .aload 0, .sipush 4, .invokestatic 1485513, .freturn]),
  (94, [.sipush 4, .aload 0, .getfield 820, .imul, .istore 3, .iload 1, .ifCond .eq 116, .aload 0, .iload 3, .invokestatic 1491209, .ifCond .eq 150, .goto 139]),
  (116, [.iload 2, .ifCond .eq 131, .aload 0, .iload 3, .invokestatic 1491401, .ifCond .eq 150, .goto 139]),
  (131, [.aload 0, .iload 3, .invokestatic 1491465, .ifCond .eq 150, .goto 139]),
  (139, [.aload 0, .invokestatic 962309, .ifCond .eq 150, .sipush 1, .goto 151]),
  (150, [.sipush 0, .goto 151]),
  (151, [.freturn])]
/-- BanksDealtModel.readSide(I)Z -/
def P_260 : bk_P := [(0, [.aload 0, .getfield 682802, .iload 1, .sipush 1, .iadd, .aload 0, .sipush 15, .invokestatic 1485257, .ifCond .eq 20, .sipush 0, .goto 21]),
  (20, [.sipush 1, .goto 21]),
  (21, [.iastore, .aload 0, .invokestatic 960644, .aload 0, .sipush 7, .invokestatic 1485257, .ifCond .ne 50, .aload 0, .sipush 8, .invokestatic 1485257, .ifCond .ne 50, .aload 0, .sipush 1, .invokestatic 1485513, .freturn]),
  (50, [.aload 0, .getfield 682802, .iload 1, .aload 0, .sipush 7, .invokestatic 1485257, .ifCond .eq 68, .sipush 0, .goto 69]),
  (68, [.sipush 1, .goto 69]),
  (69, [.iastore, .aload 0, .invokestatic 960644, .aload 0, .iload 1, .sipush 2, .iadd, .invokestatic 1491273, .freturn])]
/-- BanksDealtModel.readCell(I)Z -/
def P_261 : bk_P := [(0, [.aload 0, .iload 1, .aload 0, .sipush 0, .sipush 5, .invokestatic 2009997, .invokestatic 2015629, .ifCond .eq 34, .aload 0, .iload 1, .sipush 1, .iadd, .aload 0, .sipush 0, .sipush 5, .invokestatic 2009997, .invokestatic 2015629, .ifCond .eq 34, .sipush 1, .goto 35]),
  (34, [.sipush 0, .goto 35]),
  (35, [.freturn])]
/-- BanksDealtModel.keep(IZ)Z -/
def P_262 : bk_P := [(0, [.iload 2, .ifCond .eq 14, .aload 0, .getfield 682802, .iload 1, .aload 0, .getfield 781, .iastore, .goto 14]),
  (14, [.iload 2, .freturn])]
/-- BanksDealtModel.readSprings(I)Z -/
def P_263 : bk_P := [(0, [.aload 0, .sipush 10, .invokestatic 1485257, .istore 2, .aload 0, .getfield 682802, .iload 1, .sipush 3, .iastore, .aload 0, .invokestatic 960644, .iload 2, .ifCond .eq 36, .aload 0, .sipush 0, .sipush 999, .invokestatic 2009997, .ifCond .eq 46, .goto 48]),
  (36, [.aload 0, .sipush 1, .sipush 30, .invokestatic 2009997, .ifCond .ne 48, .goto 46]),
  (46, [.sipush 0, .freturn]),
  (48, [.aload 0, .getfield 682802, .iload 1, .sipush 1, .iadd, .iload 2, .ifCond .eq 63, .sipush 1, .goto 67]),
  (63, [.aload 0, .getfield 781, .goto 67]),
  (67, [.iastore, .aload 0, .getfield 682802, .iload 1, .sipush 2, .iadd, .aload 0, .getfield 781, .iastore, .sipush 1, .freturn])]
/-- BanksDealtModel.readMillRolls(I)Z -/
def P_264 : bk_P := [(0, [.aload 0, .getfield 682802, .iload 1, .sipush 4, .iastore, .aload 0, .getfield 682802, .iload 1, .sipush 1, .iadd, .aload 0, .getfield 518931, .sipush 10, .aload 0, .getfield 477966, .sipush 1, .iaload, .aload 0, .getfield 1804, .invokestatic 2633169, .iastore, .aload 0, .invokestatic 960644, .aload 0, .sipush 9, .invokestatic 1485257, .ifCond .ne 53, .aload 0, .sipush 1, .invokestatic 1485513, .freturn]),
  (53, [.aload 0, .invokestatic 960644, .aload 0, .iload 1, .sipush 2, .iadd, .invokestatic 1491273, .freturn])]
/-- BanksDealtModel.goBy(I)I -/
def P_265 : bk_P := [(0, [.aload 0, .getfield 682802, .iload 1, .sipush 1, .iadd, .iaload, .istore 2, .aload 0, .getfield 682802, .iload 1, .sipush 2, .iadd, .iaload, .istore 3, .aload 0, .getfield 682802, .iload 1, .sipush 3, .iadd, .iaload, .istore 4, .aload 0, .getfield 682802, .iload 1, .iaload, .sipush 3, .if_icmp .ne 65, .aload 0, .getfield 477966, .sipush 80, .iaload, .iload 2, .iadd, .sipush 400, .if_icmp .le 56, .sipush 31, .ireturn]),
  (56, [.aload 0, .iload 2, .iload 3, .invokestatic 2013261, .pop, .sipush 0, .ireturn]),
  (65, [.aload 0, .iload 3, .iload 4, .invokestatic 2008845, .ifCond .ne 88, .sipush 10, .aload 0, .getfield 682802, .iload 1, .iaload, .imul, .sipush 9, .iadd, .ireturn]),
  (88, [.aload 0, .aload 0, .getfield 682802, .iload 1, .iaload, .iload 2, .iload 3, .iload 4, .invokestatic 3060885, .istore 5, .iload 5, .ifCond .eq 122, .sipush 10, .aload 0, .getfield 682802, .iload 1, .iaload, .imul, .iload 5, .iadd, .ireturn]),
  (122, [.aload 0, .aload 0, .getfield 682802, .iload 1, .iaload, .iload 2, .iload 3, .iload 4, .invokestatic 3061140, .sipush 0, .ireturn])]
/-- BanksDealtModel.stay(Z)V -/
def P_266 : bk_P := [(0, [.sipush 0, .istore 2, .goto 2]),
  (2, [.iload 2, .sipush 115, .if_icmp .ge 46, .aload 0, .getfield 477966, .sipush 80, .iload 2, .iadd, .iaload, .istore 3, .aload 0, .getfield 477966, .sipush 80, .iload 2, .iadd, .aload 0, .getfield 510738, .iload 2, .iaload, .iastore, .aload 0, .getfield 510738, .iload 2, .iload 3, .iastore, .iinc 2 (1), .goto 2]),
  (46, [.iload 1, .ifCond .ne 51, .return_]),
  (51, [.aload 0, .invokestatic 963908, .aload 0, .invokestatic 965956, .return_])]
/-- BanksDealtModel.told(I)I -/
def P_267 : bk_P := [(0, [.aload 0, .sipush 0, .putfield 768, .aload 0, .getfield 4917, .ifCond .eq 30, .iload 1, .sipush 0, .sipush 3, .invokestatic 1582925, .ifCond .eq 30, .aload 0, .getfield 690995, .iload 1, .iaload, .goto 31]),
  (30, [.sipush (-1), .goto 31]),
  (31, [.ireturn])]
/-- BanksDealtModel.sentence()I -/
def P_268 : bk_P := [(0, [.aload 0, .sipush 200, .invokestatic 1484808, .aload 0, .sipush 0, .putfield 823, .aload 0, .sipush 0, .putfield 824, .aload 0, .sipush 0, .putfield 825, .aload 0, .invokestatic 967493, .ifCond .ne 36, .sipush (-1), .aload 0, .getfield 779, .isub, .ireturn]),
  (36, [.aload 0, .getfield 775, .ifCond .eq 56, .aload 0, .sipush 1, .invokestatic 1485513, .pop, .sipush (-1), .aload 0, .getfield 779, .isub, .ireturn]),
  (56, [.aload 0, .getfield 477966, .sipush 195, .sipush 1, .iastore, .aload 0, .getfield 477966, .sipush 196, .aload 0, .getfield 826, .iastore, .sipush 0, .istore 1, .goto 79]),
  (79, [.iload 1, .sipush 240, .if_icmp .ge 108, .aload 0, .getfield 477966, .sipush 197, .iload 1, .iadd, .aload 0, .getfield 699190, .iload 1, .iaload, .iastore, .iinc 1 (1), .goto 79]),
  (108, [.aload 0, .getfield 824, .ireturn])]
/-- BanksDealtModel.readOr()Z -/
def P_269 : bk_P := [(0, [.aload 0, .invokestatic 967557, .ifCond .ne 9, .sipush 0, .freturn]),
  (9, [.aload 0, .getfield 826, .istore 1, .goto 14]),
  (14, [.aload 0, .sipush 12, .invokestatic 1485257, .ifCond .eq 51, .aload 0, .invokestatic 960644, .aload 0, .invokestatic 967557, .ifCond .ne 36, .sipush 0, .freturn]),
  (36, [.aload 0, .sipush 3, .iload 1, .aload 0, .getfield 826, .sipush 0, .invokestatic 3064981, .istore 1, .goto 14]),
  (51, [.aload 0, .iload 1, .putfield 826, .sipush 1, .freturn])]
/-- BanksDealtModel.readAnd()Z -/
def P_270 : bk_P := [(0, [.aload 0, .invokestatic 967621, .ifCond .ne 9, .sipush 0, .freturn]),
  (9, [.aload 0, .getfield 826, .istore 1, .goto 14]),
  (14, [.aload 0, .sipush 13, .invokestatic 1485257, .ifCond .eq 51, .aload 0, .invokestatic 960644, .aload 0, .invokestatic 967621, .ifCond .ne 36, .sipush 0, .freturn]),
  (36, [.aload 0, .sipush 2, .iload 1, .aload 0, .getfield 826, .sipush 0, .invokestatic 3064981, .istore 1, .goto 14]),
  (51, [.aload 0, .iload 1, .putfield 826, .sipush 1, .freturn])]
/-- BanksDealtModel.readSaid()Z -/
def P_271 : bk_P := [(0, [.aload 0, .sipush 40, .invokestatic 1486665, .istore 1, .sipush 14, .istore 2, .goto 10]),
  (10, [.iload 2, .sipush 24, .if_icmp .gt 30, .aload 0, .iload 2, .invokestatic 1485257, .ifCond .ne 30, .iinc 2 (1), .goto 10]),
  (30, [.iload 1, .ifCond .ne 46, .iload 2, .sipush 24, .if_icmp .le 46, .aload 0, .sipush 1, .invokestatic 1485513, .freturn]),
  (46, [.aload 0, .getfield 824, .sipush 20, .if_icmp .eq 64, .aload 0, .getfield 825, .sipush 8, .if_icmp .ne 70, .goto 64]),
  (64, [.aload 0, .sipush 4, .invokestatic 1485513, .freturn]),
  (70, [.aload 0, .dup, .getfield 824, .sipush 1, .iadd, .putfield 824, .aload 0, .dup, .getfield 825, .sipush 1, .iadd, .putfield 825, .aload 0, .invokestatic 960644, .sipush 1, .istore 3, .iload 1, .ifCond .eq 108, .aload 0, .invokestatic 967685, .istore 3, .goto 166]),
  (108, [.iload 2, .sipush 14, .if_icmp .ne 122, .aload 0, .invokestatic 967749, .istore 3, .goto 166]),
  (122, [.iload 2, .sipush 19, .if_icmp .ge 146, .aload 0, .aload 0, .sipush 50, .iload 2, .iadd, .sipush 0, .sipush 0, .sipush 0, .invokestatic 3064981, .putfield 826, .goto 166]),
  (146, [.iload 2, .sipush 21, .if_icmp .ge 160, .aload 0, .iload 2, .invokestatic 1492169, .goto 165]),
  (160, [.aload 0, .iload 2, .invokestatic 1492297, .goto 165]),
  (165, [.istore 3, .goto 166]),
  (166, [.aload 0, .dup, .getfield 825, .sipush 1, .isub, .putfield 825, .iload 3, .freturn])]
/-- BanksDealtModel.readBracket()Z -/
def P_272 : bk_P := [(0, [.aload 0, .invokestatic 967493, .ifCond .ne 9, .sipush 0, .freturn]),
  (9, [.aload 0, .sipush 41, .invokestatic 1486665, .ifCond .ne 24, .aload 0, .sipush 1, .invokestatic 1485513, .freturn]),
  (24, [.aload 0, .invokestatic 960644, .sipush 1, .freturn])]
/-- BanksDealtModel.readNot()Z -/
def P_273 : bk_P := [(0, [.aload 0, .invokestatic 967621, .ifCond .ne 9, .sipush 0, .freturn]),
  (9, [.aload 0, .aload 0, .sipush 1, .aload 0, .getfield 826, .sipush 0, .sipush 0, .invokestatic 3064981, .putfield 826, .sipush 1, .freturn])]
/-- BanksDealtModel.saysOne(IIII)I -/
def P_274 : bk_P := [(0, [.sipush 4, .aload 0, .getfield 823, .imul, .istore 5, .aload 0, .getfield 699190, .iload 5, .iload 1, .iastore, .aload 0, .getfield 699190, .iload 5, .sipush 1, .iadd, .iload 2, .iastore, .aload 0, .getfield 699190, .iload 5, .sipush 2, .iadd, .iload 3, .iastore, .aload 0, .getfield 699190, .iload 5, .sipush 3, .iadd, .iload 4, .iastore, .aload 0, .dup, .getfield 823, .sipush 1, .iadd, .putfield 823, .aload 0, .getfield 823, .sipush 1, .isub, .ireturn])]
/-- BanksDealtModel.readOf(I)Z -/
def P_275 : bk_P := [(0, [.aload 0, .invokestatic 967941, .ifCond .ne 9, .sipush 0, .freturn]),
  (9, [.aload 0, .aload 0, .sipush 50, .iload 1, .iadd, .aload 0, .getfield 781, .sipush 0, .sipush 0, .invokestatic 3064981, .putfield 826, .sipush 1, .freturn])]
/-- BanksDealtModel.readFieldName()Z -/
def P_276 : bk_P := [(0, [.aload 0, .invokestatic 961925, .ifCond .ne 13, .aload 0, .sipush 1, .invokestatic 1485513, .freturn]),
  (13, [.aload 0, .aload 0, .getfield 518931, .sipush 0, .aload 0, .getfield 477966, .sipush 0, .iaload, .aload 0, .getfield 1804, .invokestatic 2633169, .putfield 781, .aload 0, .getfield 781, .sipush (-1), .if_icmp .ne 49, .aload 0, .sipush 3, .invokestatic 1485513, .freturn]),
  (49, [.aload 0, .invokestatic 960644, .sipush 1, .freturn])]
/-- BanksDealtModel.readCompare(I)Z -/
def P_277 : bk_P := [(0, [.aload 0, .sipush 60, .invokestatic 1486665, .ifCond .ne 33, .aload 0, .sipush 61, .invokestatic 1486665, .ifCond .ne 33, .aload 0, .sipush 62, .invokestatic 1486665, .ifCond .ne 33, .aload 0, .sipush 1, .invokestatic 1485513, .freturn]),
  (33, [.aload 0, .getfield 777, .istore 2, .aload 0, .invokestatic 960644, .aload 0, .sipush 0, .sipush 999, .invokestatic 2009997, .ifCond .ne 55, .sipush 0, .freturn]),
  (55, [.aload 0, .aload 0, .sipush 50, .iload 1, .iadd, .sipush 0, .aload 0, .getfield 781, .iload 2, .invokestatic 3064981, .putfield 826, .sipush 1, .freturn])]
/-- BanksDealtModel.said(I)I -/
def P_278 : bk_P := [(0, [.aload 0, .sipush 0, .putfield 768, .aload 0, .getfield 477966, .sipush 195, .iaload, .ifCond .ne 18, .sipush (-1), .ireturn]),
  (18, [.sipush 0, .istore 2, .sipush 0, .istore 3, .goto 22]),
  (22, [.iload 3, .aload 0, .getfield 477966, .sipush 0, .iaload, .if_icmp .ge 67, .aload 0, .aload 0, .getfield 477966, .sipush 196, .iaload, .iload 3, .invokestatic 2016717, .ifCond .ne 51, .goto 61]),
  (51, [.iload 2, .iload 1, .if_icmp .ne 58, .iload 3, .ireturn]),
  (58, [.iinc 2 (1), .goto 61]),
  (61, [.iinc 3 (1), .goto 22]),
  (67, [.iload 1, .sipush (-1), .if_icmp .ne 76, .iload 2, .goto 77]),
  (76, [.sipush (-1), .goto 77]),
  (77, [.ireturn])]
/-- BanksDealtModel.holds(II)Z -/
def P_279 : bk_P := [(0, [.sipush 197, .sipush 4, .iload 1, .imul, .iadd, .istore 3, .aload 0, .getfield 477966, .iload 3, .sipush 1, .iadd, .iaload, .istore 4, .aload 0, .getfield 477966, .iload 3, .sipush 2, .iadd, .iaload, .istore 5, .aload 0, .getfield 477966, .iload 3, .iaload, .lookupswitch 291 #[(1, 116), (2, 132), (3, 158), (65, 184), (66, 198), (67, 213), (68, 228), (69, 234), (70, 263)]]),
  (116, [.aload 0, .iload 4, .iload 2, .invokestatic 2016717, .ifCond .ne 130, .sipush 1, .goto 131]),
  (130, [.sipush 0, .goto 131]),
  (131, [.freturn]),
  (132, [.aload 0, .iload 4, .iload 2, .invokestatic 2016717, .ifCond .eq 156, .aload 0, .iload 5, .iload 2, .invokestatic 2016717, .ifCond .eq 156, .sipush 1, .goto 157]),
  (156, [.sipush 0, .goto 157]),
  (157, [.freturn]),
  (158, [.aload 0, .iload 4, .iload 2, .invokestatic 2016717, .ifCond .ne 178, .aload 0, .iload 5, .iload 2, .invokestatic 2016717, .ifCond .eq 182, .goto 178]),
  (178, [.sipush 1, .goto 183]),
  (182, [.sipush 0, .goto 183]),
  (183, [.freturn]),
  (184, [.aload 0, .iload 2, .invokestatic 1486985, .ifCond .ne 196, .sipush 1, .goto 197]),
  (196, [.sipush 0, .goto 197]),
  (197, [.freturn]),
  (198, [.aload 0, .iload 2, .invokestatic 1486985, .sipush 1, .if_icmp .ne 211, .sipush 1, .goto 212]),
  (211, [.sipush 0, .goto 212]),
  (212, [.freturn]),
  (213, [.aload 0, .iload 2, .invokestatic 1486985, .sipush 2, .if_icmp .ne 226, .sipush 1, .goto 227]),
  (226, [.sipush 0, .goto 227]),
  (227, [.freturn]),
  (228, [.aload 0, .iload 2, .invokestatic 1492489, .freturn]),
  (234, [.aload 0, .iload 2, .invokestatic 1486985, .sipush 2, .if_icmp .eq 261, .aload 0, .iload 2, .invokestatic 1486985, .aload 0, .iload 4, .invokestatic 1486985, .if_icmp .ne 261, .sipush 1, .goto 262]),
  (261, [.sipush 0, .goto 262]),
  (262, [.freturn]),
  (263, [.aload 0, .getfield 477966, .sipush 52, .iload 2, .iadd, .iaload, .aload 0, .getfield 477966, .sipush 52, .iload 4, .iadd, .iaload, .if_icmp .ge 289, .sipush 1, .goto 290]),
  (289, [.sipush 0, .goto 290]),
  (290, [.freturn]),
  (291, [.aload 0, .getfield 477966, .iload 3, .iaload, .sipush 50, .isub, .istore 6, .iload 6, .sipush 21, .if_icmp .ne 321, .aload 0, .getfield 477966, .sipush 62, .iload 2, .iadd, .iaload, .goto 382]),
  (321, [.iload 6, .sipush 22, .if_icmp .ne 361, .aload 0, .getfield 477966, .sipush 85, .sipush 6, .aload 0, .getfield 477966, .sipush 52, .iload 2, .iadd, .iaload, .imul, .iadd, .aload 0, .getfield 477966, .sipush 42, .iload 2, .iadd, .iaload, .iadd, .iaload, .goto 382]),
  (361, [.iload 6, .sipush 23, .if_icmp .ne 381, .aload 0, .getfield 477966, .sipush 136, .iload 2, .iadd, .iaload, .goto 382]),
  (381, [.iload 2, .goto 382]),
  (382, [.istore 7, .aload 0, .getfield 477966, .iload 3, .sipush 3, .iadd, .iaload, .sipush 60, .if_icmp .ne 412, .iload 7, .iload 5, .if_icmp .ge 408, .sipush 1, .goto 452]),
  (408, [.sipush 0, .goto 452]),
  (412, [.aload 0, .getfield 477966, .iload 3, .sipush 3, .iadd, .iaload, .sipush 61, .if_icmp .ne 440, .iload 7, .iload 5, .if_icmp .ne 436, .sipush 1, .goto 452]),
  (436, [.sipush 0, .goto 452]),
  (440, [.iload 7, .iload 5, .if_icmp .le 451, .sipush 1, .goto 452]),
  (451, [.sipush 0, .goto 452]),
  (452, [.freturn])]
/-- BanksDealtModel.isNear(I)Z -/
def P_280 : bk_P := [(0, [.aload 0, .getfield 477966, .sipush 42, .iload 1, .iadd, .iaload, .aload 0, .getfield 477966, .sipush 121, .aload 0, .getfield 477966, .sipush 52, .iload 1, .iadd, .iaload, .iadd, .iaload, .isub, .invokestatic 537797, .sipush 1, .if_icmp .ne 38, .sipush 1, .goto 39]),
  (38, [.sipush 0, .goto 39]),
  (39, [.freturn])]
/-- BanksDealtModel.image(I)Z -/
def P_281 : bk_P := [(0, [.aload 0, .sipush 0, .putfield 768, .iload 1, .sipush 0, .sipush 1, .invokestatic 1582925, .ifCond .ne 16, .sipush 0, .freturn]),
  (16, [.sipush 0, .istore 2, .goto 18]),
  (18, [.iload 2, .sipush 437, .if_icmp .ge 49, .aload 0, .getfield 494352, .sipush 437, .iload 1, .imul, .iload 2, .iadd, .aload 0, .getfield 477966, .iload 2, .iaload, .iastore, .iinc 2 (1), .goto 18]),
  (49, [.sipush 0, .istore 2, .goto 51]),
  (51, [.iload 2, .sipush 13, .if_icmp .ge 80, .aload 0, .getfield 535317, .sipush 13, .iload 1, .imul, .iload 2, .iadd, .aload 0, .getfield 518931, .iload 2, .laload, .lastore, .iinc 2 (1), .goto 51]),
  (80, [.aload 0, .getfield 543510, .iload 1, .sipush 1, .bastore, .sipush 1, .freturn])]
/-- BanksDealtModel.restore(I)Z -/
def P_282 : bk_P := [(0, [.aload 0, .sipush 0, .putfield 768, .iload 1, .sipush 0, .sipush 1, .invokestatic 1582925, .ifCond .eq 23, .aload 0, .getfield 543510, .iload 1, .baload, .ifCond .ne 25, .goto 23]),
  (23, [.sipush 0, .freturn]),
  (25, [.sipush 0, .istore 2, .goto 27]),
  (27, [.iload 2, .sipush 437, .if_icmp .ge 58, .aload 0, .getfield 477966, .iload 2, .aload 0, .getfield 494352, .sipush 437, .iload 1, .imul, .iload 2, .iadd, .iaload, .iastore, .iinc 2 (1), .goto 27]),
  (58, [.sipush 0, .istore 2, .goto 60]),
  (60, [.iload 2, .sipush 13, .if_icmp .ge 89, .aload 0, .getfield 518931, .iload 2, .aload 0, .getfield 535317, .sipush 13, .iload 1, .imul, .iload 2, .iadd, .laload, .lastore, .iinc 2 (1), .goto 60]),
  (89, [.aload 0, .sipush 0, .putfield 793, .sipush 1, .freturn])]
/-- BanksDealtModel.count(I)I -/
def P_283 : bk_P := [(0, [.aload 0, .sipush 0, .putfield 768, .iload 1, .tableswitch 95 0 6 #[48, 55, 62, 69, 76, 83, 90]]),
  (48, [.aload 0, .getfield 477966, .sipush 0, .iaload, .ireturn]),
  (55, [.aload 0, .getfield 477966, .sipush 2, .iaload, .ireturn]),
  (62, [.aload 0, .getfield 477966, .sipush 3, .iaload, .ireturn]),
  (69, [.aload 0, .getfield 477966, .sipush 4, .iaload, .ireturn]),
  (76, [.aload 0, .getfield 477966, .sipush 5, .iaload, .ireturn]),
  (83, [.aload 0, .getfield 477966, .sipush 1, .iaload, .ireturn]),
  (90, [.aload 0, .getfield 770, .ireturn]),
  (95, [.sipush (-1), .ireturn])]
/-- BanksDealt$Plans.isTempted(LBanksDealt$Plain;)Z -/
def P_284 : bk_P := [(0, [.aload 0, .getfield 1116614, .aload 1, .invokestatic 1345736, .aload 0, .getfield 1116614, .getfield 379393, .aload 1, .getfield 248135, .aload 0, .getfield 458, .iaload, .invokestatic 1051209, .aload 0, .getfield 459, .if_icmp .ne 38, .sipush 1, .goto 39]),
  (38, [.sipush 0, .goto 39]),
  (39, [.freturn])]
/-- BanksDealt$Sentence.readBracket(LBanksDealt$Tape;LBanksDealt$Plain;I)Z -/
def P_285 : bk_P := [(0, [.aload 1, .invokestatic 885188, .aload 0, .aload 1, .aload 2, .iload 3, .sipush 1, .iadd, .invokestatic 2432849, .ifCond .ne 18, .sipush 0, .freturn]),
  (18, [.aload 1, .getfield 642, .sipush 41, .if_icmp .eq 33, .aload 1, .sipush 1, .invokestatic 1410057, .freturn]),
  (33, [.aload 1, .invokestatic 885188, .sipush 1, .freturn])]
/-- BanksDealt$Sentence.readNot(LBanksDealt$Tape;LBanksDealt$Plain;I)Z -/
def P_286 : bk_P := [(0, [.aload 1, .invokestatic 885188, .aload 0, .aload 1, .aload 2, .iload 3, .sipush 1, .iadd, .invokestatic 2432977, .ifCond .eq 31, .aload 0, .sipush 16, .sipush 0, .sipush 0, .invokestatic 2433105, .ifCond .eq 31, .sipush 1, .goto 32]),
  (31, [.sipush 0, .goto 32]),
  (32, [.freturn])]
/-- BanksDealtLaw.field(LBanksDealt;II[J)I -/
def P_287 : bk_P := [(0, [.aload 3, .sipush 0, .aload 0, .iload 1, .iload 2, .invokeinterface 1975117 244, .i2l, .lastore, .goto 17]),
  (15, [.sipush 1, .ireturn]),
  (17, [.sipush 0, .ireturn])]
/-- BanksDealtLaw.duel(LBanksDealt;I[J)I -/
def P_288 : bk_P := [(0, [.aload 2, .sipush 0, .aload 0, .iload 1, .invokeinterface 1450889 211, .i2l, .lastore, .goto 15]),
  (13, [.sipush 1, .ireturn]),
  (15, [.sipush 0, .ireturn])]
/-- BanksDealtLaw.law([I)Z -/
def P_289 : bk_P := [(20, [.sipush 0, .istore 4, .goto 23]),
  (23, [.iload 4, .aload 0, .swap, .sipush 6, .isub, .if_icmp .gt 1594, .aload 0, .iload 4, .saload, .sipush 63, .iand, .tableswitch 1588 0 41 #[224, 297, 322, 335, 348, 416, 453, 490, 527, 552, 589, 614, 663, 712, 761, 786, 823, 836, 849, 874, 899, 948, 973, 1029, 1054, 1091, 1116, 1153, 1214, 1227, 1252, 1277, 1350, 1375, 1400, 1425, 1450, 1475, 1488, 1513, 1538, 1563]]),
  (224, [.aload 1, .aload 0, .iload 4, .sipush 1, .iadd, .saload, .aload 0, .iload 4, .sipush 2, .iadd, .saload, .aload 0, .iload 4, .sipush 3, .iadd, .saload, .aload 0, .iload 4, .sipush 4, .iadd, .saload, .aload 0, .iload 4, .sipush 5, .iadd, .saload, .invokestatic 3539033, .aload 2, .aload 0, .iload 4, .sipush 1, .iadd, .saload, .aload 0, .iload 4, .sipush 2, .iadd, .saload, .aload 0, .iload 4, .sipush 3, .iadd, .saload, .aload 0, .iload 4, .sipush 4, .iadd, .saload, .aload 0, .iload 4, .sipush 5, .iadd, .saload, .invokestatic 3581145, .if_icmp .eq 1588, .sipush 0, .freturn]),
  (297, [.aload 1, .aload 0, .iload 4, .sipush 1, .iadd, .saload, .invokestatic 1441993, .aload 2, .aload 0, .iload 4, .sipush 1, .iadd, .saload, .invokestatic 1484105, .if_icmp .eq 1588, .sipush 0, .freturn]),
  (322, [.aload 1, .invokestatic 917765, .aload 2, .invokestatic 960453, .if_icmp .eq 1588, .sipush 0, .freturn]),
  (335, [.aload 1, .invokestatic 920005, .aload 2, .invokestatic 962437, .if_icmp .eq 1588, .sipush 0, .freturn]),
  (348, [.aload 1, .aload 0, .iload 4, .sipush 1, .iadd, .saload, .aload 0, .iload 4, .sipush 2, .iadd, .saload, .aload 3, .invokestatic 2115537, .istore 5, .aload 2, .aload 0, .iload 4, .sipush 1, .iadd, .saload, .aload 0, .iload 4, .sipush 2, .iadd, .saload, .invokestatic 2011085, .istore 6, .aload 2, .invokestatic 959621, .iload 5, .if_icmp .eq 396, .sipush 0, .freturn]),
  (396, [.iload 5, .ifCond .ne 413, .aload 3, .sipush 0, .laload, .iload 6, .i2l, .lcmp, .ifCond .eq 413, .sipush 0, .freturn]),
  (413, [.goto 1588]),
  (416, [.aload 1, .aload 0, .iload 4, .sipush 1, .iadd, .saload, .aload 0, .iload 4, .sipush 2, .iadd, .saload, .invokestatic 1968653, .aload 2, .aload 0, .iload 4, .sipush 1, .iadd, .saload, .aload 0, .iload 4, .sipush 2, .iadd, .saload, .invokestatic 2011469, .if_icmp .eq 1588, .sipush 0, .freturn]),
  (453, [.aload 1, .aload 0, .iload 4, .sipush 1, .iadd, .saload, .aload 0, .iload 4, .sipush 2, .iadd, .saload, .invokestatic 1968781, .aload 2, .aload 0, .iload 4, .sipush 1, .iadd, .saload, .aload 0, .iload 4, .sipush 2, .iadd, .saload, .invokestatic 2011597, .if_icmp .eq 1588, .sipush 0, .freturn]),
  (490, [.aload 1, .aload 0, .iload 4, .sipush 1, .iadd, .saload, .aload 0, .iload 4, .sipush 2, .iadd, .saload, .invokestatic 1968845, .aload 2, .aload 0, .iload 4, .sipush 1, .iadd, .saload, .aload 0, .iload 4, .sipush 2, .iadd, .saload, .invokestatic 2011661, .if_icmp .eq 1588, .sipush 0, .freturn]),
  (527, [.aload 1, .aload 0, .iload 4, .sipush 1, .iadd, .saload, .invokestatic 1444617, .aload 2, .aload 0, .iload 4, .sipush 1, .iadd, .saload, .invokestatic 1487433, .if_icmp .eq 1588, .sipush 0, .freturn]),
  (552, [.aload 1, .aload 0, .iload 4, .sipush 1, .iadd, .saload, .aload 0, .iload 4, .sipush 2, .iadd, .saload, .invokestatic 1969037, .aload 2, .aload 0, .iload 4, .sipush 1, .iadd, .saload, .aload 0, .iload 4, .sipush 2, .iadd, .saload, .invokestatic 2011853, .if_icmp .eq 1588, .sipush 0, .freturn]),
  (589, [.aload 1, .aload 0, .iload 4, .sipush 1, .iadd, .saload, .invokestatic 1445001, .aload 2, .aload 0, .iload 4, .sipush 1, .iadd, .saload, .invokestatic 1487817, .if_icmp .eq 1588, .sipush 0, .freturn]),
  (614, [.aload 1, .aload 0, .iload 4, .sipush 1, .iadd, .saload, .aload 0, .iload 4, .sipush 2, .iadd, .saload, .aload 0, .iload 4, .sipush 3, .iadd, .saload, .invokestatic 2493841, .aload 2, .aload 0, .iload 4, .sipush 1, .iadd, .saload, .aload 0, .iload 4, .sipush 2, .iadd, .saload, .aload 0, .iload 4, .sipush 3, .iadd, .saload, .invokestatic 2536465, .if_icmp .eq 1588, .sipush 0, .freturn]),
  (663, [.aload 1, .aload 0, .iload 4, .sipush 1, .iadd, .saload, .aload 0, .iload 4, .sipush 2, .iadd, .saload, .aload 0, .iload 4, .sipush 3, .iadd, .saload, .invokestatic 2494225, .aload 2, .aload 0, .iload 4, .sipush 1, .iadd, .saload, .aload 0, .iload 4, .sipush 2, .iadd, .saload, .aload 0, .iload 4, .sipush 3, .iadd, .saload, .invokestatic 2536913, .if_icmp .eq 1588, .sipush 0, .freturn]),
  (712, [.aload 1, .aload 0, .iload 4, .sipush 1, .iadd, .saload, .aload 0, .iload 4, .sipush 2, .iadd, .saload, .aload 0, .iload 4, .sipush 3, .iadd, .saload, .invokestatic 2494289, .aload 2, .aload 0, .iload 4, .sipush 1, .iadd, .saload, .aload 0, .iload 4, .sipush 2, .iadd, .saload, .aload 0, .iload 4, .sipush 3, .iadd, .saload, .invokestatic 2536977, .if_icmp .eq 1588, .sipush 0, .freturn]),
  (761, [.aload 1, .aload 0, .iload 4, .sipush 1, .iadd, .saload, .invokestatic 1445897, .aload 2, .aload 0, .iload 4, .sipush 1, .iadd, .saload, .invokestatic 1488521, .if_icmp .eq 1588, .sipush 0, .freturn]),
  (786, [.aload 1, .aload 0, .iload 4, .sipush 1, .iadd, .saload, .aload 0, .iload 4, .sipush 2, .iadd, .saload, .invokestatic 1970509, .aload 2, .aload 0, .iload 4, .sipush 1, .iadd, .saload, .aload 0, .iload 4, .sipush 2, .iadd, .saload, .invokestatic 2013197, .if_icmp .eq 1588, .sipush 0, .freturn]),
  (823, [.aload 1, .invokestatic 922053, .aload 2, .invokestatic 964165, .if_icmp .eq 1588, .sipush 0, .freturn]),
  (836, [.aload 1, .invokestatic 922181, .aload 2, .invokestatic 964805, .if_icmp .eq 1588, .sipush 0, .freturn]),
  (849, [.aload 1, .aload 0, .iload 4, .sipush 1, .iadd, .saload, .invokestatic 1446537, .aload 2, .aload 0, .iload 4, .sipush 1, .iadd, .saload, .invokestatic 1489161, .if_icmp .eq 1588, .sipush 0, .freturn]),
  (874, [.aload 1, .aload 0, .iload 4, .sipush 1, .iadd, .saload, .invokestatic 1446601, .aload 2, .aload 0, .iload 4, .sipush 1, .iadd, .saload, .invokestatic 1489225, .if_icmp .eq 1588, .sipush 0, .freturn]),
  (899, [.aload 1, .aload 0, .iload 4, .sipush 1, .iadd, .saload, .aload 0, .iload 4, .sipush 2, .iadd, .saload, .aload 0, .iload 4, .sipush 3, .iadd, .saload, .invokestatic 2495249, .aload 2, .aload 0, .iload 4, .sipush 1, .iadd, .saload, .aload 0, .iload 4, .sipush 2, .iadd, .saload, .aload 0, .iload 4, .sipush 3, .iadd, .saload, .invokestatic 2537937, .if_icmp .eq 1588, .sipush 0, .freturn]),
  (948, [.aload 1, .aload 0, .iload 4, .sipush 1, .iadd, .saload, .invokestatic 1447177, .aload 2, .aload 0, .iload 4, .sipush 1, .iadd, .saload, .invokestatic 1489481, .if_icmp .eq 1588, .sipush 0, .freturn]),
  (973, [.aload 1, .aload 0, .iload 4, .sipush 1, .iadd, .saload, .aload 3, .invokestatic 1591309, .istore 5, .aload 2, .aload 0, .iload 4, .sipush 1, .iadd, .saload, .invokestatic 1489545, .istore 6, .aload 2, .invokestatic 959621, .iload 5, .if_icmp .eq 1009, .sipush 0, .freturn]),
  (1009, [.iload 5, .ifCond .ne 1026, .aload 3, .sipush 0, .laload, .iload 6, .i2l, .lcmp, .ifCond .eq 1026, .sipush 0, .freturn]),
  (1026, [.goto 1588]),
  (1029, [.aload 1, .aload 0, .iload 4, .sipush 1, .iadd, .saload, .invokestatic 1447241, .aload 2, .aload 0, .iload 4, .sipush 1, .iadd, .saload, .invokestatic 1489865, .if_icmp .eq 1588, .sipush 0, .freturn]),
  (1054, [.aload 1, .aload 0, .iload 4, .sipush 1, .iadd, .saload, .aload 0, .iload 4, .sipush 2, .iadd, .saload, .invokestatic 1971597, .aload 2, .aload 0, .iload 4, .sipush 1, .iadd, .saload, .aload 0, .iload 4, .sipush 2, .iadd, .saload, .invokestatic 2014221, .if_icmp .eq 1588, .sipush 0, .freturn]),
  (1091, [.aload 1, .aload 0, .iload 4, .sipush 1, .iadd, .saload, .invokestatic 1447497, .aload 2, .aload 0, .iload 4, .sipush 1, .iadd, .saload, .invokestatic 1490057, .if_icmp .eq 1588, .sipush 0, .freturn]),
  (1116, [.aload 1, .aload 0, .iload 4, .sipush 1, .iadd, .saload, .aload 0, .iload 4, .sipush 2, .iadd, .saload, .invokestatic 1971853, .aload 2, .aload 0, .iload 4, .sipush 1, .iadd, .saload, .aload 0, .iload 4, .sipush 2, .iadd, .saload, .invokestatic 2013325, .if_icmp .eq 1588, .sipush 0, .freturn]),
  (1153, [.aload 1, .aload 0, .iload 4, .sipush 1, .iadd, .saload, .aload 0, .iload 4, .sipush 2, .iadd, .saload, .aload 0, .iload 4, .sipush 3, .iadd, .saload, .aload 0, .iload 4, .sipush 4, .iadd, .saload, .invokestatic 3020501, .aload 2, .aload 0, .iload 4, .sipush 1, .iadd, .saload, .aload 0, .iload 4, .sipush 2, .iadd, .saload, .aload 0, .iload 4, .sipush 3, .iadd, .saload, .aload 0, .iload 4, .sipush 4, .iadd, .saload, .invokestatic 3062997, .if_icmp .eq 1588, .sipush 0, .freturn]),
  (1214, [.aload 1, .invokestatic 923461, .aload 2, .invokestatic 966085, .if_icmp .eq 1588, .sipush 0, .freturn]),
  (1227, [.aload 1, .aload 0, .iload 4, .sipush 1, .iadd, .saload, .invokestatic 1448265, .aload 2, .aload 0, .iload 4, .sipush 1, .iadd, .saload, .invokestatic 1490569, .if_icmp .eq 1588, .sipush 0, .freturn]),
  (1252, [.aload 1, .aload 0, .iload 4, .sipush 1, .iadd, .saload, .invokestatic 1448329, .aload 2, .aload 0, .iload 4, .sipush 1, .iadd, .saload, .invokestatic 1490633, .if_icmp .eq 1588, .sipush 0, .freturn]),
  (1277, [.aload 1, .aload 0, .iload 4, .sipush 1, .iadd, .saload, .aload 0, .iload 4, .sipush 2, .iadd, .saload, .aload 0, .iload 4, .sipush 3, .iadd, .saload, .aload 0, .iload 4, .sipush 4, .iadd, .saload, .aload 0, .iload 4, .sipush 5, .iadd, .saload, .invokestatic 3545561, .aload 2, .aload 0, .iload 4, .sipush 1, .iadd, .saload, .aload 0, .iload 4, .sipush 2, .iadd, .saload, .aload 0, .iload 4, .sipush 3, .iadd, .saload, .aload 0, .iload 4, .sipush 4, .iadd, .saload, .aload 0, .iload 4, .sipush 5, .iadd, .saload, .invokestatic 3587481, .if_icmp .eq 1588, .sipush 0, .freturn]),
  (1350, [.aload 1, .aload 0, .iload 4, .sipush 1, .iadd, .saload, .invokestatic 1448457, .aload 2, .aload 0, .iload 4, .sipush 1, .iadd, .saload, .invokestatic 1490697, .if_icmp .eq 1588, .sipush 0, .freturn]),
  (1375, [.aload 1, .aload 0, .iload 4, .sipush 1, .iadd, .saload, .invokestatic 1448521, .aload 2, .aload 0, .iload 4, .sipush 1, .iadd, .saload, .invokestatic 1490761, .if_icmp .eq 1588, .sipush 0, .freturn]),
  (1400, [.aload 1, .aload 0, .iload 4, .sipush 1, .iadd, .saload, .invokestatic 1448841, .aload 2, .aload 0, .iload 4, .sipush 1, .iadd, .saload, .invokestatic 1491017, .if_icmp .eq 1588, .sipush 0, .freturn]),
  (1425, [.aload 1, .aload 0, .iload 4, .sipush 1, .iadd, .saload, .invokestatic 1448905, .aload 2, .aload 0, .iload 4, .sipush 1, .iadd, .saload, .invokestatic 1491081, .if_icmp .eq 1588, .sipush 0, .freturn]),
  (1450, [.aload 1, .aload 0, .iload 4, .sipush 1, .iadd, .saload, .invokestatic 1449609, .aload 2, .aload 0, .iload 4, .sipush 1, .iadd, .saload, .invokestatic 1491657, .if_icmp .eq 1588, .sipush 0, .freturn]),
  (1475, [.aload 1, .invokestatic 925381, .aload 2, .invokestatic 967429, .if_icmp .eq 1588, .sipush 0, .freturn]),
  (1488, [.aload 1, .aload 0, .iload 4, .sipush 1, .iadd, .saload, .invokestatic 1450185, .aload 2, .aload 0, .iload 4, .sipush 1, .iadd, .saload, .invokestatic 1492361, .if_icmp .eq 1588, .sipush 0, .freturn]),
  (1513, [.aload 1, .aload 0, .iload 4, .sipush 1, .iadd, .saload, .invokestatic 1450569, .aload 2, .aload 0, .iload 4, .sipush 1, .iadd, .saload, .invokestatic 1492553, .if_icmp .eq 1588, .sipush 0, .freturn]),
  (1538, [.aload 1, .aload 0, .iload 4, .sipush 1, .iadd, .saload, .invokestatic 1450697, .aload 2, .aload 0, .iload 4, .sipush 1, .iadd, .saload, .invokestatic 1492617, .if_icmp .eq 1588, .sipush 0, .freturn]),
  (1563, [.aload 1, .aload 0, .iload 4, .sipush 1, .iadd, .saload, .invokestatic 1450761, .aload 2, .aload 0, .iload 4, .sipush 1, .iadd, .saload, .invokestatic 1492681, .if_icmp .eq 1588, .sipush 0, .freturn]),
  (1588, [.iinc 4 (6), .goto 23]),
  (1594, [.sipush 1, .freturn])]
def bk_prog : Nat → bk_P × Nat
  | 0 => (P_0, 2)
  | 1 => (P_1, 6)
  | 2 => (P_2, 3)
  | 3 => (P_3, 2)
  | 4 => (P_4, 3)
  | 5 => (P_5, 4)
  | 6 => (P_6, 2)
  | 7 => (P_7, 2)
  | 8 => (P_8, 1)
  | 9 => (P_9, 1)
  | 10 => (P_10, 8)
  | 11 => (P_11, 5)
  | 12 => (P_12, 1)
  | 13 => (P_13, 3)
  | 14 => (P_14, 3)
  | 15 => (P_15, 3)
  | 16 => (P_16, 2)
  | 17 => (P_17, 3)
  | 18 => (P_18, 4)
  | 19 => (P_19, 4)
  | 20 => (P_20, 3)
  | 21 => (P_21, 3)
  | 22 => (P_22, 5)
  | 23 => (P_23, 4)
  | 24 => (P_24, 1)
  | 25 => (P_25, 3)
  | 26 => (P_26, 5)
  | 27 => (P_27, 4)
  | 28 => (P_28, 2)
  | 29 => (P_29, 3)
  | 30 => (P_30, 2)
  | 31 => (P_31, 1)
  | 32 => (P_32, 2)
  | 33 => (P_33, 2)
  | 34 => (P_34, 2)
  | 35 => (P_35, 7)
  | 36 => (P_36, 6)
  | 37 => (P_37, 1)
  | 38 => (P_38, 1)
  | 39 => (P_39, 1)
  | 40 => (P_40, 4)
  | 41 => (P_41, 4)
  | 42 => (P_42, 4)
  | 43 => (P_43, 4)
  | 44 => (P_44, 2)
  | 45 => (P_45, 2)
  | 46 => (P_46, 3)
  | 47 => (P_47, 1)
  | 48 => (P_48, 5)
  | 49 => (P_49, 5)
  | 50 => (P_50, 2)
  | 51 => (P_51, 3)
  | 52 => (P_52, 3)
  | 53 => (P_53, 3)
  | 54 => (P_54, 4)
  | 55 => (P_55, 7)
  | 56 => (P_56, 5)
  | 57 => (P_57, 2)
  | 58 => (P_58, 2)
  | 59 => (P_59, 4)
  | 60 => (P_60, 4)
  | 61 => (P_61, 6)
  | 62 => (P_62, 5)
  | 63 => (P_63, 3)
  | 64 => (P_64, 2)
  | 65 => (P_65, 5)
  | 66 => (P_66, 2)
  | 67 => (P_67, 4)
  | 68 => (P_68, 4)
  | 69 => (P_69, 3)
  | 70 => (P_70, 5)
  | 71 => (P_71, 1)
  | 72 => (P_72, 2)
  | 73 => (P_73, 1)
  | 74 => (P_74, 2)
  | 75 => (P_75, 2)
  | 76 => (P_76, 4)
  | 77 => (P_77, 2)
  | 78 => (P_78, 7)
  | 79 => (P_79, 6)
  | 80 => (P_80, 7)
  | 81 => (P_81, 7)
  | 82 => (P_82, 2)
  | 83 => (P_83, 2)
  | 84 => (P_84, 2)
  | 85 => (P_85, 2)
  | 86 => (P_86, 3)
  | 87 => (P_87, 6)
  | 88 => (P_88, 6)
  | 89 => (P_89, 2)
  | 90 => (P_90, 3)
  | 91 => (P_91, 8)
  | 92 => (P_92, 2)
  | 93 => (P_93, 2)
  | 94 => (P_94, 4)
  | 95 => (P_95, 8)
  | 96 => (P_96, 6)
  | 97 => (P_97, 6)
  | 98 => (P_98, 5)
  | 99 => (P_99, 6)
  | 100 => (P_100, 5)
  | 101 => (P_101, 2)
  | 102 => (P_102, 2)
  | 103 => (P_103, 8)
  | 104 => (P_104, 5)
  | 105 => (P_105, 2)
  | 106 => (P_106, 5)
  | 107 => (P_107, 5)
  | 108 => (P_108, 2)
  | 109 => (P_109, 3)
  | 110 => (P_110, 2)
  | 111 => (P_111, 4)
  | 112 => (P_112, 4)
  | 113 => (P_113, 5)
  | 114 => (P_114, 1)
  | 115 => (P_115, 4)
  | 116 => (P_116, 2)
  | 117 => (P_117, 4)
  | 118 => (P_118, 4)
  | 119 => (P_119, 7)
  | 120 => (P_120, 5)
  | 121 => (P_121, 6)
  | 122 => (P_122, 2)
  | 123 => (P_123, 3)
  | 124 => (P_124, 3)
  | 125 => (P_125, 5)
  | 126 => (P_126, 5)
  | 127 => (P_127, 5)
  | 128 => (P_128, 1)
  | 129 => (P_129, 4)
  | 130 => (P_130, 5)
  | 131 => (P_131, 5)
  | 132 => (P_132, 6)
  | 133 => (P_133, 5)
  | 134 => (P_134, 6)
  | 135 => (P_135, 3)
  | 136 => (P_136, 1)
  | 137 => (P_137, 2)
  | 138 => (P_138, 2)
  | 139 => (P_139, 2)
  | 140 => (P_140, 2)
  | 141 => (P_141, 4)
  | 142 => (P_142, 2)
  | 143 => (P_143, 5)
  | 144 => (P_144, 8)
  | 145 => (P_145, 3)
  | 146 => (P_146, 1)
  | 147 => (P_147, 6)
  | 148 => (P_148, 3)
  | 149 => (P_149, 2)
  | 150 => (P_150, 2)
  | 151 => (P_151, 2)
  | 152 => (P_152, 2)
  | 153 => (P_153, 4)
  | 154 => (P_154, 3)
  | 155 => (P_155, 3)
  | 156 => (P_156, 3)
  | 157 => (P_157, 3)
  | 158 => (P_158, 2)
  | 159 => (P_159, 3)
  | 160 => (P_160, 2)
  | 161 => (P_161, 2)
  | 162 => (P_162, 5)
  | 163 => (P_163, 1)
  | 164 => (P_164, 1)
  | 165 => (P_165, 2)
  | 166 => (P_166, 1)
  | 167 => (P_167, 2)
  | 168 => (P_168, 1)
  | 169 => (P_169, 9)
  | 170 => (P_170, 1)
  | 171 => (P_171, 2)
  | 172 => (P_172, 2)
  | 173 => (P_173, 3)
  | 174 => (P_174, 3)
  | 175 => (P_175, 3)
  | 176 => (P_176, 3)
  | 177 => (P_177, 1)
  | 178 => (P_178, 2)
  | 179 => (P_179, 2)
  | 180 => (P_180, 3)
  | 181 => (P_181, 2)
  | 182 => (P_182, 2)
  | 183 => (P_183, 6)
  | 184 => (P_184, 4)
  | 185 => (P_185, 2)
  | 186 => (P_186, 2)
  | 187 => (P_187, 1)
  | 188 => (P_188, 1)
  | 189 => (P_189, 2)
  | 190 => (P_190, 1)
  | 191 => (P_191, 3)
  | 192 => (P_192, 2)
  | 193 => (P_193, 1)
  | 194 => (P_194, 2)
  | 195 => (P_195, 3)
  | 196 => (P_196, 2)
  | 197 => (P_197, 3)
  | 198 => (P_198, 2)
  | 199 => (P_199, 3)
  | 200 => (P_200, 3)
  | 201 => (P_201, 2)
  | 202 => (P_202, 2)
  | 203 => (P_203, 3)
  | 204 => (P_204, 4)
  | 205 => (P_205, 4)
  | 206 => (P_206, 2)
  | 207 => (P_207, 4)
  | 208 => (P_208, 4)
  | 209 => (P_209, 6)
  | 210 => (P_210, 5)
  | 211 => (P_211, 1)
  | 212 => (P_212, 5)
  | 213 => (P_213, 2)
  | 214 => (P_214, 5)
  | 215 => (P_215, 4)
  | 216 => (P_216, 4)
  | 217 => (P_217, 2)
  | 218 => (P_218, 2)
  | 219 => (P_219, 3)
  | 220 => (P_220, 2)
  | 221 => (P_221, 2)
  | 222 => (P_222, 2)
  | 223 => (P_223, 4)
  | 224 => (P_224, 3)
  | 225 => (P_225, 5)
  | 226 => (P_226, 3)
  | 227 => (P_227, 1)
  | 228 => (P_228, 2)
  | 229 => (P_229, 2)
  | 230 => (P_230, 4)
  | 231 => (P_231, 6)
  | 232 => (P_232, 12)
  | 233 => (P_233, 2)
  | 234 => (P_234, 5)
  | 235 => (P_235, 5)
  | 236 => (P_236, 2)
  | 237 => (P_237, 4)
  | 238 => (P_238, 1)
  | 239 => (P_239, 2)
  | 240 => (P_240, 4)
  | 241 => (P_241, 7)
  | 242 => (P_242, 2)
  | 243 => (P_243, 8)
  | 244 => (P_244, 2)
  | 245 => (P_245, 2)
  | 246 => (P_246, 8)
  | 247 => (P_247, 3)
  | 248 => (P_248, 6)
  | 249 => (P_249, 5)
  | 250 => (P_250, 2)
  | 251 => (P_251, 2)
  | 252 => (P_252, 4)
  | 253 => (P_253, 2)
  | 254 => (P_254, 3)
  | 255 => (P_255, 2)
  | 256 => (P_256, 3)
  | 257 => (P_257, 2)
  | 258 => (P_258, 4)
  | 259 => (P_259, 4)
  | 260 => (P_260, 2)
  | 261 => (P_261, 2)
  | 262 => (P_262, 3)
  | 263 => (P_263, 3)
  | 264 => (P_264, 2)
  | 265 => (P_265, 6)
  | 266 => (P_266, 4)
  | 267 => (P_267, 2)
  | 268 => (P_268, 2)
  | 269 => (P_269, 2)
  | 270 => (P_270, 2)
  | 271 => (P_271, 4)
  | 272 => (P_272, 1)
  | 273 => (P_273, 1)
  | 274 => (P_274, 6)
  | 275 => (P_275, 2)
  | 276 => (P_276, 1)
  | 277 => (P_277, 3)
  | 278 => (P_278, 4)
  | 279 => (P_279, 8)
  | 280 => (P_280, 2)
  | 281 => (P_281, 3)
  | 282 => (P_282, 3)
  | 283 => (P_283, 2)
  | 284 => (P_284, 2)
  | 285 => (P_285, 4)
  | 286 => (P_286, 4)
  | 287 => (P_287, 5)
  | 288 => (P_288, 4)
  | 289 => (P_289, 7)
  | _ => ([], 0)
/-- the locals at an entry -/
def bk_args : Nat → List bk_V → List bk_V
  | 0, _ => []
  | n + 1, [] => bk_x :: bk_args n []
  | 1, v :: _ => [v]
  | n + 2, v :: as => match v with
    | .inr (.inl _) => v :: bk_x :: bk_args n as
    | _ => v :: bk_args (n + 1) as
/-- method μ, called d deep at the most, b throws at the most -/
def bk_C : Nat → bk_Ca
  | 0 => fun _ _ _ _ _ => False
  | d + 1 => fun b μ as M Q => bk_wp (bk_C d) (bk_prog μ).1 Q b 0 (bk_args (bk_prog μ).2 as) [] M
theorem bk_C_mono : ∀ (d : Nat) (b μ : Nat) (as : List bk_V) (M : bk_M) (Q Q' : bk_Q), (∀ t r M, Q t r M → Q' t r M) → bk_C d b μ as M Q → bk_C d b μ as M Q'
  | 0, _, _, _, _, _, _, _, h => h.elim
  | d + 1, _, _, _, _, _, _, hQ, h => bk_wp_mono (bk_C_mono d) hQ h
/-- a label opened, and all behind it but the stops -/
theorem bk_blk {d : Nat} {P : bk_P} {Q : bk_Q} (S : List Nat) (n : Nat) {b l : Nat} {ls st : List bk_V} {M : bk_M} (h : bk_run (bk_C d) (bk_go (bk_C d) P Q S n) Q (bk_lk l P) b ls st M) : bk_wp (bk_C d) P Q b l ls st M :=
  bk_wp_fold (bk_C_mono d) (bk_run_mono (bk_C_mono d) (fun _ _ _ _ _ q => bk_go_wp (bk_C_mono d) n q) (fun _ _ _ h => h) _ b ls st M h)
