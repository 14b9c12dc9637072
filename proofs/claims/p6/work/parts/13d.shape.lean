noncomputable def SH : am_Sh := [(8, 16, [some 1, some 4, some 7, some 11, some 14, some 19, some 35, some 36, some 41, some 44, some 47, some 52, none, none, none, none]),
  (6, 5, [none, none, none, some 2, some 3]),
  (10, 6, []),
  (10, 240, []),
  (6, 5, [none, none, none, some 5, some 6]),
  (10, 4, []),
  (10, 240, []),
  (5, 7, [some 8, none, none, none, some 4, none, none]),
  (2, 3, [none, some 9, some 10]),
  (10, 12, []),
  (10, 12, []),
  (2, 3, [none, some 12, some 13]),
  (10, 12, []),
  (10, 12, []),
  (1, 8, [none, none, none, none, some 15, some 16, some 17, some 18]),
  (10, 40, []),
  (10, 40, []),
  (10, 41, []),
  (10, 96, []),
  (12, 3, [some 20, some 25, some 30]),
  (1, 8, [none, none, none, none, some 21, some 22, some 23, some 24]),
  (10, 40, []),
  (10, 40, []),
  (10, 41, []),
  (10, 96, []),
  (1, 8, [none, none, none, none, some 26, some 27, some 28, some 29]),
  (10, 40, []),
  (10, 40, []),
  (10, 41, []),
  (10, 96, []),
  (1, 8, [none, none, none, none, some 31, some 32, some 33, some 34]),
  (10, 40, []),
  (10, 40, []),
  (10, 41, []),
  (10, 96, []),
  (10, 3, []),
  (4, 7, [some 11, some 14, some 37, some 38, some 39, some 40, none]),
  (10, 13, []),
  (10, 273, []),
  (11, 13, []),
  (11, 13, []),
  (0, 4, [some 11, some 14, some 42, some 43]),
  (11, 13, []),
  (11, 13, []),
  (7, 5, [some 11, some 14, some 45, some 46, none]),
  (10, 65, []),
  (10, 65, []),
  (3, 4, [some 11, some 14, some 48, some 51]),
  (2, 3, [none, some 49, some 50]),
  (10, 12, []),
  (10, 12, []),
  (10, 41, []),
  (10, 6, []),
  (9, 31, [some 54, none, some 55, some 56, some 57, some 58, some 59, some 60, none, none, none, none, some 61, none, none, none, some 62, none, some 63, none, none, some 64, none, none, some 65, some 66, some 67, none, some 68, none, none]),
  (10, 605, []),
  (10, 12, []),
  (10, 12, []),
  (10, 6, []),
  (10, 240, []),
  (10, 4, []),
  (10, 240, []),
  (10, 6, []),
  (10, 24, []),
  (10, 3, []),
  (10, 273, []),
  (11, 273, []),
  (11, 13, []),
  (11, 13, []),
  (10, 65, [])]
theorem sh_0 : SH[0]? = some (8, 16, [some 1, some 4, some 7, some 11, some 14, some 19, some 35, some 36, some 41, some 44, some 47, some 52, none, none, none, none]) := rfl
theorem sh_1 : SH[1]? = some (6, 5, [none, none, none, some 2, some 3]) := rfl
theorem sh_2 : SH[2]? = some (10, 6, []) := rfl
theorem sh_3 : SH[3]? = some (10, 240, []) := rfl
theorem sh_4 : SH[4]? = some (6, 5, [none, none, none, some 5, some 6]) := rfl
theorem sh_5 : SH[5]? = some (10, 4, []) := rfl
theorem sh_6 : SH[6]? = some (10, 240, []) := rfl
theorem sh_7 : SH[7]? = some (5, 7, [some 8, none, none, none, some 4, none, none]) := rfl
theorem sh_8 : SH[8]? = some (2, 3, [none, some 9, some 10]) := rfl
theorem sh_9 : SH[9]? = some (10, 12, []) := rfl
theorem sh_10 : SH[10]? = some (10, 12, []) := rfl
theorem sh_11 : SH[11]? = some (2, 3, [none, some 12, some 13]) := rfl
theorem sh_12 : SH[12]? = some (10, 12, []) := rfl
theorem sh_13 : SH[13]? = some (10, 12, []) := rfl
theorem sh_14 : SH[14]? = some (1, 8, [none, none, none, none, some 15, some 16, some 17, some 18]) := rfl
theorem sh_15 : SH[15]? = some (10, 40, []) := rfl
theorem sh_16 : SH[16]? = some (10, 40, []) := rfl
theorem sh_17 : SH[17]? = some (10, 41, []) := rfl
theorem sh_18 : SH[18]? = some (10, 96, []) := rfl
theorem sh_19 : SH[19]? = some (12, 3, [some 20, some 25, some 30]) := rfl
theorem sh_20 : SH[20]? = some (1, 8, [none, none, none, none, some 21, some 22, some 23, some 24]) := rfl
theorem sh_21 : SH[21]? = some (10, 40, []) := rfl
theorem sh_22 : SH[22]? = some (10, 40, []) := rfl
theorem sh_23 : SH[23]? = some (10, 41, []) := rfl
theorem sh_24 : SH[24]? = some (10, 96, []) := rfl
theorem sh_25 : SH[25]? = some (1, 8, [none, none, none, none, some 26, some 27, some 28, some 29]) := rfl
theorem sh_26 : SH[26]? = some (10, 40, []) := rfl
theorem sh_27 : SH[27]? = some (10, 40, []) := rfl
theorem sh_28 : SH[28]? = some (10, 41, []) := rfl
theorem sh_29 : SH[29]? = some (10, 96, []) := rfl
theorem sh_30 : SH[30]? = some (1, 8, [none, none, none, none, some 31, some 32, some 33, some 34]) := rfl
theorem sh_31 : SH[31]? = some (10, 40, []) := rfl
theorem sh_32 : SH[32]? = some (10, 40, []) := rfl
theorem sh_33 : SH[33]? = some (10, 41, []) := rfl
theorem sh_34 : SH[34]? = some (10, 96, []) := rfl
theorem sh_35 : SH[35]? = some (10, 3, []) := rfl
theorem sh_36 : SH[36]? = some (4, 7, [some 11, some 14, some 37, some 38, some 39, some 40, none]) := rfl
theorem sh_37 : SH[37]? = some (10, 13, []) := rfl
theorem sh_38 : SH[38]? = some (10, 273, []) := rfl
theorem sh_39 : SH[39]? = some (11, 13, []) := rfl
theorem sh_40 : SH[40]? = some (11, 13, []) := rfl
theorem sh_41 : SH[41]? = some (0, 4, [some 11, some 14, some 42, some 43]) := rfl
theorem sh_42 : SH[42]? = some (11, 13, []) := rfl
theorem sh_43 : SH[43]? = some (11, 13, []) := rfl
theorem sh_44 : SH[44]? = some (7, 5, [some 11, some 14, some 45, some 46, none]) := rfl
theorem sh_45 : SH[45]? = some (10, 65, []) := rfl
theorem sh_46 : SH[46]? = some (10, 65, []) := rfl
theorem sh_47 : SH[47]? = some (3, 4, [some 11, some 14, some 48, some 51]) := rfl
theorem sh_48 : SH[48]? = some (2, 3, [none, some 49, some 50]) := rfl
theorem sh_49 : SH[49]? = some (10, 12, []) := rfl
theorem sh_50 : SH[50]? = some (10, 12, []) := rfl
theorem sh_51 : SH[51]? = some (10, 41, []) := rfl
theorem sh_52 : SH[52]? = some (10, 6, []) := rfl
theorem sh_53 : SH[53]? = some (9, 31, [some 54, none, some 55, some 56, some 57, some 58, some 59, some 60, none, none, none, none, some 61, none, none, none, some 62, none, some 63, none, none, some 64, none, none, some 65, some 66, some 67, none, some 68, none, none]) := rfl
theorem sh_54 : SH[54]? = some (10, 605, []) := rfl
theorem sh_55 : SH[55]? = some (10, 12, []) := rfl
theorem sh_56 : SH[56]? = some (10, 12, []) := rfl
theorem sh_57 : SH[57]? = some (10, 6, []) := rfl
theorem sh_58 : SH[58]? = some (10, 240, []) := rfl
theorem sh_59 : SH[59]? = some (10, 4, []) := rfl
theorem sh_60 : SH[60]? = some (10, 240, []) := rfl
theorem sh_61 : SH[61]? = some (10, 6, []) := rfl
theorem sh_62 : SH[62]? = some (10, 24, []) := rfl
theorem sh_63 : SH[63]? = some (10, 3, []) := rfl
theorem sh_64 : SH[64]? = some (10, 273, []) := rfl
theorem sh_65 : SH[65]? = some (11, 273, []) := rfl
theorem sh_66 : SH[66]? = some (11, 13, []) := rfl
theorem sh_67 : SH[67]? = some (11, 13, []) := rfl
theorem sh_68 : SH[68]? = some (10, 65, []) := rfl
