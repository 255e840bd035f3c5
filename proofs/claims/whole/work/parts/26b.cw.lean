def iCW (j : Nat) : Cond := if (iHh j).isEmpty = true then .code (iY j) (iBy j) (mL j) (iRt j) else .codeWith (iY j) (iBy j) (mL j) (iRt j) (iHh j)
theorem cwo_0 : iCW 0 ∈ lw_tbl := List.mem_of_getElem? (i := 59) (by decide +kernel)
theorem cwo_1 : iCW 1 ∈ lw_tbl := List.mem_of_getElem? (i := 205) (by decide +kernel)
theorem cwo_2 : iCW 2 ∈ lw_tbl := List.mem_of_getElem? (i := 310) (by decide +kernel)
theorem cwo_3 : iCW 3 ∈ lw_tbl := List.mem_of_getElem? (i := 332) (by decide +kernel)
theorem cwo_4 : iCW 4 ∈ lw_tbl := List.mem_of_getElem? (i := 339) (by decide +kernel)
theorem cwo_5 : iCW 5 ∈ lw_tbl := List.mem_of_getElem? (i := 351) (by decide +kernel)
theorem cwo_6 : iCW 6 ∈ lw_tbl := List.mem_of_getElem? (i := 439) (by decide +kernel)
theorem cwo_7 : iCW 7 ∈ lw_tbl := List.mem_of_getElem? (i := 448) (by decide +kernel)
theorem cwo_8 : iCW 8 ∈ lw_tbl := List.mem_of_getElem? (i := 514) (by decide +kernel)
theorem cwo_9 : iCW 9 ∈ lw_tbl := List.mem_of_getElem? (i := 532) (by decide +kernel)
theorem cwo_10 : iCW 10 ∈ lw_tbl := List.mem_of_getElem? (i := 543) (by decide +kernel)
theorem cwo_11 : iCW 11 ∈ lw_tbl := List.mem_of_getElem? (i := 569) (by decide +kernel)
theorem cwo_12 : iCW 12 ∈ lw_tbl := List.mem_of_getElem? (i := 591) (by decide +kernel)
theorem cwo_13 : iCW 13 ∈ lw_tbl := List.mem_of_getElem? (i := 603) (by decide +kernel)
theorem cwo_14 : iCW 14 ∈ lw_tbl := List.mem_of_getElem? (i := 615) (by decide +kernel)
theorem cwo_15 : iCW 15 ∈ lw_tbl := List.mem_of_getElem? (i := 192) (by decide +kernel)
theorem cwo_16 : iCW 16 ∈ lw_tbl := List.mem_of_getElem? (i := 196) (by decide +kernel)
theorem cwo_17 : iCW 17 ∈ lw_tbl := List.mem_of_getElem? (i := 661) (by decide +kernel)
theorem cwo_18 : iCW 18 ∈ lw_tbl := List.mem_of_getElem? (i := 684) (by decide +kernel)
theorem cwo_19 : iCW 19 ∈ lw_tbl := List.mem_of_getElem? (i := 701) (by decide +kernel)
theorem cwo_20 : iCW 20 ∈ lw_tbl := List.mem_of_getElem? (i := 708) (by decide +kernel)
theorem cwo_21 : iCW 21 ∈ lw_tbl := List.mem_of_getElem? (i := 723) (by decide +kernel)
theorem cwo_22 : iCW 22 ∈ lw_tbl := List.mem_of_getElem? (i := 318) (by decide +kernel)
theorem cwo_23 : iCW 23 ∈ lw_tbl := List.mem_of_getElem? (i := 343) (by decide +kernel)
theorem cwo_24 : iCW 24 ∈ lw_tbl := List.mem_of_getElem? (i := 314) (by decide +kernel)
theorem cwo_25 : iCW 25 ∈ lw_tbl := List.mem_of_getElem? (i := 359) (by decide +kernel)
theorem cwo_26 : iCW 26 ∈ lw_tbl := List.mem_of_getElem? (i := 394) (by decide +kernel)
theorem cwo_27 : iCW 27 ∈ lw_tbl := List.mem_of_getElem? (i := 354) (by decide +kernel)
theorem cwo_28 : iCW 28 ∈ lw_tbl := List.mem_of_getElem? (i := 362) (by decide +kernel)
theorem cwo_29 : iCW 29 ∈ lw_tbl := List.mem_of_getElem? (i := 367) (by decide +kernel)
theorem cwo_30 : iCW 30 ∈ lw_tbl := List.mem_of_getElem? (i := 374) (by decide +kernel)
theorem cwo_31 : iCW 31 ∈ lw_tbl := List.mem_of_getElem? (i := 692) (by decide +kernel)
theorem cwo_32 : iCW 32 ∈ lw_tbl := List.mem_of_getElem? (i := 688) (by decide +kernel)
theorem cwo_33 : iCW 33 ∈ lw_tbl := List.mem_of_getElem? (i := 292) (by decide +kernel)
theorem cwo_34 : iCW 34 ∈ lw_tbl := List.mem_of_getElem? (i := 323) (by decide +kernel)
theorem cwo_35 : iCW 35 ∈ lw_tbl := List.mem_of_getElem? (i := 476) (by decide +kernel)
theorem cwo_36 : iCW 36 ∈ lw_tbl := List.mem_of_getElem? (i := 472) (by decide +kernel)
theorem cwo_37 : iCW 37 ∈ lw_tbl := List.mem_of_getElem? (i := 525) (by decide +kernel)
theorem cwo_38 : iCW 38 ∈ lw_tbl := List.mem_of_getElem? (i := 456) (by decide +kernel)
theorem cwo_39 : iCW 39 ∈ lw_tbl := List.mem_of_getElem? (i := 507) (by decide +kernel)
theorem cwo_40 : iCW 40 ∈ lw_tbl := List.mem_of_getElem? (i := 379) (by decide +kernel)
theorem cwo_41 : iCW 41 ∈ lw_tbl := List.mem_of_getElem? (i := 468) (by decide +kernel)
theorem cwo_42 : iCW 42 ∈ lw_tbl := List.mem_of_getElem? (i := 481) (by decide +kernel)
theorem cwo_43 : iCW 43 ∈ lw_tbl := List.mem_of_getElem? (i := 390) (by decide +kernel)
theorem cwo_44 : iCW 44 ∈ lw_tbl := List.mem_of_getElem? (i := 490) (by decide +kernel)
theorem cwo_45 : iCW 45 ∈ lw_tbl := List.mem_of_getElem? (i := 464) (by decide +kernel)
theorem cwo_46 : iCW 46 ∈ lw_tbl := List.mem_of_getElem? (i := 494) (by decide +kernel)
theorem cwo_47 : iCW 47 ∈ lw_tbl := List.mem_of_getElem? (i := 499) (by decide +kernel)
theorem cwo_48 : iCW 48 ∈ lw_tbl := List.mem_of_getElem? (i := 69) (by decide +kernel)
theorem cwo_49 : iCW 49 ∈ lw_tbl := List.mem_of_getElem? (i := 432) (by decide +kernel)
theorem cwo_50 : iCW 50 ∈ lw_tbl := List.mem_of_getElem? (i := 536) (by decide +kernel)
theorem cwo_51 : iCW 51 ∈ lw_tbl := List.mem_of_getElem? (i := 452) (by decide +kernel)
theorem cwo_52 : iCW 52 ∈ lw_tbl := List.mem_of_getElem? (i := 460) (by decide +kernel)
theorem cwo_53 : iCW 53 ∈ lw_tbl := List.mem_of_getElem? (i := 486) (by decide +kernel)
theorem cwo_54 : iCW 54 ∈ lw_tbl := List.mem_of_getElem? (i := 503) (by decide +kernel)
theorem cwo_55 : iCW 55 ∈ lw_tbl := List.mem_of_getElem? (i := 519) (by decide +kernel)
theorem cwo_56 : iCW 56 ∈ lw_tbl := List.mem_of_getElem? (i := 549) (by decide +kernel)
theorem cwo_57 : iCW 57 ∈ lw_tbl := List.mem_of_getElem? (i := 582) (by decide +kernel)
theorem cwo_58 : iCW 58 ∈ lw_tbl := List.mem_of_getElem? (i := 92) (by decide +kernel)
theorem cwo_59 : iCW 59 ∈ lw_tbl := List.mem_of_getElem? (i := 562) (by decide +kernel)
theorem cwo_60 : iCW 60 ∈ lw_tbl := List.mem_of_getElem? (i := 573) (by decide +kernel)
theorem cwo_61 : iCW 61 ∈ lw_tbl := List.mem_of_getElem? (i := 578) (by decide +kernel)
theorem cwo_62 : iCW 62 ∈ lw_tbl := List.mem_of_getElem? (i := 112) (by decide +kernel)
theorem cwo_63 : iCW 63 ∈ lw_tbl := List.mem_of_getElem? (i := 596) (by decide +kernel)
theorem cwo_64 : iCW 64 ∈ lw_tbl := List.mem_of_getElem? (i := 608) (by decide +kernel)
theorem cwo_65 : iCW 65 ∈ lw_tbl := List.mem_of_getElem? (i := 619) (by decide +kernel)
theorem cwo_66 : iCW 66 ∈ lw_tbl := List.mem_of_getElem? (i := 624) (by decide +kernel)
theorem cwo_67 : iCW 67 ∈ lw_tbl := List.mem_of_getElem? (i := 628) (by decide +kernel)
theorem cwo_68 : iCW 68 ∈ lw_tbl := List.mem_of_getElem? (i := 639) (by decide +kernel)
theorem cwo_69 : iCW 69 ∈ lw_tbl := List.mem_of_getElem? (i := 635) (by decide +kernel)
theorem cwo_70 : iCW 70 ∈ lw_tbl := List.mem_of_getElem? (i := 643) (by decide +kernel)
theorem cwo_71 : iCW 71 ∈ lw_tbl := List.mem_of_getElem? (i := 648) (by decide +kernel)
theorem cwo_72 : iCW 72 ∈ lw_tbl := List.mem_of_getElem? (i := 652) (by decide +kernel)
theorem cwo_73 : iCW 73 ∈ lw_tbl := List.mem_of_getElem? (i := 667) (by decide +kernel)
theorem cwo_74 : iCW 74 ∈ lw_tbl := List.mem_of_getElem? (i := 716) (by decide +kernel)
theorem cwo_75 : iCW 75 ∈ lw_tbl := List.mem_of_getElem? (i := 712) (by decide +kernel)
theorem cwo_76 : iCW 76 ∈ lw_tbl := List.mem_of_getElem? (i := 727) (by decide +kernel)
theorem cwo_77 : iCW 77 ∈ lw_tbl := List.mem_of_getElem? (i := 730) (by decide +kernel)
theorem cwo_78 : iCW 78 ∈ lw_tbl := List.mem_of_getElem? (i := 735) (by decide +kernel)
theorem cwo_79 : iCW 79 ∈ lw_tbl := List.mem_of_getElem? (i := 840) (by decide +kernel)
theorem cwo_80 : iCW 80 ∈ lw_tbl := List.mem_of_getElem? (i := 848) (by decide +kernel)
theorem cwo_81 : iCW 81 ∈ lw_tbl := List.mem_of_getElem? (i := 860) (by decide +kernel)
theorem cwo_82 : iCW 82 ∈ lw_tbl := List.mem_of_getElem? (i := 872) (by decide +kernel)
theorem cwo_83 : iCW 83 ∈ lw_tbl := List.mem_of_getElem? (i := 844) (by decide +kernel)
theorem cwo_84 : iCW 84 ∈ lw_tbl := List.mem_of_getElem? (i := 856) (by decide +kernel)
theorem cwo_85 : iCW 85 ∈ lw_tbl := List.mem_of_getElem? (i := 852) (by decide +kernel)
theorem cwo_86 : iCW 86 ∈ lw_tbl := List.mem_of_getElem? (i := 864) (by decide +kernel)
theorem cwo_87 : iCW 87 ∈ lw_tbl := List.mem_of_getElem? (i := 896) (by decide +kernel)
theorem cwo_88 : iCW 88 ∈ lw_tbl := List.mem_of_getElem? (i := 908) (by decide +kernel)
theorem cwo_89 : iCW 89 ∈ lw_tbl := List.mem_of_getElem? (i := 904) (by decide +kernel)
theorem cwo_90 : iCW 90 ∈ lw_tbl := List.mem_of_getElem? (i := 868) (by decide +kernel)
theorem cwo_91 : iCW 91 ∈ lw_tbl := List.mem_of_getElem? (i := 880) (by decide +kernel)
theorem cwo_92 : iCW 92 ∈ lw_tbl := List.mem_of_getElem? (i := 876) (by decide +kernel)
theorem cwo_93 : iCW 93 ∈ lw_tbl := List.mem_of_getElem? (i := 884) (by decide +kernel)
theorem cwo_94 : iCW 94 ∈ lw_tbl := List.mem_of_getElem? (i := 900) (by decide +kernel)
theorem cwo_95 : iCW 95 ∈ lw_tbl := List.mem_of_getElem? (i := 912) (by decide +kernel)
theorem cwo_96 : iCW 96 ∈ lw_tbl := List.mem_of_getElem? (i := 916) (by decide +kernel)
theorem cwo_97 : iCW 97 ∈ lw_tbl := List.mem_of_getElem? (i := 892) (by decide +kernel)
theorem cwo_98 : iCW 98 ∈ lw_tbl := List.mem_of_getElem? (i := 920) (by decide +kernel)
theorem cwo_99 : iCW 99 ∈ lw_tbl := List.mem_of_getElem? (i := 888) (by decide +kernel)
theorem cwo_100 : iCW 100 ∈ lw_tbl := List.mem_of_getElem? (i := 924) (by decide +kernel)
theorem cwo_101 : iCW 101 ∈ lw_tbl := List.mem_of_getElem? (i := 928) (by decide +kernel)
theorem cwo_102 : iCW 102 ∈ lw_tbl := List.mem_of_getElem? (i := 932) (by decide +kernel)
theorem cwo_103 : iCW 103 ∈ lw_tbl := List.mem_of_getElem? (i := 936) (by decide +kernel)
theorem cwo_104 : iCW 104 ∈ lw_tbl := List.mem_of_getElem? (i := 940) (by decide +kernel)
theorem cwo_105 : iCW 105 ∈ lw_tbl := List.mem_of_getElem? (i := 944) (by decide +kernel)
theorem cwo_106 : iCW 106 ∈ lw_tbl := List.mem_of_getElem? (i := 952) (by decide +kernel)
theorem cwo_107 : iCW 107 ∈ lw_tbl := List.mem_of_getElem? (i := 956) (by decide +kernel)
theorem cwo_108 : iCW 108 ∈ lw_tbl := List.mem_of_getElem? (i := 948) (by decide +kernel)
theorem cwo_109 : iCW 109 ∈ lw_tbl := List.mem_of_getElem? (i := 960) (by decide +kernel)
theorem cwo_110 : iCW 110 ∈ lw_tbl := List.mem_of_getElem? (i := 964) (by decide +kernel)
theorem cwo_111 : iCW 111 ∈ lw_tbl := List.mem_of_getElem? (i := 968) (by decide +kernel)
theorem cwo_112 : iCW 112 ∈ lw_tbl := List.mem_of_getElem? (i := 980) (by decide +kernel)
theorem cwo_113 : iCW 113 ∈ lw_tbl := List.mem_of_getElem? (i := 976) (by decide +kernel)
theorem cwo_114 : iCW 114 ∈ lw_tbl := List.mem_of_getElem? (i := 972) (by decide +kernel)
theorem cwo_115 : iCW 115 ∈ lw_tbl := List.mem_of_getElem? (i := 984) (by decide +kernel)
theorem cwo_116 : iCW 116 ∈ lw_tbl := List.mem_of_getElem? (i := 988) (by decide +kernel)
theorem cwo_117 : iCW 117 ∈ lw_tbl := List.mem_of_getElem? (i := 992) (by decide +kernel)
theorem cwo_118 : iCW 118 ∈ lw_tbl := List.mem_of_getElem? (i := 199) (by decide +kernel)
theorem cwo_119 : iCW 119 ∈ lw_tbl := List.mem_of_getElem? (i := 306) (by decide +kernel)
theorem cwo_120 : iCW 120 ∈ lw_tbl := List.mem_of_getElem? (i := 328) (by decide +kernel)
theorem cwo_121 : iCW 121 ∈ lw_tbl := List.mem_of_getElem? (i := 335) (by decide +kernel)
theorem cwo_122 : iCW 122 ∈ lw_tbl := List.mem_of_getElem? (i := 347) (by decide +kernel)
theorem cwo_123 : iCW 123 ∈ lw_tbl := List.mem_of_getElem? (i := 435) (by decide +kernel)
theorem cwo_124 : iCW 124 ∈ lw_tbl := List.mem_of_getElem? (i := 444) (by decide +kernel)
theorem cwo_125 : iCW 125 ∈ lw_tbl := List.mem_of_getElem? (i := 510) (by decide +kernel)
theorem cwo_126 : iCW 126 ∈ lw_tbl := List.mem_of_getElem? (i := 528) (by decide +kernel)
theorem cwo_127 : iCW 127 ∈ lw_tbl := List.mem_of_getElem? (i := 539) (by decide +kernel)
theorem cwo_128 : iCW 128 ∈ lw_tbl := List.mem_of_getElem? (i := 565) (by decide +kernel)
theorem cwo_129 : iCW 129 ∈ lw_tbl := List.mem_of_getElem? (i := 587) (by decide +kernel)
theorem cwo_130 : iCW 130 ∈ lw_tbl := List.mem_of_getElem? (i := 599) (by decide +kernel)
theorem cwo_131 : iCW 131 ∈ lw_tbl := List.mem_of_getElem? (i := 611) (by decide +kernel)
theorem cwo_132 : iCW 132 ∈ lw_tbl := List.mem_of_getElem? (i := 657) (by decide +kernel)
theorem cwo_133 : iCW 133 ∈ lw_tbl := List.mem_of_getElem? (i := 680) (by decide +kernel)
theorem cwo_134 : iCW 134 ∈ lw_tbl := List.mem_of_getElem? (i := 697) (by decide +kernel)
theorem cwo_135 : iCW 135 ∈ lw_tbl := List.mem_of_getElem? (i := 704) (by decide +kernel)
theorem cwo_136 : iCW 136 ∈ lw_tbl := List.mem_of_getElem? (i := 719) (by decide +kernel)
theorem cwo_138 : iCW 138 ∈ lw_tbl := List.mem_of_getElem? (i := 296) (by decide +kernel)
theorem cwo_139 : iCW 139 ∈ lw_tbl := List.mem_of_getElem? (i := 631) (by decide +kernel)
theorem cwA : ∀ j : Nat, j < 140 → j ≠ 137 → iCW j ∈ lw_tbl
  | 0 => fun _ _ => cwo_0
  | 1 => fun _ _ => cwo_1
  | 2 => fun _ _ => cwo_2
  | 3 => fun _ _ => cwo_3
  | 4 => fun _ _ => cwo_4
  | 5 => fun _ _ => cwo_5
  | 6 => fun _ _ => cwo_6
  | 7 => fun _ _ => cwo_7
  | 8 => fun _ _ => cwo_8
  | 9 => fun _ _ => cwo_9
  | 10 => fun _ _ => cwo_10
  | 11 => fun _ _ => cwo_11
  | 12 => fun _ _ => cwo_12
  | 13 => fun _ _ => cwo_13
  | 14 => fun _ _ => cwo_14
  | 15 => fun _ _ => cwo_15
  | 16 => fun _ _ => cwo_16
  | 17 => fun _ _ => cwo_17
  | 18 => fun _ _ => cwo_18
  | 19 => fun _ _ => cwo_19
  | 20 => fun _ _ => cwo_20
  | 21 => fun _ _ => cwo_21
  | 22 => fun _ _ => cwo_22
  | 23 => fun _ _ => cwo_23
  | 24 => fun _ _ => cwo_24
  | 25 => fun _ _ => cwo_25
  | 26 => fun _ _ => cwo_26
  | 27 => fun _ _ => cwo_27
  | 28 => fun _ _ => cwo_28
  | 29 => fun _ _ => cwo_29
  | 30 => fun _ _ => cwo_30
  | 31 => fun _ _ => cwo_31
  | 32 => fun _ _ => cwo_32
  | 33 => fun _ _ => cwo_33
  | 34 => fun _ _ => cwo_34
  | 35 => fun _ _ => cwo_35
  | 36 => fun _ _ => cwo_36
  | 37 => fun _ _ => cwo_37
  | 38 => fun _ _ => cwo_38
  | 39 => fun _ _ => cwo_39
  | 40 => fun _ _ => cwo_40
  | 41 => fun _ _ => cwo_41
  | 42 => fun _ _ => cwo_42
  | 43 => fun _ _ => cwo_43
  | 44 => fun _ _ => cwo_44
  | 45 => fun _ _ => cwo_45
  | 46 => fun _ _ => cwo_46
  | 47 => fun _ _ => cwo_47
  | 48 => fun _ _ => cwo_48
  | 49 => fun _ _ => cwo_49
  | 50 => fun _ _ => cwo_50
  | 51 => fun _ _ => cwo_51
  | 52 => fun _ _ => cwo_52
  | 53 => fun _ _ => cwo_53
  | 54 => fun _ _ => cwo_54
  | 55 => fun _ _ => cwo_55
  | 56 => fun _ _ => cwo_56
  | 57 => fun _ _ => cwo_57
  | 58 => fun _ _ => cwo_58
  | 59 => fun _ _ => cwo_59
  | 60 => fun _ _ => cwo_60
  | 61 => fun _ _ => cwo_61
  | 62 => fun _ _ => cwo_62
  | 63 => fun _ _ => cwo_63
  | 64 => fun _ _ => cwo_64
  | 65 => fun _ _ => cwo_65
  | 66 => fun _ _ => cwo_66
  | 67 => fun _ _ => cwo_67
  | 68 => fun _ _ => cwo_68
  | 69 => fun _ _ => cwo_69
  | 70 => fun _ _ => cwo_70
  | 71 => fun _ _ => cwo_71
  | 72 => fun _ _ => cwo_72
  | 73 => fun _ _ => cwo_73
  | 74 => fun _ _ => cwo_74
  | 75 => fun _ _ => cwo_75
  | 76 => fun _ _ => cwo_76
  | 77 => fun _ _ => cwo_77
  | 78 => fun _ _ => cwo_78
  | 79 => fun _ _ => cwo_79
  | 80 => fun _ _ => cwo_80
  | 81 => fun _ _ => cwo_81
  | 82 => fun _ _ => cwo_82
  | 83 => fun _ _ => cwo_83
  | 84 => fun _ _ => cwo_84
  | 85 => fun _ _ => cwo_85
  | 86 => fun _ _ => cwo_86
  | 87 => fun _ _ => cwo_87
  | 88 => fun _ _ => cwo_88
  | 89 => fun _ _ => cwo_89
  | 90 => fun _ _ => cwo_90
  | 91 => fun _ _ => cwo_91
  | 92 => fun _ _ => cwo_92
  | 93 => fun _ _ => cwo_93
  | 94 => fun _ _ => cwo_94
  | 95 => fun _ _ => cwo_95
  | 96 => fun _ _ => cwo_96
  | 97 => fun _ _ => cwo_97
  | 98 => fun _ _ => cwo_98
  | 99 => fun _ _ => cwo_99
  | 100 => fun _ _ => cwo_100
  | 101 => fun _ _ => cwo_101
  | 102 => fun _ _ => cwo_102
  | 103 => fun _ _ => cwo_103
  | 104 => fun _ _ => cwo_104
  | 105 => fun _ _ => cwo_105
  | 106 => fun _ _ => cwo_106
  | 107 => fun _ _ => cwo_107
  | 108 => fun _ _ => cwo_108
  | 109 => fun _ _ => cwo_109
  | 110 => fun _ _ => cwo_110
  | 111 => fun _ _ => cwo_111
  | 112 => fun _ _ => cwo_112
  | 113 => fun _ _ => cwo_113
  | 114 => fun _ _ => cwo_114
  | 115 => fun _ _ => cwo_115
  | 116 => fun _ _ => cwo_116
  | 117 => fun _ _ => cwo_117
  | 118 => fun _ _ => cwo_118
  | 119 => fun _ _ => cwo_119
  | 120 => fun _ _ => cwo_120
  | 121 => fun _ _ => cwo_121
  | 122 => fun _ _ => cwo_122
  | 123 => fun _ _ => cwo_123
  | 124 => fun _ _ => cwo_124
  | 125 => fun _ _ => cwo_125
  | 126 => fun _ _ => cwo_126
  | 127 => fun _ _ => cwo_127
  | 128 => fun _ _ => cwo_128
  | 129 => fun _ _ => cwo_129
  | 130 => fun _ _ => cwo_130
  | 131 => fun _ _ => cwo_131
  | 132 => fun _ _ => cwo_132
  | 133 => fun _ _ => cwo_133
  | 134 => fun _ _ => cwo_134
  | 135 => fun _ _ => cwo_135
  | 136 => fun _ _ => cwo_136
  | 137 => fun _ h => absurd rfl h
  | 138 => fun _ _ => cwo_138
  | 139 => fun _ _ => cwo_139
  | j + 140 => fun h => absurd h (by omega)

theorem iCW_g (j : Nat) : iGW (iCW j) = true := by
  unfold iCW
  split <;> rfl
def iEct : Nat → Nat
  | 1 => 13
  | _ => 15
theorem iHm0 : iHs = mHs.map (fun q => q.map (fun h => (h.1, h.2.1, h.2.2.1, iEct h.2.2.2))) := by decide +kernel
theorem iHm1 : ∀ q ∈ mHs, ∀ h ∈ q, h.2.2.2 = 1 ∨ h.2.2.2 = 2 := by decide +kernel
theorem iHm (j : Nat) : iHh j = ((mHs[j]?).getD []).map (fun h => (h.1, h.2.1, h.2.2.1, iEct h.2.2.2)) := by
  unfold iHh
  rw [iHm0, List.getElem?_map]
  cases mHs[j]? <;> rfl
theorem kcl_1 : Cond.classLink "TextVerbsLaw" 13 (iEx 1) ∈ lw_tbl := List.mem_of_getElem? (i := 200) (by decide +kernel)
theorem kcl_2 : Cond.classLink "TextVerbsLaw" 15 (iEx 2) ∈ lw_tbl := List.mem_of_getElem? (i := 201) (by decide +kernel)
theorem kca_1 : Cond.castable (iEx 1) (iEx 1) ∈ lw_tbl := List.mem_of_getElem? (i := 208) (by decide +kernel)
theorem kca_2 : Cond.castable (iEx 2) (iEx 2) ∈ lw_tbl := List.mem_of_getElem? (i := 275) (by decide +kernel)
theorem kNest : lw_tbl.all (fun w => match w with | .methodLinkNest _ _ y _ => decide (y.cls ≠ "TextVerbsLaw") | _ => true) = true := by decide +kernel
theorem kNest2 : lw_tbl.all (fun w => match w with | .methodLinkNest _ _ y _ => decide (y.name = "<init>") || decide (y.name = "widthOf") | _ => true) = true := by decide +kernel
theorem kInst2 : lw_tbl.all (fun w => match w with | .instanceMethod y => decide (y.name ≠ "widthOf") | _ => true) = true := by decide +kernel
theorem kIni : ∀ j, j < 140 → (iY j).name = "<init>" → iHh j = [] ∧ iRt j = none := by decide +kernel
theorem pM9 : ∀ x ∈ pMs, ∀ q ∈ x, q.2.1 = 999 → q.2.2.2 = 1 := by decide +kernel
theorem iOwY : ∀ j, j < 140 → iOw j = (iY j).cls ∧ plainFor (iY j) = true := by decide +kernel
theorem iHow : ∀ j, j < 140 → ((mHs[j]?).getD []).isEmpty = true ∨ iOw j = "TextVerbsLaw" := by decide +kernel
