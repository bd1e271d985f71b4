/-! the constructors: instructions, words -/
theorem dX0_init_0 : decode cX0_init 0 = .ok ((.aload_n 0), 1) := by decide +kernel
theorem dX0_init_1 : decode cX0_init 1 = .ok ((.invokespecial 3), 3) := by decide +kernel
theorem dX0_init_4 : decode cX0_init 4 = .ok ((.aload_n 0), 1) := by decide +kernel
theorem dX0_init_5 : decode cX0_init 5 = .ok ((.iconst 4), 1) := by decide +kernel
theorem dX0_init_6 : decode cX0_init 6 = .ok ((.newarray .int), 2) := by decide +kernel
theorem dX0_init_8 : decode cX0_init 8 = .ok ((.putfield 9), 3) := by decide +kernel
theorem dX0_init_11 : decode cX0_init 11 = .ok ((.aload_n 0), 1) := by decide +kernel
theorem dX0_init_12 : decode cX0_init 12 = .ok ((.bipush 8), 2) := by decide +kernel
theorem dX0_init_14 : decode cX0_init 14 = .ok ((.newarray .long), 2) := by decide +kernel
theorem dX0_init_16 : decode cX0_init 16 = .ok ((.putfield 15), 3) := by decide +kernel
theorem dX0_init_19 : decode cX0_init 19 = .ok ((.aload_n 0), 1) := by decide +kernel
theorem dX0_init_20 : decode cX0_init 20 = .ok ((.bipush 8), 2) := by decide +kernel
theorem dX0_init_22 : decode cX0_init 22 = .ok ((.newarray .int), 2) := by decide +kernel
theorem dX0_init_24 : decode cX0_init 24 = .ok ((.putfield 19), 3) := by decide +kernel
theorem dX0_init_27 : decode cX0_init 27 = .ok ((.aload_n 0), 1) := by decide +kernel
theorem dX0_init_28 : decode cX0_init 28 = .ok ((.bipush 8), 2) := by decide +kernel
theorem dX0_init_30 : decode cX0_init 30 = .ok ((.newarray .int), 2) := by decide +kernel
theorem dX0_init_32 : decode cX0_init 32 = .ok ((.putfield 22), 3) := by decide +kernel
theorem dX0_init_35 : decode cX0_init 35 = .ok ((.aload_n 0), 1) := by decide +kernel
theorem dX0_init_36 : decode cX0_init 36 = .ok ((.bipush 8), 2) := by decide +kernel
theorem dX0_init_38 : decode cX0_init 38 = .ok ((.newarray .int), 2) := by decide +kernel
theorem dX0_init_40 : decode cX0_init 40 = .ok ((.putfield 25), 3) := by decide +kernel
theorem dX0_init_43 : decode cX0_init 43 = .ok ((.aload_n 0), 1) := by decide +kernel
theorem dX0_init_44 : decode cX0_init 44 = .ok ((.bipush 8), 2) := by decide +kernel
theorem dX0_init_46 : decode cX0_init 46 = .ok ((.newarray .int), 2) := by decide +kernel
theorem dX0_init_48 : decode cX0_init 48 = .ok ((.putfield 28), 3) := by decide +kernel
theorem dX0_init_51 : decode cX0_init 51 = .ok ((.aload_n 0), 1) := by decide +kernel
theorem dX0_init_52 : decode cX0_init 52 = .ok ((.bipush 8), 2) := by decide +kernel
theorem dX0_init_54 : decode cX0_init 54 = .ok ((.newarray .int), 2) := by decide +kernel
theorem dX0_init_56 : decode cX0_init 56 = .ok ((.putfield 31), 3) := by decide +kernel
theorem dX0_init_59 : decode cX0_init 59 = .ok ((.aload_n 0), 1) := by decide +kernel
theorem dX0_init_60 : decode cX0_init 60 = .ok ((.bipush 10), 2) := by decide +kernel
theorem dX0_init_62 : decode cX0_init 62 = .ok ((.newarray .long), 2) := by decide +kernel
theorem dX0_init_64 : decode cX0_init 64 = .ok ((.putfield 34), 3) := by decide +kernel
theorem dX0_init_67 : decode cX0_init 67 = .ok ((.aload_n 0), 1) := by decide +kernel
theorem dX0_init_68 : decode cX0_init 68 = .ok ((.bipush 10), 2) := by decide +kernel
theorem dX0_init_70 : decode cX0_init 70 = .ok ((.newarray .int), 2) := by decide +kernel
theorem dX0_init_72 : decode cX0_init 72 = .ok ((.putfield 37), 3) := by decide +kernel
theorem dX0_init_75 : decode cX0_init 75 = .ok ((.aload_n 0), 1) := by decide +kernel
theorem dX0_init_76 : decode cX0_init 76 = .ok ((.bipush 10), 2) := by decide +kernel
theorem dX0_init_78 : decode cX0_init 78 = .ok ((.newarray .int), 2) := by decide +kernel
theorem dX0_init_80 : decode cX0_init 80 = .ok ((.putfield 40), 3) := by decide +kernel
theorem dX0_init_83 : decode cX0_init 83 = .ok ((.aload_n 0), 1) := by decide +kernel
theorem dX0_init_84 : decode cX0_init 84 = .ok ((.bipush 10), 2) := by decide +kernel
theorem dX0_init_86 : decode cX0_init 86 = .ok ((.newarray .int), 2) := by decide +kernel
theorem dX0_init_88 : decode cX0_init 88 = .ok ((.putfield 43), 3) := by decide +kernel
theorem dX0_init_91 : decode cX0_init 91 = .ok ((.aload_n 0), 1) := by decide +kernel
theorem dX0_init_92 : decode cX0_init 92 = .ok ((.bipush 10), 2) := by decide +kernel
theorem dX0_init_94 : decode cX0_init 94 = .ok ((.newarray .int), 2) := by decide +kernel
theorem dX0_init_96 : decode cX0_init 96 = .ok ((.putfield 46), 3) := by decide +kernel
theorem dX0_init_99 : decode cX0_init 99 = .ok ((.aload_n 0), 1) := by decide +kernel
theorem dX0_init_100 : decode cX0_init 100 = .ok ((.bipush 10), 2) := by decide +kernel
theorem dX0_init_102 : decode cX0_init 102 = .ok ((.newarray .int), 2) := by decide +kernel
theorem dX0_init_104 : decode cX0_init 104 = .ok ((.putfield 49), 3) := by decide +kernel
theorem dX0_init_107 : decode cX0_init 107 = .ok ((.aload_n 0), 1) := by decide +kernel
theorem dX0_init_108 : decode cX0_init 108 = .ok ((.bipush 10), 2) := by decide +kernel
theorem dX0_init_110 : decode cX0_init 110 = .ok ((.newarray .int), 2) := by decide +kernel
theorem dX0_init_112 : decode cX0_init 112 = .ok ((.putfield 52), 3) := by decide +kernel
theorem dX0_init_115 : decode cX0_init 115 = .ok ((.aload_n 0), 1) := by decide +kernel
theorem dX0_init_116 : decode cX0_init 116 = .ok ((.new 55), 3) := by decide +kernel
theorem dX0_init_119 : decode cX0_init 119 = .ok (.dup, 1) := by decide +kernel
theorem dX0_init_120 : decode cX0_init 120 = .ok ((.invokespecial 57), 3) := by decide +kernel
theorem dX0_init_123 : decode cX0_init 123 = .ok ((.putfield 58), 3) := by decide +kernel
theorem dX0_init_126 : decode cX0_init 126 = .ok ((.aload_n 0), 1) := by decide +kernel
theorem dX0_init_127 : decode cX0_init 127 = .ok ((.invokevirtual 62), 3) := by decide +kernel
theorem dX0_init_130 : decode cX0_init 130 = .ok (.return_, 1) := by decide +kernel
theorem dX1_init_0 : decode cX1_init 0 = .ok ((.aload_n 0), 1) := by decide +kernel
theorem dX1_init_1 : decode cX1_init 1 = .ok ((.invokespecial 3), 3) := by decide +kernel
theorem dX1_init_4 : decode cX1_init 4 = .ok ((.aload_n 0), 1) := by decide +kernel
theorem dX1_init_5 : decode cX1_init 5 = .ok ((.aload_n 1), 1) := by decide +kernel
theorem dX1_init_6 : decode cX1_init 6 = .ok ((.putfield 9), 3) := by decide +kernel
theorem dX1_init_9 : decode cX1_init 9 = .ok ((.aload_n 0), 1) := by decide +kernel
theorem dX1_init_10 : decode cX1_init 10 = .ok ((.aload_n 2), 1) := by decide +kernel
theorem dX1_init_11 : decode cX1_init 11 = .ok ((.putfield 15), 3) := by decide +kernel
theorem dX1_init_14 : decode cX1_init 14 = .ok (.return_, 1) := by decide +kernel
theorem dX2_init_0 : decode cX2_init 0 = .ok ((.aload_n 0), 1) := by decide +kernel
theorem dX2_init_1 : decode cX2_init 1 = .ok ((.invokespecial 3), 3) := by decide +kernel
theorem dX2_init_4 : decode cX2_init 4 = .ok ((.aload_n 0), 1) := by decide +kernel
theorem dX2_init_5 : decode cX2_init 5 = .ok ((.bipush 10), 2) := by decide +kernel
theorem dX2_init_7 : decode cX2_init 7 = .ok ((.newarray .int), 2) := by decide +kernel
theorem dX2_init_9 : decode cX2_init 9 = .ok ((.putfield 9), 3) := by decide +kernel
theorem dX2_init_12 : decode cX2_init 12 = .ok ((.aload_n 0), 1) := by decide +kernel
theorem dX2_init_13 : decode cX2_init 13 = .ok ((.bipush 10), 2) := by decide +kernel
theorem dX2_init_15 : decode cX2_init 15 = .ok ((.newarray .long), 2) := by decide +kernel
theorem dX2_init_17 : decode cX2_init 17 = .ok ((.putfield 15), 3) := by decide +kernel
theorem dX2_init_20 : decode cX2_init 20 = .ok ((.aload_n 0), 1) := by decide +kernel
theorem dX2_init_21 : decode cX2_init 21 = .ok ((.bipush 8), 2) := by decide +kernel
theorem dX2_init_23 : decode cX2_init 23 = .ok ((.newarray .long), 2) := by decide +kernel
theorem dX2_init_25 : decode cX2_init 25 = .ok ((.putfield 19), 3) := by decide +kernel
theorem dX2_init_28 : decode cX2_init 28 = .ok ((.aload_n 0), 1) := by decide +kernel
theorem dX2_init_29 : decode cX2_init 29 = .ok ((.aload_n 1), 1) := by decide +kernel
theorem dX2_init_30 : decode cX2_init 30 = .ok ((.putfield 22), 3) := by decide +kernel
theorem dX2_init_33 : decode cX2_init 33 = .ok ((.aload_n 0), 1) := by decide +kernel
theorem dX2_init_34 : decode cX2_init 34 = .ok ((.aload_n 2), 1) := by decide +kernel
theorem dX2_init_35 : decode cX2_init 35 = .ok ((.putfield 26), 3) := by decide +kernel
theorem dX2_init_38 : decode cX2_init 38 = .ok (.return_, 1) := by decide +kernel
theorem dX3_init_0 : decode cX3_init 0 = .ok ((.aload_n 0), 1) := by decide +kernel
theorem dX3_init_1 : decode cX3_init 1 = .ok ((.invokespecial 3), 3) := by decide +kernel
theorem dX3_init_4 : decode cX3_init 4 = .ok ((.aload_n 0), 1) := by decide +kernel
theorem dX3_init_5 : decode cX3_init 5 = .ok ((.bipush 10), 2) := by decide +kernel
theorem dX3_init_7 : decode cX3_init 7 = .ok ((.newarray .long), 2) := by decide +kernel
theorem dX3_init_9 : decode cX3_init 9 = .ok ((.putfield 9), 3) := by decide +kernel
theorem dX3_init_12 : decode cX3_init 12 = .ok ((.aload_n 0), 1) := by decide +kernel
theorem dX3_init_13 : decode cX3_init 13 = .ok ((.bipush 17), 2) := by decide +kernel
theorem dX3_init_15 : decode cX3_init 15 = .ok ((.newarray .long), 2) := by decide +kernel
theorem dX3_init_17 : decode cX3_init 17 = .ok ((.putfield 15), 3) := by decide +kernel
theorem dX3_init_20 : decode cX3_init 20 = .ok ((.aload_n 0), 1) := by decide +kernel
theorem dX3_init_21 : decode cX3_init 21 = .ok ((.bipush 17), 2) := by decide +kernel
theorem dX3_init_23 : decode cX3_init 23 = .ok ((.newarray .long), 2) := by decide +kernel
theorem dX3_init_25 : decode cX3_init 25 = .ok ((.putfield 18), 3) := by decide +kernel
theorem dX3_init_28 : decode cX3_init 28 = .ok ((.aload_n 0), 1) := by decide +kernel
theorem dX3_init_29 : decode cX3_init 29 = .ok ((.bipush 80), 2) := by decide +kernel
theorem dX3_init_31 : decode cX3_init 31 = .ok ((.newarray .long), 2) := by decide +kernel
theorem dX3_init_33 : decode cX3_init 33 = .ok ((.putfield 21), 3) := by decide +kernel
theorem dX3_init_36 : decode cX3_init 36 = .ok ((.aload_n 0), 1) := by decide +kernel
theorem dX3_init_37 : decode cX3_init 37 = .ok ((.bipush 80), 2) := by decide +kernel
theorem dX3_init_39 : decode cX3_init 39 = .ok ((.newarray .long), 2) := by decide +kernel
theorem dX3_init_41 : decode cX3_init 41 = .ok ((.putfield 24), 3) := by decide +kernel
theorem dX3_init_44 : decode cX3_init 44 = .ok ((.aload_n 0), 1) := by decide +kernel
theorem dX3_init_45 : decode cX3_init 45 = .ok ((.bipush 80), 2) := by decide +kernel
theorem dX3_init_47 : decode cX3_init 47 = .ok ((.newarray .long), 2) := by decide +kernel
theorem dX3_init_49 : decode cX3_init 49 = .ok ((.putfield 27), 3) := by decide +kernel
theorem dX3_init_52 : decode cX3_init 52 = .ok ((.aload_n 0), 1) := by decide +kernel
theorem dX3_init_53 : decode cX3_init 53 = .ok ((.bipush 80), 2) := by decide +kernel
theorem dX3_init_55 : decode cX3_init 55 = .ok ((.newarray .long), 2) := by decide +kernel
theorem dX3_init_57 : decode cX3_init 57 = .ok ((.putfield 30), 3) := by decide +kernel
theorem dX3_init_60 : decode cX3_init 60 = .ok ((.aload_n 0), 1) := by decide +kernel
theorem dX3_init_61 : decode cX3_init 61 = .ok ((.bipush 8), 2) := by decide +kernel
theorem dX3_init_63 : decode cX3_init 63 = .ok ((.newarray .int), 2) := by decide +kernel
theorem dX3_init_65 : decode cX3_init 65 = .ok ((.putfield 33), 3) := by decide +kernel
theorem dX3_init_68 : decode cX3_init 68 = .ok ((.aload_n 0), 1) := by decide +kernel
theorem dX3_init_69 : decode cX3_init 69 = .ok ((.bipush 10), 2) := by decide +kernel
theorem dX3_init_71 : decode cX3_init 71 = .ok ((.newarray .long), 2) := by decide +kernel
theorem dX3_init_73 : decode cX3_init 73 = .ok ((.putfield 37), 3) := by decide +kernel
theorem dX3_init_76 : decode cX3_init 76 = .ok ((.aload_n 0), 1) := by decide +kernel
theorem dX3_init_77 : decode cX3_init 77 = .ok ((.aload_n 1), 1) := by decide +kernel
theorem dX3_init_78 : decode cX3_init 78 = .ok ((.putfield 40), 3) := by decide +kernel
theorem dX3_init_81 : decode cX3_init 81 = .ok (.return_, 1) := by decide +kernel
theorem dX4_init_0 : decode cX4_init 0 = .ok ((.aload_n 0), 1) := by decide +kernel
theorem dX4_init_1 : decode cX4_init 1 = .ok ((.invokespecial 3), 3) := by decide +kernel
theorem dX4_init_4 : decode cX4_init 4 = .ok ((.aload_n 0), 1) := by decide +kernel
theorem dX4_init_5 : decode cX4_init 5 = .ok ((.iconst 5), 1) := by decide +kernel
theorem dX4_init_6 : decode cX4_init 6 = .ok ((.newarray .int), 2) := by decide +kernel
theorem dX4_init_8 : decode cX4_init 8 = .ok ((.putfield 11), 3) := by decide +kernel
theorem dX4_init_11 : decode cX4_init 11 = .ok (.return_, 1) := by decide +kernel
theorem dX5_init_0 : decode cX5_init 0 = .ok ((.aload_n 0), 1) := by decide +kernel
theorem dX5_init_1 : decode cX5_init 1 = .ok ((.invokespecial 3), 3) := by decide +kernel
theorem dX5_init_4 : decode cX5_init 4 = .ok ((.aload_n 0), 1) := by decide +kernel
theorem dX5_init_5 : decode cX5_init 5 = .ok ((.bipush 10), 2) := by decide +kernel
theorem dX5_init_7 : decode cX5_init 7 = .ok ((.newarray .int), 2) := by decide +kernel
theorem dX5_init_9 : decode cX5_init 9 = .ok ((.putfield 9), 3) := by decide +kernel
theorem dX5_init_12 : decode cX5_init 12 = .ok ((.aload_n 0), 1) := by decide +kernel
theorem dX5_init_13 : decode cX5_init 13 = .ok ((.aload_n 1), 1) := by decide +kernel
theorem dX5_init_14 : decode cX5_init 14 = .ok ((.putfield 15), 3) := by decide +kernel
theorem dX5_init_17 : decode cX5_init 17 = .ok (.return_, 1) := by decide +kernel
theorem dX6_init_0 : decode cX6_init 0 = .ok ((.aload_n 0), 1) := by decide +kernel
theorem dX6_init_1 : decode cX6_init 1 = .ok ((.invokespecial 3), 3) := by decide +kernel
theorem dX6_init_4 : decode cX6_init 4 = .ok ((.aload_n 0), 1) := by decide +kernel
theorem dX6_init_5 : decode cX6_init 5 = .ok ((.sipush 900), 3) := by decide +kernel
theorem dX6_init_8 : decode cX6_init 8 = .ok ((.newarray .byte), 2) := by decide +kernel
theorem dX6_init_10 : decode cX6_init 10 = .ok ((.putfield 11), 3) := by decide +kernel
theorem dX6_init_13 : decode cX6_init 13 = .ok ((.aload_n 0), 1) := by decide +kernel
theorem dX6_init_14 : decode cX6_init 14 = .ok ((.sipush 901), 3) := by decide +kernel
theorem dX6_init_17 : decode cX6_init 17 = .ok ((.newarray .int), 2) := by decide +kernel
theorem dX6_init_19 : decode cX6_init 19 = .ok ((.putfield 15), 3) := by decide +kernel
theorem dX6_init_22 : decode cX6_init 22 = .ok ((.aload_n 0), 1) := by decide +kernel
theorem dX6_init_23 : decode cX6_init 23 = .ok ((.sipush 901), 3) := by decide +kernel
theorem dX6_init_26 : decode cX6_init 26 = .ok ((.newarray .int), 2) := by decide +kernel
theorem dX6_init_28 : decode cX6_init 28 = .ok ((.putfield 19), 3) := by decide +kernel
theorem dX6_init_31 : decode cX6_init 31 = .ok ((.aload_n 0), 1) := by decide +kernel
theorem dX6_init_32 : decode cX6_init 32 = .ok ((.sipush 901), 3) := by decide +kernel
theorem dX6_init_35 : decode cX6_init 35 = .ok ((.newarray .long), 2) := by decide +kernel
theorem dX6_init_37 : decode cX6_init 37 = .ok ((.putfield 22), 3) := by decide +kernel
theorem dX6_init_40 : decode cX6_init 40 = .ok (.return_, 1) := by decide +kernel
theorem dX7_init_0 : decode cX7_init 0 = .ok ((.aload_n 0), 1) := by decide +kernel
theorem dX7_init_1 : decode cX7_init 1 = .ok ((.invokespecial 3), 3) := by decide +kernel
theorem dX7_init_4 : decode cX7_init 4 = .ok ((.aload_n 0), 1) := by decide +kernel
theorem dX7_init_5 : decode cX7_init 5 = .ok ((.sipush 240), 3) := by decide +kernel
theorem dX7_init_8 : decode cX7_init 8 = .ok ((.newarray .long), 2) := by decide +kernel
theorem dX7_init_10 : decode cX7_init 10 = .ok ((.putfield 11), 3) := by decide +kernel
theorem dX7_init_13 : decode cX7_init 13 = .ok ((.aload_n 0), 1) := by decide +kernel
theorem dX7_init_14 : decode cX7_init 14 = .ok ((.iconst 4), 1) := by decide +kernel
theorem dX7_init_15 : decode cX7_init 15 = .ok ((.newarray .int), 2) := by decide +kernel
theorem dX7_init_17 : decode cX7_init 17 = .ok ((.putfield 15), 3) := by decide +kernel
theorem dX7_init_20 : decode cX7_init 20 = .ok ((.aload_n 0), 1) := by decide +kernel
theorem dX7_init_21 : decode cX7_init 21 = .ok ((.iconst 4), 1) := by decide +kernel
theorem dX7_init_22 : decode cX7_init 22 = .ok ((.newarray .int), 2) := by decide +kernel
theorem dX7_init_24 : decode cX7_init 24 = .ok ((.putfield 19), 3) := by decide +kernel
theorem dX7_init_27 : decode cX7_init 27 = .ok ((.aload_n 0), 1) := by decide +kernel
theorem dX7_init_28 : decode cX7_init 28 = .ok ((.getfield 19), 3) := by decide +kernel
theorem dX7_init_31 : decode cX7_init 31 = .ok ((.iconst (-1)), 1) := by decide +kernel
theorem dX7_init_32 : decode cX7_init 32 = .ok ((.invokestatic 22), 3) := by decide +kernel
theorem dX7_init_35 : decode cX7_init 35 = .ok (.return_, 1) := by decide +kernel
theorem dX8_init_0 : decode cX8_init 0 = .ok ((.aload_n 0), 1) := by decide +kernel
theorem dX8_init_1 : decode cX8_init 1 = .ok ((.invokespecial 5), 3) := by decide +kernel
theorem dX8_init_4 : decode cX8_init 4 = .ok ((.aload_n 0), 1) := by decide +kernel
theorem dX8_init_5 : decode cX8_init 5 = .ok ((.bipush 60), 2) := by decide +kernel
theorem dX8_init_7 : decode cX8_init 7 = .ok ((.newarray .int), 2) := by decide +kernel
theorem dX8_init_9 : decode cX8_init 9 = .ok ((.putfield 11), 3) := by decide +kernel
theorem dX8_init_12 : decode cX8_init 12 = .ok ((.aload_n 0), 1) := by decide +kernel
theorem dX8_init_13 : decode cX8_init 13 = .ok ((.bipush 60), 2) := by decide +kernel
theorem dX8_init_15 : decode cX8_init 15 = .ok ((.newarray .int), 2) := by decide +kernel
theorem dX8_init_17 : decode cX8_init 17 = .ok ((.putfield 15), 3) := by decide +kernel
theorem dX8_init_20 : decode cX8_init 20 = .ok ((.aload_n 0), 1) := by decide +kernel
theorem dX8_init_21 : decode cX8_init 21 = .ok ((.bipush 60), 2) := by decide +kernel
theorem dX8_init_23 : decode cX8_init 23 = .ok ((.newarray .int), 2) := by decide +kernel
theorem dX8_init_25 : decode cX8_init 25 = .ok ((.putfield 18), 3) := by decide +kernel
theorem dX8_init_28 : decode cX8_init 28 = .ok ((.aload_n 0), 1) := by decide +kernel
theorem dX8_init_29 : decode cX8_init 29 = .ok ((.bipush 60), 2) := by decide +kernel
theorem dX8_init_31 : decode cX8_init 31 = .ok ((.newarray .int), 2) := by decide +kernel
theorem dX8_init_33 : decode cX8_init 33 = .ok ((.putfield 21), 3) := by decide +kernel
theorem dX8_init_36 : decode cX8_init 36 = .ok ((.aload_n 0), 1) := by decide +kernel
theorem dX8_init_37 : decode cX8_init 37 = .ok ((.bipush 60), 2) := by decide +kernel
theorem dX8_init_39 : decode cX8_init 39 = .ok ((.newarray .int), 2) := by decide +kernel
theorem dX8_init_41 : decode cX8_init 41 = .ok ((.putfield 24), 3) := by decide +kernel
theorem dX8_init_44 : decode cX8_init 44 = .ok ((.aload_n 0), 1) := by decide +kernel
theorem dX8_init_45 : decode cX8_init 45 = .ok ((.bipush 60), 2) := by decide +kernel
theorem dX8_init_47 : decode cX8_init 47 = .ok ((.newarray .int), 2) := by decide +kernel
theorem dX8_init_49 : decode cX8_init 49 = .ok ((.putfield 27), 3) := by decide +kernel
theorem dX8_init_52 : decode cX8_init 52 = .ok (.return_, 1) := by decide +kernel
theorem dX9_init_0 : decode cX9_init 0 = .ok ((.aload_n 0), 1) := by decide +kernel
theorem dX9_init_1 : decode cX9_init 1 = .ok ((.invokespecial 3), 3) := by decide +kernel
theorem dX9_init_4 : decode cX9_init 4 = .ok ((.aload_n 0), 1) := by decide +kernel
theorem dX9_init_5 : decode cX9_init 5 = .ok ((.iconst 3), 1) := by decide +kernel
theorem dX9_init_6 : decode cX9_init 6 = .ok ((.newarray .int), 2) := by decide +kernel
theorem dX9_init_8 : decode cX9_init 8 = .ok ((.putfield 11), 3) := by decide +kernel
theorem dX9_init_11 : decode cX9_init 11 = .ok ((.aload_n 0), 1) := by decide +kernel
theorem dX9_init_12 : decode cX9_init 12 = .ok ((.aload_n 1), 1) := by decide +kernel
theorem dX9_init_13 : decode cX9_init 13 = .ok ((.putfield 15), 3) := by decide +kernel
theorem dX9_init_16 : decode cX9_init 16 = .ok ((.aload_n 0), 1) := by decide +kernel
theorem dX9_init_17 : decode cX9_init 17 = .ok ((.aload_n 2), 1) := by decide +kernel
theorem dX9_init_18 : decode cX9_init 18 = .ok ((.putfield 19), 3) := by decide +kernel
theorem dX9_init_21 : decode cX9_init 21 = .ok ((.aload_n 0), 1) := by decide +kernel
theorem dX9_init_22 : decode cX9_init 22 = .ok ((.aload_n 3), 1) := by decide +kernel
theorem dX9_init_23 : decode cX9_init 23 = .ok ((.putfield 23), 3) := by decide +kernel
theorem dX9_init_26 : decode cX9_init 26 = .ok (.return_, 1) := by decide +kernel
theorem dX10_init_0 : decode cX10_init 0 = .ok ((.aload_n 0), 1) := by decide +kernel
theorem dX10_init_1 : decode cX10_init 1 = .ok ((.invokespecial 1), 3) := by decide +kernel
theorem dX10_init_4 : decode cX10_init 4 = .ok ((.aload_n 0), 1) := by decide +kernel
theorem dX10_init_5 : decode cX10_init 5 = .ok ((.new 7), 3) := by decide +kernel
theorem dX10_init_8 : decode cX10_init 8 = .ok (.dup, 1) := by decide +kernel
theorem dX10_init_9 : decode cX10_init 9 = .ok ((.invokespecial 9), 3) := by decide +kernel
theorem dX10_init_12 : decode cX10_init 12 = .ok ((.putfield 10), 3) := by decide +kernel
theorem dX10_init_15 : decode cX10_init 15 = .ok ((.aload_n 0), 1) := by decide +kernel
theorem dX10_init_16 : decode cX10_init 16 = .ok ((.new 16), 3) := by decide +kernel
theorem dX10_init_19 : decode cX10_init 19 = .ok (.dup, 1) := by decide +kernel
theorem dX10_init_20 : decode cX10_init 20 = .ok ((.invokespecial 18), 3) := by decide +kernel
theorem dX10_init_23 : decode cX10_init 23 = .ok ((.putfield 19), 3) := by decide +kernel
theorem dX10_init_26 : decode cX10_init 26 = .ok ((.aload_n 0), 1) := by decide +kernel
theorem dX10_init_27 : decode cX10_init 27 = .ok ((.new 23), 3) := by decide +kernel
theorem dX10_init_30 : decode cX10_init 30 = .ok (.dup, 1) := by decide +kernel
theorem dX10_init_31 : decode cX10_init 31 = .ok ((.invokespecial 25), 3) := by decide +kernel
theorem dX10_init_34 : decode cX10_init 34 = .ok ((.putfield 26), 3) := by decide +kernel
theorem dX10_init_37 : decode cX10_init 37 = .ok ((.aload_n 0), 1) := by decide +kernel
theorem dX10_init_38 : decode cX10_init 38 = .ok ((.new 23), 3) := by decide +kernel
theorem dX10_init_41 : decode cX10_init 41 = .ok (.dup, 1) := by decide +kernel
theorem dX10_init_42 : decode cX10_init 42 = .ok ((.invokespecial 25), 3) := by decide +kernel
theorem dX10_init_45 : decode cX10_init 45 = .ok ((.putfield 30), 3) := by decide +kernel
theorem dX10_init_48 : decode cX10_init 48 = .ok ((.aload_n 0), 1) := by decide +kernel
theorem dX10_init_49 : decode cX10_init 49 = .ok ((.iconst 3), 1) := by decide +kernel
theorem dX10_init_50 : decode cX10_init 50 = .ok ((.anewarray 23), 3) := by decide +kernel
theorem dX10_init_53 : decode cX10_init 53 = .ok ((.putfield 33), 3) := by decide +kernel
theorem dX10_init_56 : decode cX10_init 56 = .ok ((.aload_n 0), 1) := by decide +kernel
theorem dX10_init_57 : decode cX10_init 57 = .ok ((.new 37), 3) := by decide +kernel
theorem dX10_init_60 : decode cX10_init 60 = .ok (.dup, 1) := by decide +kernel
theorem dX10_init_61 : decode cX10_init 61 = .ok ((.aload_n 0), 1) := by decide +kernel
theorem dX10_init_62 : decode cX10_init 62 = .ok ((.getfield 19), 3) := by decide +kernel
theorem dX10_init_65 : decode cX10_init 65 = .ok ((.aload_n 0), 1) := by decide +kernel
theorem dX10_init_66 : decode cX10_init 66 = .ok ((.getfield 30), 3) := by decide +kernel
theorem dX10_init_69 : decode cX10_init 69 = .ok ((.invokespecial 39), 3) := by decide +kernel
theorem dX10_init_72 : decode cX10_init 72 = .ok ((.putfield 42), 3) := by decide +kernel
theorem dX10_init_75 : decode cX10_init 75 = .ok ((.aload_n 0), 1) := by decide +kernel
theorem dX10_init_76 : decode cX10_init 76 = .ok ((.new 46), 3) := by decide +kernel
theorem dX10_init_79 : decode cX10_init 79 = .ok (.dup, 1) := by decide +kernel
theorem dX10_init_80 : decode cX10_init 80 = .ok ((.aload_n 0), 1) := by decide +kernel
theorem dX10_init_81 : decode cX10_init 81 = .ok ((.getfield 19), 3) := by decide +kernel
theorem dX10_init_84 : decode cX10_init 84 = .ok ((.aload_n 0), 1) := by decide +kernel
theorem dX10_init_85 : decode cX10_init 85 = .ok ((.getfield 26), 3) := by decide +kernel
theorem dX10_init_88 : decode cX10_init 88 = .ok ((.aload_n 0), 1) := by decide +kernel
theorem dX10_init_89 : decode cX10_init 89 = .ok ((.getfield 30), 3) := by decide +kernel
theorem dX10_init_92 : decode cX10_init 92 = .ok ((.getfield 48), 3) := by decide +kernel
theorem dX10_init_95 : decode cX10_init 95 = .ok ((.invokespecial 52), 3) := by decide +kernel
theorem dX10_init_98 : decode cX10_init 98 = .ok ((.putfield 55), 3) := by decide +kernel
theorem dX10_init_101 : decode cX10_init 101 = .ok ((.aload_n 0), 1) := by decide +kernel
theorem dX10_init_102 : decode cX10_init 102 = .ok ((.new 59), 3) := by decide +kernel
theorem dX10_init_105 : decode cX10_init 105 = .ok (.dup, 1) := by decide +kernel
theorem dX10_init_106 : decode cX10_init 106 = .ok ((.aload_n 0), 1) := by decide +kernel
theorem dX10_init_107 : decode cX10_init 107 = .ok ((.getfield 26), 3) := by decide +kernel
theorem dX10_init_110 : decode cX10_init 110 = .ok ((.invokespecial 61), 3) := by decide +kernel
theorem dX10_init_113 : decode cX10_init 113 = .ok ((.putfield 64), 3) := by decide +kernel
theorem dX10_init_116 : decode cX10_init 116 = .ok ((.aload_n 0), 1) := by decide +kernel
theorem dX10_init_117 : decode cX10_init 117 = .ok ((.new 68), 3) := by decide +kernel
theorem dX10_init_120 : decode cX10_init 120 = .ok (.dup, 1) := by decide +kernel
theorem dX10_init_121 : decode cX10_init 121 = .ok ((.aload_n 0), 1) := by decide +kernel
theorem dX10_init_122 : decode cX10_init 122 = .ok ((.getfield 26), 3) := by decide +kernel
theorem dX10_init_125 : decode cX10_init 125 = .ok ((.aload_n 0), 1) := by decide +kernel
theorem dX10_init_126 : decode cX10_init 126 = .ok ((.getfield 64), 3) := by decide +kernel
theorem dX10_init_129 : decode cX10_init 129 = .ok ((.invokespecial 70), 3) := by decide +kernel
theorem dX10_init_132 : decode cX10_init 132 = .ok ((.putfield 73), 3) := by decide +kernel
theorem dX10_init_135 : decode cX10_init 135 = .ok ((.aload_n 0), 1) := by decide +kernel
theorem dX10_init_136 : decode cX10_init 136 = .ok ((.new 77), 3) := by decide +kernel
theorem dX10_init_139 : decode cX10_init 139 = .ok (.dup, 1) := by decide +kernel
theorem dX10_init_140 : decode cX10_init 140 = .ok ((.aload_n 0), 1) := by decide +kernel
theorem dX10_init_141 : decode cX10_init 141 = .ok ((.getfield 26), 3) := by decide +kernel
theorem dX10_init_144 : decode cX10_init 144 = .ok ((.invokespecial 79), 3) := by decide +kernel
theorem dX10_init_147 : decode cX10_init 147 = .ok ((.putfield 80), 3) := by decide +kernel
theorem dX10_init_150 : decode cX10_init 150 = .ok ((.aload_n 0), 1) := by decide +kernel
theorem dX10_init_151 : decode cX10_init 151 = .ok ((.new 84), 3) := by decide +kernel
theorem dX10_init_154 : decode cX10_init 154 = .ok (.dup, 1) := by decide +kernel
theorem dX10_init_155 : decode cX10_init 155 = .ok ((.invokespecial 86), 3) := by decide +kernel
theorem dX10_init_158 : decode cX10_init 158 = .ok ((.putfield 87), 3) := by decide +kernel
theorem dX10_init_161 : decode cX10_init 161 = .ok ((.aload_n 0), 1) := by decide +kernel
theorem dX10_init_162 : decode cX10_init 162 = .ok ((.iconst 5), 1) := by decide +kernel
theorem dX10_init_163 : decode cX10_init 163 = .ok ((.newarray .int), 2) := by decide +kernel
theorem dX10_init_165 : decode cX10_init 165 = .ok ((.putfield 91), 3) := by decide +kernel
theorem dX10_init_168 : decode cX10_init 168 = .ok ((.aload_n 0), 1) := by decide +kernel
theorem dX10_init_169 : decode cX10_init 169 = .ok ((.iconst (-1)), 1) := by decide +kernel
theorem dX10_init_170 : decode cX10_init 170 = .ok ((.putfield 95), 3) := by decide +kernel
theorem dX10_init_173 : decode cX10_init 173 = .ok ((.aload_n 0), 1) := by decide +kernel
theorem dX10_init_174 : decode cX10_init 174 = .ok ((.iconst (-1)), 1) := by decide +kernel
theorem dX10_init_175 : decode cX10_init 175 = .ok ((.putfield 99), 3) := by decide +kernel
theorem dX10_init_178 : decode cX10_init 178 = .ok ((.aload_n 0), 1) := by decide +kernel
theorem dX10_init_179 : decode cX10_init 179 = .ok ((.lconst 1), 1) := by decide +kernel
theorem dX10_init_180 : decode cX10_init 180 = .ok ((.putfield 102), 3) := by decide +kernel
theorem dX10_init_183 : decode cX10_init 183 = .ok ((.iconst 0), 1) := by decide +kernel
theorem dX10_init_184 : decode cX10_init 184 = .ok ((.istore_n 1), 1) := by decide +kernel
theorem dX10_init_185 : decode cX10_init 185 = .ok ((.iload_n 1), 1) := by decide +kernel
theorem dX10_init_186 : decode cX10_init 186 = .ok ((.aload_n 0), 1) := by decide +kernel
theorem dX10_init_187 : decode cX10_init 187 = .ok ((.getfield 33), 3) := by decide +kernel
theorem dX10_init_190 : decode cX10_init 190 = .ok (.arraylength, 1) := by decide +kernel
theorem dX10_init_191 : decode cX10_init 191 = .ok ((.if_icmp .ge 22), 3) := by decide +kernel
theorem dX10_init_194 : decode cX10_init 194 = .ok ((.aload_n 0), 1) := by decide +kernel
theorem dX10_init_195 : decode cX10_init 195 = .ok ((.getfield 33), 3) := by decide +kernel
theorem dX10_init_198 : decode cX10_init 198 = .ok ((.iload_n 1), 1) := by decide +kernel
theorem dX10_init_199 : decode cX10_init 199 = .ok ((.new 23), 3) := by decide +kernel
theorem dX10_init_202 : decode cX10_init 202 = .ok (.dup, 1) := by decide +kernel
theorem dX10_init_203 : decode cX10_init 203 = .ok ((.invokespecial 25), 3) := by decide +kernel
theorem dX10_init_206 : decode cX10_init 206 = .ok (.aastore, 1) := by decide +kernel
theorem dX10_init_207 : decode cX10_init 207 = .ok ((.iinc 1 1), 3) := by decide +kernel
theorem dX10_init_210 : decode cX10_init 210 = .ok ((.goto (-25)), 3) := by decide +kernel
theorem dX10_init_213 : decode cX10_init 213 = .ok (.return_, 1) := by decide +kernel
theorem kc_RX0_55 : Cond.classLink RX0 55 RX8 ∈ wsL_law := v_r4 _ (List.mem_of_getElem? (i := 19) rfl)
theorem kc_RX10_16 : Cond.classLink RX10 16 RX6 ∈ wsL_law := v_r1 _ (List.mem_of_getElem? (i := 14) rfl)
theorem kc_RX10_23 : Cond.classLink RX10 23 RX0 ∈ wsL_law := v_r1 _ (List.mem_of_getElem? (i := 18) rfl)
theorem kc_RX10_37 : Cond.classLink RX10 37 RX1 ∈ wsL_law := v_r2 _ (List.mem_of_getElem? (i := 0) rfl)
theorem kc_RX10_46 : Cond.classLink RX10 46 RX9 ∈ wsL_law := v_r2 _ (List.mem_of_getElem? (i := 4) rfl)
theorem kc_RX10_59 : Cond.classLink RX10 59 RX3 ∈ wsL_law := v_r2 _ (List.mem_of_getElem? (i := 9) rfl)
theorem kc_RX10_68 : Cond.classLink RX10 68 RX2 ∈ wsL_law := v_r2 _ (List.mem_of_getElem? (i := 13) rfl)
theorem kc_RX10_7 : Cond.classLink RX10 7 RX7 ∈ wsL_law := v_r1 _ (List.mem_of_getElem? (i := 10) rfl)
theorem kc_RX10_77 : Cond.classLink RX10 77 RX5 ∈ wsL_law := v_r2 _ (List.mem_of_getElem? (i := 17) rfl)
theorem kc_RX10_84 : Cond.classLink RX10 84 RX4 ∈ wsL_law := v_r2 _ (List.mem_of_getElem? (i := 21) rfl)
theorem kf_RX0_15 : Cond.fieldLink RX0 15 "HalfAccuser$City" "personNames" "[J" ∈ wsL_law := v_r4 _ (List.mem_of_getElem? (i := 6) rfl)
theorem kf_RX0_19 : Cond.fieldLink RX0 19 "HalfAccuser$City" "coins" "[I" ∈ wsL_law := v_r4 _ (List.mem_of_getElem? (i := 7) rfl)
theorem kf_RX0_22 : Cond.fieldLink RX0 22 "HalfAccuser$City" "skills" "[I" ∈ wsL_law := v_r4 _ (List.mem_of_getElem? (i := 8) rfl)
theorem kf_RX0_25 : Cond.fieldLink RX0 25 "HalfAccuser$City" "wonCounts" "[I" ∈ wsL_law := v_r4 _ (List.mem_of_getElem? (i := 9) rfl)
theorem kf_RX0_28 : Cond.fieldLink RX0 28 "HalfAccuser$City" "owedCounts" "[I" ∈ wsL_law := v_r4 _ (List.mem_of_getElem? (i := 10) rfl)
theorem kf_RX0_31 : Cond.fieldLink RX0 31 "HalfAccuser$City" "dropped" "[I" ∈ wsL_law := v_r4 _ (List.mem_of_getElem? (i := 11) rfl)
theorem kf_RX0_34 : Cond.fieldLink RX0 34 "HalfAccuser$City" "deedNames" "[J" ∈ wsL_law := v_r4 _ (List.mem_of_getElem? (i := 12) rfl)
theorem kf_RX0_37 : Cond.fieldLink RX0 37 "HalfAccuser$City" "owners" "[I" ∈ wsL_law := v_r4 _ (List.mem_of_getElem? (i := 13) rfl)
theorem kf_RX0_40 : Cond.fieldLink RX0 40 "HalfAccuser$City" "fines" "[I" ∈ wsL_law := v_r4 _ (List.mem_of_getElem? (i := 14) rfl)
theorem kf_RX0_43 : Cond.fieldLink RX0 43 "HalfAccuser$City" "odds" "[I" ∈ wsL_law := v_r4 _ (List.mem_of_getElem? (i := 15) rfl)
theorem kf_RX0_46 : Cond.fieldLink RX0 46 "HalfAccuser$City" "states" "[I" ∈ wsL_law := v_r4 _ (List.mem_of_getElem? (i := 16) rfl)
theorem kf_RX0_49 : Cond.fieldLink RX0 49 "HalfAccuser$City" "accusers" "[I" ∈ wsL_law := v_r4 _ (List.mem_of_getElem? (i := 17) rfl)
theorem kf_RX0_52 : Cond.fieldLink RX0 52 "HalfAccuser$City" "votesFor" "[I" ∈ wsL_law := v_r4 _ (List.mem_of_getElem? (i := 18) rfl)
theorem kf_RX0_58 : Cond.fieldLink RX0 58 "HalfAccuser$City" "years" "LHalfAccuser$Years;" ∈ wsL_law := v_r4 _ (List.mem_of_getElem? (i := 22) rfl)
theorem kf_RX0_9 : Cond.fieldLink RX0 9 "HalfAccuser$City" "rules" "[I" ∈ wsL_law := v_r4 _ (List.mem_of_getElem? (i := 5) rfl)
theorem kf_RX10_10 : Cond.fieldLink RX10 10 "HalfAccuser" "trays" "LHalfAccuser$Trays;" ∈ wsL_law := v_r1 _ (List.mem_of_getElem? (i := 13) rfl)
theorem kf_RX10_102 : Cond.fieldLink RX10 102 "HalfAccuser" "fractionBottom" "J" ∈ wsL_law := v_r3 _ (List.mem_of_getElem? (i := 4) rfl)
theorem kf_RX10_19 : Cond.fieldLink RX10 19 "HalfAccuser" "tape" "LHalfAccuser$Tape;" ∈ wsL_law := v_r1 _ (List.mem_of_getElem? (i := 17) rfl)
theorem kf_RX10_26 : Cond.fieldLink RX10 26 "HalfAccuser" "city" "LHalfAccuser$City;" ∈ wsL_law := v_r1 _ (List.mem_of_getElem? (i := 21) rfl)
theorem kf_RX10_30 : Cond.fieldLink RX10 30 "HalfAccuser" "spare" "LHalfAccuser$City;" ∈ wsL_law := v_r1 _ (List.mem_of_getElem? (i := 22) rfl)
theorem kf_RX10_33 : Cond.fieldLink RX10 33 "HalfAccuser" "marks" "[LHalfAccuser$City;" ∈ wsL_law := v_r1 _ (List.mem_of_getElem? (i := 23) rfl)
theorem kf_RX10_42 : Cond.fieldLink RX10 42 "HalfAccuser" "cityReader" "LHalfAccuser$CityReader;" ∈ wsL_law := v_r2 _ (List.mem_of_getElem? (i := 3) rfl)
theorem kf_RX10_48 : Cond.fieldLink RX10 48 "HalfAccuser$City" "years" "LHalfAccuser$Years;" ∈ wsL_law := v_r2 _ (List.mem_of_getElem? (i := 7) rfl)
theorem kf_RX10_55 : Cond.fieldLink RX10 55 "HalfAccuser" "yearsReader" "LHalfAccuser$YearsReader;" ∈ wsL_law := v_r2 _ (List.mem_of_getElem? (i := 8) rfl)
theorem kf_RX10_64 : Cond.fieldLink RX10 64 "HalfAccuser" "hopes" "LHalfAccuser$Hopes;" ∈ wsL_law := v_r2 _ (List.mem_of_getElem? (i := 12) rfl)
theorem kf_RX10_73 : Cond.fieldLink RX10 73 "HalfAccuser" "games" "LHalfAccuser$Games;" ∈ wsL_law := v_r2 _ (List.mem_of_getElem? (i := 16) rfl)
theorem kf_RX10_80 : Cond.fieldLink RX10 80 "HalfAccuser" "past" "LHalfAccuser$Past;" ∈ wsL_law := v_r2 _ (List.mem_of_getElem? (i := 20) rfl)
theorem kf_RX10_87 : Cond.fieldLink RX10 87 "HalfAccuser" "life" "LHalfAccuser$Life;" ∈ wsL_law := v_r3 _ (List.mem_of_getElem? (i := 0) rfl)
theorem kf_RX10_91 : Cond.fieldLink RX10 91 "HalfAccuser" "livedFacts" "[I" ∈ wsL_law := v_r3 _ (List.mem_of_getElem? (i := 1) rfl)
theorem kf_RX10_95 : Cond.fieldLink RX10 95 "HalfAccuser" "latestFault" "I" ∈ wsL_law := v_r3 _ (List.mem_of_getElem? (i := 2) rfl)
theorem kf_RX10_99 : Cond.fieldLink RX10 99 "HalfAccuser" "latestFaultPlace" "I" ∈ wsL_law := v_r3 _ (List.mem_of_getElem? (i := 3) rfl)
theorem kf_RX1_15 : Cond.fieldLink RX1 15 "HalfAccuser$CityReader" "draft" "LHalfAccuser$City;" ∈ wsL_law := v_r6 _ (List.mem_of_getElem? (i := 14) rfl)
theorem kf_RX1_9 : Cond.fieldLink RX1 9 "HalfAccuser$CityReader" "tape" "LHalfAccuser$Tape;" ∈ wsL_law := v_r6 _ (List.mem_of_getElem? (i := 13) rfl)
theorem kf_RX2_15 : Cond.fieldLink RX2 15 "HalfAccuser$Games" "worths" "[J" ∈ wsL_law := v_r7 _ (List.mem_of_getElem? (i := 18) rfl)
theorem kf_RX2_19 : Cond.fieldLink RX2 19 "HalfAccuser$Games" "dreads" "[J" ∈ wsL_law := v_r7 _ (List.mem_of_getElem? (i := 19) rfl)
theorem kf_RX2_22 : Cond.fieldLink RX2 22 "HalfAccuser$Games" "city" "LHalfAccuser$City;" ∈ wsL_law := v_r7 _ (List.mem_of_getElem? (i := 20) rfl)
theorem kf_RX2_26 : Cond.fieldLink RX2 26 "HalfAccuser$Games" "hopes" "LHalfAccuser$Hopes;" ∈ wsL_law := v_r7 _ (List.mem_of_getElem? (i := 21) rfl)
theorem kf_RX2_9 : Cond.fieldLink RX2 9 "HalfAccuser$Games" "movers" "[I" ∈ wsL_law := v_r7 _ (List.mem_of_getElem? (i := 17) rfl)
theorem kf_RX3_15 : Cond.fieldLink RX3 15 "HalfAccuser$Hopes" "winsBy" "[J" ∈ wsL_law := v_r7 _ (List.mem_of_getElem? (i := 4) rfl)
theorem kf_RX3_18 : Cond.fieldLink RX3 18 "HalfAccuser$Hopes" "debtsBy" "[J" ∈ wsL_law := v_r7 _ (List.mem_of_getElem? (i := 5) rfl)
theorem kf_RX3_21 : Cond.fieldLink RX3 21 "HalfAccuser$Hopes" "wins" "[J" ∈ wsL_law := v_r7 _ (List.mem_of_getElem? (i := 6) rfl)
theorem kf_RX3_24 : Cond.fieldLink RX3 24 "HalfAccuser$Hopes" "debts" "[J" ∈ wsL_law := v_r7 _ (List.mem_of_getElem? (i := 7) rfl)
theorem kf_RX3_27 : Cond.fieldLink RX3 27 "HalfAccuser$Hopes" "gains" "[J" ∈ wsL_law := v_r7 _ (List.mem_of_getElem? (i := 8) rfl)
theorem kf_RX3_30 : Cond.fieldLink RX3 30 "HalfAccuser$Hopes" "losses" "[J" ∈ wsL_law := v_r7 _ (List.mem_of_getElem? (i := 9) rfl)
theorem kf_RX3_33 : Cond.fieldLink RX3 33 "HalfAccuser$Hopes" "within" "[I" ∈ wsL_law := v_r7 _ (List.mem_of_getElem? (i := 10) rfl)
theorem kf_RX3_37 : Cond.fieldLink RX3 37 "HalfAccuser$Hopes" "sorted" "[J" ∈ wsL_law := v_r7 _ (List.mem_of_getElem? (i := 11) rfl)
theorem kf_RX3_40 : Cond.fieldLink RX3 40 "HalfAccuser$Hopes" "city" "LHalfAccuser$City;" ∈ wsL_law := v_r7 _ (List.mem_of_getElem? (i := 12) rfl)
theorem kf_RX3_9 : Cond.fieldLink RX3 9 "HalfAccuser$Hopes" "ways" "[J" ∈ wsL_law := v_r7 _ (List.mem_of_getElem? (i := 3) rfl)
theorem kf_RX4_11 : Cond.fieldLink RX4 11 "HalfAccuser$Life" "facts" "[I" ∈ wsL_law := v_r8 _ (List.mem_of_getElem? (i := 7) rfl)
theorem kf_RX5_15 : Cond.fieldLink RX5 15 "HalfAccuser$Past" "city" "LHalfAccuser$City;" ∈ wsL_law := v_r8 _ (List.mem_of_getElem? (i := 3) rfl)
theorem kf_RX5_9 : Cond.fieldLink RX5 9 "HalfAccuser$Past" "others" "[I" ∈ wsL_law := v_r8 _ (List.mem_of_getElem? (i := 2) rfl)
theorem kf_RX6_11 : Cond.fieldLink RX6 11 "HalfAccuser$Tape" "bytes" "[B" ∈ wsL_law := v_r3 _ (List.mem_of_getElem? (i := 21) rfl)
theorem kf_RX6_15 : Cond.fieldLink RX6 15 "HalfAccuser$Tape" "kinds" "[I" ∈ wsL_law := v_r3 _ (List.mem_of_getElem? (i := 22) rfl)
theorem kf_RX6_19 : Cond.fieldLink RX6 19 "HalfAccuser$Tape" "places" "[I" ∈ wsL_law := v_r3 _ (List.mem_of_getElem? (i := 23) rfl)
theorem kf_RX6_22 : Cond.fieldLink RX6 22 "HalfAccuser$Tape" "values" "[J" ∈ wsL_law := v_r4 _ (List.mem_of_getElem? (i := 0) rfl)
theorem kf_RX7_11 : Cond.fieldLink RX7 11 "HalfAccuser$Trays" "cells" "[J" ∈ wsL_law := v_r3 _ (List.mem_of_getElem? (i := 10) rfl)
theorem kf_RX7_15 : Cond.fieldLink RX7 15 "HalfAccuser$Trays" "sorts" "[I" ∈ wsL_law := v_r3 _ (List.mem_of_getElem? (i := 11) rfl)
theorem kf_RX7_19 : Cond.fieldLink RX7 19 "HalfAccuser$Trays" "sizes" "[I" ∈ wsL_law := v_r3 _ (List.mem_of_getElem? (i := 12) rfl)
theorem kf_RX8_11 : Cond.fieldLink RX8 11 "HalfAccuser$Years" "words" "[I" ∈ wsL_law := v_r5 _ (List.mem_of_getElem? (i := 2) rfl)
theorem kf_RX8_15 : Cond.fieldLink RX8 15 "HalfAccuser$Years" "firsts" "[I" ∈ wsL_law := v_r5 _ (List.mem_of_getElem? (i := 3) rfl)
theorem kf_RX8_18 : Cond.fieldLink RX8 18 "HalfAccuser$Years" "seconds" "[I" ∈ wsL_law := v_r5 _ (List.mem_of_getElem? (i := 4) rfl)
theorem kf_RX8_21 : Cond.fieldLink RX8 21 "HalfAccuser$Years" "numbers" "[I" ∈ wsL_law := v_r5 _ (List.mem_of_getElem? (i := 5) rfl)
theorem kf_RX8_24 : Cond.fieldLink RX8 24 "HalfAccuser$Years" "partners" "[I" ∈ wsL_law := v_r5 _ (List.mem_of_getElem? (i := 6) rfl)
theorem kf_RX8_27 : Cond.fieldLink RX8 27 "HalfAccuser$Years" "roundsLeft" "[I" ∈ wsL_law := v_r5 _ (List.mem_of_getElem? (i := 7) rfl)
theorem kf_RX9_11 : Cond.fieldLink RX9 11 "HalfAccuser$YearsReader" "opened" "[I" ∈ wsL_law := v_r6 _ (List.mem_of_getElem? (i := 19) rfl)
theorem kf_RX9_15 : Cond.fieldLink RX9 15 "HalfAccuser$YearsReader" "tape" "LHalfAccuser$Tape;" ∈ wsL_law := v_r6 _ (List.mem_of_getElem? (i := 20) rfl)
theorem kf_RX9_19 : Cond.fieldLink RX9 19 "HalfAccuser$YearsReader" "city" "LHalfAccuser$City;" ∈ wsL_law := v_r6 _ (List.mem_of_getElem? (i := 21) rfl)
theorem kf_RX9_23 : Cond.fieldLink RX9 23 "HalfAccuser$YearsReader" "draft" "LHalfAccuser$Years;" ∈ wsL_law := v_r6 _ (List.mem_of_getElem? (i := 22) rfl)
theorem ki_RX0 : Cond.instantiable RX0 19 ∈ wsL_law := v_r1 _ (List.mem_of_getElem? (i := 19) rfl)
theorem ki_RX1 : Cond.instantiable RX1 3 ∈ wsL_law := v_r2 _ (List.mem_of_getElem? (i := 1) rfl)
theorem ki_RX2 : Cond.instantiable RX2 6 ∈ wsL_law := v_r2 _ (List.mem_of_getElem? (i := 14) rfl)
theorem ki_RX3 : Cond.instantiable RX3 10 ∈ wsL_law := v_r2 _ (List.mem_of_getElem? (i := 10) rfl)
theorem ki_RX4 : Cond.instantiable RX4 3 ∈ wsL_law := v_r2 _ (List.mem_of_getElem? (i := 22) rfl)
theorem ki_RX5 : Cond.instantiable RX5 5 ∈ wsL_law := v_r2 _ (List.mem_of_getElem? (i := 18) rfl)
theorem ki_RX6 : Cond.instantiable RX6 13 ∈ wsL_law := v_r1 _ (List.mem_of_getElem? (i := 15) rfl)
theorem ki_RX7 : Cond.instantiable RX7 3 ∈ wsL_law := v_r1 _ (List.mem_of_getElem? (i := 11) rfl)
theorem ki_RX8 : Cond.instantiable RX8 9 ∈ wsL_law := v_r4 _ (List.mem_of_getElem? (i := 20) rfl)
theorem ki_RX9 : Cond.instantiable RX9 6 ∈ wsL_law := v_r2 _ (List.mem_of_getElem? (i := 5) rfl)
theorem km_RX0_3 : Cond.methodLink RX0 3 objectInit ∈ wsL_law := v_r4 _ (List.mem_of_getElem? (i := 4) rfl)
theorem km_RX0_62 : Cond.methodLink RX0 62 yX0_clear ∈ wsL_law := v_r5 _ (List.mem_of_getElem? (i := 8) rfl)
theorem km_RX10_1 : Cond.methodLink RX10 1 objectInit ∈ wsL_law := v_r1 _ (List.mem_of_getElem? (i := 7) rfl)
theorem km_RX10_25 : Cond.methodLink RX10 25 yX0_init ∈ wsL_law := v_r4 _ (List.mem_of_getElem? (i := 1) rfl)
theorem km_RX10_39 : Cond.methodLink RX10 39 yX1_init ∈ wsL_law := v_r6 _ (List.mem_of_getElem? (i := 9) rfl)
theorem km_RX10_52 : Cond.methodLink RX10 52 yX9_init ∈ wsL_law := v_r6 _ (List.mem_of_getElem? (i := 15) rfl)
theorem km_RX10_61 : Cond.methodLink RX10 61 yX3_init ∈ wsL_law := v_r6 _ (List.mem_of_getElem? (i := 23) rfl)
theorem km_RX10_70 : Cond.methodLink RX10 70 yX2_init ∈ wsL_law := v_r7 _ (List.mem_of_getElem? (i := 13) rfl)
theorem km_RX10_79 : Cond.methodLink RX10 79 yX5_init ∈ wsL_law := v_r7 _ (List.mem_of_getElem? (i := 22) rfl)
theorem km_RX10_9 : Cond.methodLink RX10 9 yX7_init ∈ wsL_law := v_r3 _ (List.mem_of_getElem? (i := 5) rfl)
theorem km_RX1_3 : Cond.methodLink RX1 3 objectInit ∈ wsL_law := v_r6 _ (List.mem_of_getElem? (i := 12) rfl)
theorem km_RX2_3 : Cond.methodLink RX2 3 objectInit ∈ wsL_law := v_r7 _ (List.mem_of_getElem? (i := 16) rfl)
theorem km_RX3_3 : Cond.methodLink RX3 3 objectInit ∈ wsL_law := v_r7 _ (List.mem_of_getElem? (i := 2) rfl)
theorem km_RX4_3 : Cond.methodLink RX4 3 objectInit ∈ wsL_law := v_r8 _ (List.mem_of_getElem? (i := 6) rfl)
theorem km_RX5_3 : Cond.methodLink RX5 3 objectInit ∈ wsL_law := v_r8 _ (List.mem_of_getElem? (i := 1) rfl)
theorem km_RX6_3 : Cond.methodLink RX6 3 objectInit ∈ wsL_law := v_r3 _ (List.mem_of_getElem? (i := 19) rfl)
theorem km_RX7_22 : Cond.methodLink RX7 22 yJ7_fill_53178 ∈ wsL_law := v_r3 _ (List.mem_of_getElem? (i := 13) rfl)
theorem km_RX7_3 : Cond.methodLink RX7 3 objectInit ∈ wsL_law := v_r3 _ (List.mem_of_getElem? (i := 8) rfl)
theorem km_RX8_5 : Cond.methodLink RX8 5 objectInit ∈ wsL_law := v_r5 _ (List.mem_of_getElem? (i := 1) rfl)
theorem km_RX9_3 : Cond.methodLink RX9 3 objectInit ∈ wsL_law := v_r6 _ (List.mem_of_getElem? (i := 18) rfl)
theorem kz_RX0 : Cond.initialized RX0 ∈ wsL_law := v_r1 _ (List.mem_of_getElem? (i := 20) rfl)
theorem kz_RX1 : Cond.initialized RX1 ∈ wsL_law := v_r2 _ (List.mem_of_getElem? (i := 2) rfl)
theorem kz_RX2 : Cond.initialized RX2 ∈ wsL_law := v_r2 _ (List.mem_of_getElem? (i := 15) rfl)
theorem kz_RX3 : Cond.initialized RX3 ∈ wsL_law := v_r2 _ (List.mem_of_getElem? (i := 11) rfl)
theorem kz_RX4 : Cond.initialized RX4 ∈ wsL_law := v_r2 _ (List.mem_of_getElem? (i := 23) rfl)
theorem kz_RX5 : Cond.initialized RX5 ∈ wsL_law := v_r2 _ (List.mem_of_getElem? (i := 19) rfl)
theorem kz_RX6 : Cond.initialized RX6 ∈ wsL_law := v_r1 _ (List.mem_of_getElem? (i := 16) rfl)
theorem kz_RX7 : Cond.initialized RX7 ∈ wsL_law := v_r1 _ (List.mem_of_getElem? (i := 12) rfl)
theorem kz_RX8 : Cond.initialized RX8 ∈ wsL_law := v_r4 _ (List.mem_of_getElem? (i := 21) rfl)
theorem kz_RX9 : Cond.initialized RX9 ∈ wsL_law := v_r2 _ (List.mem_of_getElem? (i := 6) rfl)
theorem KI_X8_init : n_KI yX8_init cX8_init 1 0 := ⟨v_r4 _ (List.mem_of_getElem? (i := 23) rfl), v_r4 _ (List.mem_of_getElem? (i := 21) rfl), v_r5 _ (List.mem_of_getElem? (i := 0) rfl), rfl, by decide +kernel⟩
theorem KI_X7_init : n_KI yX7_init cX7_init 1 0 := ⟨v_r3 _ (List.mem_of_getElem? (i := 6) rfl), v_r1 _ (List.mem_of_getElem? (i := 12) rfl), v_r3 _ (List.mem_of_getElem? (i := 7) rfl), rfl, by decide +kernel⟩
theorem KI_X6_init : n_KI yX6_init cX6_init 1 0 := ⟨v_r3 _ (List.mem_of_getElem? (i := 17) rfl), v_r1 _ (List.mem_of_getElem? (i := 16) rfl), v_r3 _ (List.mem_of_getElem? (i := 18) rfl), rfl, by decide +kernel⟩
theorem KI_X0_init : n_KI yX0_init cX0_init 1 0 := ⟨v_r4 _ (List.mem_of_getElem? (i := 2) rfl), v_r1 _ (List.mem_of_getElem? (i := 20) rfl), v_r4 _ (List.mem_of_getElem? (i := 3) rfl), rfl, by decide +kernel⟩
theorem KI_X1_init : n_KI yX1_init cX1_init 3 2 := ⟨v_r6 _ (List.mem_of_getElem? (i := 10) rfl), v_r2 _ (List.mem_of_getElem? (i := 2) rfl), v_r6 _ (List.mem_of_getElem? (i := 11) rfl), rfl, by decide +kernel⟩
theorem KI_X9_init : n_KI yX9_init cX9_init 4 3 := ⟨v_r6 _ (List.mem_of_getElem? (i := 16) rfl), v_r2 _ (List.mem_of_getElem? (i := 6) rfl), v_r6 _ (List.mem_of_getElem? (i := 17) rfl), rfl, by decide +kernel⟩
theorem KI_X3_init : n_KI yX3_init cX3_init 2 1 := ⟨v_r7 _ (List.mem_of_getElem? (i := 0) rfl), v_r2 _ (List.mem_of_getElem? (i := 11) rfl), v_r7 _ (List.mem_of_getElem? (i := 1) rfl), rfl, by decide +kernel⟩
theorem KI_X2_init : n_KI yX2_init cX2_init 3 2 := ⟨v_r7 _ (List.mem_of_getElem? (i := 14) rfl), v_r2 _ (List.mem_of_getElem? (i := 15) rfl), v_r7 _ (List.mem_of_getElem? (i := 15) rfl), rfl, by decide +kernel⟩
theorem KI_X5_init : n_KI yX5_init cX5_init 2 1 := ⟨v_r7 _ (List.mem_of_getElem? (i := 23) rfl), v_r2 _ (List.mem_of_getElem? (i := 19) rfl), v_r8 _ (List.mem_of_getElem? (i := 0) rfl), rfl, by decide +kernel⟩
theorem KI_X4_init : n_KI yX4_init cX4_init 1 0 := ⟨v_r8 _ (List.mem_of_getElem? (i := 4) rfl), v_r2 _ (List.mem_of_getElem? (i := 23) rfl), v_r8 _ (List.mem_of_getElem? (i := 5) rfl), rfl, by decide +kernel⟩
theorem KV_J7_fill_53178 : v_KS yJ7_fill_53178 cJ7_fill_53178 4 none 2 := ⟨v_r3 _ (List.mem_of_getElem? (i := 14) rfl), v_r3 _ (List.mem_of_getElem? (i := 15) rfl), v_r3 _ (List.mem_of_getElem? (i := 16) rfl), by decide +kernel⟩
