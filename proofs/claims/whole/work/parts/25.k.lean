theorem k_0_0 : cod 0 0 = some (.inl (.aload_n 0), 1) := rfl
theorem k_0_1 : cod 0 1 = some (.inr (7, 0, 0, 0, 0), 3) := rfl
theorem k_0_4 : cod 0 4 = some (.inl (.aload_n 0), 1) := rfl
theorem k_0_5 : cod 0 5 = some (.inl (.iconst 0), 1) := rfl
theorem k_0_6 : cod 0 6 = some (.inr (3, 3, 0, 0, 0), 3) := rfl
theorem k_0_9 : cod 0 9 = some (.inr (1, 0, 0, 3, 0), 3) := rfl
theorem k_0_12 : cod 0 12 = some (.inl (.aload_n 0), 1) := rfl
theorem k_0_13 : cod 0 13 = some (.inr (2, 8, 3, 0, 0), 3) := rfl
theorem k_0_16 : cod 0 16 = some (.inl .dup, 1) := rfl
theorem k_0_17 : cod 0 17 = some (.inr (17, 1, 1, 2, 0), 3) := rfl
theorem k_0_20 : cod 0 20 = some (.inr (1, 0, 1, 3, 0), 3) := rfl
theorem k_0_23 : cod 0 23 = some (.inl (.aload_n 0), 1) := rfl
theorem k_0_24 : cod 0 24 = some (.inr (2, 8, 3, 0, 0), 3) := rfl
theorem k_0_27 : cod 0 27 = some (.inl .dup, 1) := rfl
theorem k_0_28 : cod 0 28 = some (.inr (17, 1, 1, 2, 0), 3) := rfl
theorem k_0_31 : cod 0 31 = some (.inr (1, 0, 2, 3, 0), 3) := rfl
theorem k_0_34 : cod 0 34 = some (.inl (.aload_n 0), 1) := rfl
theorem k_0_35 : cod 0 35 = some (.inr (2, 1, 3, 0, 0), 3) := rfl
theorem k_0_38 : cod 0 38 = some (.inl .dup, 1) := rfl
theorem k_0_39 : cod 0 39 = some (.inr (17, 4, 1, 2, 0), 3) := rfl
theorem k_0_42 : cod 0 42 = some (.inr (1, 0, 3, 3, 0), 3) := rfl
theorem k_0_45 : cod 0 45 = some (.inl .return_, 1) := rfl
theorem k_1_0 : cod 1 0 = some (.inl (.aload_n 0), 1) := rfl
theorem k_1_1 : cod 1 1 = some (.inr (17, 2, 1, 2, 0), 3) := rfl
theorem k_1_4 : cod 1 4 = some (.inl (.aload_n 0), 1) := rfl
theorem k_1_5 : cod 1 5 = some (.inr (6, 0, 0, 0, 0), 3) := rfl
theorem k_1_8 : cod 1 8 = some (.inr (1, 8, 0, 3, 0), 3) := rfl
theorem k_1_11 : cod 1 11 = some (.inl .return_, 1) := rfl
theorem k_2_0 : cod 2 0 = some (.inl (.aload_n 0), 1) := rfl
theorem k_2_1 : cod 2 1 = some (.inr (17, 3, 1, 2, 0), 3) := rfl
theorem k_2_4 : cod 2 4 = some (.inl (.aload_n 0), 1) := rfl
theorem k_2_5 : cod 2 5 = some (.inl (.iconst 0), 1) := rfl
theorem k_2_6 : cod 2 6 = some (.inr (1, 8, 2, 0, 0), 3) := rfl
theorem k_2_9 : cod 2 9 = some (.inl .return_, 1) := rfl
theorem k_3_0 : cod 3 0 = some (.inl (.aload_n 0), 1) := rfl
theorem k_3_1 : cod 3 1 = some (.inr (7, 0, 0, 0, 0), 3) := rfl
theorem k_3_4 : cod 3 4 = some (.inl .return_, 1) := rfl
theorem k_4_0 : cod 4 0 = some (.inl (.aload_n 0), 1) := rfl
theorem k_4_1 : cod 4 1 = some (.inr (7, 0, 0, 0, 0), 3) := rfl
theorem k_4_4 : cod 4 4 = some (.inl (.aload_n 0), 1) := rfl
theorem k_4_5 : cod 4 5 = some (.inl (.bipush 16), 2) := rfl
theorem k_4_7 : cod 4 7 = some (.inl (.newarray .int), 2) := rfl
theorem k_4_9 : cod 4 9 = some (.inr (1, 1, 0, 3, 0), 3) := rfl
theorem k_4_12 : cod 4 12 = some (.inl (.aload_n 0), 1) := rfl
theorem k_4_13 : cod 4 13 = some (.inl (.bipush 16), 2) := rfl
theorem k_4_15 : cod 4 15 = some (.inl (.newarray .int), 2) := rfl
theorem k_4_17 : cod 4 17 = some (.inr (1, 1, 1, 3, 0), 3) := rfl
theorem k_4_20 : cod 4 20 = some (.inl .return_, 1) := rfl
theorem k_5_0 : cod 5 0 = some (.inl (.iload_n 1), 1) := rfl
theorem k_5_1 : cod 5 1 = some (.inl (.tableswitch 76 0 5 #[39, 45, 53, 61, 66, 71]), 39) := rfl
theorem k_5_40 : cod 5 40 = some (.inl (.aload_n 0), 1) := rfl
theorem k_5_41 : cod 5 41 = some (.inr (0, 0, 0, 0, 0), 3) := rfl
theorem k_5_44 : cod 5 44 = some (.inl .arraylength, 1) := rfl
theorem k_5_45 : cod 5 45 = some (.inl .ireturn, 1) := rfl
theorem k_5_46 : cod 5 46 = some (.inl (.aload_n 0), 1) := rfl
theorem k_5_47 : cod 5 47 = some (.inr (0, 0, 1, 0, 0), 3) := rfl
theorem k_5_50 : cod 5 50 = some (.inr (17, 6, 1, 1, 8), 3) := rfl
theorem k_5_53 : cod 5 53 = some (.inl .ireturn, 1) := rfl
theorem k_5_54 : cod 5 54 = some (.inl (.aload_n 0), 1) := rfl
theorem k_5_55 : cod 5 55 = some (.inr (0, 0, 2, 0, 0), 3) := rfl
theorem k_5_58 : cod 5 58 = some (.inr (17, 6, 1, 1, 8), 3) := rfl
theorem k_5_61 : cod 5 61 = some (.inl .ireturn, 1) := rfl
theorem k_5_62 : cod 5 62 = some (.inl (.aload_n 0), 1) := rfl
theorem k_5_63 : cod 5 63 = some (.inr (0, 0, 5, 0, 0), 3) := rfl
theorem k_5_66 : cod 5 66 = some (.inl .ireturn, 1) := rfl
theorem k_5_67 : cod 5 67 = some (.inl (.aload_n 0), 1) := rfl
theorem k_5_68 : cod 5 68 = some (.inr (17, 7, 1, 1, 0), 3) := rfl
theorem k_5_71 : cod 5 71 = some (.inl .ireturn, 1) := rfl
theorem k_5_72 : cod 5 72 = some (.inl (.aload_n 0), 1) := rfl
theorem k_5_73 : cod 5 73 = some (.inr (17, 8, 1, 1, 0), 3) := rfl
theorem k_5_76 : cod 5 76 = some (.inl .ireturn, 1) := rfl
theorem k_5_77 : cod 5 77 = some (.inl (.iconst (-1)), 1) := rfl
theorem k_5_78 : cod 5 78 = some (.inl .ireturn, 1) := rfl
theorem k_6_0 : cod 6 0 = some (.inl (.aload_n 0), 1) := rfl
theorem k_6_1 : cod 6 1 = some (.inr (0, 8, 1, 0, 0), 3) := rfl
theorem k_6_4 : cod 6 4 = some (.inl .ireturn, 1) := rfl
theorem k_7_0 : cod 7 0 = some (.inl (.iconst 0), 1) := rfl
theorem k_7_1 : cod 7 1 = some (.inl (.istore_n 1), 1) := rfl
theorem k_7_2 : cod 7 2 = some (.inl (.iconst 0), 1) := rfl
theorem k_7_3 : cod 7 3 = some (.inl (.istore_n 2), 1) := rfl
theorem k_7_4 : cod 7 4 = some (.inl (.iload_n 2), 1) := rfl
theorem k_7_5 : cod 7 5 = some (.inl (.aload_n 0), 1) := rfl
theorem k_7_6 : cod 7 6 = some (.inr (0, 0, 0, 0, 0), 3) := rfl
theorem k_7_9 : cod 7 9 = some (.inl .arraylength, 1) := rfl
theorem k_7_10 : cod 7 10 = some (.inl (.if_icmp .ge 24), 3) := rfl
theorem k_7_13 : cod 7 13 = some (.inl (.iload_n 1), 1) := rfl
theorem k_7_14 : cod 7 14 = some (.inl (.aload_n 0), 1) := rfl
theorem k_7_15 : cod 7 15 = some (.inr (0, 0, 0, 0, 0), 3) := rfl
theorem k_7_18 : cod 7 18 = some (.inl (.iload_n 2), 1) := rfl
theorem k_7_19 : cod 7 19 = some (.inl .aaload, 1) := rfl
theorem k_7_20 : cod 7 20 = some (.inr (0, 2, 2, 0, 0), 3) := rfl
theorem k_7_23 : cod 7 23 = some (.inr (17, 6, 1, 1, 8), 3) := rfl
theorem k_7_26 : cod 7 26 = some (.inl .iadd, 1) := rfl
theorem k_7_27 : cod 7 27 = some (.inl (.istore_n 1), 1) := rfl
theorem k_7_28 : cod 7 28 = some (.inl (.iinc 2 1), 3) := rfl
theorem k_7_31 : cod 7 31 = some (.inl (.goto (-27)), 3) := rfl
theorem k_7_34 : cod 7 34 = some (.inl (.iload_n 1), 1) := rfl
theorem k_7_35 : cod 7 35 = some (.inl .ireturn, 1) := rfl
theorem k_8_0 : cod 8 0 = some (.inl (.iconst 0), 1) := rfl
theorem k_8_1 : cod 8 1 = some (.inl (.istore_n 1), 1) := rfl
theorem k_8_2 : cod 8 2 = some (.inl (.iconst 0), 1) := rfl
theorem k_8_3 : cod 8 3 = some (.inl (.istore_n 2), 1) := rfl
theorem k_8_4 : cod 8 4 = some (.inl (.iload_n 2), 1) := rfl
theorem k_8_5 : cod 8 5 = some (.inl (.aload_n 0), 1) := rfl
theorem k_8_6 : cod 8 6 = some (.inr (0, 0, 0, 0, 0), 3) := rfl
theorem k_8_9 : cod 8 9 = some (.inl .arraylength, 1) := rfl
theorem k_8_10 : cod 8 10 = some (.inl (.if_icmp .ge 24), 3) := rfl
theorem k_8_13 : cod 8 13 = some (.inl (.iload_n 1), 1) := rfl
theorem k_8_14 : cod 8 14 = some (.inl (.aload_n 0), 1) := rfl
theorem k_8_15 : cod 8 15 = some (.inr (0, 0, 0, 0, 0), 3) := rfl
theorem k_8_18 : cod 8 18 = some (.inl (.iload_n 2), 1) := rfl
theorem k_8_19 : cod 8 19 = some (.inl .aaload, 1) := rfl
theorem k_8_20 : cod 8 20 = some (.inr (0, 2, 3, 0, 0), 3) := rfl
theorem k_8_23 : cod 8 23 = some (.inr (17, 6, 1, 1, 8), 3) := rfl
theorem k_8_26 : cod 8 26 = some (.inl .iadd, 1) := rfl
theorem k_8_27 : cod 8 27 = some (.inl (.istore_n 1), 1) := rfl
theorem k_8_28 : cod 8 28 = some (.inl (.iinc 2 1), 3) := rfl
theorem k_8_31 : cod 8 31 = some (.inl (.goto (-27)), 3) := rfl
theorem k_8_34 : cod 8 34 = some (.inl (.iload_n 1), 1) := rfl
theorem k_8_35 : cod 8 35 = some (.inl .ireturn, 1) := rfl
theorem k_9_0 : cod 9 0 = some (.inl (.aload_n 0), 1) := rfl
theorem k_9_1 : cod 9 1 = some (.inl (.iload_n 1), 1) := rfl
theorem k_9_2 : cod 9 2 = some (.inr (17, 10, 2, 1, 0), 3) := rfl
theorem k_9_5 : cod 9 5 = some (.inl (.goto 9), 3) := rfl
theorem k_9_8 : cod 9 8 = some (.inl (.astore_n 2), 1) := rfl
theorem k_9_9 : cod 9 9 = some (.inl (.iconst 1), 1) := rfl
theorem k_9_10 : cod 9 10 = some (.inl .ireturn, 1) := rfl
theorem k_9_11 : cod 9 11 = some (.inl (.astore_n 2), 1) := rfl
theorem k_9_12 : cod 9 12 = some (.inl (.iconst 2), 1) := rfl
theorem k_9_13 : cod 9 13 = some (.inl .ireturn, 1) := rfl
theorem k_9_14 : cod 9 14 = some (.inl (.iconst 0), 1) := rfl
theorem k_9_15 : cod 9 15 = some (.inl .ireturn, 1) := rfl
theorem k_10_0 : cod 10 0 = some (.inl (.iload_n 1), 1) := rfl
theorem k_10_1 : cod 10 1 = some (.inl (.iconst 1), 1) := rfl
theorem k_10_2 : cod 10 2 = some (.inl (.if_icmp .lt 9), 3) := rfl
theorem k_10_5 : cod 10 5 = some (.inl (.iload_n 1), 1) := rfl
theorem k_10_6 : cod 10 6 = some (.inl (.bipush 6), 2) := rfl
theorem k_10_8 : cod 10 8 = some (.inl (.if_icmp .le 13), 3) := rfl
theorem k_10_11 : cod 10 11 = some (.inr (16, 10, 0, 0, 0), 10) := rfl
theorem k_10_21 : cod 10 21 = some (.inl (.aload_n 0), 1) := rfl
theorem k_10_22 : cod 10 22 = some (.inr (0, 0, 0, 0, 0), 3) := rfl
theorem k_10_25 : cod 10 25 = some (.inl .arraylength, 1) := rfl
theorem k_10_26 : cod 10 26 = some (.inl (.ifCond .le 13), 3) := rfl
theorem k_10_29 : cod 10 29 = some (.inr (16, 11, 0, 0, 0), 10) := rfl
theorem k_10_39 : cod 10 39 = some (.inl (.iload_n 1), 1) := rfl
theorem k_10_40 : cod 10 40 = some (.inr (3, 3, 0, 0, 0), 3) := rfl
theorem k_10_43 : cod 10 43 = some (.inl (.astore_n 2), 1) := rfl
theorem k_10_44 : cod 10 44 = some (.inl (.iconst 0), 1) := rfl
theorem k_10_45 : cod 10 45 = some (.inl (.istore_n 3), 1) := rfl
theorem k_10_46 : cod 10 46 = some (.inl (.iload_n 3), 1) := rfl
theorem k_10_47 : cod 10 47 = some (.inl (.iload_n 1), 1) := rfl
theorem k_10_48 : cod 10 48 = some (.inl (.if_icmp .ge 21), 3) := rfl
theorem k_10_51 : cod 10 51 = some (.inl (.aload_n 2), 1) := rfl
theorem k_10_52 : cod 10 52 = some (.inl (.iload_n 3), 1) := rfl
theorem k_10_53 : cod 10 53 = some (.inr (2, 2, 4, 0, 0), 3) := rfl
theorem k_10_56 : cod 10 56 = some (.inl .dup, 1) := rfl
theorem k_10_57 : cod 10 57 = some (.inl (.iload_n 3), 1) := rfl
theorem k_10_58 : cod 10 58 = some (.inl (.iload_n 1), 1) := rfl
theorem k_10_59 : cod 10 59 = some (.inr (17, 11, 3, 2, 0), 3) := rfl
theorem k_10_62 : cod 10 62 = some (.inl .aastore, 1) := rfl
theorem k_10_63 : cod 10 63 = some (.inl (.iinc 3 1), 3) := rfl
theorem k_10_66 : cod 10 66 = some (.inl (.goto (-20)), 3) := rfl
theorem k_10_69 : cod 10 69 = some (.inl (.aload_n 0), 1) := rfl
theorem k_10_70 : cod 10 70 = some (.inl (.aload_n 2), 1) := rfl
theorem k_10_71 : cod 10 71 = some (.inr (1, 0, 0, 3, 0), 3) := rfl
theorem k_10_74 : cod 10 74 = some (.inl .return_, 1) := rfl
theorem k_11_0 : cod 11 0 = some (.inl (.aload_n 0), 1) := rfl
theorem k_11_1 : cod 11 1 = some (.inr (7, 0, 0, 0, 0), 3) := rfl
theorem k_11_4 : cod 11 4 = some (.inl (.aload_n 0), 1) := rfl
theorem k_11_5 : cod 11 5 = some (.inl (.iload_n 1), 1) := rfl
theorem k_11_6 : cod 11 6 = some (.inr (1, 2, 0, 0, 0), 3) := rfl
theorem k_11_9 : cod 11 9 = some (.inl (.aload_n 0), 1) := rfl
theorem k_11_10 : cod 11 10 = some (.inl (.iload_n 2), 1) := rfl
theorem k_11_11 : cod 11 11 = some (.inl (.newarray .int), 2) := rfl
theorem k_11_13 : cod 11 13 = some (.inr (1, 2, 1, 3, 0), 3) := rfl
theorem k_11_16 : cod 11 16 = some (.inl (.aload_n 0), 1) := rfl
theorem k_11_17 : cod 11 17 = some (.inr (2, 8, 3, 0, 0), 3) := rfl
theorem k_11_20 : cod 11 20 = some (.inl .dup, 1) := rfl
theorem k_11_21 : cod 11 21 = some (.inr (17, 1, 1, 2, 0), 3) := rfl
theorem k_11_24 : cod 11 24 = some (.inr (1, 2, 2, 3, 0), 3) := rfl
theorem k_11_27 : cod 11 27 = some (.inl (.aload_n 0), 1) := rfl
theorem k_11_28 : cod 11 28 = some (.inr (2, 8, 3, 0, 0), 3) := rfl
theorem k_11_31 : cod 11 31 = some (.inl .dup, 1) := rfl
theorem k_11_32 : cod 11 32 = some (.inr (17, 1, 1, 2, 0), 3) := rfl
theorem k_11_35 : cod 11 35 = some (.inr (1, 2, 3, 3, 0), 3) := rfl
theorem k_11_38 : cod 11 38 = some (.inl .return_, 1) := rfl
theorem k_12_0 : cod 12 0 = some (.inl (.aload_n 3), 1) := rfl
theorem k_12_1 : cod 12 1 = some (.inl (.iconst 0), 1) := rfl
theorem k_12_2 : cod 12 2 = some (.inl (.aload_n 0), 1) := rfl
theorem k_12_3 : cod 12 3 = some (.inl (.iload_n 1), 1) := rfl
theorem k_12_4 : cod 12 4 = some (.inl (.iload_n 2), 1) := rfl
theorem k_12_5 : cod 12 5 = some (.inr (17, 13, 3, 1, 0), 3) := rfl
theorem k_12_8 : cod 12 8 = some (.inl .i2l, 1) := rfl
theorem k_12_9 : cod 12 9 = some (.inl .lastore, 1) := rfl
theorem k_12_10 : cod 12 10 = some (.inl (.goto 11), 3) := rfl
theorem k_12_13 : cod 12 13 = some (.inl (.astore 4), 2) := rfl
theorem k_12_15 : cod 12 15 = some (.inl (.iconst 1), 1) := rfl
theorem k_12_16 : cod 12 16 = some (.inl .ireturn, 1) := rfl
theorem k_12_17 : cod 12 17 = some (.inl (.astore 4), 2) := rfl
theorem k_12_19 : cod 12 19 = some (.inl (.iconst 2), 1) := rfl
theorem k_12_20 : cod 12 20 = some (.inl .ireturn, 1) := rfl
theorem k_12_21 : cod 12 21 = some (.inl (.iconst 0), 1) := rfl
theorem k_12_22 : cod 12 22 = some (.inl .ireturn, 1) := rfl
theorem k_13_0 : cod 13 0 = some (.inl (.aload_n 0), 1) := rfl
theorem k_13_1 : cod 13 1 = some (.inl (.iload_n 1), 1) := rfl
theorem k_13_2 : cod 13 2 = some (.inr (17, 14, 2, 1, 0), 3) := rfl
theorem k_13_5 : cod 13 5 = some (.inl (.aload_n 0), 1) := rfl
theorem k_13_6 : cod 13 6 = some (.inr (0, 0, 1, 0, 0), 3) := rfl
theorem k_13_9 : cod 13 9 = some (.inr (17, 6, 1, 1, 8), 3) := rfl
theorem k_13_12 : cod 13 12 = some (.inl (.sipush 200), 3) := rfl
theorem k_13_15 : cod 13 15 = some (.inl (.if_icmp .lt 13), 3) := rfl
theorem k_13_18 : cod 13 18 = some (.inr (16, 11, 0, 0, 0), 10) := rfl
theorem k_13_28 : cod 13 28 = some (.inl (.aload_n 0), 1) := rfl
theorem k_13_29 : cod 13 29 = some (.inr (0, 0, 1, 0, 0), 3) := rfl
theorem k_13_32 : cod 13 32 = some (.inr (2, 3, 5, 0, 0), 3) := rfl
theorem k_13_35 : cod 13 35 = some (.inl .dup, 1) := rfl
theorem k_13_36 : cod 13 36 = some (.inl (.iload_n 1), 1) := rfl
theorem k_13_37 : cod 13 37 = some (.inl (.iload_n 2), 1) := rfl
theorem k_13_38 : cod 13 38 = some (.inr (17, 15, 3, 2, 0), 3) := rfl
theorem k_13_41 : cod 13 41 = some (.inr (17, 16, 2, 1, 8), 3) := rfl
theorem k_13_44 : cod 13 44 = some (.inl .pop, 1) := rfl
theorem k_13_45 : cod 13 45 = some (.inl (.aload_n 0), 1) := rfl
theorem k_13_46 : cod 13 46 = some (.inr (0, 0, 1, 0, 0), 3) := rfl
theorem k_13_49 : cod 13 49 = some (.inr (17, 6, 1, 1, 8), 3) := rfl
theorem k_13_52 : cod 13 52 = some (.inl (.iconst 1), 1) := rfl
theorem k_13_53 : cod 13 53 = some (.inl .isub, 1) := rfl
theorem k_13_54 : cod 13 54 = some (.inl .ireturn, 1) := rfl
theorem k_14_0 : cod 14 0 = some (.inl (.iload_n 1), 1) := rfl
theorem k_14_1 : cod 14 1 = some (.inl (.ifCond .lt 12), 3) := rfl
theorem k_14_4 : cod 14 4 = some (.inl (.iload_n 1), 1) := rfl
theorem k_14_5 : cod 14 5 = some (.inl (.aload_n 0), 1) := rfl
theorem k_14_6 : cod 14 6 = some (.inr (0, 0, 0, 0, 0), 3) := rfl
theorem k_14_9 : cod 14 9 = some (.inl .arraylength, 1) := rfl
theorem k_14_10 : cod 14 10 = some (.inl (.if_icmp .lt 13), 3) := rfl
theorem k_14_13 : cod 14 13 = some (.inr (16, 10, 0, 0, 0), 10) := rfl
theorem k_14_23 : cod 14 23 = some (.inl .return_, 1) := rfl
theorem k_15_0 : cod 15 0 = some (.inl (.aload_n 0), 1) := rfl
theorem k_15_1 : cod 15 1 = some (.inr (7, 0, 0, 0, 0), 3) := rfl
theorem k_15_4 : cod 15 4 = some (.inl (.aload_n 0), 1) := rfl
theorem k_15_5 : cod 15 5 = some (.inl (.iload_n 1), 1) := rfl
theorem k_15_6 : cod 15 6 = some (.inr (1, 3, 0, 0, 0), 3) := rfl
theorem k_15_9 : cod 15 9 = some (.inl (.aload_n 0), 1) := rfl
theorem k_15_10 : cod 15 10 = some (.inl (.iload_n 2), 1) := rfl
theorem k_15_11 : cod 15 11 = some (.inr (1, 3, 1, 1, 0), 3) := rfl
theorem k_15_14 : cod 15 14 = some (.inl (.aload_n 0), 1) := rfl
theorem k_15_15 : cod 15 15 = some (.inr (2, 8, 3, 0, 0), 3) := rfl
theorem k_15_18 : cod 15 18 = some (.inl .dup, 1) := rfl
theorem k_15_19 : cod 15 19 = some (.inr (17, 1, 1, 2, 0), 3) := rfl
theorem k_15_22 : cod 15 22 = some (.inr (1, 3, 2, 3, 0), 3) := rfl
theorem k_15_25 : cod 15 25 = some (.inl (.aload_n 0), 1) := rfl
theorem k_15_26 : cod 15 26 = some (.inr (2, 8, 3, 0, 0), 3) := rfl
theorem k_15_29 : cod 15 29 = some (.inl .dup, 1) := rfl
theorem k_15_30 : cod 15 30 = some (.inr (17, 1, 1, 2, 0), 3) := rfl
theorem k_15_33 : cod 15 33 = some (.inr (1, 3, 3, 3, 0), 3) := rfl
theorem k_15_36 : cod 15 36 = some (.inl (.aload_n 0), 1) := rfl
theorem k_15_37 : cod 15 37 = some (.inl (.iconst (-1)), 1) := rfl
theorem k_15_38 : cod 15 38 = some (.inr (1, 3, 4, 0, 0), 3) := rfl
theorem k_15_41 : cod 15 41 = some (.inl .return_, 1) := rfl
theorem k_16_0 : cod 16 0 = some (.inl (.aload_n 0), 1) := rfl
theorem k_16_1 : cod 16 1 = some (.inl .dup, 1) := rfl
theorem k_16_2 : cod 16 2 = some (.inr (0, 8, 2, 0, 0), 3) := rfl
theorem k_16_5 : cod 16 5 = some (.inl (.iconst 1), 1) := rfl
theorem k_16_6 : cod 16 6 = some (.inl .iadd, 1) := rfl
theorem k_16_7 : cod 16 7 = some (.inr (1, 8, 2, 0, 0), 3) := rfl
theorem k_16_10 : cod 16 10 = some (.inl (.aload_n 0), 1) := rfl
theorem k_16_11 : cod 16 11 = some (.inl (.aload_n 1), 1) := rfl
theorem k_16_12 : cod 16 12 = some (.inl (.aload_n 0), 1) := rfl
theorem k_16_13 : cod 16 13 = some (.inr (0, 8, 0, 0, 0), 3) := rfl
theorem k_16_16 : cod 16 16 = some (.inl (.aload_n 0), 1) := rfl
theorem k_16_17 : cod 16 17 = some (.inr (0, 8, 1, 0, 0), 3) := rfl
theorem k_16_20 : cod 16 20 = some (.inr (17, 17, 4, 1, 8), 3) := rfl
theorem k_16_23 : cod 16 23 = some (.inl (.iconst 1), 1) := rfl
theorem k_16_24 : cod 16 24 = some (.inl .ireturn, 1) := rfl
theorem k_17_0 : cod 17 0 = some (.inl (.iload_n 3), 1) := rfl
theorem k_17_1 : cod 17 1 = some (.inl (.aload_n 2), 1) := rfl
theorem k_17_2 : cod 17 2 = some (.inl .arraylength, 1) := rfl
theorem k_17_3 : cod 17 3 = some (.inl (.if_icmp .ne 8), 3) := rfl
theorem k_17_6 : cod 17 6 = some (.inl (.aload_n 0), 1) := rfl
theorem k_17_7 : cod 17 7 = some (.inr (17, 18, 1, 1, 8), 3) := rfl
theorem k_17_10 : cod 17 10 = some (.inl (.astore_n 2), 1) := rfl
theorem k_17_11 : cod 17 11 = some (.inl (.aload_n 2), 1) := rfl
theorem k_17_12 : cod 17 12 = some (.inl (.iload_n 3), 1) := rfl
theorem k_17_13 : cod 17 13 = some (.inl (.aload_n 1), 1) := rfl
theorem k_17_14 : cod 17 14 = some (.inl .aastore, 1) := rfl
theorem k_17_15 : cod 17 15 = some (.inl (.aload_n 0), 1) := rfl
theorem k_17_16 : cod 17 16 = some (.inl (.iload_n 3), 1) := rfl
theorem k_17_17 : cod 17 17 = some (.inl (.iconst 1), 1) := rfl
theorem k_17_18 : cod 17 18 = some (.inl .iadd, 1) := rfl
theorem k_17_19 : cod 17 19 = some (.inr (1, 8, 1, 0, 0), 3) := rfl
theorem k_17_22 : cod 17 22 = some (.inl .return_, 1) := rfl
theorem k_18_0 : cod 18 0 = some (.inl (.aload_n 0), 1) := rfl
theorem k_18_1 : cod 18 1 = some (.inl (.aload_n 0), 1) := rfl
theorem k_18_2 : cod 18 2 = some (.inr (0, 8, 1, 0, 0), 3) := rfl
theorem k_18_5 : cod 18 5 = some (.inl (.iconst 1), 1) := rfl
theorem k_18_6 : cod 18 6 = some (.inl .iadd, 1) := rfl
theorem k_18_7 : cod 18 7 = some (.inr (17, 19, 2, 1, 8), 3) := rfl
theorem k_18_10 : cod 18 10 = some (.inl .areturn, 1) := rfl
theorem k_19_0 : cod 19 0 = some (.inl (.aload_n 0), 1) := rfl
theorem k_19_1 : cod 19 1 = some (.inr (0, 8, 0, 0, 0), 3) := rfl
theorem k_19_4 : cod 19 4 = some (.inl .arraylength, 1) := rfl
theorem k_19_5 : cod 19 5 = some (.inl (.istore_n 2), 1) := rfl
theorem k_19_6 : cod 19 6 = some (.inl (.iload_n 2), 1) := rfl
theorem k_19_7 : cod 19 7 = some (.inl (.ifCond .gt 13), 3) := rfl
theorem k_19_10 : cod 19 10 = some (.inl (.aload_n 0), 1) := rfl
theorem k_19_11 : cod 19 11 = some (.inr (0, 8, 0, 0, 0), 3) := rfl
theorem k_19_14 : cod 19 14 = some (.inr (6, 0, 0, 0, 0), 3) := rfl
theorem k_19_17 : cod 19 17 = some (.inl (.if_acmp .eq 28), 3) := rfl
theorem k_19_20 : cod 19 20 = some (.inl (.iload_n 2), 1) := rfl
theorem k_19_21 : cod 19 21 = some (.inl (.iload_n 1), 1) := rfl
theorem k_19_22 : cod 19 22 = some (.inl (.iload_n 2), 1) := rfl
theorem k_19_23 : cod 19 23 = some (.inl .isub, 1) := rfl
theorem k_19_24 : cod 19 24 = some (.inl (.iload_n 2), 1) := rfl
theorem k_19_25 : cod 19 25 = some (.inl (.iconst 1), 1) := rfl
theorem k_19_26 : cod 19 26 = some (.inl .ishr, 1) := rfl
theorem k_19_27 : cod 19 27 = some (.inr (17, 20, 3, 0, 0), 3) := rfl
theorem k_19_30 : cod 19 30 = some (.inl (.istore_n 3), 1) := rfl
theorem k_19_31 : cod 19 31 = some (.inl (.aload_n 0), 1) := rfl
theorem k_19_32 : cod 19 32 = some (.inl (.aload_n 0), 1) := rfl
theorem k_19_33 : cod 19 33 = some (.inr (0, 8, 0, 0, 0), 3) := rfl
theorem k_19_36 : cod 19 36 = some (.inl (.iload_n 3), 1) := rfl
theorem k_19_37 : cod 19 37 = some (.inr (17, 21, 2, 0, 0), 3) := rfl
theorem k_19_40 : cod 19 40 = some (.inl .dup_x1, 1) := rfl
theorem k_19_41 : cod 19 41 = some (.inr (1, 8, 0, 3, 0), 3) := rfl
theorem k_19_44 : cod 19 44 = some (.inl .areturn, 1) := rfl
theorem k_19_45 : cod 19 45 = some (.inl (.aload_n 0), 1) := rfl
theorem k_19_46 : cod 19 46 = some (.inl (.bipush 10), 2) := rfl
theorem k_19_48 : cod 19 48 = some (.inl (.iload_n 1), 1) := rfl
theorem k_19_49 : cod 19 49 = some (.inr (11, 0, 0, 0, 0), 3) := rfl
theorem k_19_52 : cod 19 52 = some (.inr (3, 4, 0, 0, 0), 3) := rfl
theorem k_19_55 : cod 19 55 = some (.inl .dup_x1, 1) := rfl
theorem k_19_56 : cod 19 56 = some (.inr (1, 8, 0, 3, 0), 3) := rfl
theorem k_19_59 : cod 19 59 = some (.inl .areturn, 1) := rfl
theorem k_20_0 : cod 20 0 = some (.inl (.iload_n 0), 1) := rfl
theorem k_20_1 : cod 20 1 = some (.inl (.iload_n 1), 1) := rfl
theorem k_20_2 : cod 20 2 = some (.inl (.iload_n 2), 1) := rfl
theorem k_20_3 : cod 20 3 = some (.inr (11, 0, 0, 0, 0), 3) := rfl
theorem k_20_6 : cod 20 6 = some (.inl .iadd, 1) := rfl
theorem k_20_7 : cod 20 7 = some (.inl (.istore_n 3), 1) := rfl
theorem k_20_8 : cod 20 8 = some (.inl (.iconst 0), 1) := rfl
theorem k_20_9 : cod 20 9 = some (.inl (.iload_n 3), 1) := rfl
theorem k_20_10 : cod 20 10 = some (.inl (.if_icmp .ge 11), 3) := rfl
theorem k_20_13 : cod 20 13 = some (.inl (.iload_n 3), 1) := rfl
theorem k_20_14 : cod 20 14 = some (.inr (18, 2147483639, 0, 0, 0), 2) := rfl
theorem k_20_16 : cod 20 16 = some (.inl (.if_icmp .gt 5), 3) := rfl
theorem k_20_19 : cod 20 19 = some (.inl (.iload_n 3), 1) := rfl
theorem k_20_20 : cod 20 20 = some (.inl .ireturn, 1) := rfl
theorem k_20_21 : cod 20 21 = some (.inl (.iload_n 0), 1) := rfl
theorem k_20_22 : cod 20 22 = some (.inl (.iload_n 1), 1) := rfl
theorem k_20_26 : cod 20 26 = some (.inl .ireturn, 1) := rfl
theorem k_21_0 : cod 21 0 = some (.inl (.aload_n 0), 1) := rfl
theorem k_21_1 : cod 21 1 = some (.inl (.iload_n 1), 1) := rfl
theorem k_21_2 : cod 21 2 = some (.inl (.aload_n 0), 1) := rfl
theorem k_21_3 : cod 21 3 = some (.inr (13, 0, 0, 0, 0), 3) := rfl
theorem k_21_6 : cod 21 6 = some (.inr (17, 22, 3, 0, 0), 3) := rfl
theorem k_21_9 : cod 21 9 = some (.inl .areturn, 1) := rfl
theorem k_22_0 : cod 22 0 = some (.inl (.aload_n 2), 1) := rfl
theorem k_22_1 : cod 22 1 = some (.inr (14, 0, 0, 0, 0), 2) := rfl
theorem k_22_3 : cod 22 3 = some (.inl (.if_acmp .ne 10), 3) := rfl
theorem k_22_6 : cod 22 6 = some (.inl (.iload_n 1), 1) := rfl
theorem k_22_7 : cod 22 7 = some (.inr (3, 4, 0, 0, 0), 3) := rfl
theorem k_22_10 : cod 22 10 = some (.inl (.goto 14), 3) := rfl
theorem k_22_13 : cod 22 13 = some (.inl (.aload_n 2), 1) := rfl
theorem k_22_17 : cod 22 17 = some (.inl (.iload_n 1), 1) := rfl
theorem k_22_21 : cod 22 21 = some (.inr (5, 4, 0, 0, 0), 3) := rfl
theorem k_22_24 : cod 22 24 = some (.inl (.astore_n 3), 1) := rfl
theorem k_22_25 : cod 22 25 = some (.inl (.aload_n 0), 1) := rfl
theorem k_22_26 : cod 22 26 = some (.inl (.iconst 0), 1) := rfl
theorem k_22_27 : cod 22 27 = some (.inl (.aload_n 3), 1) := rfl
theorem k_22_28 : cod 22 28 = some (.inl (.iconst 0), 1) := rfl
theorem k_22_29 : cod 22 29 = some (.inl (.aload_n 0), 1) := rfl
theorem k_22_30 : cod 22 30 = some (.inl .arraylength, 1) := rfl
theorem k_22_31 : cod 22 31 = some (.inl (.iload_n 1), 1) := rfl
theorem k_22_32 : cod 22 32 = some (.inr (12, 0, 0, 0, 0), 3) := rfl
theorem k_22_35 : cod 22 35 = some (.inr (9, 0, 0, 0, 0), 3) := rfl
theorem k_22_38 : cod 22 38 = some (.inl (.aload_n 3), 1) := rfl
theorem k_22_39 : cod 22 39 = some (.inl .areturn, 1) := rfl
theorem k_23_0 : cod 23 0 = some (.inl (.aload_n 2), 1) := rfl
theorem k_23_1 : cod 23 1 = some (.inl (.iconst 0), 1) := rfl
theorem k_23_2 : cod 23 2 = some (.inl (.aload_n 0), 1) := rfl
theorem k_23_3 : cod 23 3 = some (.inl (.iload_n 1), 1) := rfl
theorem k_23_4 : cod 23 4 = some (.inr (17, 24, 2, 1, 0), 3) := rfl
theorem k_23_7 : cod 23 7 = some (.inl .i2l, 1) := rfl
theorem k_23_8 : cod 23 8 = some (.inl .lastore, 1) := rfl
theorem k_23_9 : cod 23 9 = some (.inl (.goto 9), 3) := rfl
theorem k_23_12 : cod 23 12 = some (.inl (.astore_n 3), 1) := rfl
theorem k_23_13 : cod 23 13 = some (.inl (.iconst 1), 1) := rfl
theorem k_23_14 : cod 23 14 = some (.inl .ireturn, 1) := rfl
theorem k_23_15 : cod 23 15 = some (.inl (.astore_n 3), 1) := rfl
theorem k_23_16 : cod 23 16 = some (.inl (.iconst 2), 1) := rfl
theorem k_23_17 : cod 23 17 = some (.inl .ireturn, 1) := rfl
theorem k_23_18 : cod 23 18 = some (.inl (.iconst 0), 1) := rfl
theorem k_23_19 : cod 23 19 = some (.inl .ireturn, 1) := rfl
theorem k_24_0 : cod 24 0 = some (.inl (.aload_n 0), 1) := rfl
theorem k_24_1 : cod 24 1 = some (.inl (.iload_n 1), 1) := rfl
theorem k_24_2 : cod 24 2 = some (.inr (17, 14, 2, 1, 0), 3) := rfl
theorem k_24_5 : cod 24 5 = some (.inl (.aload_n 0), 1) := rfl
theorem k_24_6 : cod 24 6 = some (.inr (0, 0, 2, 0, 0), 3) := rfl
theorem k_24_9 : cod 24 9 = some (.inr (17, 6, 1, 1, 8), 3) := rfl
theorem k_24_12 : cod 24 12 = some (.inl (.istore_n 2), 1) := rfl
theorem k_24_13 : cod 24 13 = some (.inl (.iload_n 2), 1) := rfl
theorem k_24_14 : cod 24 14 = some (.inl (.sipush 500), 3) := rfl
theorem k_24_17 : cod 24 17 = some (.inl (.if_icmp .lt 13), 3) := rfl
theorem k_24_20 : cod 24 20 = some (.inr (16, 11, 0, 0, 0), 10) := rfl
theorem k_24_30 : cod 24 30 = some (.inl (.aload_n 0), 1) := rfl
theorem k_24_31 : cod 24 31 = some (.inr (0, 0, 2, 0, 0), 3) := rfl
theorem k_24_34 : cod 24 34 = some (.inr (2, 4, 8, 0, 0), 3) := rfl
theorem k_24_37 : cod 24 37 = some (.inl .dup, 1) := rfl
theorem k_24_38 : cod 24 38 = some (.inl (.iload_n 2), 1) := rfl
theorem k_24_39 : cod 24 39 = some (.inl (.iload_n 1), 1) := rfl
theorem k_24_40 : cod 24 40 = some (.inl (.aload_n 0), 1) := rfl
theorem k_24_41 : cod 24 41 = some (.inr (0, 0, 0, 0, 0), 3) := rfl
theorem k_24_44 : cod 24 44 = some (.inl (.iload_n 1), 1) := rfl
theorem k_24_45 : cod 24 45 = some (.inl .aaload, 1) := rfl
theorem k_24_46 : cod 24 46 = some (.inr (0, 2, 1, 0, 0), 3) := rfl
theorem k_24_49 : cod 24 49 = some (.inr (17, 25, 4, 2, 0), 3) := rfl
theorem k_24_52 : cod 24 52 = some (.inr (17, 16, 2, 1, 8), 3) := rfl
theorem k_24_55 : cod 24 55 = some (.inl .pop, 1) := rfl
theorem k_24_56 : cod 24 56 = some (.inl (.iload_n 2), 1) := rfl
theorem k_24_57 : cod 24 57 = some (.inl .ireturn, 1) := rfl
theorem k_25_0 : cod 25 0 = some (.inl (.aload_n 0), 1) := rfl
theorem k_25_1 : cod 25 1 = some (.inr (7, 0, 0, 0, 0), 3) := rfl
theorem k_25_4 : cod 25 4 = some (.inl (.aload_n 0), 1) := rfl
theorem k_25_5 : cod 25 5 = some (.inl (.iload_n 1), 1) := rfl
theorem k_25_6 : cod 25 6 = some (.inr (1, 4, 0, 0, 0), 3) := rfl
theorem k_25_9 : cod 25 9 = some (.inl (.aload_n 0), 1) := rfl
theorem k_25_10 : cod 25 10 = some (.inl (.iload_n 2), 1) := rfl
theorem k_25_11 : cod 25 11 = some (.inr (1, 4, 1, 0, 0), 3) := rfl
theorem k_25_14 : cod 25 14 = some (.inl (.aload_n 0), 1) := rfl
theorem k_25_15 : cod 25 15 = some (.inl (.aload_n 3), 1) := rfl
theorem k_25_16 : cod 25 16 = some (.inr (10, 0, 0, 0, 0), 3) := rfl
theorem k_25_19 : cod 25 19 = some (.inr (5, 0, 0, 0, 0), 3) := rfl
theorem k_25_22 : cod 25 22 = some (.inr (1, 4, 2, 3, 0), 3) := rfl
theorem k_25_25 : cod 25 25 = some (.inl (.aload_n 0), 1) := rfl
theorem k_25_26 : cod 25 26 = some (.inr (2, 8, 3, 0, 0), 3) := rfl
theorem k_25_29 : cod 25 29 = some (.inl .dup, 1) := rfl
theorem k_25_30 : cod 25 30 = some (.inr (17, 1, 1, 2, 0), 3) := rfl
theorem k_25_33 : cod 25 33 = some (.inr (1, 4, 3, 3, 0), 3) := rfl
theorem k_25_36 : cod 25 36 = some (.inl (.aload_n 0), 1) := rfl
theorem k_25_37 : cod 25 37 = some (.inr (2, 8, 3, 0, 0), 3) := rfl
theorem k_25_40 : cod 25 40 = some (.inl .dup, 1) := rfl
theorem k_25_41 : cod 25 41 = some (.inr (17, 1, 1, 2, 0), 3) := rfl
theorem k_25_44 : cod 25 44 = some (.inr (1, 4, 4, 3, 0), 3) := rfl
theorem k_25_47 : cod 25 47 = some (.inl (.aload_n 0), 1) := rfl
theorem k_25_48 : cod 25 48 = some (.inl (.iconst 0), 1) := rfl
theorem k_25_49 : cod 25 49 = some (.inr (1, 4, 5, 0, 0), 3) := rfl
theorem k_25_52 : cod 25 52 = some (.inl .return_, 1) := rfl
theorem k_26_0 : cod 26 0 = some (.inl (.aload_n 3), 1) := rfl
theorem k_26_1 : cod 26 1 = some (.inl (.iconst 0), 1) := rfl
theorem k_26_2 : cod 26 2 = some (.inl (.aload_n 0), 1) := rfl
theorem k_26_3 : cod 26 3 = some (.inl (.iload_n 1), 1) := rfl
theorem k_26_4 : cod 26 4 = some (.inl (.iload_n 2), 1) := rfl
theorem k_26_5 : cod 26 5 = some (.inr (17, 27, 3, 1, 0), 3) := rfl
theorem k_26_8 : cod 26 8 = some (.inl .lastore, 1) := rfl
theorem k_26_9 : cod 26 9 = some (.inl (.goto 11), 3) := rfl
theorem k_26_12 : cod 26 12 = some (.inl (.astore 4), 2) := rfl
theorem k_26_14 : cod 26 14 = some (.inl (.iconst 1), 1) := rfl
theorem k_26_15 : cod 26 15 = some (.inl .ireturn, 1) := rfl
theorem k_26_16 : cod 26 16 = some (.inl (.astore 4), 2) := rfl
theorem k_26_18 : cod 26 18 = some (.inl (.iconst 2), 1) := rfl
theorem k_26_19 : cod 26 19 = some (.inl .ireturn, 1) := rfl
theorem k_26_20 : cod 26 20 = some (.inl (.iconst 0), 1) := rfl
theorem k_26_21 : cod 26 21 = some (.inl .ireturn, 1) := rfl
theorem k_27_0 : cod 27 0 = some (.inl (.aload_n 0), 1) := rfl
theorem k_27_1 : cod 27 1 = some (.inl (.iload_n 1), 1) := rfl
theorem k_27_2 : cod 27 2 = some (.inr (17, 28, 2, 1, 0), 3) := rfl
theorem k_27_5 : cod 27 5 = some (.inl (.astore_n 3), 1) := rfl
theorem k_27_6 : cod 27 6 = some (.inl (.aload_n 0), 1) := rfl
theorem k_27_7 : cod 27 7 = some (.inl (.iload_n 2), 1) := rfl
theorem k_27_8 : cod 27 8 = some (.inr (17, 33, 2, 1, 0), 3) := rfl
theorem k_27_11 : cod 27 11 = some (.inl (.astore 4), 2) := rfl
theorem k_27_13 : cod 27 13 = some (.inl (.aload_n 0), 1) := rfl
theorem k_27_14 : cod 27 14 = some (.inl (.aload_n 3), 1) := rfl
theorem k_27_15 : cod 27 15 = some (.inr (17, 35, 2, 1, 0), 3) := rfl
theorem k_27_18 : cod 27 18 = some (.inl (.aload_n 3), 1) := rfl
theorem k_27_19 : cod 27 19 = some (.inl (.aload 4), 2) := rfl
theorem k_27_21 : cod 27 21 = some (.inr (17, 36, 2, 1, 4), 3) := rfl
theorem k_27_24 : cod 27 24 = some (.inl .lreturn, 1) := rfl
theorem k_28_0 : cod 28 0 = some (.inl (.iload_n 1), 1) := rfl
theorem k_28_1 : cod 28 1 = some (.inl (.ifCond .lt 14), 3) := rfl
theorem k_28_4 : cod 28 4 = some (.inl (.iload_n 1), 1) := rfl
theorem k_28_5 : cod 28 5 = some (.inl (.aload_n 0), 1) := rfl
theorem k_28_6 : cod 28 6 = some (.inr (0, 0, 2, 0, 0), 3) := rfl
theorem k_28_9 : cod 28 9 = some (.inr (17, 6, 1, 1, 8), 3) := rfl
theorem k_28_12 : cod 28 12 = some (.inl (.if_icmp .lt 13), 3) := rfl
theorem k_28_15 : cod 28 15 = some (.inr (16, 10, 0, 0, 0), 10) := rfl
theorem k_28_25 : cod 28 25 = some (.inl (.aload_n 0), 1) := rfl
theorem k_28_26 : cod 28 26 = some (.inr (0, 0, 2, 0, 0), 3) := rfl
theorem k_28_29 : cod 28 29 = some (.inl (.iload_n 1), 1) := rfl
theorem k_28_30 : cod 28 30 = some (.inr (17, 29, 2, 1, 8), 3) := rfl
theorem k_28_33 : cod 28 33 = some (.inr (4, 4, 0, 0, 0), 3) := rfl
theorem k_28_36 : cod 28 36 = some (.inl .areturn, 1) := rfl
theorem k_29_0 : cod 29 0 = some (.inl (.iload_n 1), 1) := rfl
theorem k_29_1 : cod 29 1 = some (.inl (.aload_n 0), 1) := rfl
theorem k_29_2 : cod 29 2 = some (.inr (0, 8, 1, 0, 0), 3) := rfl
theorem k_29_5 : cod 29 5 = some (.inr (17, 30, 2, 0, 0), 3) := rfl
theorem k_29_8 : cod 29 8 = some (.inl .pop, 1) := rfl
theorem k_29_9 : cod 29 9 = some (.inl (.aload_n 0), 1) := rfl
theorem k_29_10 : cod 29 10 = some (.inl (.iload_n 1), 1) := rfl
theorem k_29_11 : cod 29 11 = some (.inr (17, 32, 2, 1, 8), 3) := rfl
theorem k_29_14 : cod 29 14 = some (.inl .areturn, 1) := rfl
theorem k_30_0 : cod 30 0 = some (.inl (.iload_n 0), 1) := rfl
theorem k_30_1 : cod 30 1 = some (.inl (.iload_n 1), 1) := rfl
theorem k_30_2 : cod 30 2 = some (.inl .aconst_null, 1) := rfl
theorem k_30_3 : cod 30 3 = some (.inr (17, 31, 3, 0, 0), 3) := rfl
theorem k_30_6 : cod 30 6 = some (.inl .ireturn, 1) := rfl
theorem k_31_0 : cod 31 0 = some (.inl (.iload_n 0), 1) := rfl
theorem k_31_1 : cod 31 1 = some (.inl (.ifCond .lt 8), 3) := rfl
theorem k_31_4 : cod 31 4 = some (.inl (.iload_n 0), 1) := rfl
theorem k_31_5 : cod 31 5 = some (.inl (.iload_n 1), 1) := rfl
theorem k_31_6 : cod 31 6 = some (.inl (.if_icmp .lt 10), 3) := rfl
theorem k_31_9 : cod 31 9 = some (.inl (.aload_n 2), 1) := rfl
theorem k_31_10 : cod 31 10 = some (.inl (.iload_n 0), 1) := rfl
theorem k_31_11 : cod 31 11 = some (.inl (.iload_n 1), 1) := rfl
theorem k_31_16 : cod 31 16 = some (.inl (.iload_n 0), 1) := rfl
theorem k_31_17 : cod 31 17 = some (.inl .ireturn, 1) := rfl
theorem k_32_0 : cod 32 0 = some (.inl (.aload_n 0), 1) := rfl
theorem k_32_1 : cod 32 1 = some (.inr (0, 8, 0, 0, 0), 3) := rfl
theorem k_32_4 : cod 32 4 = some (.inl (.iload_n 1), 1) := rfl
theorem k_32_5 : cod 32 5 = some (.inl .aaload, 1) := rfl
theorem k_32_6 : cod 32 6 = some (.inl .areturn, 1) := rfl
theorem k_33_0 : cod 33 0 = some (.inl (.aload_n 0), 1) := rfl
theorem k_33_1 : cod 33 1 = some (.inl (.iload_n 1), 1) := rfl
theorem k_33_2 : cod 33 2 = some (.inr (17, 34, 2, 1, 0), 3) := rfl
theorem k_33_5 : cod 33 5 = some (.inl (.astore_n 2), 1) := rfl
theorem k_33_6 : cod 33 6 = some (.inl (.aload_n 2), 1) := rfl
theorem k_33_7 : cod 33 7 = some (.inr (0, 3, 1, 0, 0), 3) := rfl
theorem k_33_10 : cod 33 10 = some (.inl (.ifCond .eq 13), 3) := rfl
theorem k_33_13 : cod 33 13 = some (.inr (16, 10, 0, 0, 0), 10) := rfl
theorem k_33_23 : cod 33 23 = some (.inl (.aload_n 2), 1) := rfl
theorem k_33_24 : cod 33 24 = some (.inl .areturn, 1) := rfl
theorem k_34_0 : cod 34 0 = some (.inl (.iload_n 1), 1) := rfl
theorem k_34_1 : cod 34 1 = some (.inl (.ifCond .lt 14), 3) := rfl
theorem k_34_4 : cod 34 4 = some (.inl (.iload_n 1), 1) := rfl
theorem k_34_5 : cod 34 5 = some (.inl (.aload_n 0), 1) := rfl
theorem k_34_6 : cod 34 6 = some (.inr (0, 0, 1, 0, 0), 3) := rfl
theorem k_34_9 : cod 34 9 = some (.inr (17, 6, 1, 1, 8), 3) := rfl
theorem k_34_12 : cod 34 12 = some (.inl (.if_icmp .lt 13), 3) := rfl
theorem k_34_15 : cod 34 15 = some (.inr (16, 10, 0, 0, 0), 10) := rfl
theorem k_34_25 : cod 34 25 = some (.inl (.aload_n 0), 1) := rfl
theorem k_34_26 : cod 34 26 = some (.inr (0, 0, 1, 0, 0), 3) := rfl
theorem k_34_29 : cod 34 29 = some (.inl (.iload_n 1), 1) := rfl
theorem k_34_30 : cod 34 30 = some (.inr (17, 29, 2, 1, 8), 3) := rfl
theorem k_34_33 : cod 34 33 = some (.inr (4, 3, 0, 0, 0), 3) := rfl
theorem k_34_36 : cod 34 36 = some (.inl .areturn, 1) := rfl
theorem k_35_0 : cod 35 0 = some (.inl (.aload_n 1), 1) := rfl
theorem k_35_1 : cod 35 1 = some (.inr (0, 4, 5, 0, 0), 3) := rfl
theorem k_35_4 : cod 35 4 = some (.inl (.ifCond .eq 13), 3) := rfl
theorem k_35_7 : cod 35 7 = some (.inr (16, 11, 0, 0, 0), 10) := rfl
theorem k_35_17 : cod 35 17 = some (.inl .return_, 1) := rfl
theorem k_36_0 : cod 36 0 = some (.inl (.aload_n 0), 1) := rfl
theorem k_36_1 : cod 36 1 = some (.inl (.aload_n 1), 1) := rfl
theorem k_36_2 : cod 36 2 = some (.inr (17, 37, 2, 1, 4), 3) := rfl
theorem k_36_5 : cod 36 5 = some (.inl (.astore_n 2), 1) := rfl
theorem k_36_6 : cod 36 6 = some (.inl (.aload_n 2), 1) := rfl
theorem k_36_7 : cod 36 7 = some (.inl (.ifnull 8), 3) := rfl
theorem k_36_10 : cod 36 10 = some (.inl (.aload_n 2), 1) := rfl
theorem k_36_11 : cod 36 11 = some (.inr (0, 5, 2, 0, 0), 3) := rfl
theorem k_36_14 : cod 36 14 = some (.inl .lreturn, 1) := rfl
theorem k_36_15 : cod 36 15 = some (.inl (.aload_n 1), 1) := rfl
theorem k_36_16 : cod 36 16 = some (.inr (0, 3, 2, 0, 0), 3) := rfl
theorem k_36_19 : cod 36 19 = some (.inr (17, 6, 1, 1, 8), 3) := rfl
theorem k_36_22 : cod 36 22 = some (.inl (.iconst 1), 1) := rfl
theorem k_36_23 : cod 36 23 = some (.inl .isub, 1) := rfl
theorem k_36_24 : cod 36 24 = some (.inl (.istore_n 3), 1) := rfl
theorem k_36_25 : cod 36 25 = some (.inl (.iload_n 3), 1) := rfl
theorem k_36_26 : cod 36 26 = some (.inl (.ifCond .lt 40), 3) := rfl
theorem k_36_29 : cod 36 29 = some (.inl (.aload_n 1), 1) := rfl
theorem k_36_30 : cod 36 30 = some (.inr (0, 3, 2, 0, 0), 3) := rfl
theorem k_36_33 : cod 36 33 = some (.inl (.iload_n 3), 1) := rfl
theorem k_36_34 : cod 36 34 = some (.inr (17, 29, 2, 1, 8), 3) := rfl
theorem k_36_37 : cod 36 37 = some (.inr (4, 5, 0, 0, 0), 3) := rfl
theorem k_36_40 : cod 36 40 = some (.inl (.astore 4), 2) := rfl
theorem k_36_42 : cod 36 42 = some (.inl (.aload_n 0), 1) := rfl
theorem k_36_43 : cod 36 43 = some (.inl (.aload 4), 2) := rfl
theorem k_36_45 : cod 36 45 = some (.inr (0, 5, 0, 0, 0), 3) := rfl
theorem k_36_48 : cod 36 48 = some (.inr (17, 38, 2, 1, 4), 3) := rfl
theorem k_36_51 : cod 36 51 = some (.inl (.ifCond .eq 9), 3) := rfl
theorem k_36_54 : cod 36 54 = some (.inl (.aload 4), 2) := rfl
theorem k_36_56 : cod 36 56 = some (.inr (0, 5, 2, 0, 0), 3) := rfl
theorem k_36_59 : cod 36 59 = some (.inl .lreturn, 1) := rfl
theorem k_36_60 : cod 36 60 = some (.inl (.iinc 3 (-1)), 3) := rfl
theorem k_36_63 : cod 36 63 = some (.inl (.goto (-38)), 3) := rfl
theorem k_36_66 : cod 36 66 = some (.inl (.lconst 0), 1) := rfl
theorem k_36_67 : cod 36 67 = some (.inl .lreturn, 1) := rfl
theorem k_37_0 : cod 37 0 = some (.inl (.iconst 0), 1) := rfl
theorem k_37_1 : cod 37 1 = some (.inl (.istore_n 2), 1) := rfl
theorem k_37_2 : cod 37 2 = some (.inl (.iload_n 2), 1) := rfl
theorem k_37_3 : cod 37 3 = some (.inl (.aload_n 0), 1) := rfl
theorem k_37_4 : cod 37 4 = some (.inr (0, 4, 3, 0, 0), 3) := rfl
theorem k_37_7 : cod 37 7 = some (.inr (17, 6, 1, 1, 8), 3) := rfl
theorem k_37_10 : cod 37 10 = some (.inl (.if_icmp .ge 39), 3) := rfl
theorem k_37_13 : cod 37 13 = some (.inl (.aload_n 0), 1) := rfl
theorem k_37_14 : cod 37 14 = some (.inr (0, 4, 3, 0, 0), 3) := rfl
theorem k_37_17 : cod 37 17 = some (.inl (.iload_n 2), 1) := rfl
theorem k_37_18 : cod 37 18 = some (.inr (17, 29, 2, 1, 8), 3) := rfl
theorem k_37_21 : cod 37 21 = some (.inr (4, 5, 0, 0, 0), 3) := rfl
theorem k_37_24 : cod 37 24 = some (.inr (0, 5, 1, 0, 0), 3) := rfl
theorem k_37_27 : cod 37 27 = some (.inl (.aload_n 1), 1) := rfl
theorem k_37_28 : cod 37 28 = some (.inl (.if_acmp .ne 15), 3) := rfl
theorem k_37_31 : cod 37 31 = some (.inl (.aload_n 0), 1) := rfl
theorem k_37_32 : cod 37 32 = some (.inr (0, 4, 3, 0, 0), 3) := rfl
theorem k_37_35 : cod 37 35 = some (.inl (.iload_n 2), 1) := rfl
theorem k_37_36 : cod 37 36 = some (.inr (17, 29, 2, 1, 8), 3) := rfl
theorem k_37_39 : cod 37 39 = some (.inr (4, 5, 0, 0, 0), 3) := rfl
theorem k_37_42 : cod 37 42 = some (.inl .areturn, 1) := rfl
theorem k_37_43 : cod 37 43 = some (.inl (.iinc 2 1), 3) := rfl
theorem k_37_46 : cod 37 46 = some (.inl (.goto (-44)), 3) := rfl
theorem k_37_49 : cod 37 49 = some (.inl .aconst_null, 1) := rfl
theorem k_37_50 : cod 37 50 = some (.inl .areturn, 1) := rfl
theorem k_38_0 : cod 38 0 = some (.inl (.aload_n 1), 1) := rfl
theorem k_38_1 : cod 38 1 = some (.inr (0, 4, 6, 0, 0), 3) := rfl
theorem k_38_4 : cod 38 4 = some (.inl (.ifCond .le 23), 3) := rfl
theorem k_38_7 : cod 38 7 = some (.inl (.aload_n 1), 1) := rfl
theorem k_38_8 : cod 38 8 = some (.inr (0, 4, 6, 0, 0), 3) := rfl
theorem k_38_11 : cod 38 11 = some (.inl (.aload_n 0), 1) := rfl
theorem k_38_12 : cod 38 12 = some (.inr (0, 4, 2, 0, 0), 3) := rfl
theorem k_38_15 : cod 38 15 = some (.inl (.aload_n 1), 1) := rfl
theorem k_38_16 : cod 38 16 = some (.inr (0, 4, 1, 0, 0), 3) := rfl
theorem k_38_19 : cod 38 19 = some (.inl .iaload, 1) := rfl
theorem k_38_20 : cod 38 20 = some (.inl (.if_icmp .gt 7), 3) := rfl
theorem k_38_23 : cod 38 23 = some (.inl (.iconst 1), 1) := rfl
theorem k_38_24 : cod 38 24 = some (.inl (.goto 4), 3) := rfl
theorem k_38_27 : cod 38 27 = some (.inl (.iconst 0), 1) := rfl
theorem k_38_28 : cod 38 28 = some (.inl .ireturn, 1) := rfl
theorem k_39_0 : cod 39 0 = some (.inl (.aload_n 0), 1) := rfl
theorem k_39_1 : cod 39 1 = some (.inl (.iload_n 1), 1) := rfl
theorem k_39_2 : cod 39 2 = some (.inl (.iload_n 2), 1) := rfl
theorem k_39_3 : cod 39 3 = some (.inl (.lload_n 3), 1) := rfl
theorem k_39_4 : cod 39 4 = some (.inr (17, 40, 4, 1, 0), 3) := rfl
theorem k_39_7 : cod 39 7 = some (.inl (.goto 11), 3) := rfl
theorem k_39_10 : cod 39 10 = some (.inl (.astore 5), 2) := rfl
theorem k_39_12 : cod 39 12 = some (.inl (.iconst 1), 1) := rfl
theorem k_39_13 : cod 39 13 = some (.inl .ireturn, 1) := rfl
theorem k_39_14 : cod 39 14 = some (.inl (.astore 5), 2) := rfl
theorem k_39_16 : cod 39 16 = some (.inl (.iconst 2), 1) := rfl
theorem k_39_17 : cod 39 17 = some (.inl .ireturn, 1) := rfl
theorem k_39_18 : cod 39 18 = some (.inl (.iconst 0), 1) := rfl
theorem k_39_19 : cod 39 19 = some (.inl .ireturn, 1) := rfl
theorem k_40_0 : cod 40 0 = some (.inl (.aload_n 0), 1) := rfl
theorem k_40_1 : cod 40 1 = some (.inl (.iload_n 1), 1) := rfl
theorem k_40_2 : cod 40 2 = some (.inr (17, 28, 2, 1, 0), 3) := rfl
theorem k_40_5 : cod 40 5 = some (.inl (.astore 5), 2) := rfl
theorem k_40_7 : cod 40 7 = some (.inl (.aload_n 0), 1) := rfl
theorem k_40_8 : cod 40 8 = some (.inl (.iload_n 2), 1) := rfl
theorem k_40_9 : cod 40 9 = some (.inr (17, 33, 2, 1, 0), 3) := rfl
theorem k_40_12 : cod 40 12 = some (.inl (.astore 6), 2) := rfl
theorem k_40_14 : cod 40 14 = some (.inl (.aload_n 0), 1) := rfl
theorem k_40_15 : cod 40 15 = some (.inl (.aload 5), 2) := rfl
theorem k_40_17 : cod 40 17 = some (.inr (17, 35, 2, 1, 0), 3) := rfl
theorem k_40_20 : cod 40 20 = some (.inl (.aload 5), 2) := rfl
theorem k_40_22 : cod 40 22 = some (.inl (.aload 6), 2) := rfl
theorem k_40_24 : cod 40 24 = some (.inl (.lload_n 3), 1) := rfl
theorem k_40_25 : cod 40 25 = some (.inr (17, 41, 3, 1, 4), 3) := rfl
theorem k_40_28 : cod 40 28 = some (.inl .return_, 1) := rfl
theorem k_41_0 : cod 41 0 = some (.inl (.aload_n 0), 1) := rfl
theorem k_41_1 : cod 41 1 = some (.inl (.aload_n 1), 1) := rfl
theorem k_41_2 : cod 41 2 = some (.inr (17, 37, 2, 1, 4), 3) := rfl
theorem k_41_5 : cod 41 5 = some (.inl (.astore 4), 2) := rfl
theorem k_41_7 : cod 41 7 = some (.inl (.aload 4), 2) := rfl
theorem k_41_9 : cod 41 9 = some (.inl (.ifnonnull 24), 3) := rfl
theorem k_41_12 : cod 41 12 = some (.inl (.aload_n 0), 1) := rfl
theorem k_41_13 : cod 41 13 = some (.inr (0, 4, 3, 0, 0), 3) := rfl
theorem k_41_16 : cod 41 16 = some (.inr (2, 5, 3, 0, 0), 3) := rfl
theorem k_41_19 : cod 41 19 = some (.inl .dup, 1) := rfl
theorem k_41_20 : cod 41 20 = some (.inl (.aload_n 0), 1) := rfl
theorem k_41_21 : cod 41 21 = some (.inl (.aload_n 1), 1) := rfl
theorem k_41_22 : cod 41 22 = some (.inl (.lload_n 2), 1) := rfl
theorem k_41_23 : cod 41 23 = some (.inr (17, 42, 4, 2, 0), 3) := rfl
theorem k_41_26 : cod 41 26 = some (.inr (17, 16, 2, 1, 8), 3) := rfl
theorem k_41_29 : cod 41 29 = some (.inl .pop, 1) := rfl
theorem k_41_30 : cod 41 30 = some (.inl (.goto 9), 3) := rfl
theorem k_41_33 : cod 41 33 = some (.inl (.aload 4), 2) := rfl
theorem k_41_35 : cod 41 35 = some (.inl (.lload_n 2), 1) := rfl
theorem k_41_36 : cod 41 36 = some (.inr (1, 5, 2, 2, 0), 3) := rfl
theorem k_41_39 : cod 41 39 = some (.inl .return_, 1) := rfl
theorem k_42_0 : cod 42 0 = some (.inl (.aload_n 0), 1) := rfl
theorem k_42_1 : cod 42 1 = some (.inr (7, 0, 0, 0, 0), 3) := rfl
theorem k_42_4 : cod 42 4 = some (.inl (.aload_n 0), 1) := rfl
theorem k_42_5 : cod 42 5 = some (.inl (.aload_n 1), 1) := rfl
theorem k_42_6 : cod 42 6 = some (.inr (1, 5, 0, 3, 0), 3) := rfl
theorem k_42_9 : cod 42 9 = some (.inl (.aload_n 0), 1) := rfl
theorem k_42_10 : cod 42 10 = some (.inl (.aload_n 2), 1) := rfl
theorem k_42_11 : cod 42 11 = some (.inr (1, 5, 1, 3, 0), 3) := rfl
theorem k_42_14 : cod 42 14 = some (.inl (.aload_n 0), 1) := rfl
theorem k_42_15 : cod 42 15 = some (.inl (.lload_n 3), 1) := rfl
theorem k_42_16 : cod 42 16 = some (.inr (1, 5, 2, 2, 0), 3) := rfl
theorem k_42_19 : cod 42 19 = some (.inl .return_, 1) := rfl
theorem k_43_0 : cod 43 0 = some (.inl (.aload_n 0), 1) := rfl
theorem k_43_1 : cod 43 1 = some (.inl (.iload_n 1), 1) := rfl
theorem k_43_2 : cod 43 2 = some (.inl (.iload_n 2), 1) := rfl
theorem k_43_3 : cod 43 3 = some (.inl (.iload_n 3), 1) := rfl
theorem k_43_4 : cod 43 4 = some (.inl (.iload 4), 2) := rfl
theorem k_43_6 : cod 43 6 = some (.inr (17, 44, 5, 1, 0), 3) := rfl
theorem k_43_9 : cod 43 9 = some (.inl (.goto 11), 3) := rfl
theorem k_43_12 : cod 43 12 = some (.inl (.astore 5), 2) := rfl
theorem k_43_14 : cod 43 14 = some (.inl (.iconst 1), 1) := rfl
theorem k_43_15 : cod 43 15 = some (.inl .ireturn, 1) := rfl
theorem k_43_16 : cod 43 16 = some (.inl (.astore 5), 2) := rfl
theorem k_43_18 : cod 43 18 = some (.inl (.iconst 2), 1) := rfl
theorem k_43_19 : cod 43 19 = some (.inl .ireturn, 1) := rfl
theorem k_43_20 : cod 43 20 = some (.inl (.iconst 0), 1) := rfl
theorem k_43_21 : cod 43 21 = some (.inl .ireturn, 1) := rfl
theorem k_44_0 : cod 44 0 = some (.inl (.aload_n 0), 1) := rfl
theorem k_44_1 : cod 44 1 = some (.inl (.iload_n 1), 1) := rfl
theorem k_44_2 : cod 44 2 = some (.inr (17, 28, 2, 1, 0), 3) := rfl
theorem k_44_5 : cod 44 5 = some (.inl (.astore 5), 2) := rfl
theorem k_44_7 : cod 44 7 = some (.inl (.aload_n 0), 1) := rfl
theorem k_44_8 : cod 44 8 = some (.inl (.iload_n 2), 1) := rfl
theorem k_44_9 : cod 44 9 = some (.inr (17, 45, 2, 1, 0), 3) := rfl
theorem k_44_12 : cod 44 12 = some (.inl (.astore 6), 2) := rfl
theorem k_44_14 : cod 44 14 = some (.inl (.aload_n 0), 1) := rfl
theorem k_44_15 : cod 44 15 = some (.inl (.aload 5), 2) := rfl
theorem k_44_17 : cod 44 17 = some (.inr (17, 35, 2, 1, 0), 3) := rfl
theorem k_44_20 : cod 44 20 = some (.inl (.aload_n 0), 1) := rfl
theorem k_44_21 : cod 44 21 = some (.inr (0, 0, 4, 0, 0), 3) := rfl
theorem k_44_24 : cod 44 24 = some (.inl (.sipush 512), 3) := rfl
theorem k_44_27 : cod 44 27 = some (.inl (.if_icmp .lt 13), 3) := rfl
theorem k_44_30 : cod 44 30 = some (.inr (16, 11, 0, 0, 0), 10) := rfl
theorem k_44_40 : cod 44 40 = some (.inl (.aload_n 0), 1) := rfl
theorem k_44_41 : cod 44 41 = some (.inl .dup, 1) := rfl
theorem k_44_42 : cod 44 42 = some (.inr (0, 0, 4, 0, 0), 3) := rfl
theorem k_44_45 : cod 44 45 = some (.inl (.iconst 1), 1) := rfl
theorem k_44_46 : cod 44 46 = some (.inl .iadd, 1) := rfl
theorem k_44_47 : cod 44 47 = some (.inr (1, 0, 4, 0, 0), 3) := rfl
theorem k_44_50 : cod 44 50 = some (.inl (.aload 5), 2) := rfl
theorem k_44_52 : cod 44 52 = some (.inr (0, 4, 4, 0, 0), 3) := rfl
theorem k_44_55 : cod 44 55 = some (.inr (2, 6, 4, 0, 0), 3) := rfl
theorem k_44_58 : cod 44 58 = some (.inl .dup, 1) := rfl
theorem k_44_59 : cod 44 59 = some (.inl (.aload 5), 2) := rfl
theorem k_44_61 : cod 44 61 = some (.inl (.aload 6), 2) := rfl
theorem k_44_63 : cod 44 63 = some (.inl (.iload_n 3), 1) := rfl
theorem k_44_64 : cod 44 64 = some (.inl (.iload 4), 2) := rfl
theorem k_44_66 : cod 44 66 = some (.inl (.ifCond .eq 7), 3) := rfl
theorem k_44_69 : cod 44 69 = some (.inl (.iconst 1), 1) := rfl
theorem k_44_70 : cod 44 70 = some (.inl (.goto 4), 3) := rfl
theorem k_44_73 : cod 44 73 = some (.inl (.iconst (-1)), 1) := rfl
theorem k_44_74 : cod 44 74 = some (.inr (17, 46, 5, 2, 0), 3) := rfl
theorem k_44_77 : cod 44 77 = some (.inr (17, 16, 2, 1, 8), 3) := rfl
theorem k_44_80 : cod 44 80 = some (.inl .pop, 1) := rfl
theorem k_44_81 : cod 44 81 = some (.inl .return_, 1) := rfl
theorem k_45_0 : cod 45 0 = some (.inl (.aload_n 0), 1) := rfl
theorem k_45_1 : cod 45 1 = some (.inl (.iload_n 1), 1) := rfl
theorem k_45_2 : cod 45 2 = some (.inr (17, 34, 2, 1, 0), 3) := rfl
theorem k_45_5 : cod 45 5 = some (.inl (.astore_n 2), 1) := rfl
theorem k_45_6 : cod 45 6 = some (.inl (.aload_n 2), 1) := rfl
theorem k_45_7 : cod 45 7 = some (.inr (0, 3, 1, 0, 0), 3) := rfl
theorem k_45_10 : cod 45 10 = some (.inl (.ifCond .ne 13), 3) := rfl
theorem k_45_13 : cod 45 13 = some (.inr (16, 10, 0, 0, 0), 10) := rfl
theorem k_45_23 : cod 45 23 = some (.inl (.aload_n 2), 1) := rfl
theorem k_45_24 : cod 45 24 = some (.inl .areturn, 1) := rfl
theorem k_46_0 : cod 46 0 = some (.inl (.aload_n 0), 1) := rfl
theorem k_46_1 : cod 46 1 = some (.inr (7, 0, 0, 0, 0), 3) := rfl
theorem k_46_4 : cod 46 4 = some (.inl (.aload_n 0), 1) := rfl
theorem k_46_5 : cod 46 5 = some (.inl (.aload_n 1), 1) := rfl
theorem k_46_6 : cod 46 6 = some (.inr (1, 6, 0, 3, 0), 3) := rfl
theorem k_46_9 : cod 46 9 = some (.inl (.aload_n 0), 1) := rfl
theorem k_46_10 : cod 46 10 = some (.inl (.aload_n 2), 1) := rfl
theorem k_46_11 : cod 46 11 = some (.inr (1, 6, 1, 3, 0), 3) := rfl
theorem k_46_14 : cod 46 14 = some (.inl (.aload_n 0), 1) := rfl
theorem k_46_15 : cod 46 15 = some (.inl (.iload_n 3), 1) := rfl
theorem k_46_16 : cod 46 16 = some (.inr (1, 6, 2, 0, 0), 3) := rfl
theorem k_46_19 : cod 46 19 = some (.inl (.aload_n 0), 1) := rfl
theorem k_46_20 : cod 46 20 = some (.inl (.iload 4), 2) := rfl
theorem k_46_22 : cod 46 22 = some (.inr (1, 6, 3, 0, 0), 3) := rfl
theorem k_46_25 : cod 46 25 = some (.inl .return_, 1) := rfl
theorem k_47_0 : cod 47 0 = some (.inl (.aload 4), 2) := rfl
theorem k_47_2 : cod 47 2 = some (.inl (.iconst 0), 1) := rfl
theorem k_47_3 : cod 47 3 = some (.inl (.aload_n 0), 1) := rfl
theorem k_47_4 : cod 47 4 = some (.inl (.iload_n 1), 1) := rfl
theorem k_47_5 : cod 47 5 = some (.inl (.iload_n 2), 1) := rfl
theorem k_47_6 : cod 47 6 = some (.inl (.iload_n 3), 1) := rfl
theorem k_47_7 : cod 47 7 = some (.inr (17, 48, 4, 1, 0), 3) := rfl
theorem k_47_10 : cod 47 10 = some (.inl .i2l, 1) := rfl
theorem k_47_11 : cod 47 11 = some (.inl .lastore, 1) := rfl
theorem k_47_12 : cod 47 12 = some (.inl (.goto 11), 3) := rfl
theorem k_47_15 : cod 47 15 = some (.inl (.astore 5), 2) := rfl
theorem k_47_17 : cod 47 17 = some (.inl (.iconst 1), 1) := rfl
theorem k_47_18 : cod 47 18 = some (.inl .ireturn, 1) := rfl
theorem k_47_19 : cod 47 19 = some (.inl (.astore 5), 2) := rfl
theorem k_47_21 : cod 47 21 = some (.inl (.iconst 2), 1) := rfl
theorem k_47_22 : cod 47 22 = some (.inl .ireturn, 1) := rfl
theorem k_47_23 : cod 47 23 = some (.inl (.iconst 0), 1) := rfl
theorem k_47_24 : cod 47 24 = some (.inl .ireturn, 1) := rfl
theorem k_48_0 : cod 48 0 = some (.inl (.aload_n 0), 1) := rfl
theorem k_48_1 : cod 48 1 = some (.inl (.iload_n 1), 1) := rfl
theorem k_48_2 : cod 48 2 = some (.inr (17, 28, 2, 1, 0), 3) := rfl
theorem k_48_5 : cod 48 5 = some (.inl (.astore 4), 2) := rfl
theorem k_48_7 : cod 48 7 = some (.inl (.aload_n 0), 1) := rfl
theorem k_48_8 : cod 48 8 = some (.inl (.iload_n 2), 1) := rfl
theorem k_48_9 : cod 48 9 = some (.inr (17, 45, 2, 1, 0), 3) := rfl
theorem k_48_12 : cod 48 12 = some (.inl (.astore 5), 2) := rfl
theorem k_48_14 : cod 48 14 = some (.inl (.aload_n 0), 1) := rfl
theorem k_48_15 : cod 48 15 = some (.inl (.aload 4), 2) := rfl
theorem k_48_17 : cod 48 17 = some (.inr (17, 35, 2, 1, 0), 3) := rfl
theorem k_48_20 : cod 48 20 = some (.inl (.aload 4), 2) := rfl
theorem k_48_22 : cod 48 22 = some (.inl (.aload 5), 2) := rfl
theorem k_48_24 : cod 48 24 = some (.inl (.iload_n 3), 1) := rfl
theorem k_48_25 : cod 48 25 = some (.inr (17, 49, 3, 1, 4), 3) := rfl
theorem k_48_28 : cod 48 28 = some (.inl .ireturn, 1) := rfl
theorem k_49_0 : cod 49 0 = some (.inl (.iconst 0), 1) := rfl
theorem k_49_1 : cod 49 1 = some (.inl (.istore_n 3), 1) := rfl
theorem k_49_2 : cod 49 2 = some (.inl (.iconst 0), 1) := rfl
theorem k_49_3 : cod 49 3 = some (.inl (.istore 4), 2) := rfl
theorem k_49_5 : cod 49 5 = some (.inl (.iload 4), 2) := rfl
theorem k_49_7 : cod 49 7 = some (.inl (.aload_n 1), 1) := rfl
theorem k_49_8 : cod 49 8 = some (.inr (0, 3, 3, 0, 0), 3) := rfl
theorem k_49_11 : cod 49 11 = some (.inr (17, 6, 1, 1, 8), 3) := rfl
theorem k_49_14 : cod 49 14 = some (.inl (.if_icmp .ge 52), 3) := rfl
theorem k_49_17 : cod 49 17 = some (.inl (.aload_n 1), 1) := rfl
theorem k_49_18 : cod 49 18 = some (.inr (0, 3, 3, 0, 0), 3) := rfl
theorem k_49_21 : cod 49 21 = some (.inl (.iload 4), 2) := rfl
theorem k_49_23 : cod 49 23 = some (.inr (17, 29, 2, 1, 8), 3) := rfl
theorem k_49_26 : cod 49 26 = some (.inr (4, 6, 0, 0, 0), 3) := rfl
theorem k_49_29 : cod 49 29 = some (.inl (.astore 5), 2) := rfl
theorem k_49_31 : cod 49 31 = some (.inl (.aload 5), 2) := rfl
theorem k_49_33 : cod 49 33 = some (.inr (0, 6, 2, 0, 0), 3) := rfl
theorem k_49_36 : cod 49 36 = some (.inl (.iload_n 2), 1) := rfl
theorem k_49_37 : cod 49 37 = some (.inl (.if_icmp .ne 23), 3) := rfl
theorem k_49_40 : cod 49 40 = some (.inl (.aload_n 0), 1) := rfl
theorem k_49_41 : cod 49 41 = some (.inl (.aload 5), 2) := rfl
theorem k_49_43 : cod 49 43 = some (.inr (0, 6, 0, 0, 0), 3) := rfl
theorem k_49_46 : cod 49 46 = some (.inr (17, 38, 2, 1, 4), 3) := rfl
theorem k_49_49 : cod 49 49 = some (.inl (.ifCond .eq 11), 3) := rfl
theorem k_49_52 : cod 49 52 = some (.inl (.iload_n 3), 1) := rfl
theorem k_49_53 : cod 49 53 = some (.inl (.aload 5), 2) := rfl
theorem k_49_55 : cod 49 55 = some (.inr (0, 6, 3, 0, 0), 3) := rfl
theorem k_49_58 : cod 49 58 = some (.inl .iadd, 1) := rfl
theorem k_49_59 : cod 49 59 = some (.inl (.istore_n 3), 1) := rfl
theorem k_49_60 : cod 49 60 = some (.inl (.iinc 4 1), 3) := rfl
theorem k_49_63 : cod 49 63 = some (.inl (.goto (-58)), 3) := rfl
theorem k_49_66 : cod 49 66 = some (.inl (.iconst 0), 1) := rfl
theorem k_49_67 : cod 49 67 = some (.inl (.istore 4), 2) := rfl
theorem k_49_69 : cod 49 69 = some (.inl (.iload 4), 2) := rfl
theorem k_49_71 : cod 49 71 = some (.inl (.aload_n 0), 1) := rfl
theorem k_49_72 : cod 49 72 = some (.inr (0, 4, 4, 0, 0), 3) := rfl
theorem k_49_75 : cod 49 75 = some (.inr (17, 6, 1, 1, 8), 3) := rfl
theorem k_49_78 : cod 49 78 = some (.inl (.if_icmp .ge 49), 3) := rfl
theorem k_49_81 : cod 49 81 = some (.inl (.aload_n 0), 1) := rfl
theorem k_49_82 : cod 49 82 = some (.inr (0, 4, 4, 0, 0), 3) := rfl
theorem k_49_85 : cod 49 85 = some (.inl (.iload 4), 2) := rfl
theorem k_49_87 : cod 49 87 = some (.inr (17, 29, 2, 1, 8), 3) := rfl
theorem k_49_90 : cod 49 90 = some (.inr (4, 6, 0, 0, 0), 3) := rfl
theorem k_49_93 : cod 49 93 = some (.inl (.astore 5), 2) := rfl
theorem k_49_95 : cod 49 95 = some (.inl (.aload 5), 2) := rfl
theorem k_49_97 : cod 49 97 = some (.inr (0, 6, 2, 0, 0), 3) := rfl
theorem k_49_100 : cod 49 100 = some (.inl (.iload_n 2), 1) := rfl
theorem k_49_101 : cod 49 101 = some (.inl (.if_icmp .ne 20), 3) := rfl
theorem k_49_104 : cod 49 104 = some (.inl (.aload 5), 2) := rfl
theorem k_49_106 : cod 49 106 = some (.inr (0, 6, 1, 0, 0), 3) := rfl
theorem k_49_109 : cod 49 109 = some (.inl (.aload_n 1), 1) := rfl
theorem k_49_110 : cod 49 110 = some (.inl (.if_acmp .ne 11), 3) := rfl
theorem k_49_113 : cod 49 113 = some (.inl (.iload_n 3), 1) := rfl
theorem k_49_114 : cod 49 114 = some (.inl (.aload 5), 2) := rfl
theorem k_49_116 : cod 49 116 = some (.inr (0, 6, 3, 0, 0), 3) := rfl
theorem k_49_119 : cod 49 119 = some (.inl .iadd, 1) := rfl
theorem k_49_120 : cod 49 120 = some (.inl (.istore_n 3), 1) := rfl
theorem k_49_121 : cod 49 121 = some (.inl (.iinc 4 1), 3) := rfl
theorem k_49_124 : cod 49 124 = some (.inl (.goto (-55)), 3) := rfl
theorem k_49_127 : cod 49 127 = some (.inl (.iload_n 3), 1) := rfl
theorem k_49_128 : cod 49 128 = some (.inl .ireturn, 1) := rfl
theorem k_50_0 : cod 50 0 = some (.inl (.aload 4), 2) := rfl
theorem k_50_2 : cod 50 2 = some (.inl (.iconst 0), 1) := rfl
theorem k_50_3 : cod 50 3 = some (.inl (.aload_n 0), 1) := rfl
theorem k_50_4 : cod 50 4 = some (.inl (.iload_n 1), 1) := rfl
theorem k_50_5 : cod 50 5 = some (.inl (.iload_n 2), 1) := rfl
theorem k_50_6 : cod 50 6 = some (.inl (.iload_n 3), 1) := rfl
theorem k_50_7 : cod 50 7 = some (.inr (17, 51, 4, 1, 0), 3) := rfl
theorem k_50_10 : cod 50 10 = some (.inl .i2l, 1) := rfl
theorem k_50_11 : cod 50 11 = some (.inl .lastore, 1) := rfl
theorem k_50_12 : cod 50 12 = some (.inl (.goto 15), 3) := rfl
theorem k_50_15 : cod 50 15 = some (.inl (.astore 5), 2) := rfl
theorem k_50_17 : cod 50 17 = some (.inl (.iconst 1), 1) := rfl
theorem k_50_18 : cod 50 18 = some (.inl .ireturn, 1) := rfl
theorem k_50_19 : cod 50 19 = some (.inl (.astore 5), 2) := rfl
theorem k_50_21 : cod 50 21 = some (.inl (.iconst 2), 1) := rfl
theorem k_50_22 : cod 50 22 = some (.inl .ireturn, 1) := rfl
theorem k_50_23 : cod 50 23 = some (.inl (.astore 5), 2) := rfl
theorem k_50_25 : cod 50 25 = some (.inl (.iconst 3), 1) := rfl
theorem k_50_26 : cod 50 26 = some (.inl .ireturn, 1) := rfl
theorem k_50_27 : cod 50 27 = some (.inl (.iconst 0), 1) := rfl
theorem k_50_28 : cod 50 28 = some (.inl .ireturn, 1) := rfl
theorem k_51_0 : cod 51 0 = some (.inl (.aload_n 0), 1) := rfl
theorem k_51_1 : cod 51 1 = some (.inl (.iload_n 1), 1) := rfl
theorem k_51_2 : cod 51 2 = some (.inr (17, 28, 2, 1, 0), 3) := rfl
theorem k_51_5 : cod 51 5 = some (.inl (.astore 4), 2) := rfl
theorem k_51_7 : cod 51 7 = some (.inl (.aload_n 0), 1) := rfl
theorem k_51_8 : cod 51 8 = some (.inl (.iload_n 2), 1) := rfl
theorem k_51_9 : cod 51 9 = some (.inr (17, 45, 2, 1, 0), 3) := rfl
theorem k_51_12 : cod 51 12 = some (.inl (.astore 5), 2) := rfl
theorem k_51_14 : cod 51 14 = some (.inl (.aload_n 0), 1) := rfl
theorem k_51_15 : cod 51 15 = some (.inl (.aload 4), 2) := rfl
theorem k_51_17 : cod 51 17 = some (.inr (17, 35, 2, 1, 0), 3) := rfl
theorem k_51_20 : cod 51 20 = some (.inl (.aload 4), 2) := rfl
theorem k_51_22 : cod 51 22 = some (.inl (.aload 5), 2) := rfl
theorem k_51_24 : cod 51 24 = some (.inl (.aload_n 0), 1) := rfl
theorem k_51_25 : cod 51 25 = some (.inr (0, 0, 3, 0, 0), 3) := rfl
theorem k_51_28 : cod 51 28 = some (.inr (17, 52, 3, 1, 4), 3) := rfl
theorem k_51_31 : cod 51 31 = some (.inl (.aload_n 0), 1) := rfl
theorem k_51_32 : cod 51 32 = some (.inr (0, 0, 3, 0, 0), 3) := rfl
theorem k_51_35 : cod 51 35 = some (.inl (.iload_n 3), 1) := rfl
theorem k_51_36 : cod 51 36 = some (.inr (17, 58, 2, 1, 1), 3) := rfl
theorem k_51_39 : cod 51 39 = some (.inl (.istore 6), 2) := rfl
theorem k_51_41 : cod 51 41 = some (.inl (.iload 6), 2) := rfl
theorem k_51_43 : cod 51 43 = some (.inl (.ifCond .ge 13), 3) := rfl
theorem k_51_46 : cod 51 46 = some (.inr (16, 12, 0, 0, 0), 10) := rfl
theorem k_51_56 : cod 51 56 = some (.inl (.aload_n 0), 1) := rfl
theorem k_51_57 : cod 51 57 = some (.inr (0, 0, 3, 0, 0), 3) := rfl
theorem k_51_60 : cod 51 60 = some (.inr (0, 1, 0, 0, 0), 3) := rfl
theorem k_51_63 : cod 51 63 = some (.inl (.iload 6), 2) := rfl
theorem k_51_65 : cod 51 65 = some (.inl .iaload, 1) := rfl
theorem k_51_66 : cod 51 66 = some (.inl .ireturn, 1) := rfl
theorem k_52_0 : cod 52 0 = some (.inl (.aload_n 2), 1) := rfl
theorem k_52_1 : cod 52 1 = some (.inr (17, 53, 1, 1, 1), 3) := rfl
theorem k_52_4 : cod 52 4 = some (.inl (.iconst 0), 1) := rfl
theorem k_52_5 : cod 52 5 = some (.inl (.istore_n 3), 1) := rfl
theorem k_52_6 : cod 52 6 = some (.inl (.iload_n 3), 1) := rfl
theorem k_52_7 : cod 52 7 = some (.inl (.aload_n 1), 1) := rfl
theorem k_52_8 : cod 52 8 = some (.inr (0, 3, 3, 0, 0), 3) := rfl
theorem k_52_11 : cod 52 11 = some (.inr (17, 6, 1, 1, 8), 3) := rfl
theorem k_52_14 : cod 52 14 = some (.inl (.if_icmp .ge 40), 3) := rfl
theorem k_52_17 : cod 52 17 = some (.inl (.aload_n 1), 1) := rfl
theorem k_52_18 : cod 52 18 = some (.inr (0, 3, 3, 0, 0), 3) := rfl
theorem k_52_21 : cod 52 21 = some (.inl (.iload_n 3), 1) := rfl
theorem k_52_22 : cod 52 22 = some (.inr (17, 29, 2, 1, 8), 3) := rfl
theorem k_52_25 : cod 52 25 = some (.inr (4, 6, 0, 0, 0), 3) := rfl
theorem k_52_28 : cod 52 28 = some (.inl (.astore 4), 2) := rfl
theorem k_52_30 : cod 52 30 = some (.inl (.aload_n 0), 1) := rfl
theorem k_52_31 : cod 52 31 = some (.inl (.aload 4), 2) := rfl
theorem k_52_33 : cod 52 33 = some (.inr (0, 6, 0, 0, 0), 3) := rfl
theorem k_52_36 : cod 52 36 = some (.inr (17, 38, 2, 1, 4), 3) := rfl
theorem k_52_39 : cod 52 39 = some (.inl (.ifCond .eq 9), 3) := rfl
theorem k_52_42 : cod 52 42 = some (.inl (.aload_n 2), 1) := rfl
theorem k_52_43 : cod 52 43 = some (.inl (.aload 4), 2) := rfl
theorem k_52_45 : cod 52 45 = some (.inr (17, 54, 2, 1, 1), 3) := rfl
theorem k_52_48 : cod 52 48 = some (.inl (.iinc 3 1), 3) := rfl
theorem k_52_51 : cod 52 51 = some (.inl (.goto (-45)), 3) := rfl
theorem k_52_54 : cod 52 54 = some (.inl (.iconst 0), 1) := rfl
theorem k_52_55 : cod 52 55 = some (.inl (.istore_n 3), 1) := rfl
theorem k_52_56 : cod 52 56 = some (.inl (.iload_n 3), 1) := rfl
theorem k_52_57 : cod 52 57 = some (.inl (.aload_n 0), 1) := rfl
theorem k_52_58 : cod 52 58 = some (.inr (0, 4, 4, 0, 0), 3) := rfl
theorem k_52_61 : cod 52 61 = some (.inr (17, 6, 1, 1, 8), 3) := rfl
theorem k_52_64 : cod 52 64 = some (.inl (.if_icmp .ge 37), 3) := rfl
theorem k_52_67 : cod 52 67 = some (.inl (.aload_n 0), 1) := rfl
theorem k_52_68 : cod 52 68 = some (.inr (0, 4, 4, 0, 0), 3) := rfl
theorem k_52_71 : cod 52 71 = some (.inl (.iload_n 3), 1) := rfl
theorem k_52_72 : cod 52 72 = some (.inr (17, 29, 2, 1, 8), 3) := rfl
theorem k_52_75 : cod 52 75 = some (.inr (4, 6, 0, 0, 0), 3) := rfl
theorem k_52_78 : cod 52 78 = some (.inl (.astore 4), 2) := rfl
theorem k_52_80 : cod 52 80 = some (.inl (.aload 4), 2) := rfl
theorem k_52_82 : cod 52 82 = some (.inr (0, 6, 1, 0, 0), 3) := rfl
theorem k_52_85 : cod 52 85 = some (.inl (.aload_n 1), 1) := rfl
theorem k_52_86 : cod 52 86 = some (.inl (.if_acmp .ne 9), 3) := rfl
theorem k_52_89 : cod 52 89 = some (.inl (.aload_n 2), 1) := rfl
theorem k_52_90 : cod 52 90 = some (.inl (.aload 4), 2) := rfl
theorem k_52_92 : cod 52 92 = some (.inr (17, 54, 2, 1, 1), 3) := rfl
theorem k_52_95 : cod 52 95 = some (.inl (.iinc 3 1), 3) := rfl
theorem k_52_98 : cod 52 98 = some (.inl (.goto (-42)), 3) := rfl
theorem k_52_101 : cod 52 101 = some (.inl .return_, 1) := rfl
theorem k_53_0 : cod 53 0 = some (.inl (.aload_n 0), 1) := rfl
theorem k_53_1 : cod 53 1 = some (.inl (.iconst 0), 1) := rfl
theorem k_53_2 : cod 53 2 = some (.inr (1, 1, 2, 0, 0), 3) := rfl
theorem k_53_5 : cod 53 5 = some (.inl .return_, 1) := rfl
theorem k_54_0 : cod 54 0 = some (.inl (.aload_n 0), 1) := rfl
theorem k_54_1 : cod 54 1 = some (.inl (.aload_n 1), 1) := rfl
theorem k_54_2 : cod 54 2 = some (.inr (0, 6, 2, 0, 0), 3) := rfl
theorem k_54_5 : cod 54 5 = some (.inr (17, 55, 2, 1, 1), 3) := rfl
theorem k_54_8 : cod 54 8 = some (.inl (.istore_n 2), 1) := rfl
theorem k_54_9 : cod 54 9 = some (.inl (.iload_n 2), 1) := rfl
theorem k_54_10 : cod 54 10 = some (.inl (.aload_n 0), 1) := rfl
theorem k_54_11 : cod 54 11 = some (.inr (0, 1, 2, 0, 0), 3) := rfl
theorem k_54_14 : cod 54 14 = some (.inl (.if_icmp .eq 16), 3) := rfl
theorem k_54_17 : cod 54 17 = some (.inl (.aload_n 0), 1) := rfl
theorem k_54_18 : cod 54 18 = some (.inr (0, 1, 0, 0, 0), 3) := rfl
theorem k_54_21 : cod 54 21 = some (.inl (.iload_n 2), 1) := rfl
theorem k_54_22 : cod 54 22 = some (.inl .iaload, 1) := rfl
theorem k_54_23 : cod 54 23 = some (.inl (.aload_n 1), 1) := rfl
theorem k_54_24 : cod 54 24 = some (.inr (0, 6, 2, 0, 0), 3) := rfl
theorem k_54_27 : cod 54 27 = some (.inl (.if_icmp .eq 25), 3) := rfl
theorem k_54_30 : cod 54 30 = some (.inl (.aload_n 0), 1) := rfl
theorem k_54_31 : cod 54 31 = some (.inl (.iload_n 2), 1) := rfl
theorem k_54_32 : cod 54 32 = some (.inr (17, 56, 2, 1, 1), 3) := rfl
theorem k_54_35 : cod 54 35 = some (.inl (.aload_n 0), 1) := rfl
theorem k_54_36 : cod 54 36 = some (.inr (0, 1, 0, 0, 0), 3) := rfl
theorem k_54_39 : cod 54 39 = some (.inl (.iload_n 2), 1) := rfl
theorem k_54_40 : cod 54 40 = some (.inl (.aload_n 1), 1) := rfl
theorem k_54_41 : cod 54 41 = some (.inr (0, 6, 2, 0, 0), 3) := rfl
theorem k_54_44 : cod 54 44 = some (.inl .iastore, 1) := rfl
theorem k_54_45 : cod 54 45 = some (.inl (.aload_n 0), 1) := rfl
theorem k_54_46 : cod 54 46 = some (.inr (0, 1, 1, 0, 0), 3) := rfl
theorem k_54_49 : cod 54 49 = some (.inl (.iload_n 2), 1) := rfl
theorem k_54_50 : cod 54 50 = some (.inl (.iconst 0), 1) := rfl
theorem k_54_51 : cod 54 51 = some (.inl .iastore, 1) := rfl
theorem k_54_52 : cod 54 52 = some (.inl (.aload_n 0), 1) := rfl
theorem k_54_53 : cod 54 53 = some (.inr (0, 1, 1, 0, 0), 3) := rfl
theorem k_54_56 : cod 54 56 = some (.inl (.iload_n 2), 1) := rfl
theorem k_54_57 : cod 54 57 = some (.inl .dup2, 1) := rfl
theorem k_54_58 : cod 54 58 = some (.inl .iaload, 1) := rfl
theorem k_54_59 : cod 54 59 = some (.inl (.aload_n 1), 1) := rfl
theorem k_54_60 : cod 54 60 = some (.inr (0, 6, 3, 0, 0), 3) := rfl
theorem k_54_63 : cod 54 63 = some (.inl .iadd, 1) := rfl
theorem k_54_64 : cod 54 64 = some (.inl .iastore, 1) := rfl
theorem k_54_65 : cod 54 65 = some (.inl .return_, 1) := rfl
theorem k_55_0 : cod 55 0 = some (.inl (.iconst 0), 1) := rfl
theorem k_55_1 : cod 55 1 = some (.inl (.istore_n 2), 1) := rfl
theorem k_55_2 : cod 55 2 = some (.inl (.aload_n 0), 1) := rfl
theorem k_55_3 : cod 55 3 = some (.inr (0, 1, 2, 0, 0), 3) := rfl
theorem k_55_6 : cod 55 6 = some (.inl (.istore_n 3), 1) := rfl
theorem k_55_7 : cod 55 7 = some (.inl (.aload_n 0), 1) := rfl
theorem k_55_8 : cod 55 8 = some (.inr (0, 1, 2, 0, 0), 3) := rfl
theorem k_55_11 : cod 55 11 = some (.inl (.istore 4), 2) := rfl
theorem k_55_13 : cod 55 13 = some (.inl (.iload_n 2), 1) := rfl
theorem k_55_14 : cod 55 14 = some (.inl (.iload_n 3), 1) := rfl
theorem k_55_15 : cod 55 15 = some (.inl (.if_icmp .ge 43), 3) := rfl
theorem k_55_18 : cod 55 18 = some (.inl (.iload 4), 2) := rfl
theorem k_55_20 : cod 55 20 = some (.inl (.ifCond .le 38), 3) := rfl
theorem k_55_23 : cod 55 23 = some (.inl (.iload_n 2), 1) := rfl
theorem k_55_24 : cod 55 24 = some (.inl (.iload_n 3), 1) := rfl
theorem k_55_25 : cod 55 25 = some (.inl .iadd, 1) := rfl
theorem k_55_26 : cod 55 26 = some (.inl (.iconst 2), 1) := rfl
theorem k_55_27 : cod 55 27 = some (.inl .idiv, 1) := rfl
theorem k_55_28 : cod 55 28 = some (.inl (.istore 5), 2) := rfl
theorem k_55_30 : cod 55 30 = some (.inl (.aload_n 0), 1) := rfl
theorem k_55_31 : cod 55 31 = some (.inr (0, 1, 0, 0, 0), 3) := rfl
theorem k_55_34 : cod 55 34 = some (.inl (.iload 5), 2) := rfl
theorem k_55_36 : cod 55 36 = some (.inl .iaload, 1) := rfl
theorem k_55_37 : cod 55 37 = some (.inl (.iload_n 1), 1) := rfl
theorem k_55_38 : cod 55 38 = some (.inl (.if_icmp .ge 11), 3) := rfl
theorem k_55_41 : cod 55 41 = some (.inl (.iload 5), 2) := rfl
theorem k_55_43 : cod 55 43 = some (.inl (.iconst 1), 1) := rfl
theorem k_55_44 : cod 55 44 = some (.inl .iadd, 1) := rfl
theorem k_55_45 : cod 55 45 = some (.inl (.istore_n 2), 1) := rfl
theorem k_55_46 : cod 55 46 = some (.inl (.goto 6), 3) := rfl
theorem k_55_49 : cod 55 49 = some (.inl (.iload 5), 2) := rfl
theorem k_55_51 : cod 55 51 = some (.inl (.istore_n 3), 1) := rfl
theorem k_55_52 : cod 55 52 = some (.inl (.iinc 4 (-1)), 3) := rfl
theorem k_55_55 : cod 55 55 = some (.inl (.goto (-42)), 3) := rfl
theorem k_55_58 : cod 55 58 = some (.inl (.iload_n 2), 1) := rfl
theorem k_55_59 : cod 55 59 = some (.inl .ireturn, 1) := rfl
theorem k_56_0 : cod 56 0 = some (.inl (.aload_n 0), 1) := rfl
theorem k_56_1 : cod 56 1 = some (.inr (0, 1, 2, 0, 0), 3) := rfl
theorem k_56_4 : cod 56 4 = some (.inl (.aload_n 0), 1) := rfl
theorem k_56_5 : cod 56 5 = some (.inr (0, 1, 0, 0, 0), 3) := rfl
theorem k_56_8 : cod 56 8 = some (.inl .arraylength, 1) := rfl
theorem k_56_9 : cod 56 9 = some (.inl (.if_icmp .ne 37), 3) := rfl
theorem k_56_12 : cod 56 12 = some (.inl (.aload_n 0), 1) := rfl
theorem k_56_13 : cod 56 13 = some (.inl (.aload_n 0), 1) := rfl
theorem k_56_14 : cod 56 14 = some (.inr (0, 1, 0, 0, 0), 3) := rfl
theorem k_56_17 : cod 56 17 = some (.inl (.iconst 2), 1) := rfl
theorem k_56_18 : cod 56 18 = some (.inl (.aload_n 0), 1) := rfl
theorem k_56_19 : cod 56 19 = some (.inr (0, 1, 2, 0, 0), 3) := rfl
theorem k_56_22 : cod 56 22 = some (.inl .imul, 1) := rfl
theorem k_56_23 : cod 56 23 = some (.inr (17, 57, 2, 0, 0), 3) := rfl
theorem k_56_26 : cod 56 26 = some (.inr (1, 1, 0, 3, 0), 3) := rfl
theorem k_56_29 : cod 56 29 = some (.inl (.aload_n 0), 1) := rfl
theorem k_56_30 : cod 56 30 = some (.inl (.aload_n 0), 1) := rfl
theorem k_56_31 : cod 56 31 = some (.inr (0, 1, 1, 0, 0), 3) := rfl
theorem k_56_34 : cod 56 34 = some (.inl (.iconst 2), 1) := rfl
theorem k_56_35 : cod 56 35 = some (.inl (.aload_n 0), 1) := rfl
theorem k_56_36 : cod 56 36 = some (.inr (0, 1, 2, 0, 0), 3) := rfl
theorem k_56_39 : cod 56 39 = some (.inl .imul, 1) := rfl
theorem k_56_40 : cod 56 40 = some (.inr (17, 57, 2, 0, 0), 3) := rfl
theorem k_56_43 : cod 56 43 = some (.inr (1, 1, 1, 3, 0), 3) := rfl
theorem k_56_46 : cod 56 46 = some (.inl (.aload_n 0), 1) := rfl
theorem k_56_47 : cod 56 47 = some (.inr (0, 1, 0, 0, 0), 3) := rfl
theorem k_56_50 : cod 56 50 = some (.inl (.iload_n 1), 1) := rfl
theorem k_56_51 : cod 56 51 = some (.inl (.aload_n 0), 1) := rfl
theorem k_56_52 : cod 56 52 = some (.inr (0, 1, 0, 0, 0), 3) := rfl
theorem k_56_55 : cod 56 55 = some (.inl (.iload_n 1), 1) := rfl
theorem k_56_56 : cod 56 56 = some (.inl (.iconst 1), 1) := rfl
theorem k_56_57 : cod 56 57 = some (.inl .iadd, 1) := rfl
theorem k_56_58 : cod 56 58 = some (.inl (.aload_n 0), 1) := rfl
theorem k_56_59 : cod 56 59 = some (.inr (0, 1, 2, 0, 0), 3) := rfl
theorem k_56_62 : cod 56 62 = some (.inl (.iload_n 1), 1) := rfl
theorem k_56_63 : cod 56 63 = some (.inl .isub, 1) := rfl
theorem k_56_64 : cod 56 64 = some (.inr (8, 0, 0, 0, 0), 3) := rfl
theorem k_56_67 : cod 56 67 = some (.inl (.aload_n 0), 1) := rfl
theorem k_56_68 : cod 56 68 = some (.inr (0, 1, 1, 0, 0), 3) := rfl
theorem k_56_71 : cod 56 71 = some (.inl (.iload_n 1), 1) := rfl
theorem k_56_72 : cod 56 72 = some (.inl (.aload_n 0), 1) := rfl
theorem k_56_73 : cod 56 73 = some (.inr (0, 1, 1, 0, 0), 3) := rfl
theorem k_56_76 : cod 56 76 = some (.inl (.iload_n 1), 1) := rfl
theorem k_56_77 : cod 56 77 = some (.inl (.iconst 1), 1) := rfl
theorem k_56_78 : cod 56 78 = some (.inl .iadd, 1) := rfl
theorem k_56_79 : cod 56 79 = some (.inl (.aload_n 0), 1) := rfl
theorem k_56_80 : cod 56 80 = some (.inr (0, 1, 2, 0, 0), 3) := rfl
theorem k_56_83 : cod 56 83 = some (.inl (.iload_n 1), 1) := rfl
theorem k_56_84 : cod 56 84 = some (.inl .isub, 1) := rfl
theorem k_56_85 : cod 56 85 = some (.inr (8, 0, 0, 0, 0), 3) := rfl
theorem k_56_88 : cod 56 88 = some (.inl (.aload_n 0), 1) := rfl
theorem k_56_89 : cod 56 89 = some (.inl .dup, 1) := rfl
theorem k_56_90 : cod 56 90 = some (.inr (0, 1, 2, 0, 0), 3) := rfl
theorem k_56_93 : cod 56 93 = some (.inl (.iconst 1), 1) := rfl
theorem k_56_94 : cod 56 94 = some (.inl .iadd, 1) := rfl
theorem k_56_95 : cod 56 95 = some (.inr (1, 1, 2, 0, 0), 3) := rfl
theorem k_56_98 : cod 56 98 = some (.inl .return_, 1) := rfl
theorem k_57_0 : cod 57 0 = some (.inl (.iload_n 1), 1) := rfl
theorem k_57_1 : cod 57 1 = some (.inl (.aload_n 0), 1) := rfl
theorem k_57_2 : cod 57 2 = some (.inl .arraylength, 1) := rfl
theorem k_57_3 : cod 57 3 = some (.inl (.if_icmp .ne 11), 3) := rfl
theorem k_57_6 : cod 57 6 = some (.inl (.aload_n 0), 1) := rfl
theorem k_57_7 : cod 57 7 = some (.inr (10, 0, 0, 0, 0), 3) := rfl
theorem k_57_10 : cod 57 10 = some (.inr (5, 0, 0, 0, 0), 3) := rfl
theorem k_57_13 : cod 57 13 = some (.inl .areturn, 1) := rfl
theorem k_57_14 : cod 57 14 = some (.inl (.iload_n 1), 1) := rfl
theorem k_57_15 : cod 57 15 = some (.inl (.newarray .int), 2) := rfl
theorem k_57_17 : cod 57 17 = some (.inl (.astore_n 2), 1) := rfl
theorem k_57_18 : cod 57 18 = some (.inl (.aload_n 0), 1) := rfl
theorem k_57_19 : cod 57 19 = some (.inl (.iconst 0), 1) := rfl
theorem k_57_20 : cod 57 20 = some (.inl (.aload_n 2), 1) := rfl
theorem k_57_21 : cod 57 21 = some (.inl (.iconst 0), 1) := rfl
theorem k_57_22 : cod 57 22 = some (.inl (.aload_n 0), 1) := rfl
theorem k_57_23 : cod 57 23 = some (.inl .arraylength, 1) := rfl
theorem k_57_24 : cod 57 24 = some (.inl (.iload_n 1), 1) := rfl
theorem k_57_25 : cod 57 25 = some (.inr (12, 0, 0, 0, 0), 3) := rfl
theorem k_57_28 : cod 57 28 = some (.inr (8, 0, 0, 0, 0), 3) := rfl
theorem k_57_31 : cod 57 31 = some (.inl (.aload_n 2), 1) := rfl
theorem k_57_32 : cod 57 32 = some (.inl .areturn, 1) := rfl
theorem k_58_0 : cod 58 0 = some (.inl (.iconst 0), 1) := rfl
theorem k_58_1 : cod 58 1 = some (.inl (.istore_n 2), 1) := rfl
theorem k_58_2 : cod 58 2 = some (.inl (.iconst 0), 1) := rfl
theorem k_58_3 : cod 58 3 = some (.inl (.istore_n 3), 1) := rfl
theorem k_58_4 : cod 58 4 = some (.inl (.iload_n 3), 1) := rfl
theorem k_58_5 : cod 58 5 = some (.inl (.aload_n 0), 1) := rfl
theorem k_58_6 : cod 58 6 = some (.inr (0, 1, 2, 0, 0), 3) := rfl
theorem k_58_9 : cod 58 9 = some (.inl (.if_icmp .ge 28), 3) := rfl
theorem k_58_12 : cod 58 12 = some (.inl (.aload_n 0), 1) := rfl
theorem k_58_13 : cod 58 13 = some (.inr (0, 1, 1, 0, 0), 3) := rfl
theorem k_58_16 : cod 58 16 = some (.inl (.iload_n 3), 1) := rfl
theorem k_58_17 : cod 58 17 = some (.inl .iaload, 1) := rfl
theorem k_58_18 : cod 58 18 = some (.inl (.ifCond .eq 13), 3) := rfl
theorem k_58_21 : cod 58 21 = some (.inl (.iload_n 2), 1) := rfl
theorem k_58_22 : cod 58 22 = some (.inl (.iload_n 1), 1) := rfl
theorem k_58_23 : cod 58 23 = some (.inl (.if_icmp .ne 5), 3) := rfl
theorem k_58_26 : cod 58 26 = some (.inl (.iload_n 3), 1) := rfl
theorem k_58_27 : cod 58 27 = some (.inl .ireturn, 1) := rfl
theorem k_58_28 : cod 58 28 = some (.inl (.iinc 2 1), 3) := rfl
theorem k_58_31 : cod 58 31 = some (.inl (.iinc 3 1), 3) := rfl
theorem k_58_34 : cod 58 34 = some (.inl (.goto (-30)), 3) := rfl
theorem k_58_37 : cod 58 37 = some (.inl (.iconst (-1)), 1) := rfl
theorem k_58_38 : cod 58 38 = some (.inl .ireturn, 1) := rfl
theorem k_59_0 : cod 59 0 = some (.inl (.aload_n 2), 1) := rfl
theorem k_59_1 : cod 59 1 = some (.inl (.iconst 0), 1) := rfl
theorem k_59_2 : cod 59 2 = some (.inl (.aload_n 0), 1) := rfl
theorem k_59_3 : cod 59 3 = some (.inl (.iload_n 1), 1) := rfl
theorem k_59_4 : cod 59 4 = some (.inr (17, 60, 2, 1, 0), 3) := rfl
theorem k_59_7 : cod 59 7 = some (.inl .i2l, 1) := rfl
theorem k_59_8 : cod 59 8 = some (.inl .lastore, 1) := rfl
theorem k_59_9 : cod 59 9 = some (.inl (.goto 9), 3) := rfl
theorem k_59_12 : cod 59 12 = some (.inl (.astore_n 3), 1) := rfl
theorem k_59_13 : cod 59 13 = some (.inl (.iconst 1), 1) := rfl
theorem k_59_14 : cod 59 14 = some (.inl .ireturn, 1) := rfl
theorem k_59_15 : cod 59 15 = some (.inl (.astore_n 3), 1) := rfl
theorem k_59_16 : cod 59 16 = some (.inl (.iconst 2), 1) := rfl
theorem k_59_17 : cod 59 17 = some (.inl .ireturn, 1) := rfl
theorem k_59_18 : cod 59 18 = some (.inl (.iconst 0), 1) := rfl
theorem k_59_19 : cod 59 19 = some (.inl .ireturn, 1) := rfl
theorem k_60_0 : cod 60 0 = some (.inl (.aload_n 0), 1) := rfl
theorem k_60_1 : cod 60 1 = some (.inl (.iload_n 1), 1) := rfl
theorem k_60_2 : cod 60 2 = some (.inr (17, 28, 2, 1, 0), 3) := rfl
theorem k_60_5 : cod 60 5 = some (.inl (.astore_n 2), 1) := rfl
theorem k_60_6 : cod 60 6 = some (.inl (.aload_n 0), 1) := rfl
theorem k_60_7 : cod 60 7 = some (.inl (.aload_n 2), 1) := rfl
theorem k_60_8 : cod 60 8 = some (.inr (17, 35, 2, 1, 0), 3) := rfl
theorem k_60_11 : cod 60 11 = some (.inl (.aload_n 0), 1) := rfl
theorem k_60_12 : cod 60 12 = some (.inl (.aload_n 2), 1) := rfl
theorem k_60_13 : cod 60 13 = some (.inr (17, 61, 2, 1, 0), 3) := rfl
theorem k_60_16 : cod 60 16 = some (.inl (.aload_n 2), 1) := rfl
theorem k_60_17 : cod 60 17 = some (.inr (0, 4, 5, 0, 0), 3) := rfl
theorem k_60_20 : cod 60 20 = some (.inl .ireturn, 1) := rfl
theorem k_61_0 : cod 61 0 = some (.inl (.aload_n 1), 1) := rfl
theorem k_61_1 : cod 61 1 = some (.inr (0, 4, 3, 0, 0), 3) := rfl
theorem k_61_4 : cod 61 4 = some (.inr (17, 62, 1, 1, 8), 3) := rfl
theorem k_61_7 : cod 61 7 = some (.inl (.ifCond .eq 19), 3) := rfl
theorem k_61_10 : cod 61 10 = some (.inl (.aload_n 1), 1) := rfl
theorem k_61_11 : cod 61 11 = some (.inr (0, 4, 4, 0, 0), 3) := rfl
theorem k_61_14 : cod 61 14 = some (.inr (17, 62, 1, 1, 8), 3) := rfl
theorem k_61_17 : cod 61 17 = some (.inl (.ifCond .eq 9), 3) := rfl
theorem k_61_20 : cod 61 20 = some (.inl (.aload_n 1), 1) := rfl
theorem k_61_21 : cod 61 21 = some (.inl (.iconst 1), 1) := rfl
theorem k_61_22 : cod 61 22 = some (.inr (1, 4, 5, 0, 0), 3) := rfl
theorem k_61_25 : cod 61 25 = some (.inl .return_, 1) := rfl
theorem k_61_26 : cod 61 26 = some (.inl (.aload_n 0), 1) := rfl
theorem k_61_27 : cod 61 27 = some (.inr (0, 0, 0, 0, 0), 3) := rfl
theorem k_61_30 : cod 61 30 = some (.inl (.aload_n 1), 1) := rfl
theorem k_61_31 : cod 61 31 = some (.inr (0, 4, 1, 0, 0), 3) := rfl
theorem k_61_34 : cod 61 34 = some (.inl .aaload, 1) := rfl
theorem k_61_35 : cod 61 35 = some (.inl (.astore_n 2), 1) := rfl
theorem k_61_36 : cod 61 36 = some (.inl (.aload_n 1), 1) := rfl
theorem k_61_37 : cod 61 37 = some (.inl (.aload_n 2), 1) := rfl
theorem k_61_38 : cod 61 38 = some (.inr (17, 63, 2, 1, 4), 3) := rfl
theorem k_61_41 : cod 61 41 = some (.inl (.ifCond .eq 9), 3) := rfl
theorem k_61_44 : cod 61 44 = some (.inl (.aload_n 1), 1) := rfl
theorem k_61_45 : cod 61 45 = some (.inl (.iconst 2), 1) := rfl
theorem k_61_46 : cod 61 46 = some (.inr (1, 4, 5, 0, 0), 3) := rfl
theorem k_61_49 : cod 61 49 = some (.inl .return_, 1) := rfl
theorem k_61_50 : cod 61 50 = some (.inl (.aload_n 0), 1) := rfl
theorem k_61_51 : cod 61 51 = some (.inl (.aload_n 1), 1) := rfl
theorem k_61_52 : cod 61 52 = some (.inr (17, 66, 2, 1, 0), 3) := rfl
theorem k_61_55 : cod 61 55 = some (.inl (.istore_n 3), 1) := rfl
theorem k_61_56 : cod 61 56 = some (.inl (.iload_n 3), 1) := rfl
theorem k_61_57 : cod 61 57 = some (.inl (.ifCond .ne 9), 3) := rfl
theorem k_61_60 : cod 61 60 = some (.inl (.aload_n 0), 1) := rfl
theorem k_61_61 : cod 61 61 = some (.inl (.aload_n 1), 1) := rfl
theorem k_61_62 : cod 61 62 = some (.inr (17, 68, 2, 1, 0), 3) := rfl
theorem k_61_65 : cod 61 65 = some (.inl .return_, 1) := rfl
theorem k_61_66 : cod 61 66 = some (.inl (.aload_n 1), 1) := rfl
theorem k_61_67 : cod 61 67 = some (.inl (.aload_n 2), 1) := rfl
theorem k_61_68 : cod 61 68 = some (.inr (17, 73, 2, 1, 4), 3) := rfl
theorem k_61_71 : cod 61 71 = some (.inl (.aload_n 1), 1) := rfl
theorem k_61_72 : cod 61 72 = some (.inl (.iconst 3), 1) := rfl
theorem k_61_73 : cod 61 73 = some (.inr (1, 4, 5, 0, 0), 3) := rfl
theorem k_61_76 : cod 61 76 = some (.inl (.aload_n 1), 1) := rfl
theorem k_61_77 : cod 61 77 = some (.inl (.iload_n 3), 1) := rfl
theorem k_61_78 : cod 61 78 = some (.inr (1, 4, 7, 0, 0), 3) := rfl
theorem k_61_81 : cod 61 81 = some (.inl (.aload_n 0), 1) := rfl
theorem k_61_82 : cod 61 82 = some (.inl (.aload_n 1), 1) := rfl
theorem k_61_83 : cod 61 83 = some (.inl (.iconst 1), 1) := rfl
theorem k_61_84 : cod 61 84 = some (.inl (.iconst (-1)), 1) := rfl
theorem k_61_85 : cod 61 85 = some (.inr (17, 74, 4, 1, 0), 3) := rfl
theorem k_61_88 : cod 61 88 = some (.inl .return_, 1) := rfl
theorem k_62_0 : cod 62 0 = some (.inl (.aload_n 0), 1) := rfl
theorem k_62_1 : cod 62 1 = some (.inr (0, 8, 1, 0, 0), 3) := rfl
theorem k_62_4 : cod 62 4 = some (.inl (.ifCond .ne 7), 3) := rfl
theorem k_62_7 : cod 62 7 = some (.inl (.iconst 1), 1) := rfl
theorem k_62_8 : cod 62 8 = some (.inl (.goto 4), 3) := rfl
theorem k_62_11 : cod 62 11 = some (.inl (.iconst 0), 1) := rfl
theorem k_62_12 : cod 62 12 = some (.inl .ireturn, 1) := rfl
theorem k_63_0 : cod 63 0 = some (.inl (.iconst 0), 1) := rfl
theorem k_63_1 : cod 63 1 = some (.inl (.istore_n 2), 1) := rfl
theorem k_63_2 : cod 63 2 = some (.inl (.iload_n 2), 1) := rfl
theorem k_63_3 : cod 63 3 = some (.inl (.aload_n 0), 1) := rfl
theorem k_63_4 : cod 63 4 = some (.inr (0, 4, 3, 0, 0), 3) := rfl
theorem k_63_7 : cod 63 7 = some (.inr (17, 6, 1, 1, 8), 3) := rfl
theorem k_63_10 : cod 63 10 = some (.inl (.if_icmp .ge 46), 3) := rfl
theorem k_63_13 : cod 63 13 = some (.inl (.aload_n 0), 1) := rfl
theorem k_63_14 : cod 63 14 = some (.inr (0, 4, 3, 0, 0), 3) := rfl
theorem k_63_17 : cod 63 17 = some (.inl (.iload_n 2), 1) := rfl
theorem k_63_18 : cod 63 18 = some (.inr (17, 29, 2, 1, 8), 3) := rfl
theorem k_63_21 : cod 63 21 = some (.inr (4, 5, 0, 0, 0), 3) := rfl
theorem k_63_24 : cod 63 24 = some (.inr (0, 5, 1, 0, 0), 3) := rfl
theorem k_63_27 : cod 63 27 = some (.inl (.astore_n 3), 1) := rfl
theorem k_63_28 : cod 63 28 = some (.inl (.aload_n 3), 1) := rfl
theorem k_63_29 : cod 63 29 = some (.inr (0, 3, 0, 0, 0), 3) := rfl
theorem k_63_32 : cod 63 32 = some (.inl (.aload_n 1), 1) := rfl
theorem k_63_33 : cod 63 33 = some (.inr (0, 2, 0, 0, 0), 3) := rfl
theorem k_63_36 : cod 63 36 = some (.inl (.if_icmp .ne 14), 3) := rfl
theorem k_63_39 : cod 63 39 = some (.inl (.aload_n 3), 1) := rfl
theorem k_63_40 : cod 63 40 = some (.inl (.aload_n 0), 1) := rfl
theorem k_63_41 : cod 63 41 = some (.inl (.aload_n 1), 1) := rfl
theorem k_63_42 : cod 63 42 = some (.inr (17, 64, 3, 1, 3), 3) := rfl
theorem k_63_45 : cod 63 45 = some (.inl (.ifCond .eq 5), 3) := rfl
theorem k_63_48 : cod 63 48 = some (.inl (.iconst 1), 1) := rfl
theorem k_63_49 : cod 63 49 = some (.inl .ireturn, 1) := rfl
theorem k_63_50 : cod 63 50 = some (.inl (.iinc 2 1), 3) := rfl
theorem k_63_53 : cod 63 53 = some (.inl (.goto (-51)), 3) := rfl
theorem k_63_56 : cod 63 56 = some (.inl (.iconst 0), 1) := rfl
theorem k_63_57 : cod 63 57 = some (.inl .ireturn, 1) := rfl
theorem k_64_0 : cod 64 0 = some (.inl (.aload_n 0), 1) := rfl
theorem k_64_1 : cod 64 1 = some (.inr (0, 3, 4, 0, 0), 3) := rfl
theorem k_64_4 : cod 64 4 = some (.inl (.iconst (-1)), 1) := rfl
theorem k_64_5 : cod 64 5 = some (.inl (.if_icmp .eq 16), 3) := rfl
theorem k_64_8 : cod 64 8 = some (.inl (.aload_n 0), 1) := rfl
theorem k_64_9 : cod 64 9 = some (.inr (0, 3, 4, 0, 0), 3) := rfl
theorem k_64_12 : cod 64 12 = some (.inl (.aload_n 1), 1) := rfl
theorem k_64_13 : cod 64 13 = some (.inr (0, 4, 0, 0, 0), 3) := rfl
theorem k_64_16 : cod 64 16 = some (.inl (.if_icmp .eq 5), 3) := rfl
theorem k_64_19 : cod 64 19 = some (.inl (.iconst 1), 1) := rfl
theorem k_64_20 : cod 64 20 = some (.inl .ireturn, 1) := rfl
theorem k_64_21 : cod 64 21 = some (.inl (.iconst 0), 1) := rfl
theorem k_64_22 : cod 64 22 = some (.inl (.istore_n 3), 1) := rfl
theorem k_64_23 : cod 64 23 = some (.inl (.iload_n 3), 1) := rfl
theorem k_64_24 : cod 64 24 = some (.inl (.aload_n 0), 1) := rfl
theorem k_64_25 : cod 64 25 = some (.inr (0, 3, 2, 0, 0), 3) := rfl
theorem k_64_28 : cod 64 28 = some (.inr (17, 6, 1, 1, 8), 3) := rfl
theorem k_64_31 : cod 64 31 = some (.inl (.if_icmp .ge 45), 3) := rfl
theorem k_64_34 : cod 64 34 = some (.inl (.aload_n 0), 1) := rfl
theorem k_64_35 : cod 64 35 = some (.inr (0, 3, 2, 0, 0), 3) := rfl
theorem k_64_38 : cod 64 38 = some (.inl (.iload_n 3), 1) := rfl
theorem k_64_39 : cod 64 39 = some (.inr (17, 29, 2, 1, 8), 3) := rfl
theorem k_64_42 : cod 64 42 = some (.inr (4, 5, 0, 0, 0), 3) := rfl
theorem k_64_45 : cod 64 45 = some (.inr (0, 5, 0, 0, 0), 3) := rfl
theorem k_64_48 : cod 64 48 = some (.inl (.astore 4), 2) := rfl
theorem k_64_50 : cod 64 50 = some (.inl (.aload_n 2), 1) := rfl
theorem k_64_51 : cod 64 51 = some (.inl (.aload 4), 2) := rfl
theorem k_64_53 : cod 64 53 = some (.inr (17, 65, 2, 1, 2), 3) := rfl
theorem k_64_56 : cod 64 56 = some (.inl (.ifCond .eq 14), 3) := rfl
theorem k_64_59 : cod 64 59 = some (.inl (.aload_n 1), 1) := rfl
theorem k_64_60 : cod 64 60 = some (.inl (.aload 4), 2) := rfl
theorem k_64_62 : cod 64 62 = some (.inr (17, 38, 2, 1, 4), 3) := rfl
theorem k_64_65 : cod 64 65 = some (.inl (.ifCond .ne 5), 3) := rfl
theorem k_64_68 : cod 64 68 = some (.inl (.iconst 1), 1) := rfl
theorem k_64_69 : cod 64 69 = some (.inl .ireturn, 1) := rfl
theorem k_64_70 : cod 64 70 = some (.inl (.iinc 3 1), 3) := rfl
theorem k_64_73 : cod 64 73 = some (.inl (.goto (-50)), 3) := rfl
theorem k_64_76 : cod 64 76 = some (.inl (.iconst 0), 1) := rfl
theorem k_64_77 : cod 64 77 = some (.inl .ireturn, 1) := rfl
theorem k_65_0 : cod 65 0 = some (.inl (.aload_n 1), 1) := rfl
theorem k_65_1 : cod 65 1 = some (.inr (0, 4, 6, 0, 0), 3) := rfl
theorem k_65_4 : cod 65 4 = some (.inl (.ifCond .le 23), 3) := rfl
theorem k_65_7 : cod 65 7 = some (.inl (.aload_n 1), 1) := rfl
theorem k_65_8 : cod 65 8 = some (.inr (0, 4, 6, 0, 0), 3) := rfl
theorem k_65_11 : cod 65 11 = some (.inl (.aload_n 0), 1) := rfl
theorem k_65_12 : cod 65 12 = some (.inr (0, 2, 1, 0, 0), 3) := rfl
theorem k_65_15 : cod 65 15 = some (.inl (.aload_n 1), 1) := rfl
theorem k_65_16 : cod 65 16 = some (.inr (0, 4, 1, 0, 0), 3) := rfl
theorem k_65_19 : cod 65 19 = some (.inl .iaload, 1) := rfl
theorem k_65_20 : cod 65 20 = some (.inl (.if_icmp .gt 7), 3) := rfl
theorem k_65_23 : cod 65 23 = some (.inl (.iconst 1), 1) := rfl
theorem k_65_24 : cod 65 24 = some (.inl (.goto 4), 3) := rfl
theorem k_65_27 : cod 65 27 = some (.inl (.iconst 0), 1) := rfl
theorem k_65_28 : cod 65 28 = some (.inl .ireturn, 1) := rfl
theorem k_66_0 : cod 66 0 = some (.inl (.iconst 0), 1) := rfl
theorem k_66_1 : cod 66 1 = some (.inl (.istore_n 2), 1) := rfl
theorem k_66_2 : cod 66 2 = some (.inl (.iconst 0), 1) := rfl
theorem k_66_3 : cod 66 3 = some (.inl (.istore_n 3), 1) := rfl
theorem k_66_4 : cod 66 4 = some (.inl (.iload_n 3), 1) := rfl
theorem k_66_5 : cod 66 5 = some (.inl (.aload_n 0), 1) := rfl
theorem k_66_6 : cod 66 6 = some (.inr (0, 0, 0, 0, 0), 3) := rfl
theorem k_66_9 : cod 66 9 = some (.inl .arraylength, 1) := rfl
theorem k_66_10 : cod 66 10 = some (.inl (.if_icmp .ge 20), 3) := rfl
theorem k_66_13 : cod 66 13 = some (.inl (.aload_n 1), 1) := rfl
theorem k_66_14 : cod 66 14 = some (.inl (.iload_n 3), 1) := rfl
theorem k_66_15 : cod 66 15 = some (.inr (17, 67, 2, 1, 4), 3) := rfl
theorem k_66_18 : cod 66 18 = some (.inl (.ifCond .eq 6), 3) := rfl
theorem k_66_21 : cod 66 21 = some (.inl (.iinc 2 1), 3) := rfl
theorem k_66_24 : cod 66 24 = some (.inl (.iinc 3 1), 3) := rfl
theorem k_66_27 : cod 66 27 = some (.inl (.goto (-23)), 3) := rfl
theorem k_66_30 : cod 66 30 = some (.inl (.iload_n 2), 1) := rfl
theorem k_66_31 : cod 66 31 = some (.inl .ireturn, 1) := rfl
theorem k_67_0 : cod 67 0 = some (.inl (.iload_n 1), 1) := rfl
theorem k_67_1 : cod 67 1 = some (.inl (.aload_n 0), 1) := rfl
theorem k_67_2 : cod 67 2 = some (.inr (0, 4, 1, 0, 0), 3) := rfl
theorem k_67_5 : cod 67 5 = some (.inl (.if_icmp .ne 5), 3) := rfl
theorem k_67_8 : cod 67 8 = some (.inl (.iconst 0), 1) := rfl
theorem k_67_9 : cod 67 9 = some (.inl .ireturn, 1) := rfl
theorem k_67_10 : cod 67 10 = some (.inl (.iconst 0), 1) := rfl
theorem k_67_11 : cod 67 11 = some (.inl (.istore_n 2), 1) := rfl
theorem k_67_12 : cod 67 12 = some (.inl (.iload_n 2), 1) := rfl
theorem k_67_13 : cod 67 13 = some (.inl (.aload_n 0), 1) := rfl
theorem k_67_14 : cod 67 14 = some (.inr (0, 4, 3, 0, 0), 3) := rfl
theorem k_67_17 : cod 67 17 = some (.inr (17, 6, 1, 1, 8), 3) := rfl
theorem k_67_20 : cod 67 20 = some (.inl (.if_icmp .ge 32), 3) := rfl
theorem k_67_23 : cod 67 23 = some (.inl (.aload_n 0), 1) := rfl
theorem k_67_24 : cod 67 24 = some (.inr (0, 4, 3, 0, 0), 3) := rfl
theorem k_67_27 : cod 67 27 = some (.inl (.iload_n 2), 1) := rfl
theorem k_67_28 : cod 67 28 = some (.inr (17, 29, 2, 1, 8), 3) := rfl
theorem k_67_31 : cod 67 31 = some (.inr (4, 5, 0, 0, 0), 3) := rfl
theorem k_67_34 : cod 67 34 = some (.inr (0, 5, 1, 0, 0), 3) := rfl
theorem k_67_37 : cod 67 37 = some (.inr (0, 3, 0, 0, 0), 3) := rfl
theorem k_67_40 : cod 67 40 = some (.inl (.iload_n 1), 1) := rfl
theorem k_67_41 : cod 67 41 = some (.inl (.if_icmp .ne 5), 3) := rfl
theorem k_67_44 : cod 67 44 = some (.inl (.iconst 1), 1) := rfl
theorem k_67_45 : cod 67 45 = some (.inl .ireturn, 1) := rfl
theorem k_67_46 : cod 67 46 = some (.inl (.iinc 2 1), 3) := rfl
theorem k_67_49 : cod 67 49 = some (.inl (.goto (-37)), 3) := rfl
theorem k_67_52 : cod 67 52 = some (.inl (.iconst 0), 1) := rfl
theorem k_67_53 : cod 67 53 = some (.inl .ireturn, 1) := rfl
theorem k_68_0 : cod 68 0 = some (.inl (.aload_n 0), 1) := rfl
theorem k_68_1 : cod 68 1 = some (.inr (0, 0, 0, 0, 0), 3) := rfl
theorem k_68_4 : cod 68 4 = some (.inl (.aload_n 1), 1) := rfl
theorem k_68_5 : cod 68 5 = some (.inr (0, 4, 1, 0, 0), 3) := rfl
theorem k_68_8 : cod 68 8 = some (.inl .aaload, 1) := rfl
theorem k_68_9 : cod 68 9 = some (.inl (.astore_n 2), 1) := rfl
theorem k_68_10 : cod 68 10 = some (.inl (.aload_n 1), 1) := rfl
theorem k_68_11 : cod 68 11 = some (.inl (.iconst 1), 1) := rfl
theorem k_68_12 : cod 68 12 = some (.inr (1, 4, 5, 0, 0), 3) := rfl
theorem k_68_15 : cod 68 15 = some (.inl (.aload_n 1), 1) := rfl
theorem k_68_16 : cod 68 16 = some (.inl (.aload_n 2), 1) := rfl
theorem k_68_17 : cod 68 17 = some (.inr (0, 2, 1, 0, 0), 3) := rfl
theorem k_68_20 : cod 68 20 = some (.inl (.aload_n 1), 1) := rfl
theorem k_68_21 : cod 68 21 = some (.inr (0, 4, 1, 0, 0), 3) := rfl
theorem k_68_24 : cod 68 24 = some (.inl .iaload, 1) := rfl
theorem k_68_25 : cod 68 25 = some (.inl (.iconst 1), 1) := rfl
theorem k_68_26 : cod 68 26 = some (.inl .iadd, 1) := rfl
theorem k_68_27 : cod 68 27 = some (.inr (1, 4, 6, 0, 0), 3) := rfl
theorem k_68_30 : cod 68 30 = some (.inl (.aload_n 0), 1) := rfl
theorem k_68_31 : cod 68 31 = some (.inl .dup, 1) := rfl
theorem k_68_32 : cod 68 32 = some (.inr (0, 0, 5, 0, 0), 3) := rfl
theorem k_68_35 : cod 68 35 = some (.inl (.iconst 1), 1) := rfl
theorem k_68_36 : cod 68 36 = some (.inl .iadd, 1) := rfl
theorem k_68_37 : cod 68 37 = some (.inr (1, 0, 5, 0, 0), 3) := rfl
theorem k_68_40 : cod 68 40 = some (.inl (.aload_n 1), 1) := rfl
theorem k_68_41 : cod 68 41 = some (.inr (17, 69, 1, 1, 4), 3) := rfl
theorem k_68_44 : cod 68 44 = some (.inl (.aload_n 2), 1) := rfl
theorem k_68_45 : cod 68 45 = some (.inl (.aload_n 1), 1) := rfl
theorem k_68_46 : cod 68 46 = some (.inr (17, 70, 2, 1, 2), 3) := rfl
theorem k_68_49 : cod 68 49 = some (.inl (.iconst 0), 1) := rfl
theorem k_68_50 : cod 68 50 = some (.inl (.istore_n 3), 1) := rfl
theorem k_68_51 : cod 68 51 = some (.inl (.iload_n 3), 1) := rfl
theorem k_68_52 : cod 68 52 = some (.inl (.aload_n 0), 1) := rfl
theorem k_68_53 : cod 68 53 = some (.inr (0, 0, 0, 0, 0), 3) := rfl
theorem k_68_56 : cod 68 56 = some (.inl .arraylength, 1) := rfl
theorem k_68_57 : cod 68 57 = some (.inl (.if_icmp .ge 43), 3) := rfl
theorem k_68_60 : cod 68 60 = some (.inl (.iload_n 3), 1) := rfl
theorem k_68_61 : cod 68 61 = some (.inl (.aload_n 1), 1) := rfl
theorem k_68_62 : cod 68 62 = some (.inr (0, 4, 1, 0, 0), 3) := rfl
theorem k_68_65 : cod 68 65 = some (.inl (.if_icmp .eq 29), 3) := rfl
theorem k_68_68 : cod 68 68 = some (.inl (.aload_n 0), 1) := rfl
theorem k_68_69 : cod 68 69 = some (.inr (0, 0, 0, 0, 0), 3) := rfl
theorem k_68_72 : cod 68 72 = some (.inl (.iload_n 3), 1) := rfl
theorem k_68_73 : cod 68 73 = some (.inl .aaload, 1) := rfl
theorem k_68_74 : cod 68 74 = some (.inr (0, 2, 3, 0, 0), 3) := rfl
theorem k_68_77 : cod 68 77 = some (.inr (2, 7, 3, 0, 0), 3) := rfl
theorem k_68_80 : cod 68 80 = some (.inl .dup, 1) := rfl
theorem k_68_81 : cod 68 81 = some (.inl (.iconst 5), 1) := rfl
theorem k_68_82 : cod 68 82 = some (.inl (.aload_n 1), 1) := rfl
theorem k_68_83 : cod 68 83 = some (.inr (0, 4, 1, 0, 0), 3) := rfl
theorem k_68_86 : cod 68 86 = some (.inl (.aload_n 1), 1) := rfl
theorem k_68_87 : cod 68 87 = some (.inr (17, 72, 4, 2, 0), 3) := rfl
theorem k_68_90 : cod 68 90 = some (.inr (17, 16, 2, 1, 8), 3) := rfl
theorem k_68_93 : cod 68 93 = some (.inl .pop, 1) := rfl
theorem k_68_94 : cod 68 94 = some (.inl (.iinc 3 1), 3) := rfl
theorem k_68_97 : cod 68 97 = some (.inl (.goto (-46)), 3) := rfl
theorem k_68_100 : cod 68 100 = some (.inl .return_, 1) := rfl
theorem k_69_0 : cod 69 0 = some (.inl (.iconst 0), 1) := rfl
theorem k_69_1 : cod 69 1 = some (.inl (.istore_n 1), 1) := rfl
theorem k_69_2 : cod 69 2 = some (.inl (.iload_n 1), 1) := rfl
theorem k_69_3 : cod 69 3 = some (.inl (.aload_n 0), 1) := rfl
theorem k_69_4 : cod 69 4 = some (.inr (0, 4, 3, 0, 0), 3) := rfl
theorem k_69_7 : cod 69 7 = some (.inr (17, 6, 1, 1, 8), 3) := rfl
theorem k_69_10 : cod 69 10 = some (.inl (.if_icmp .ge 41), 3) := rfl
theorem k_69_13 : cod 69 13 = some (.inl (.aload_n 0), 1) := rfl
theorem k_69_14 : cod 69 14 = some (.inr (0, 4, 3, 0, 0), 3) := rfl
theorem k_69_17 : cod 69 17 = some (.inl (.iload_n 1), 1) := rfl
theorem k_69_18 : cod 69 18 = some (.inr (17, 29, 2, 1, 8), 3) := rfl
theorem k_69_21 : cod 69 21 = some (.inr (4, 5, 0, 0, 0), 3) := rfl
theorem k_69_24 : cod 69 24 = some (.inr (0, 5, 1, 0, 0), 3) := rfl
theorem k_69_27 : cod 69 27 = some (.inr (0, 3, 2, 0, 0), 3) := rfl
theorem k_69_30 : cod 69 30 = some (.inl (.aload_n 0), 1) := rfl
theorem k_69_31 : cod 69 31 = some (.inr (0, 4, 3, 0, 0), 3) := rfl
theorem k_69_34 : cod 69 34 = some (.inl (.iload_n 1), 1) := rfl
theorem k_69_35 : cod 69 35 = some (.inr (17, 29, 2, 1, 8), 3) := rfl
theorem k_69_38 : cod 69 38 = some (.inr (4, 5, 0, 0, 0), 3) := rfl
theorem k_69_41 : cod 69 41 = some (.inr (17, 16, 2, 1, 8), 3) := rfl
theorem k_69_44 : cod 69 44 = some (.inl .pop, 1) := rfl
theorem k_69_45 : cod 69 45 = some (.inl (.iinc 1 1), 3) := rfl
theorem k_69_48 : cod 69 48 = some (.inl (.goto (-46)), 3) := rfl
theorem k_69_51 : cod 69 51 = some (.inl (.iconst 0), 1) := rfl
theorem k_69_52 : cod 69 52 = some (.inl (.istore_n 1), 1) := rfl
theorem k_69_53 : cod 69 53 = some (.inl (.iload_n 1), 1) := rfl
theorem k_69_54 : cod 69 54 = some (.inl (.aload_n 0), 1) := rfl
theorem k_69_55 : cod 69 55 = some (.inr (0, 4, 4, 0, 0), 3) := rfl
theorem k_69_58 : cod 69 58 = some (.inr (17, 6, 1, 1, 8), 3) := rfl
theorem k_69_61 : cod 69 61 = some (.inl (.if_icmp .ge 41), 3) := rfl
theorem k_69_64 : cod 69 64 = some (.inl (.aload_n 0), 1) := rfl
theorem k_69_65 : cod 69 65 = some (.inr (0, 4, 4, 0, 0), 3) := rfl
theorem k_69_68 : cod 69 68 = some (.inl (.iload_n 1), 1) := rfl
theorem k_69_69 : cod 69 69 = some (.inr (17, 29, 2, 1, 8), 3) := rfl
theorem k_69_72 : cod 69 72 = some (.inr (4, 6, 0, 0, 0), 3) := rfl
theorem k_69_75 : cod 69 75 = some (.inr (0, 6, 1, 0, 0), 3) := rfl
theorem k_69_78 : cod 69 78 = some (.inr (0, 3, 3, 0, 0), 3) := rfl
theorem k_69_81 : cod 69 81 = some (.inl (.aload_n 0), 1) := rfl
theorem k_69_82 : cod 69 82 = some (.inr (0, 4, 4, 0, 0), 3) := rfl
theorem k_69_85 : cod 69 85 = some (.inl (.iload_n 1), 1) := rfl
theorem k_69_86 : cod 69 86 = some (.inr (17, 29, 2, 1, 8), 3) := rfl
theorem k_69_89 : cod 69 89 = some (.inr (4, 6, 0, 0, 0), 3) := rfl
theorem k_69_92 : cod 69 92 = some (.inr (17, 16, 2, 1, 8), 3) := rfl
theorem k_69_95 : cod 69 95 = some (.inl .pop, 1) := rfl
theorem k_69_96 : cod 69 96 = some (.inl (.iinc 1 1), 3) := rfl
theorem k_69_99 : cod 69 99 = some (.inl (.goto (-46)), 3) := rfl
theorem k_69_102 : cod 69 102 = some (.inl .return_, 1) := rfl
theorem k_70_0 : cod 70 0 = some (.inl (.aload_n 0), 1) := rfl
theorem k_70_1 : cod 70 1 = some (.inr (0, 2, 1, 0, 0), 3) := rfl
theorem k_70_4 : cod 70 4 = some (.inl (.aload_n 1), 1) := rfl
theorem k_70_5 : cod 70 5 = some (.inr (0, 4, 1, 0, 0), 3) := rfl
theorem k_70_8 : cod 70 8 = some (.inl (.aload_n 1), 1) := rfl
theorem k_70_9 : cod 70 9 = some (.inr (0, 4, 6, 0, 0), 3) := rfl
theorem k_70_12 : cod 70 12 = some (.inl .iastore, 1) := rfl
theorem k_70_13 : cod 70 13 = some (.inl (.aload_n 1), 1) := rfl
theorem k_70_14 : cod 70 14 = some (.inl (.aload_n 0), 1) := rfl
theorem k_70_15 : cod 70 15 = some (.inr (17, 71, 2, 1, 4), 3) := rfl
theorem k_70_18 : cod 70 18 = some (.inl .return_, 1) := rfl
theorem k_71_0 : cod 71 0 = some (.inl (.iconst 0), 1) := rfl
theorem k_71_1 : cod 71 1 = some (.inl (.istore_n 2), 1) := rfl
theorem k_71_2 : cod 71 2 = some (.inl (.iload_n 2), 1) := rfl
theorem k_71_3 : cod 71 3 = some (.inl (.aload_n 0), 1) := rfl
theorem k_71_4 : cod 71 4 = some (.inr (0, 4, 3, 0, 0), 3) := rfl
theorem k_71_7 : cod 71 7 = some (.inr (17, 6, 1, 1, 8), 3) := rfl
theorem k_71_10 : cod 71 10 = some (.inl (.if_icmp .ge 51), 3) := rfl
theorem k_71_13 : cod 71 13 = some (.inl (.aload_n 0), 1) := rfl
theorem k_71_14 : cod 71 14 = some (.inr (0, 4, 3, 0, 0), 3) := rfl
theorem k_71_17 : cod 71 17 = some (.inl (.iload_n 2), 1) := rfl
theorem k_71_18 : cod 71 18 = some (.inr (17, 29, 2, 1, 8), 3) := rfl
theorem k_71_21 : cod 71 21 = some (.inr (4, 5, 0, 0, 0), 3) := rfl
theorem k_71_24 : cod 71 24 = some (.inr (0, 5, 1, 0, 0), 3) := rfl
theorem k_71_27 : cod 71 27 = some (.inl (.astore_n 3), 1) := rfl
theorem k_71_28 : cod 71 28 = some (.inl (.aload_n 3), 1) := rfl
theorem k_71_29 : cod 71 29 = some (.inr (0, 3, 0, 0, 0), 3) := rfl
theorem k_71_32 : cod 71 32 = some (.inl (.aload_n 1), 1) := rfl
theorem k_71_33 : cod 71 33 = some (.inr (0, 2, 0, 0, 0), 3) := rfl
theorem k_71_36 : cod 71 36 = some (.inl (.if_icmp .ne 19), 3) := rfl
theorem k_71_39 : cod 71 39 = some (.inl (.aload_n 3), 1) := rfl
theorem k_71_40 : cod 71 40 = some (.inr (0, 3, 4, 0, 0), 3) := rfl
theorem k_71_43 : cod 71 43 = some (.inl (.aload_n 0), 1) := rfl
theorem k_71_44 : cod 71 44 = some (.inr (0, 4, 0, 0, 0), 3) := rfl
theorem k_71_47 : cod 71 47 = some (.inl (.if_icmp .ne 8), 3) := rfl
theorem k_71_50 : cod 71 50 = some (.inl (.aload_n 3), 1) := rfl
theorem k_71_51 : cod 71 51 = some (.inl (.iconst (-1)), 1) := rfl
theorem k_71_52 : cod 71 52 = some (.inr (1, 3, 4, 0, 0), 3) := rfl
theorem k_71_55 : cod 71 55 = some (.inl (.iinc 2 1), 3) := rfl
theorem k_71_58 : cod 71 58 = some (.inl (.goto (-56)), 3) := rfl
theorem k_71_61 : cod 71 61 = some (.inl .return_, 1) := rfl
theorem k_72_0 : cod 72 0 = some (.inl (.aload_n 0), 1) := rfl
theorem k_72_1 : cod 72 1 = some (.inr (7, 0, 0, 0, 0), 3) := rfl
theorem k_72_4 : cod 72 4 = some (.inl (.aload_n 0), 1) := rfl
theorem k_72_5 : cod 72 5 = some (.inl (.iload_n 1), 1) := rfl
theorem k_72_6 : cod 72 6 = some (.inr (1, 7, 0, 0, 0), 3) := rfl
theorem k_72_9 : cod 72 9 = some (.inl (.aload_n 0), 1) := rfl
theorem k_72_10 : cod 72 10 = some (.inl (.iload_n 2), 1) := rfl
theorem k_72_11 : cod 72 11 = some (.inr (1, 7, 1, 0, 0), 3) := rfl
theorem k_72_14 : cod 72 14 = some (.inl (.aload_n 0), 1) := rfl
theorem k_72_15 : cod 72 15 = some (.inl (.aload_n 3), 1) := rfl
theorem k_72_16 : cod 72 16 = some (.inr (1, 7, 2, 3, 0), 3) := rfl
theorem k_72_19 : cod 72 19 = some (.inl .return_, 1) := rfl
theorem k_73_0 : cod 73 0 = some (.inl (.iconst 0), 1) := rfl
theorem k_73_1 : cod 73 1 = some (.inl (.istore_n 2), 1) := rfl
theorem k_73_2 : cod 73 2 = some (.inl (.iload_n 2), 1) := rfl
theorem k_73_3 : cod 73 3 = some (.inl (.aload_n 0), 1) := rfl
theorem k_73_4 : cod 73 4 = some (.inr (0, 4, 3, 0, 0), 3) := rfl
theorem k_73_7 : cod 73 7 = some (.inr (17, 6, 1, 1, 8), 3) := rfl
theorem k_73_10 : cod 73 10 = some (.inl (.if_icmp .ge 43), 3) := rfl
theorem k_73_13 : cod 73 13 = some (.inl (.aload_n 0), 1) := rfl
theorem k_73_14 : cod 73 14 = some (.inr (0, 4, 3, 0, 0), 3) := rfl
theorem k_73_17 : cod 73 17 = some (.inl (.iload_n 2), 1) := rfl
theorem k_73_18 : cod 73 18 = some (.inr (17, 29, 2, 1, 8), 3) := rfl
theorem k_73_21 : cod 73 21 = some (.inr (4, 5, 0, 0, 0), 3) := rfl
theorem k_73_24 : cod 73 24 = some (.inr (0, 5, 1, 0, 0), 3) := rfl
theorem k_73_27 : cod 73 27 = some (.inl (.astore_n 3), 1) := rfl
theorem k_73_28 : cod 73 28 = some (.inl (.aload_n 3), 1) := rfl
theorem k_73_29 : cod 73 29 = some (.inr (0, 3, 0, 0, 0), 3) := rfl
theorem k_73_32 : cod 73 32 = some (.inl (.aload_n 1), 1) := rfl
theorem k_73_33 : cod 73 33 = some (.inr (0, 2, 0, 0, 0), 3) := rfl
theorem k_73_36 : cod 73 36 = some (.inl (.if_icmp .ne 11), 3) := rfl
theorem k_73_39 : cod 73 39 = some (.inl (.aload_n 3), 1) := rfl
theorem k_73_40 : cod 73 40 = some (.inl (.aload_n 0), 1) := rfl
theorem k_73_41 : cod 73 41 = some (.inr (0, 4, 0, 0, 0), 3) := rfl
theorem k_73_44 : cod 73 44 = some (.inr (1, 3, 4, 0, 0), 3) := rfl
theorem k_73_47 : cod 73 47 = some (.inl (.iinc 2 1), 3) := rfl
theorem k_73_50 : cod 73 50 = some (.inl (.goto (-48)), 3) := rfl
theorem k_73_53 : cod 73 53 = some (.inl .return_, 1) := rfl
theorem k_74_0 : cod 74 0 = some (.inl (.iconst 0), 1) := rfl
theorem k_74_1 : cod 74 1 = some (.inl (.istore 4), 2) := rfl
theorem k_74_3 : cod 74 3 = some (.inl (.iload 4), 2) := rfl
theorem k_74_5 : cod 74 5 = some (.inl (.aload_n 0), 1) := rfl
theorem k_74_6 : cod 74 6 = some (.inr (0, 0, 0, 0, 0), 3) := rfl
theorem k_74_9 : cod 74 9 = some (.inl .arraylength, 1) := rfl
theorem k_74_10 : cod 74 10 = some (.inl (.if_icmp .ge 51), 3) := rfl
theorem k_74_13 : cod 74 13 = some (.inl (.aload_n 1), 1) := rfl
theorem k_74_14 : cod 74 14 = some (.inl (.iload 4), 2) := rfl
theorem k_74_16 : cod 74 16 = some (.inr (17, 67, 2, 1, 4), 3) := rfl
theorem k_74_19 : cod 74 19 = some (.inl (.ifCond .eq 36), 3) := rfl
theorem k_74_22 : cod 74 22 = some (.inl (.iload 4), 2) := rfl
theorem k_74_24 : cod 74 24 = some (.inl (.iload_n 3), 1) := rfl
theorem k_74_25 : cod 74 25 = some (.inl (.if_icmp .eq 30), 3) := rfl
theorem k_74_28 : cod 74 28 = some (.inl (.aload_n 0), 1) := rfl
theorem k_74_29 : cod 74 29 = some (.inr (0, 0, 0, 0, 0), 3) := rfl
theorem k_74_32 : cod 74 32 = some (.inl (.iload 4), 2) := rfl
theorem k_74_34 : cod 74 34 = some (.inl .aaload, 1) := rfl
theorem k_74_35 : cod 74 35 = some (.inr (0, 2, 3, 0, 0), 3) := rfl
theorem k_74_38 : cod 74 38 = some (.inr (2, 7, 3, 0, 0), 3) := rfl
theorem k_74_41 : cod 74 41 = some (.inl .dup, 1) := rfl
theorem k_74_42 : cod 74 42 = some (.inl (.iload_n 2), 1) := rfl
theorem k_74_43 : cod 74 43 = some (.inl (.aload_n 1), 1) := rfl
theorem k_74_44 : cod 74 44 = some (.inr (0, 4, 1, 0, 0), 3) := rfl
theorem k_74_47 : cod 74 47 = some (.inl (.aload_n 1), 1) := rfl
theorem k_74_48 : cod 74 48 = some (.inr (17, 72, 4, 2, 0), 3) := rfl
theorem k_74_51 : cod 74 51 = some (.inr (17, 16, 2, 1, 8), 3) := rfl
theorem k_74_54 : cod 74 54 = some (.inl .pop, 1) := rfl
theorem k_74_55 : cod 74 55 = some (.inl (.iinc 4 1), 3) := rfl
theorem k_74_58 : cod 74 58 = some (.inl (.goto (-55)), 3) := rfl
theorem k_74_61 : cod 74 61 = some (.inl .return_, 1) := rfl
theorem k_75_0 : cod 75 0 = some (.inl (.aload_n 0), 1) := rfl
theorem k_75_1 : cod 75 1 = some (.inl (.iload_n 1), 1) := rfl
theorem k_75_2 : cod 75 2 = some (.inr (17, 76, 2, 1, 0), 3) := rfl
theorem k_75_5 : cod 75 5 = some (.inl (.goto 9), 3) := rfl
theorem k_75_8 : cod 75 8 = some (.inl (.astore_n 2), 1) := rfl
theorem k_75_9 : cod 75 9 = some (.inl (.iconst 1), 1) := rfl
theorem k_75_10 : cod 75 10 = some (.inl .ireturn, 1) := rfl
theorem k_75_11 : cod 75 11 = some (.inl (.astore_n 2), 1) := rfl
theorem k_75_12 : cod 75 12 = some (.inl (.iconst 2), 1) := rfl
theorem k_75_13 : cod 75 13 = some (.inl .ireturn, 1) := rfl
theorem k_75_14 : cod 75 14 = some (.inl (.iconst 0), 1) := rfl
theorem k_75_15 : cod 75 15 = some (.inl .ireturn, 1) := rfl
theorem k_76_0 : cod 76 0 = some (.inl (.aload_n 0), 1) := rfl
theorem k_76_1 : cod 76 1 = some (.inl (.iload_n 1), 1) := rfl
theorem k_76_2 : cod 76 2 = some (.inr (17, 28, 2, 1, 0), 3) := rfl
theorem k_76_5 : cod 76 5 = some (.inl (.astore_n 2), 1) := rfl
theorem k_76_6 : cod 76 6 = some (.inl (.aload_n 0), 1) := rfl
theorem k_76_7 : cod 76 7 = some (.inl (.aload_n 2), 1) := rfl
theorem k_76_8 : cod 76 8 = some (.inr (17, 35, 2, 1, 0), 3) := rfl
theorem k_76_11 : cod 76 11 = some (.inl (.aload_n 2), 1) := rfl
theorem k_76_12 : cod 76 12 = some (.inl (.iconst 2), 1) := rfl
theorem k_76_13 : cod 76 13 = some (.inr (1, 4, 5, 0, 0), 3) := rfl
theorem k_76_16 : cod 76 16 = some (.inl .return_, 1) := rfl
theorem k_77_0 : cod 77 0 = some (.inl (.aload_n 3), 1) := rfl
theorem k_77_1 : cod 77 1 = some (.inl (.iconst 0), 1) := rfl
theorem k_77_2 : cod 77 2 = some (.inl (.aload_n 0), 1) := rfl
theorem k_77_3 : cod 77 3 = some (.inl (.iload_n 1), 1) := rfl
theorem k_77_4 : cod 77 4 = some (.inl (.iload_n 2), 1) := rfl
theorem k_77_5 : cod 77 5 = some (.inr (17, 78, 3, 1, 0), 3) := rfl
theorem k_77_8 : cod 77 8 = some (.inl .i2l, 1) := rfl
theorem k_77_9 : cod 77 9 = some (.inl .lastore, 1) := rfl
theorem k_77_10 : cod 77 10 = some (.inl (.goto 11), 3) := rfl
theorem k_77_13 : cod 77 13 = some (.inl (.astore 4), 2) := rfl
theorem k_77_15 : cod 77 15 = some (.inl (.iconst 1), 1) := rfl
theorem k_77_16 : cod 77 16 = some (.inl .ireturn, 1) := rfl
theorem k_77_17 : cod 77 17 = some (.inl (.astore 4), 2) := rfl
theorem k_77_19 : cod 77 19 = some (.inl (.iconst 2), 1) := rfl
theorem k_77_20 : cod 77 20 = some (.inl .ireturn, 1) := rfl
theorem k_77_21 : cod 77 21 = some (.inl (.iconst 0), 1) := rfl
theorem k_77_22 : cod 77 22 = some (.inl .ireturn, 1) := rfl
theorem k_78_0 : cod 78 0 = some (.inl (.aload_n 0), 1) := rfl
theorem k_78_1 : cod 78 1 = some (.inl (.iload_n 1), 1) := rfl
theorem k_78_2 : cod 78 2 = some (.inl (.iload_n 2), 1) := rfl
theorem k_78_3 : cod 78 3 = some (.inr (17, 79, 3, 1, 0), 3) := rfl
theorem k_78_6 : cod 78 6 = some (.inl (.aload_n 0), 1) := rfl
theorem k_78_7 : cod 78 7 = some (.inr (0, 0, 0, 0, 0), 3) := rfl
theorem k_78_10 : cod 78 10 = some (.inl (.iload_n 2), 1) := rfl
theorem k_78_11 : cod 78 11 = some (.inl .aaload, 1) := rfl
theorem k_78_12 : cod 78 12 = some (.inl (.iload_n 1), 1) := rfl
theorem k_78_13 : cod 78 13 = some (.inr (17, 80, 2, 1, 2), 3) := rfl
theorem k_78_16 : cod 78 16 = some (.inl (.astore_n 3), 1) := rfl
theorem k_78_17 : cod 78 17 = some (.inl (.aload_n 3), 1) := rfl
theorem k_78_18 : cod 78 18 = some (.inl (.ifnonnull 5), 3) := rfl
theorem k_78_21 : cod 78 21 = some (.inl (.iconst 0), 1) := rfl
theorem k_78_22 : cod 78 22 = some (.inl .ireturn, 1) := rfl
theorem k_78_23 : cod 78 23 = some (.inl (.aload_n 0), 1) := rfl
theorem k_78_24 : cod 78 24 = some (.inl (.aload_n 3), 1) := rfl
theorem k_78_25 : cod 78 25 = some (.inl (.aload_n 0), 1) := rfl
theorem k_78_26 : cod 78 26 = some (.inr (0, 0, 0, 0, 0), 3) := rfl
theorem k_78_29 : cod 78 29 = some (.inl (.iload_n 2), 1) := rfl
theorem k_78_30 : cod 78 30 = some (.inl .aaload, 1) := rfl
theorem k_78_31 : cod 78 31 = some (.inr (17, 83, 3, 1, 0), 3) := rfl
theorem k_78_34 : cod 78 34 = some (.inl (.aload_n 3), 1) := rfl
theorem k_78_35 : cod 78 35 = some (.inr (0, 7, 0, 0, 0), 3) := rfl
theorem k_78_38 : cod 78 38 = some (.inl .ireturn, 1) := rfl
theorem k_79_0 : cod 79 0 = some (.inl (.aload_n 0), 1) := rfl
theorem k_79_1 : cod 79 1 = some (.inl (.iload_n 1), 1) := rfl
theorem k_79_2 : cod 79 2 = some (.inr (17, 14, 2, 1, 0), 3) := rfl
theorem k_79_5 : cod 79 5 = some (.inl (.aload_n 0), 1) := rfl
theorem k_79_6 : cod 79 6 = some (.inl (.iload_n 2), 1) := rfl
theorem k_79_7 : cod 79 7 = some (.inr (17, 14, 2, 1, 0), 3) := rfl
theorem k_79_10 : cod 79 10 = some (.inl (.iload_n 1), 1) := rfl
theorem k_79_11 : cod 79 11 = some (.inl (.iload_n 2), 1) := rfl
theorem k_79_12 : cod 79 12 = some (.inl (.if_icmp .ne 13), 3) := rfl
theorem k_79_15 : cod 79 15 = some (.inr (16, 10, 0, 0, 0), 10) := rfl
theorem k_79_25 : cod 79 25 = some (.inl .return_, 1) := rfl
theorem k_80_0 : cod 80 0 = some (.inl (.iconst 0), 1) := rfl
theorem k_80_1 : cod 80 1 = some (.inl (.istore_n 2), 1) := rfl
theorem k_80_2 : cod 80 2 = some (.inl (.iload_n 2), 1) := rfl
theorem k_80_3 : cod 80 3 = some (.inl (.aload_n 0), 1) := rfl
theorem k_80_4 : cod 80 4 = some (.inr (0, 2, 3, 0, 0), 3) := rfl
theorem k_80_7 : cod 80 7 = some (.inr (17, 6, 1, 1, 8), 3) := rfl
theorem k_80_10 : cod 80 10 = some (.inl (.if_icmp .ge 39), 3) := rfl
theorem k_80_13 : cod 80 13 = some (.inl (.aload_n 0), 1) := rfl
theorem k_80_14 : cod 80 14 = some (.inr (0, 2, 3, 0, 0), 3) := rfl
theorem k_80_17 : cod 80 17 = some (.inl (.iload_n 2), 1) := rfl
theorem k_80_18 : cod 80 18 = some (.inr (17, 29, 2, 1, 8), 3) := rfl
theorem k_80_21 : cod 80 21 = some (.inr (4, 7, 0, 0, 0), 3) := rfl
theorem k_80_24 : cod 80 24 = some (.inr (0, 7, 1, 0, 0), 3) := rfl
theorem k_80_27 : cod 80 27 = some (.inl (.iload_n 1), 1) := rfl
theorem k_80_28 : cod 80 28 = some (.inl (.if_icmp .ne 15), 3) := rfl
theorem k_80_31 : cod 80 31 = some (.inl (.aload_n 0), 1) := rfl
theorem k_80_32 : cod 80 32 = some (.inr (0, 2, 3, 0, 0), 3) := rfl
theorem k_80_35 : cod 80 35 = some (.inl (.iload_n 2), 1) := rfl
theorem k_80_36 : cod 80 36 = some (.inr (17, 81, 2, 1, 8), 3) := rfl
theorem k_80_39 : cod 80 39 = some (.inr (4, 7, 0, 0, 0), 3) := rfl
theorem k_80_42 : cod 80 42 = some (.inl .areturn, 1) := rfl
theorem k_80_43 : cod 80 43 = some (.inl (.iinc 2 1), 3) := rfl
theorem k_80_46 : cod 80 46 = some (.inl (.goto (-44)), 3) := rfl
theorem k_80_49 : cod 80 49 = some (.inl .aconst_null, 1) := rfl
theorem k_80_50 : cod 80 50 = some (.inl .areturn, 1) := rfl
theorem k_81_0 : cod 81 0 = some (.inl (.iload_n 1), 1) := rfl
theorem k_81_1 : cod 81 1 = some (.inl (.aload_n 0), 1) := rfl
theorem k_81_2 : cod 81 2 = some (.inr (0, 8, 1, 0, 0), 3) := rfl
theorem k_81_5 : cod 81 5 = some (.inr (17, 30, 2, 0, 0), 3) := rfl
theorem k_81_8 : cod 81 8 = some (.inl .pop, 1) := rfl
theorem k_81_9 : cod 81 9 = some (.inl (.aload_n 0), 1) := rfl
theorem k_81_10 : cod 81 10 = some (.inr (0, 8, 0, 0, 0), 3) := rfl
theorem k_81_13 : cod 81 13 = some (.inl (.astore_n 2), 1) := rfl
theorem k_81_14 : cod 81 14 = some (.inl (.aload_n 2), 1) := rfl
theorem k_81_15 : cod 81 15 = some (.inl (.iload_n 1), 1) := rfl
theorem k_81_16 : cod 81 16 = some (.inl .aaload, 1) := rfl
theorem k_81_17 : cod 81 17 = some (.inl (.astore_n 3), 1) := rfl
theorem k_81_18 : cod 81 18 = some (.inl (.aload_n 0), 1) := rfl
theorem k_81_19 : cod 81 19 = some (.inl (.aload_n 2), 1) := rfl
theorem k_81_20 : cod 81 20 = some (.inl (.iload_n 1), 1) := rfl
theorem k_81_21 : cod 81 21 = some (.inr (17, 82, 3, 1, 8), 3) := rfl
theorem k_81_24 : cod 81 24 = some (.inl (.aload_n 3), 1) := rfl
theorem k_81_25 : cod 81 25 = some (.inl .areturn, 1) := rfl
theorem k_82_0 : cod 82 0 = some (.inl (.aload_n 0), 1) := rfl
theorem k_82_1 : cod 82 1 = some (.inl .dup, 1) := rfl
theorem k_82_2 : cod 82 2 = some (.inr (0, 8, 2, 0, 0), 3) := rfl
theorem k_82_5 : cod 82 5 = some (.inl (.iconst 1), 1) := rfl
theorem k_82_6 : cod 82 6 = some (.inl .iadd, 1) := rfl
theorem k_82_7 : cod 82 7 = some (.inr (1, 8, 2, 0, 0), 3) := rfl
theorem k_82_10 : cod 82 10 = some (.inl (.aload_n 0), 1) := rfl
theorem k_82_11 : cod 82 11 = some (.inr (0, 8, 1, 0, 0), 3) := rfl
theorem k_82_14 : cod 82 14 = some (.inl (.iconst 1), 1) := rfl
theorem k_82_15 : cod 82 15 = some (.inl .isub, 1) := rfl
theorem k_82_16 : cod 82 16 = some (.inl .dup, 1) := rfl
theorem k_82_17 : cod 82 17 = some (.inl (.istore_n 3), 1) := rfl
theorem k_82_18 : cod 82 18 = some (.inl (.iload_n 2), 1) := rfl
theorem k_82_19 : cod 82 19 = some (.inl (.if_icmp .le 15), 3) := rfl
theorem k_82_22 : cod 82 22 = some (.inl (.aload_n 1), 1) := rfl
theorem k_82_23 : cod 82 23 = some (.inl (.iload_n 2), 1) := rfl
theorem k_82_24 : cod 82 24 = some (.inl (.iconst 1), 1) := rfl
theorem k_82_25 : cod 82 25 = some (.inl .iadd, 1) := rfl
theorem k_82_26 : cod 82 26 = some (.inl (.aload_n 1), 1) := rfl
theorem k_82_27 : cod 82 27 = some (.inl (.iload_n 2), 1) := rfl
theorem k_82_28 : cod 82 28 = some (.inl (.iload_n 3), 1) := rfl
theorem k_82_29 : cod 82 29 = some (.inl (.iload_n 2), 1) := rfl
theorem k_82_30 : cod 82 30 = some (.inl .isub, 1) := rfl
theorem k_82_31 : cod 82 31 = some (.inr (9, 0, 0, 0, 0), 3) := rfl
theorem k_82_34 : cod 82 34 = some (.inl (.aload_n 1), 1) := rfl
theorem k_82_35 : cod 82 35 = some (.inl (.aload_n 0), 1) := rfl
theorem k_82_36 : cod 82 36 = some (.inl (.iload_n 3), 1) := rfl
theorem k_82_37 : cod 82 37 = some (.inl .dup_x1, 1) := rfl
theorem k_82_38 : cod 82 38 = some (.inr (1, 8, 1, 0, 0), 3) := rfl
theorem k_82_41 : cod 82 41 = some (.inl .aconst_null, 1) := rfl
theorem k_82_42 : cod 82 42 = some (.inl .aastore, 1) := rfl
theorem k_82_43 : cod 82 43 = some (.inl .return_, 1) := rfl
theorem k_83_0 : cod 83 0 = some (.inl (.aload_n 1), 1) := rfl
theorem k_83_1 : cod 83 1 = some (.inr (0, 7, 2, 0, 0), 3) := rfl
theorem k_83_4 : cod 83 4 = some (.inl (.astore_n 3), 1) := rfl
theorem k_83_5 : cod 83 5 = some (.inl (.aload_n 1), 1) := rfl
theorem k_83_6 : cod 83 6 = some (.inr (0, 7, 0, 0, 0), 3) := rfl
theorem k_83_9 : cod 83 9 = some (.inl (.tableswitch 68 1 4 #[31, 40, 48, 60]), 31) := rfl
theorem k_83_40 : cod 83 40 = some (.inl (.aload_n 0), 1) := rfl
theorem k_83_41 : cod 83 41 = some (.inl (.aload_n 3), 1) := rfl
theorem k_83_42 : cod 83 42 = some (.inl (.aload_n 2), 1) := rfl
theorem k_83_43 : cod 83 43 = some (.inr (17, 84, 3, 1, 0), 3) := rfl
theorem k_83_46 : cod 83 46 = some (.inl (.goto 36), 3) := rfl
theorem k_83_49 : cod 83 49 = some (.inl (.aload_n 0), 1) := rfl
theorem k_83_50 : cod 83 50 = some (.inl (.aload_n 3), 1) := rfl
theorem k_83_51 : cod 83 51 = some (.inr (17, 85, 2, 1, 0), 3) := rfl
theorem k_83_54 : cod 83 54 = some (.inl (.goto 28), 3) := rfl
theorem k_83_57 : cod 83 57 = some (.inl (.aload_n 0), 1) := rfl
theorem k_83_58 : cod 83 58 = some (.inl (.aload_n 3), 1) := rfl
theorem k_83_59 : cod 83 59 = some (.inl (.aload_n 1), 1) := rfl
theorem k_83_60 : cod 83 60 = some (.inr (0, 7, 1, 0, 0), 3) := rfl
theorem k_83_63 : cod 83 63 = some (.inr (17, 86, 3, 1, 0), 3) := rfl
theorem k_83_66 : cod 83 66 = some (.inl (.goto 16), 3) := rfl
theorem k_83_69 : cod 83 69 = some (.inl (.aload_n 3), 1) := rfl
theorem k_83_70 : cod 83 70 = some (.inl (.aload_n 2), 1) := rfl
theorem k_83_71 : cod 83 71 = some (.inr (17, 71, 2, 1, 4), 3) := rfl
theorem k_83_74 : cod 83 74 = some (.inl (.goto 8), 3) := rfl
theorem k_83_77 : cod 83 77 = some (.inl (.aload_n 2), 1) := rfl
theorem k_83_78 : cod 83 78 = some (.inl (.aload_n 3), 1) := rfl
theorem k_83_79 : cod 83 79 = some (.inr (17, 87, 2, 1, 2), 3) := rfl
theorem k_83_82 : cod 83 82 = some (.inl .return_, 1) := rfl
theorem k_84_0 : cod 84 0 = some (.inl (.iconst 3), 1) := rfl
theorem k_84_1 : cod 84 1 = some (.inl (.istore_n 3), 1) := rfl
theorem k_84_2 : cod 84 2 = some (.inl (.aload_n 1), 1) := rfl
theorem k_84_3 : cod 84 3 = some (.inl (.aload_n 2), 1) := rfl
theorem k_84_4 : cod 84 4 = some (.inr (17, 63, 2, 1, 4), 3) := rfl
theorem k_84_7 : cod 84 7 = some (.inl (.ifCond .ne 10), 3) := rfl
theorem k_84_10 : cod 84 10 = some (.inl (.aload_n 1), 1) := rfl
theorem k_84_11 : cod 84 11 = some (.inl (.aload_n 2), 1) := rfl
theorem k_84_12 : cod 84 12 = some (.inr (17, 73, 2, 1, 4), 3) := rfl
theorem k_84_15 : cod 84 15 = some (.inl (.iconst 2), 1) := rfl
theorem k_84_16 : cod 84 16 = some (.inl (.istore_n 3), 1) := rfl
theorem k_84_17 : cod 84 17 = some (.inl (.aload_n 0), 1) := rfl
theorem k_84_18 : cod 84 18 = some (.inr (0, 0, 0, 0, 0), 3) := rfl
theorem k_84_21 : cod 84 21 = some (.inl (.aload_n 1), 1) := rfl
theorem k_84_22 : cod 84 22 = some (.inr (0, 4, 1, 0, 0), 3) := rfl
theorem k_84_25 : cod 84 25 = some (.inl .aaload, 1) := rfl
theorem k_84_26 : cod 84 26 = some (.inr (0, 2, 3, 0, 0), 3) := rfl
theorem k_84_29 : cod 84 29 = some (.inr (2, 7, 3, 0, 0), 3) := rfl
theorem k_84_32 : cod 84 32 = some (.inl .dup, 1) := rfl
theorem k_84_33 : cod 84 33 = some (.inl (.iload_n 3), 1) := rfl
theorem k_84_34 : cod 84 34 = some (.inl (.aload_n 2), 1) := rfl
theorem k_84_35 : cod 84 35 = some (.inr (0, 2, 0, 0, 0), 3) := rfl
theorem k_84_38 : cod 84 38 = some (.inl (.aload_n 1), 1) := rfl
theorem k_84_39 : cod 84 39 = some (.inr (17, 72, 4, 2, 0), 3) := rfl
theorem k_84_42 : cod 84 42 = some (.inr (17, 16, 2, 1, 8), 3) := rfl
theorem k_84_45 : cod 84 45 = some (.inl .pop, 1) := rfl
theorem k_84_46 : cod 84 46 = some (.inl .return_, 1) := rfl
theorem k_85_0 : cod 85 0 = some (.inl (.aload_n 1), 1) := rfl
theorem k_85_1 : cod 85 1 = some (.inr (0, 4, 5, 0, 0), 3) := rfl
theorem k_85_4 : cod 85 4 = some (.inl (.iconst 3), 1) := rfl
theorem k_85_5 : cod 85 5 = some (.inl (.if_icmp .eq 4), 3) := rfl
theorem k_85_8 : cod 85 8 = some (.inl .return_, 1) := rfl
theorem k_85_9 : cod 85 9 = some (.inl (.aload_n 1), 1) := rfl
theorem k_85_10 : cod 85 10 = some (.inl .dup, 1) := rfl
theorem k_85_11 : cod 85 11 = some (.inr (0, 4, 7, 0, 0), 3) := rfl
theorem k_85_14 : cod 85 14 = some (.inl (.iconst 1), 1) := rfl
theorem k_85_15 : cod 85 15 = some (.inl .isub, 1) := rfl
theorem k_85_16 : cod 85 16 = some (.inr (1, 4, 7, 0, 0), 3) := rfl
theorem k_85_19 : cod 85 19 = some (.inl (.aload_n 1), 1) := rfl
theorem k_85_20 : cod 85 20 = some (.inr (0, 4, 7, 0, 0), 3) := rfl
theorem k_85_23 : cod 85 23 = some (.inl (.ifCond .ne 8), 3) := rfl
theorem k_85_26 : cod 85 26 = some (.inl (.aload_n 0), 1) := rfl
theorem k_85_27 : cod 85 27 = some (.inl (.aload_n 1), 1) := rfl
theorem k_85_28 : cod 85 28 = some (.inr (17, 68, 2, 1, 0), 3) := rfl
theorem k_85_31 : cod 85 31 = some (.inl .return_, 1) := rfl
theorem k_86_0 : cod 86 0 = some (.inl (.aload_n 1), 1) := rfl
theorem k_86_1 : cod 86 1 = some (.inr (0, 4, 5, 0, 0), 3) := rfl
theorem k_86_4 : cod 86 4 = some (.inl (.iconst 3), 1) := rfl
theorem k_86_5 : cod 86 5 = some (.inl (.if_icmp .eq 4), 3) := rfl
theorem k_86_8 : cod 86 8 = some (.inl .return_, 1) := rfl
theorem k_86_9 : cod 86 9 = some (.inl (.aload_n 1), 1) := rfl
theorem k_86_10 : cod 86 10 = some (.inl (.iconst 2), 1) := rfl
theorem k_86_11 : cod 86 11 = some (.inr (1, 4, 5, 0, 0), 3) := rfl
theorem k_86_14 : cod 86 14 = some (.inl (.aload_n 1), 1) := rfl
theorem k_86_15 : cod 86 15 = some (.inl (.aload_n 0), 1) := rfl
theorem k_86_16 : cod 86 16 = some (.inr (0, 0, 0, 0, 0), 3) := rfl
theorem k_86_19 : cod 86 19 = some (.inl (.aload_n 1), 1) := rfl
theorem k_86_20 : cod 86 20 = some (.inr (0, 4, 1, 0, 0), 3) := rfl
theorem k_86_23 : cod 86 23 = some (.inl .aaload, 1) := rfl
theorem k_86_24 : cod 86 24 = some (.inr (17, 71, 2, 1, 4), 3) := rfl
theorem k_86_27 : cod 86 27 = some (.inl (.aload_n 0), 1) := rfl
theorem k_86_28 : cod 86 28 = some (.inl (.aload_n 1), 1) := rfl
theorem k_86_29 : cod 86 29 = some (.inl (.iconst 4), 1) := rfl
theorem k_86_30 : cod 86 30 = some (.inl (.iload_n 2), 1) := rfl
theorem k_86_31 : cod 86 31 = some (.inr (17, 74, 4, 1, 0), 3) := rfl
theorem k_86_34 : cod 86 34 = some (.inl .return_, 1) := rfl
theorem k_87_0 : cod 87 0 = some (.inl (.aload_n 0), 1) := rfl
theorem k_87_1 : cod 87 1 = some (.inl (.aload_n 1), 1) := rfl
theorem k_87_2 : cod 87 2 = some (.inr (17, 88, 2, 1, 2), 3) := rfl
theorem k_87_5 : cod 87 5 = some (.inl (.ifCond .eq 15), 3) := rfl
theorem k_87_8 : cod 87 8 = some (.inl (.aload_n 0), 1) := rfl
theorem k_87_9 : cod 87 9 = some (.inl (.aload_n 1), 1) := rfl
theorem k_87_10 : cod 87 10 = some (.inr (17, 70, 2, 1, 2), 3) := rfl
theorem k_87_13 : cod 87 13 = some (.inl (.aload_n 0), 1) := rfl
theorem k_87_14 : cod 87 14 = some (.inr (17, 89, 1, 1, 2), 3) := rfl
theorem k_87_17 : cod 87 17 = some (.inl (.goto 12), 3) := rfl
theorem k_87_20 : cod 87 20 = some (.inl (.aload_n 0), 1) := rfl
theorem k_87_21 : cod 87 21 = some (.inr (0, 2, 2, 0, 0), 3) := rfl
theorem k_87_24 : cod 87 24 = some (.inl (.aload_n 1), 1) := rfl
theorem k_87_25 : cod 87 25 = some (.inr (17, 16, 2, 1, 8), 3) := rfl
theorem k_87_28 : cod 87 28 = some (.inl .pop, 1) := rfl
theorem k_87_29 : cod 87 29 = some (.inl .return_, 1) := rfl
theorem k_88_0 : cod 88 0 = some (.inl (.aload_n 0), 1) := rfl
theorem k_88_1 : cod 88 1 = some (.inr (0, 2, 1, 0, 0), 3) := rfl
theorem k_88_4 : cod 88 4 = some (.inl (.aload_n 1), 1) := rfl
theorem k_88_5 : cod 88 5 = some (.inr (0, 4, 1, 0, 0), 3) := rfl
theorem k_88_8 : cod 88 8 = some (.inl .iaload, 1) := rfl
theorem k_88_9 : cod 88 9 = some (.inl (.aload_n 1), 1) := rfl
theorem k_88_10 : cod 88 10 = some (.inr (0, 4, 6, 0, 0), 3) := rfl
theorem k_88_13 : cod 88 13 = some (.inl (.iconst 1), 1) := rfl
theorem k_88_14 : cod 88 14 = some (.inl .isub, 1) := rfl
theorem k_88_15 : cod 88 15 = some (.inl (.if_icmp .eq 5), 3) := rfl
theorem k_88_18 : cod 88 18 = some (.inl (.iconst 0), 1) := rfl
theorem k_88_19 : cod 88 19 = some (.inl .ireturn, 1) := rfl
theorem k_88_20 : cod 88 20 = some (.inl (.iconst 0), 1) := rfl
theorem k_88_21 : cod 88 21 = some (.inl (.istore_n 2), 1) := rfl
theorem k_88_22 : cod 88 22 = some (.inl (.iload_n 2), 1) := rfl
theorem k_88_23 : cod 88 23 = some (.inl (.aload_n 0), 1) := rfl
theorem k_88_24 : cod 88 24 = some (.inr (0, 2, 1, 0, 0), 3) := rfl
theorem k_88_27 : cod 88 27 = some (.inl .arraylength, 1) := rfl
theorem k_88_28 : cod 88 28 = some (.inl (.if_icmp .ge 26), 3) := rfl
theorem k_88_31 : cod 88 31 = some (.inl (.aload_n 0), 1) := rfl
theorem k_88_32 : cod 88 32 = some (.inr (0, 2, 1, 0, 0), 3) := rfl
theorem k_88_35 : cod 88 35 = some (.inl (.iload_n 2), 1) := rfl
theorem k_88_36 : cod 88 36 = some (.inl .iaload, 1) := rfl
theorem k_88_37 : cod 88 37 = some (.inl (.aload_n 1), 1) := rfl
theorem k_88_38 : cod 88 38 = some (.inr (0, 4, 2, 0, 0), 3) := rfl
theorem k_88_41 : cod 88 41 = some (.inl (.iload_n 2), 1) := rfl
theorem k_88_42 : cod 88 42 = some (.inl .iaload, 1) := rfl
theorem k_88_43 : cod 88 43 = some (.inl (.if_icmp .ge 5), 3) := rfl
theorem k_88_46 : cod 88 46 = some (.inl (.iconst 0), 1) := rfl
theorem k_88_47 : cod 88 47 = some (.inl .ireturn, 1) := rfl
theorem k_88_48 : cod 88 48 = some (.inl (.iinc 2 1), 3) := rfl
theorem k_88_51 : cod 88 51 = some (.inl (.goto (-29)), 3) := rfl
theorem k_88_54 : cod 88 54 = some (.inl (.iconst 1), 1) := rfl
theorem k_88_55 : cod 88 55 = some (.inl .ireturn, 1) := rfl
theorem k_89_0 : cod 89 0 = some (.inl (.aload_n 0), 1) := rfl
theorem k_89_1 : cod 89 1 = some (.inr (0, 2, 2, 0, 0), 3) := rfl
theorem k_89_4 : cod 89 4 = some (.inr (17, 6, 1, 1, 8), 3) := rfl
theorem k_89_7 : cod 89 7 = some (.inl (.istore_n 1), 1) := rfl
theorem k_89_8 : cod 89 8 = some (.inl (.iload_n 1), 1) := rfl
theorem k_89_9 : cod 89 9 = some (.inl (.ifCond .le 34), 3) := rfl
theorem k_89_12 : cod 89 12 = some (.inl (.aload_n 0), 1) := rfl
theorem k_89_13 : cod 89 13 = some (.inr (17, 90, 1, 1, 2), 3) := rfl
theorem k_89_16 : cod 89 16 = some (.inl (.istore_n 2), 1) := rfl
theorem k_89_17 : cod 89 17 = some (.inl (.iload_n 2), 1) := rfl
theorem k_89_18 : cod 89 18 = some (.inl (.ifCond .ge 4), 3) := rfl
theorem k_89_21 : cod 89 21 = some (.inl .return_, 1) := rfl
theorem k_89_22 : cod 89 22 = some (.inl (.aload_n 0), 1) := rfl
theorem k_89_23 : cod 89 23 = some (.inl (.aload_n 0), 1) := rfl
theorem k_89_24 : cod 89 24 = some (.inr (0, 2, 2, 0, 0), 3) := rfl
theorem k_89_27 : cod 89 27 = some (.inl (.iload_n 2), 1) := rfl
theorem k_89_28 : cod 89 28 = some (.inr (17, 81, 2, 1, 8), 3) := rfl
theorem k_89_31 : cod 89 31 = some (.inr (4, 4, 0, 0, 0), 3) := rfl
theorem k_89_34 : cod 89 34 = some (.inr (17, 70, 2, 1, 2), 3) := rfl
theorem k_89_37 : cod 89 37 = some (.inl (.iinc 1 (-1)), 3) := rfl
theorem k_89_40 : cod 89 40 = some (.inl (.goto (-32)), 3) := rfl
theorem k_89_43 : cod 89 43 = some (.inl .return_, 1) := rfl
theorem k_90_0 : cod 90 0 = some (.inl (.iconst 0), 1) := rfl
theorem k_90_1 : cod 90 1 = some (.inl (.istore_n 1), 1) := rfl
theorem k_90_2 : cod 90 2 = some (.inl (.iload_n 1), 1) := rfl
theorem k_90_3 : cod 90 3 = some (.inl (.aload_n 0), 1) := rfl
theorem k_90_4 : cod 90 4 = some (.inr (0, 2, 2, 0, 0), 3) := rfl
theorem k_90_7 : cod 90 7 = some (.inr (17, 6, 1, 1, 8), 3) := rfl
theorem k_90_10 : cod 90 10 = some (.inl (.if_icmp .ge 29), 3) := rfl
theorem k_90_13 : cod 90 13 = some (.inl (.aload_n 0), 1) := rfl
theorem k_90_14 : cod 90 14 = some (.inl (.aload_n 0), 1) := rfl
theorem k_90_15 : cod 90 15 = some (.inr (0, 2, 2, 0, 0), 3) := rfl
theorem k_90_18 : cod 90 18 = some (.inl (.iload_n 1), 1) := rfl
theorem k_90_19 : cod 90 19 = some (.inr (17, 29, 2, 1, 8), 3) := rfl
theorem k_90_22 : cod 90 22 = some (.inr (4, 4, 0, 0, 0), 3) := rfl
theorem k_90_25 : cod 90 25 = some (.inr (17, 88, 2, 1, 2), 3) := rfl
theorem k_90_28 : cod 90 28 = some (.inl (.ifCond .eq 5), 3) := rfl
theorem k_90_31 : cod 90 31 = some (.inl (.iload_n 1), 1) := rfl
theorem k_90_32 : cod 90 32 = some (.inl .ireturn, 1) := rfl
theorem k_90_33 : cod 90 33 = some (.inl (.iinc 1 1), 3) := rfl
theorem k_90_36 : cod 90 36 = some (.inl (.goto (-34)), 3) := rfl
theorem k_90_39 : cod 90 39 = some (.inl (.iconst (-1)), 1) := rfl
theorem k_90_40 : cod 90 40 = some (.inl .ireturn, 1) := rfl
theorem k_91_0 : cod 91 0 = some (.inl (.aload_n 3), 1) := rfl
theorem k_91_1 : cod 91 1 = some (.inl (.iconst 0), 1) := rfl
theorem k_91_2 : cod 91 2 = some (.inl (.aload_n 0), 1) := rfl
theorem k_91_3 : cod 91 3 = some (.inl (.iload_n 1), 1) := rfl
theorem k_91_4 : cod 91 4 = some (.inl (.iload_n 2), 1) := rfl
theorem k_91_5 : cod 91 5 = some (.inr (17, 92, 3, 1, 0), 3) := rfl
theorem k_91_8 : cod 91 8 = some (.inl .i2l, 1) := rfl
theorem k_91_9 : cod 91 9 = some (.inl .lastore, 1) := rfl
theorem k_91_10 : cod 91 10 = some (.inl (.goto 11), 3) := rfl
theorem k_91_13 : cod 91 13 = some (.inl (.astore 4), 2) := rfl
theorem k_91_15 : cod 91 15 = some (.inl (.iconst 1), 1) := rfl
theorem k_91_16 : cod 91 16 = some (.inl .ireturn, 1) := rfl
theorem k_91_17 : cod 91 17 = some (.inl (.astore 4), 2) := rfl
theorem k_91_19 : cod 91 19 = some (.inl (.iconst 2), 1) := rfl
theorem k_91_20 : cod 91 20 = some (.inl .ireturn, 1) := rfl
theorem k_91_21 : cod 91 21 = some (.inl (.iconst 0), 1) := rfl
theorem k_91_22 : cod 91 22 = some (.inl .ireturn, 1) := rfl
theorem k_92_0 : cod 92 0 = some (.inl (.aload_n 0), 1) := rfl
theorem k_92_1 : cod 92 1 = some (.inl (.iload_n 1), 1) := rfl
theorem k_92_2 : cod 92 2 = some (.inl (.iload_n 2), 1) := rfl
theorem k_92_3 : cod 92 3 = some (.inr (17, 79, 3, 1, 0), 3) := rfl
theorem k_92_6 : cod 92 6 = some (.inl (.aload_n 0), 1) := rfl
theorem k_92_7 : cod 92 7 = some (.inr (0, 0, 0, 0, 0), 3) := rfl
theorem k_92_10 : cod 92 10 = some (.inl (.iload_n 2), 1) := rfl
theorem k_92_11 : cod 92 11 = some (.inl .aaload, 1) := rfl
theorem k_92_12 : cod 92 12 = some (.inl (.iload_n 1), 1) := rfl
theorem k_92_13 : cod 92 13 = some (.inr (17, 93, 2, 1, 2), 3) := rfl
theorem k_92_16 : cod 92 16 = some (.inl .ireturn, 1) := rfl
theorem k_93_0 : cod 93 0 = some (.inl (.iconst 0), 1) := rfl
theorem k_93_1 : cod 93 1 = some (.inl (.istore_n 2), 1) := rfl
theorem k_93_2 : cod 93 2 = some (.inl (.iconst 0), 1) := rfl
theorem k_93_3 : cod 93 3 = some (.inl (.istore_n 3), 1) := rfl
theorem k_93_4 : cod 93 4 = some (.inl (.iload_n 3), 1) := rfl
theorem k_93_5 : cod 93 5 = some (.inl (.aload_n 0), 1) := rfl
theorem k_93_6 : cod 93 6 = some (.inr (0, 2, 3, 0, 0), 3) := rfl
theorem k_93_9 : cod 93 9 = some (.inr (17, 6, 1, 1, 8), 3) := rfl
theorem k_93_12 : cod 93 12 = some (.inl (.if_icmp .ge 30), 3) := rfl
theorem k_93_15 : cod 93 15 = some (.inl (.aload_n 0), 1) := rfl
theorem k_93_16 : cod 93 16 = some (.inr (0, 2, 3, 0, 0), 3) := rfl
theorem k_93_19 : cod 93 19 = some (.inl (.iload_n 3), 1) := rfl
theorem k_93_20 : cod 93 20 = some (.inr (17, 29, 2, 1, 8), 3) := rfl
theorem k_93_23 : cod 93 23 = some (.inr (4, 7, 0, 0, 0), 3) := rfl
theorem k_93_26 : cod 93 26 = some (.inr (0, 7, 1, 0, 0), 3) := rfl
theorem k_93_29 : cod 93 29 = some (.inl (.iload_n 1), 1) := rfl
theorem k_93_30 : cod 93 30 = some (.inl (.if_icmp .ne 6), 3) := rfl
theorem k_93_33 : cod 93 33 = some (.inl (.iinc 2 1), 3) := rfl
theorem k_93_36 : cod 93 36 = some (.inl (.iinc 3 1), 3) := rfl
theorem k_93_39 : cod 93 39 = some (.inl (.goto (-35)), 3) := rfl
theorem k_93_42 : cod 93 42 = some (.inl (.iload_n 2), 1) := rfl
theorem k_93_43 : cod 93 43 = some (.inl .ireturn, 1) := rfl
theorem k_94_0 : cod 94 0 = some (.inl (.aload_n 3), 1) := rfl
theorem k_94_1 : cod 94 1 = some (.inl (.iconst 0), 1) := rfl
theorem k_94_2 : cod 94 2 = some (.inl (.aload_n 0), 1) := rfl
theorem k_94_3 : cod 94 3 = some (.inl (.iload_n 1), 1) := rfl
theorem k_94_4 : cod 94 4 = some (.inl (.iload_n 2), 1) := rfl
theorem k_94_5 : cod 94 5 = some (.inr (17, 95, 3, 1, 0), 3) := rfl
theorem k_94_8 : cod 94 8 = some (.inl .i2l, 1) := rfl
theorem k_94_9 : cod 94 9 = some (.inl .lastore, 1) := rfl
theorem k_94_10 : cod 94 10 = some (.inl (.goto 11), 3) := rfl
theorem k_94_13 : cod 94 13 = some (.inl (.astore 4), 2) := rfl
theorem k_94_15 : cod 94 15 = some (.inl (.iconst 1), 1) := rfl
theorem k_94_16 : cod 94 16 = some (.inl .ireturn, 1) := rfl
theorem k_94_17 : cod 94 17 = some (.inl (.astore 4), 2) := rfl
theorem k_94_19 : cod 94 19 = some (.inl (.iconst 2), 1) := rfl
theorem k_94_20 : cod 94 20 = some (.inl .ireturn, 1) := rfl
theorem k_94_21 : cod 94 21 = some (.inl (.iconst 0), 1) := rfl
theorem k_94_22 : cod 94 22 = some (.inl .ireturn, 1) := rfl
theorem k_95_0 : cod 95 0 = some (.inl (.aload_n 0), 1) := rfl
theorem k_95_1 : cod 95 1 = some (.inl (.iload_n 1), 1) := rfl
theorem k_95_2 : cod 95 2 = some (.inr (17, 14, 2, 1, 0), 3) := rfl
theorem k_95_5 : cod 95 5 = some (.inl (.aload_n 0), 1) := rfl
theorem k_95_6 : cod 95 6 = some (.inl (.iload_n 2), 1) := rfl
theorem k_95_7 : cod 95 7 = some (.inr (17, 14, 2, 1, 0), 3) := rfl
theorem k_95_10 : cod 95 10 = some (.inl (.aload_n 0), 1) := rfl
theorem k_95_11 : cod 95 11 = some (.inr (0, 0, 0, 0, 0), 3) := rfl
theorem k_95_14 : cod 95 14 = some (.inl (.iload_n 1), 1) := rfl
theorem k_95_15 : cod 95 15 = some (.inl .aaload, 1) := rfl
theorem k_95_16 : cod 95 16 = some (.inr (0, 2, 1, 0, 0), 3) := rfl
theorem k_95_19 : cod 95 19 = some (.inl (.iload_n 2), 1) := rfl
theorem k_95_20 : cod 95 20 = some (.inl .iaload, 1) := rfl
theorem k_95_21 : cod 95 21 = some (.inl .ireturn, 1) := rfl
theorem k_96_0 : cod 96 0 = some (.inl (.aload_n 3), 1) := rfl
theorem k_96_1 : cod 96 1 = some (.inl (.iconst 0), 1) := rfl
theorem k_96_2 : cod 96 2 = some (.inl (.aload_n 0), 1) := rfl
theorem k_96_3 : cod 96 3 = some (.inl (.iload_n 1), 1) := rfl
theorem k_96_4 : cod 96 4 = some (.inl (.iload_n 2), 1) := rfl
theorem k_96_5 : cod 96 5 = some (.inr (17, 97, 3, 1, 0), 3) := rfl
theorem k_96_8 : cod 96 8 = some (.inl .i2l, 1) := rfl
theorem k_96_9 : cod 96 9 = some (.inl .lastore, 1) := rfl
theorem k_96_10 : cod 96 10 = some (.inl (.goto 11), 3) := rfl
theorem k_96_13 : cod 96 13 = some (.inl (.astore 4), 2) := rfl
theorem k_96_15 : cod 96 15 = some (.inl (.iconst 1), 1) := rfl
theorem k_96_16 : cod 96 16 = some (.inl .ireturn, 1) := rfl
theorem k_96_17 : cod 96 17 = some (.inl (.astore 4), 2) := rfl
theorem k_96_19 : cod 96 19 = some (.inl (.iconst 2), 1) := rfl
theorem k_96_20 : cod 96 20 = some (.inl .ireturn, 1) := rfl
theorem k_96_21 : cod 96 21 = some (.inl (.iconst 0), 1) := rfl
theorem k_96_22 : cod 96 22 = some (.inl .ireturn, 1) := rfl
theorem k_97_0 : cod 97 0 = some (.inl (.aload_n 0), 1) := rfl
theorem k_97_1 : cod 97 1 = some (.inl (.iload_n 1), 1) := rfl
theorem k_97_2 : cod 97 2 = some (.inr (17, 28, 2, 1, 0), 3) := rfl
theorem k_97_5 : cod 97 5 = some (.inl (.astore_n 3), 1) := rfl
theorem k_97_6 : cod 97 6 = some (.inl (.iload_n 2), 1) := rfl
theorem k_97_7 : cod 97 7 = some (.inl (.tableswitch 62 0 3 #[29, 34, 39, 45]), 29) := rfl
theorem k_97_36 : cod 97 36 = some (.inl (.aload_n 3), 1) := rfl
theorem k_97_37 : cod 97 37 = some (.inr (0, 4, 5, 0, 0), 3) := rfl
theorem k_97_40 : cod 97 40 = some (.inl .ireturn, 1) := rfl
theorem k_97_41 : cod 97 41 = some (.inl (.aload_n 3), 1) := rfl
theorem k_97_42 : cod 97 42 = some (.inr (0, 4, 6, 0, 0), 3) := rfl
theorem k_97_45 : cod 97 45 = some (.inl .ireturn, 1) := rfl
theorem k_97_46 : cod 97 46 = some (.inl (.aload_n 0), 1) := rfl
theorem k_97_47 : cod 97 47 = some (.inl (.aload_n 3), 1) := rfl
theorem k_97_48 : cod 97 48 = some (.inr (17, 98, 2, 1, 0), 3) := rfl
theorem k_97_51 : cod 97 51 = some (.inl .ireturn, 1) := rfl
theorem k_97_52 : cod 97 52 = some (.inl (.aload_n 3), 1) := rfl
theorem k_97_53 : cod 97 53 = some (.inr (0, 4, 5, 0, 0), 3) := rfl
theorem k_97_56 : cod 97 56 = some (.inl (.iconst 3), 1) := rfl
theorem k_97_57 : cod 97 57 = some (.inl (.if_icmp .ne 10), 3) := rfl
theorem k_97_60 : cod 97 60 = some (.inl (.aload_n 3), 1) := rfl
theorem k_97_61 : cod 97 61 = some (.inr (0, 4, 7, 0, 0), 3) := rfl
theorem k_97_64 : cod 97 64 = some (.inl (.goto 4), 3) := rfl
theorem k_97_67 : cod 97 67 = some (.inl (.iconst 0), 1) := rfl
theorem k_97_68 : cod 97 68 = some (.inl .ireturn, 1) := rfl
theorem k_97_69 : cod 97 69 = some (.inr (16, 10, 0, 0, 0), 10) := rfl
theorem k_98_0 : cod 98 0 = some (.inl (.iconst 0), 1) := rfl
theorem k_98_1 : cod 98 1 = some (.inl (.istore_n 2), 1) := rfl
theorem k_98_2 : cod 98 2 = some (.inl (.iconst 0), 1) := rfl
theorem k_98_3 : cod 98 3 = some (.inl (.istore_n 3), 1) := rfl
theorem k_98_4 : cod 98 4 = some (.inl (.iload_n 3), 1) := rfl
theorem k_98_5 : cod 98 5 = some (.inl (.aload_n 0), 1) := rfl
theorem k_98_6 : cod 98 6 = some (.inr (0, 0, 0, 0, 0), 3) := rfl
theorem k_98_9 : cod 98 9 = some (.inl .arraylength, 1) := rfl
theorem k_98_10 : cod 98 10 = some (.inl (.if_icmp .ge 25), 3) := rfl
theorem k_98_13 : cod 98 13 = some (.inl (.aload_n 0), 1) := rfl
theorem k_98_14 : cod 98 14 = some (.inr (0, 0, 0, 0, 0), 3) := rfl
theorem k_98_17 : cod 98 17 = some (.inl (.iload_n 3), 1) := rfl
theorem k_98_18 : cod 98 18 = some (.inl .aaload, 1) := rfl
theorem k_98_19 : cod 98 19 = some (.inl (.aload_n 1), 1) := rfl
theorem k_98_20 : cod 98 20 = some (.inr (17, 65, 2, 1, 2), 3) := rfl
theorem k_98_23 : cod 98 23 = some (.inl (.ifCond .eq 6), 3) := rfl
theorem k_98_26 : cod 98 26 = some (.inl (.iinc 2 1), 3) := rfl
theorem k_98_29 : cod 98 29 = some (.inl (.iinc 3 1), 3) := rfl
theorem k_98_32 : cod 98 32 = some (.inl (.goto (-28)), 3) := rfl
theorem k_98_35 : cod 98 35 = some (.inl (.iload_n 2), 1) := rfl
theorem k_98_36 : cod 98 36 = some (.inl .ireturn, 1) := rfl
theorem k_99_0 : cod 99 0 = some (.inl (.aload_n 2), 1) := rfl
theorem k_99_1 : cod 99 1 = some (.inl (.iconst 0), 1) := rfl
theorem k_99_2 : cod 99 2 = some (.inl (.aload_n 0), 1) := rfl
theorem k_99_3 : cod 99 3 = some (.inl (.iload_n 1), 1) := rfl
theorem k_99_4 : cod 99 4 = some (.inr (17, 100, 2, 1, 0), 3) := rfl
theorem k_99_7 : cod 99 7 = some (.inl .i2l, 1) := rfl
theorem k_99_8 : cod 99 8 = some (.inl .lastore, 1) := rfl
theorem k_99_9 : cod 99 9 = some (.inl (.goto 9), 3) := rfl
theorem k_99_12 : cod 99 12 = some (.inl (.astore_n 3), 1) := rfl
theorem k_99_13 : cod 99 13 = some (.inl (.iconst 1), 1) := rfl
theorem k_99_14 : cod 99 14 = some (.inl .ireturn, 1) := rfl
theorem k_99_15 : cod 99 15 = some (.inl (.astore_n 3), 1) := rfl
theorem k_99_16 : cod 99 16 = some (.inl (.iconst 2), 1) := rfl
theorem k_99_17 : cod 99 17 = some (.inl .ireturn, 1) := rfl
theorem k_99_18 : cod 99 18 = some (.inl (.iconst 0), 1) := rfl
theorem k_99_19 : cod 99 19 = some (.inl .ireturn, 1) := rfl
theorem k_100_0 : cod 100 0 = some (.inl (.aload_n 0), 1) := rfl
theorem k_100_1 : cod 100 1 = some (.inl (.iload_n 1), 1) := rfl
theorem k_100_2 : cod 100 2 = some (.inr (17, 34, 2, 1, 0), 3) := rfl
theorem k_100_5 : cod 100 5 = some (.inr (0, 3, 4, 0, 0), 3) := rfl
theorem k_100_8 : cod 100 8 = some (.inl .ireturn, 1) := rfl
theorem k_101_0 : cod 101 0 = some (.inl (.aload_n 0), 1) := rfl
theorem k_101_1 : cod 101 1 = some (.inr (7, 0, 0, 0, 0), 3) := rfl
theorem k_101_4 : cod 101 4 = some (.inl (.aload_n 0), 1) := rfl
theorem k_101_5 : cod 101 5 = some (.inl (.sipush 200), 3) := rfl
theorem k_101_8 : cod 101 8 = some (.inl (.newarray .int), 2) := rfl
theorem k_101_10 : cod 101 10 = some (.inr (1, 9, 7, 3, 0), 3) := rfl
theorem k_101_13 : cod 101 13 = some (.inl (.aload_n 0), 1) := rfl
theorem k_101_14 : cod 101 14 = some (.inl (.sipush 200), 3) := rfl
theorem k_101_17 : cod 101 17 = some (.inl (.newarray .int), 2) := rfl
theorem k_101_19 : cod 101 19 = some (.inr (1, 9, 8, 3, 0), 3) := rfl
theorem k_101_22 : cod 101 22 = some (.inl (.aload_n 0), 1) := rfl
theorem k_101_23 : cod 101 23 = some (.inl (.sipush 200), 3) := rfl
theorem k_101_26 : cod 101 26 = some (.inl (.newarray .boolean), 2) := rfl
theorem k_101_28 : cod 101 28 = some (.inr (1, 9, 9, 3, 0), 3) := rfl
theorem k_101_31 : cod 101 31 = some (.inl (.aload_n 0), 1) := rfl
theorem k_101_32 : cod 101 32 = some (.inl (.sipush 500), 3) := rfl
theorem k_101_35 : cod 101 35 = some (.inl (.newarray .int), 2) := rfl
theorem k_101_37 : cod 101 37 = some (.inr (1, 9, 10, 3, 0), 3) := rfl
theorem k_101_40 : cod 101 40 = some (.inl (.aload_n 0), 1) := rfl
theorem k_101_41 : cod 101 41 = some (.inl (.sipush 500), 3) := rfl
theorem k_101_44 : cod 101 44 = some (.inl (.newarray .int), 2) := rfl
theorem k_101_46 : cod 101 46 = some (.inr (1, 9, 11, 3, 0), 3) := rfl
theorem k_101_49 : cod 101 49 = some (.inl (.aload_n 0), 1) := rfl
theorem k_101_50 : cod 101 50 = some (.inl (.sipush 500), 3) := rfl
theorem k_101_53 : cod 101 53 = some (.inl (.newarray .int), 2) := rfl
theorem k_101_55 : cod 101 55 = some (.inr (1, 9, 12, 3, 0), 3) := rfl
theorem k_101_58 : cod 101 58 = some (.inl (.aload_n 0), 1) := rfl
theorem k_101_59 : cod 101 59 = some (.inl (.sipush 3000), 3) := rfl
theorem k_101_62 : cod 101 62 = some (.inl (.newarray .int), 2) := rfl
theorem k_101_64 : cod 101 64 = some (.inr (1, 9, 13, 3, 0), 3) := rfl
theorem k_101_67 : cod 101 67 = some (.inl (.aload_n 0), 1) := rfl
theorem k_101_68 : cod 101 68 = some (.inl (.sipush 500), 3) := rfl
theorem k_101_71 : cod 101 71 = some (.inl (.newarray .int), 2) := rfl
theorem k_101_73 : cod 101 73 = some (.inr (1, 9, 14, 3, 0), 3) := rfl
theorem k_101_76 : cod 101 76 = some (.inl (.aload_n 0), 1) := rfl
theorem k_101_77 : cod 101 77 = some (.inl (.sipush 500), 3) := rfl
theorem k_101_80 : cod 101 80 = some (.inl (.newarray .int), 2) := rfl
theorem k_101_82 : cod 101 82 = some (.inr (1, 9, 15, 3, 0), 3) := rfl
theorem k_101_85 : cod 101 85 = some (.inl (.aload_n 0), 1) := rfl
theorem k_101_86 : cod 101 86 = some (.inl (.sipush 4200), 3) := rfl
theorem k_101_89 : cod 101 89 = some (.inl (.newarray .int), 2) := rfl
theorem k_101_91 : cod 101 91 = some (.inr (1, 9, 16, 3, 0), 3) := rfl
theorem k_101_94 : cod 101 94 = some (.inl (.aload_n 0), 1) := rfl
theorem k_101_95 : cod 101 95 = some (.inl (.sipush 4200), 3) := rfl
theorem k_101_98 : cod 101 98 = some (.inl (.newarray .int), 2) := rfl
theorem k_101_100 : cod 101 100 = some (.inr (1, 9, 17, 3, 0), 3) := rfl
theorem k_101_103 : cod 101 103 = some (.inl (.aload_n 0), 1) := rfl
theorem k_101_104 : cod 101 104 = some (.inl (.sipush 4200), 3) := rfl
theorem k_101_107 : cod 101 107 = some (.inl (.newarray .int), 2) := rfl
theorem k_101_109 : cod 101 109 = some (.inr (1, 9, 18, 3, 0), 3) := rfl
theorem k_101_112 : cod 101 112 = some (.inl (.aload_n 0), 1) := rfl
theorem k_101_113 : cod 101 113 = some (.inl (.sipush 4200), 3) := rfl
theorem k_101_116 : cod 101 116 = some (.inl (.newarray .long), 2) := rfl
theorem k_101_118 : cod 101 118 = some (.inr (1, 9, 19, 3, 0), 3) := rfl
theorem k_101_121 : cod 101 121 = some (.inl (.aload_n 0), 1) := rfl
theorem k_101_122 : cod 101 122 = some (.inl (.bipush 36), 2) := rfl
theorem k_101_124 : cod 101 124 = some (.inl (.newarray .int), 2) := rfl
theorem k_101_126 : cod 101 126 = some (.inr (1, 9, 20, 3, 0), 3) := rfl
theorem k_101_129 : cod 101 129 = some (.inl (.aload_n 0), 1) := rfl
theorem k_101_130 : cod 101 130 = some (.inl (.bipush 6), 2) := rfl
theorem k_101_132 : cod 101 132 = some (.inl (.newarray .int), 2) := rfl
theorem k_101_134 : cod 101 134 = some (.inr (1, 9, 21, 3, 0), 3) := rfl
theorem k_101_137 : cod 101 137 = some (.inl (.aload_n 0), 1) := rfl
theorem k_101_138 : cod 101 138 = some (.inl (.sipush 3006), 3) := rfl
theorem k_101_141 : cod 101 141 = some (.inl (.newarray .int), 2) := rfl
theorem k_101_143 : cod 101 143 = some (.inr (1, 9, 22, 3, 0), 3) := rfl
theorem k_101_146 : cod 101 146 = some (.inl (.aload_n 0), 1) := rfl
theorem k_101_147 : cod 101 147 = some (.inl (.sipush 16000), 3) := rfl
theorem k_101_150 : cod 101 150 = some (.inl (.newarray .int), 2) := rfl
theorem k_101_152 : cod 101 152 = some (.inr (1, 9, 23, 3, 0), 3) := rfl
theorem k_101_155 : cod 101 155 = some (.inl (.aload_n 0), 1) := rfl
theorem k_101_156 : cod 101 156 = some (.inl (.sipush 16000), 3) := rfl
theorem k_101_159 : cod 101 159 = some (.inl (.newarray .int), 2) := rfl
theorem k_101_161 : cod 101 161 = some (.inr (1, 9, 24, 3, 0), 3) := rfl
theorem k_101_164 : cod 101 164 = some (.inl (.aload_n 0), 1) := rfl
theorem k_101_165 : cod 101 165 = some (.inl (.sipush 16000), 3) := rfl
theorem k_101_168 : cod 101 168 = some (.inl (.newarray .int), 2) := rfl
theorem k_101_170 : cod 101 170 = some (.inr (1, 9, 25, 3, 0), 3) := rfl
theorem k_101_173 : cod 101 173 = some (.inl (.aload_n 0), 1) := rfl
theorem k_101_174 : cod 101 174 = some (.inl (.sipush 16000), 3) := rfl
theorem k_101_177 : cod 101 177 = some (.inl (.newarray .int), 2) := rfl
theorem k_101_179 : cod 101 179 = some (.inr (1, 9, 26, 3, 0), 3) := rfl
theorem k_101_182 : cod 101 182 = some (.inl (.aload_n 0), 1) := rfl
theorem k_101_183 : cod 101 183 = some (.inl (.sipush 3000), 3) := rfl
theorem k_101_186 : cod 101 186 = some (.inl (.newarray .int), 2) := rfl
theorem k_101_188 : cod 101 188 = some (.inr (1, 9, 27, 3, 0), 3) := rfl
theorem k_101_191 : cod 101 191 = some (.inl (.aload_n 0), 1) := rfl
theorem k_101_192 : cod 101 192 = some (.inl (.bipush 6), 2) := rfl
theorem k_101_194 : cod 101 194 = some (.inl (.newarray .int), 2) := rfl
theorem k_101_196 : cod 101 196 = some (.inr (1, 9, 28, 3, 0), 3) := rfl
theorem k_101_199 : cod 101 199 = some (.inl .return_, 1) := rfl
theorem k_102_0 : cod 102 0 = some (.inl (.aload_n 0), 1) := rfl
theorem k_102_1 : cod 102 1 = some (.inr (0, 9, 0, 0, 0), 3) := rfl
theorem k_102_4 : cod 102 4 = some (.inl .ireturn, 1) := rfl
theorem k_103_0 : cod 103 0 = some (.inl (.aload_n 0), 1) := rfl
theorem k_103_1 : cod 103 1 = some (.inl (.iload_n 1), 1) := rfl
theorem k_103_2 : cod 103 2 = some (.inl (.iconst 1), 1) := rfl
theorem k_103_3 : cod 103 3 = some (.inl (.if_icmp .lt 9), 3) := rfl
theorem k_103_6 : cod 103 6 = some (.inl (.iload_n 1), 1) := rfl
theorem k_103_7 : cod 103 7 = some (.inl (.bipush 6), 2) := rfl
theorem k_103_9 : cod 103 9 = some (.inl (.if_icmp .le 7), 3) := rfl
theorem k_103_12 : cod 103 12 = some (.inl (.iconst 1), 1) := rfl
theorem k_103_13 : cod 103 13 = some (.inl (.goto 4), 3) := rfl
theorem k_103_16 : cod 103 16 = some (.inl (.iconst 0), 1) := rfl
theorem k_103_17 : cod 103 17 = some (.inl (.aload_n 0), 1) := rfl
theorem k_103_18 : cod 103 18 = some (.inr (0, 9, 1, 0, 0), 3) := rfl
theorem k_103_21 : cod 103 21 = some (.inl (.ifCond .le 7), 3) := rfl
theorem k_103_24 : cod 103 24 = some (.inl (.iconst 1), 1) := rfl
theorem k_103_25 : cod 103 25 = some (.inl (.goto 4), 3) := rfl
theorem k_103_28 : cod 103 28 = some (.inl (.iconst 0), 1) := rfl
theorem k_103_29 : cod 103 29 = some (.inr (17, 104, 3, 1, 9), 3) := rfl
theorem k_103_32 : cod 103 32 = some (.inl (.ifCond .eq 4), 3) := rfl
theorem k_103_35 : cod 103 35 = some (.inl .return_, 1) := rfl
theorem k_103_36 : cod 103 36 = some (.inl (.aload_n 0), 1) := rfl
theorem k_103_37 : cod 103 37 = some (.inl (.iload_n 1), 1) := rfl
theorem k_103_38 : cod 103 38 = some (.inr (1, 9, 1, 0, 0), 3) := rfl
theorem k_103_41 : cod 103 41 = some (.inl .return_, 1) := rfl
theorem k_104_0 : cod 104 0 = some (.inl (.aload_n 0), 1) := rfl
theorem k_104_1 : cod 104 1 = some (.inl (.iload_n 1), 1) := rfl
theorem k_104_2 : cod 104 2 = some (.inl (.ifCond .eq 7), 3) := rfl
theorem k_104_5 : cod 104 5 = some (.inl (.iconst 1), 1) := rfl
theorem k_104_6 : cod 104 6 = some (.inl (.goto 12), 3) := rfl
theorem k_104_9 : cod 104 9 = some (.inl (.iload_n 2), 1) := rfl
theorem k_104_10 : cod 104 10 = some (.inl (.ifCond .eq 7), 3) := rfl
theorem k_104_13 : cod 104 13 = some (.inl (.iconst 2), 1) := rfl
theorem k_104_14 : cod 104 14 = some (.inl (.goto 4), 3) := rfl
theorem k_104_17 : cod 104 17 = some (.inl (.iconst 0), 1) := rfl
theorem k_104_18 : cod 104 18 = some (.inr (1, 9, 0, 0, 0), 3) := rfl
theorem k_104_21 : cod 104 21 = some (.inl (.aload_n 0), 1) := rfl
theorem k_104_22 : cod 104 22 = some (.inr (0, 9, 0, 0, 0), 3) := rfl
theorem k_104_25 : cod 104 25 = some (.inl (.ifCond .eq 7), 3) := rfl
theorem k_104_28 : cod 104 28 = some (.inl (.iconst 1), 1) := rfl
theorem k_104_29 : cod 104 29 = some (.inl (.goto 4), 3) := rfl
theorem k_104_32 : cod 104 32 = some (.inl (.iconst 0), 1) := rfl
theorem k_104_33 : cod 104 33 = some (.inl .ireturn, 1) := rfl
theorem k_105_0 : cod 105 0 = some (.inl (.aload_n 0), 1) := rfl
theorem k_105_1 : cod 105 1 = some (.inl (.aload_n 0), 1) := rfl
theorem k_105_2 : cod 105 2 = some (.inl (.iload_n 1), 1) := rfl
theorem k_105_3 : cod 105 3 = some (.inr (17, 106, 2, 1, 9), 3) := rfl
theorem k_105_6 : cod 105 6 = some (.inl (.ifCond .ne 7), 3) := rfl
theorem k_105_9 : cod 105 9 = some (.inl (.iconst 1), 1) := rfl
theorem k_105_10 : cod 105 10 = some (.inl (.goto 4), 3) := rfl
theorem k_105_13 : cod 105 13 = some (.inl (.iconst 0), 1) := rfl
theorem k_105_14 : cod 105 14 = some (.inl (.aload_n 0), 1) := rfl
theorem k_105_15 : cod 105 15 = some (.inr (0, 9, 2, 0, 0), 3) := rfl
theorem k_105_18 : cod 105 18 = some (.inl (.sipush 200), 3) := rfl
theorem k_105_21 : cod 105 21 = some (.inl (.if_icmp .ne 7), 3) := rfl
theorem k_105_24 : cod 105 24 = some (.inl (.iconst 1), 1) := rfl
theorem k_105_25 : cod 105 25 = some (.inl (.goto 4), 3) := rfl
theorem k_105_28 : cod 105 28 = some (.inl (.iconst 0), 1) := rfl
theorem k_105_29 : cod 105 29 = some (.inr (17, 104, 3, 1, 9), 3) := rfl
theorem k_105_32 : cod 105 32 = some (.inl (.ifCond .eq 5), 3) := rfl
theorem k_105_35 : cod 105 35 = some (.inl (.iconst 0), 1) := rfl
theorem k_105_36 : cod 105 36 = some (.inl .ireturn, 1) := rfl
theorem k_105_37 : cod 105 37 = some (.inl (.aload_n 0), 1) := rfl
theorem k_105_38 : cod 105 38 = some (.inr (0, 9, 7, 0, 0), 3) := rfl
theorem k_105_41 : cod 105 41 = some (.inl (.aload_n 0), 1) := rfl
theorem k_105_42 : cod 105 42 = some (.inr (0, 9, 2, 0, 0), 3) := rfl
theorem k_105_45 : cod 105 45 = some (.inl (.iload_n 1), 1) := rfl
theorem k_105_46 : cod 105 46 = some (.inl .iastore, 1) := rfl
theorem k_105_47 : cod 105 47 = some (.inl (.aload_n 0), 1) := rfl
theorem k_105_48 : cod 105 48 = some (.inr (0, 9, 9, 0, 0), 3) := rfl
theorem k_105_51 : cod 105 51 = some (.inl (.aload_n 0), 1) := rfl
theorem k_105_52 : cod 105 52 = some (.inr (0, 9, 2, 0, 0), 3) := rfl
theorem k_105_55 : cod 105 55 = some (.inl (.iload_n 2), 1) := rfl
theorem k_105_56 : cod 105 56 = some (.inl .bastore, 1) := rfl
theorem k_105_57 : cod 105 57 = some (.inl (.aload_n 0), 1) := rfl
theorem k_105_58 : cod 105 58 = some (.inr (0, 9, 8, 0, 0), 3) := rfl
theorem k_105_61 : cod 105 61 = some (.inl (.aload_n 0), 1) := rfl
theorem k_105_62 : cod 105 62 = some (.inr (0, 9, 2, 0, 0), 3) := rfl
theorem k_105_65 : cod 105 65 = some (.inl (.iconst (-1)), 1) := rfl
theorem k_105_66 : cod 105 66 = some (.inl .iastore, 1) := rfl
theorem k_105_67 : cod 105 67 = some (.inl (.aload_n 0), 1) := rfl
theorem k_105_68 : cod 105 68 = some (.inl .dup, 1) := rfl
theorem k_105_69 : cod 105 69 = some (.inr (0, 9, 2, 0, 0), 3) := rfl
theorem k_105_72 : cod 105 72 = some (.inl (.iconst 1), 1) := rfl
theorem k_105_73 : cod 105 73 = some (.inl .iadd, 1) := rfl
theorem k_105_74 : cod 105 74 = some (.inr (1, 9, 2, 0, 0), 3) := rfl
theorem k_105_77 : cod 105 77 = some (.inl (.aload_n 0), 1) := rfl
theorem k_105_78 : cod 105 78 = some (.inr (0, 9, 2, 0, 0), 3) := rfl
theorem k_105_81 : cod 105 81 = some (.inl (.iconst 1), 1) := rfl
theorem k_105_82 : cod 105 82 = some (.inl .isub, 1) := rfl
theorem k_105_83 : cod 105 83 = some (.inl .ireturn, 1) := rfl
theorem k_106_0 : cod 106 0 = some (.inl (.iload_n 1), 1) := rfl
theorem k_106_1 : cod 106 1 = some (.inl (.ifCond .lt 15), 3) := rfl
theorem k_106_4 : cod 106 4 = some (.inl (.iload_n 1), 1) := rfl
theorem k_106_5 : cod 106 5 = some (.inl (.aload_n 0), 1) := rfl
theorem k_106_6 : cod 106 6 = some (.inr (0, 9, 1, 0, 0), 3) := rfl
theorem k_106_9 : cod 106 9 = some (.inl (.if_icmp .ge 7), 3) := rfl
theorem k_106_12 : cod 106 12 = some (.inl (.iconst 1), 1) := rfl
theorem k_106_13 : cod 106 13 = some (.inl (.goto 4), 3) := rfl
theorem k_106_16 : cod 106 16 = some (.inl (.iconst 0), 1) := rfl
theorem k_106_17 : cod 106 17 = some (.inl .ireturn, 1) := rfl
theorem k_107_0 : cod 107 0 = some (.inl (.aload_n 0), 1) := rfl
theorem k_107_1 : cod 107 1 = some (.inl (.aload_n 0), 1) := rfl
theorem k_107_2 : cod 107 2 = some (.inl (.iload_n 1), 1) := rfl
theorem k_107_3 : cod 107 3 = some (.inr (17, 106, 2, 1, 9), 3) := rfl
theorem k_107_6 : cod 107 6 = some (.inl (.ifCond .ne 7), 3) := rfl
theorem k_107_9 : cod 107 9 = some (.inl (.iconst 1), 1) := rfl
theorem k_107_10 : cod 107 10 = some (.inl (.goto 4), 3) := rfl
theorem k_107_13 : cod 107 13 = some (.inl (.iconst 0), 1) := rfl
theorem k_107_14 : cod 107 14 = some (.inl (.aload_n 0), 1) := rfl
theorem k_107_15 : cod 107 15 = some (.inr (0, 9, 3, 0, 0), 3) := rfl
theorem k_107_18 : cod 107 18 = some (.inl (.sipush 500), 3) := rfl
theorem k_107_21 : cod 107 21 = some (.inl (.if_icmp .ne 7), 3) := rfl
theorem k_107_24 : cod 107 24 = some (.inl (.iconst 1), 1) := rfl
theorem k_107_25 : cod 107 25 = some (.inl (.goto 4), 3) := rfl
theorem k_107_28 : cod 107 28 = some (.inl (.iconst 0), 1) := rfl
theorem k_107_29 : cod 107 29 = some (.inr (17, 104, 3, 1, 9), 3) := rfl
theorem k_107_32 : cod 107 32 = some (.inl (.ifCond .eq 5), 3) := rfl
theorem k_107_35 : cod 107 35 = some (.inl (.iconst 0), 1) := rfl
theorem k_107_36 : cod 107 36 = some (.inl .ireturn, 1) := rfl
theorem k_107_37 : cod 107 37 = some (.inl (.aload_n 0), 1) := rfl
theorem k_107_38 : cod 107 38 = some (.inr (0, 9, 3, 0, 0), 3) := rfl
theorem k_107_41 : cod 107 41 = some (.inl (.istore_n 2), 1) := rfl
theorem k_107_42 : cod 107 42 = some (.inl (.aload_n 0), 1) := rfl
theorem k_107_43 : cod 107 43 = some (.inl .dup, 1) := rfl
theorem k_107_44 : cod 107 44 = some (.inr (0, 9, 3, 0, 0), 3) := rfl
theorem k_107_47 : cod 107 47 = some (.inl (.iconst 1), 1) := rfl
theorem k_107_48 : cod 107 48 = some (.inl .iadd, 1) := rfl
theorem k_107_49 : cod 107 49 = some (.inr (1, 9, 3, 0, 0), 3) := rfl
theorem k_107_52 : cod 107 52 = some (.inl (.aload_n 0), 1) := rfl
theorem k_107_53 : cod 107 53 = some (.inr (0, 9, 10, 0, 0), 3) := rfl
theorem k_107_56 : cod 107 56 = some (.inl (.iload_n 2), 1) := rfl
theorem k_107_57 : cod 107 57 = some (.inl (.iload_n 1), 1) := rfl
theorem k_107_58 : cod 107 58 = some (.inl .iastore, 1) := rfl
theorem k_107_59 : cod 107 59 = some (.inl (.iconst 0), 1) := rfl
theorem k_107_60 : cod 107 60 = some (.inl (.istore_n 3), 1) := rfl
theorem k_107_61 : cod 107 61 = some (.inl (.iload_n 3), 1) := rfl
theorem k_107_62 : cod 107 62 = some (.inl (.aload_n 0), 1) := rfl
theorem k_107_63 : cod 107 63 = some (.inr (0, 9, 1, 0, 0), 3) := rfl
theorem k_107_66 : cod 107 66 = some (.inl (.if_icmp .ge 31), 3) := rfl
theorem k_107_69 : cod 107 69 = some (.inl (.aload_n 0), 1) := rfl
theorem k_107_70 : cod 107 70 = some (.inr (0, 9, 13, 0, 0), 3) := rfl
theorem k_107_73 : cod 107 73 = some (.inl (.bipush 6), 2) := rfl
theorem k_107_75 : cod 107 75 = some (.inl (.iload_n 2), 1) := rfl
theorem k_107_76 : cod 107 76 = some (.inl .imul, 1) := rfl
theorem k_107_77 : cod 107 77 = some (.inl (.iload_n 3), 1) := rfl
theorem k_107_78 : cod 107 78 = some (.inl .iadd, 1) := rfl
theorem k_107_79 : cod 107 79 = some (.inl (.aload_n 0), 1) := rfl
theorem k_107_80 : cod 107 80 = some (.inr (0, 9, 20, 0, 0), 3) := rfl
theorem k_107_83 : cod 107 83 = some (.inl (.bipush 6), 2) := rfl
theorem k_107_85 : cod 107 85 = some (.inl (.iload_n 1), 1) := rfl
theorem k_107_86 : cod 107 86 = some (.inl .imul, 1) := rfl
theorem k_107_87 : cod 107 87 = some (.inl (.iload_n 3), 1) := rfl
theorem k_107_88 : cod 107 88 = some (.inl .iadd, 1) := rfl
theorem k_107_89 : cod 107 89 = some (.inl .iaload, 1) := rfl
theorem k_107_90 : cod 107 90 = some (.inl .iastore, 1) := rfl
theorem k_107_91 : cod 107 91 = some (.inl (.iinc 3 1), 3) := rfl
theorem k_107_94 : cod 107 94 = some (.inl (.goto (-33)), 3) := rfl
theorem k_107_97 : cod 107 97 = some (.inl (.iload_n 2), 1) := rfl
theorem k_107_98 : cod 107 98 = some (.inl .ireturn, 1) := rfl
theorem k_108_0 : cod 108 0 = some (.inl (.aload_n 0), 1) := rfl
theorem k_108_1 : cod 108 1 = some (.inl (.iload_n 1), 1) := rfl
theorem k_108_2 : cod 108 2 = some (.inl (.iload_n 2), 1) := rfl
theorem k_108_3 : cod 108 3 = some (.inl (.iconst 0), 1) := rfl
theorem k_108_4 : cod 108 4 = some (.inr (17, 109, 4, 1, 9), 3) := rfl
theorem k_108_7 : cod 108 7 = some (.inl (.ifCond .eq 5), 3) := rfl
theorem k_108_10 : cod 108 10 = some (.inl (.lconst 0), 1) := rfl
theorem k_108_11 : cod 108 11 = some (.inl .lreturn, 1) := rfl
theorem k_108_12 : cod 108 12 = some (.inl (.aload_n 0), 1) := rfl
theorem k_108_13 : cod 108 13 = some (.inl (.iload_n 1), 1) := rfl
theorem k_108_14 : cod 108 14 = some (.inl (.iload_n 2), 1) := rfl
theorem k_108_15 : cod 108 15 = some (.inr (17, 112, 3, 1, 9), 3) := rfl
theorem k_108_18 : cod 108 18 = some (.inl (.ifCond .eq 10), 3) := rfl
theorem k_108_21 : cod 108 21 = some (.inl (.aload_n 0), 1) := rfl
theorem k_108_22 : cod 108 22 = some (.inl (.iload_n 1), 1) := rfl
theorem k_108_23 : cod 108 23 = some (.inl (.iload_n 2), 1) := rfl
theorem k_108_24 : cod 108 24 = some (.inr (17, 113, 3, 1, 9), 3) := rfl
theorem k_108_27 : cod 108 27 = some (.inl .lreturn, 1) := rfl
theorem k_108_28 : cod 108 28 = some (.inl (.iconst (-1)), 1) := rfl
theorem k_108_29 : cod 108 29 = some (.inl (.istore_n 3), 1) := rfl
theorem k_108_30 : cod 108 30 = some (.inl (.iconst 0), 1) := rfl
theorem k_108_31 : cod 108 31 = some (.inl (.istore 4), 2) := rfl
theorem k_108_33 : cod 108 33 = some (.inl (.iload 4), 2) := rfl
theorem k_108_35 : cod 108 35 = some (.inl (.aload_n 0), 1) := rfl
theorem k_108_36 : cod 108 36 = some (.inr (0, 9, 3, 0, 0), 3) := rfl
theorem k_108_39 : cod 108 39 = some (.inl (.if_icmp .ge 49), 3) := rfl
theorem k_108_42 : cod 108 42 = some (.inl (.aload_n 0), 1) := rfl
theorem k_108_43 : cod 108 43 = some (.inl (.iload 4), 2) := rfl
theorem k_108_45 : cod 108 45 = some (.inl (.iload_n 1), 1) := rfl
theorem k_108_46 : cod 108 46 = some (.inr (17, 114, 3, 1, 9), 3) := rfl
theorem k_108_49 : cod 108 49 = some (.inl (.ifCond .eq 33), 3) := rfl
theorem k_108_52 : cod 108 52 = some (.inl (.aload_n 0), 1) := rfl
theorem k_108_53 : cod 108 53 = some (.inl (.iload 4), 2) := rfl
theorem k_108_55 : cod 108 55 = some (.inl (.iload_n 2), 1) := rfl
theorem k_108_56 : cod 108 56 = some (.inr (17, 112, 3, 1, 9), 3) := rfl
theorem k_108_59 : cod 108 59 = some (.inl (.ifCond .ne 6), 3) := rfl
theorem k_108_62 : cod 108 62 = some (.inl (.goto 20), 3) := rfl
theorem k_108_65 : cod 108 65 = some (.inl (.iload_n 3), 1) := rfl
theorem k_108_66 : cod 108 66 = some (.inl (.ifCond .lt 13), 3) := rfl
theorem k_108_69 : cod 108 69 = some (.inl (.aload_n 0), 1) := rfl
theorem k_108_70 : cod 108 70 = some (.inl (.iload_n 3), 1) := rfl
theorem k_108_71 : cod 108 71 = some (.inl (.iload 4), 2) := rfl
theorem k_108_73 : cod 108 73 = some (.inr (17, 114, 3, 1, 9), 3) := rfl
theorem k_108_76 : cod 108 76 = some (.inl (.ifCond .eq 6), 3) := rfl
theorem k_108_79 : cod 108 79 = some (.inl (.iload 4), 2) := rfl
theorem k_108_81 : cod 108 81 = some (.inl (.istore_n 3), 1) := rfl
theorem k_108_82 : cod 108 82 = some (.inl (.iinc 4 1), 3) := rfl
theorem k_108_85 : cod 108 85 = some (.inl (.goto (-52)), 3) := rfl
theorem k_108_88 : cod 108 88 = some (.inl (.iload_n 3), 1) := rfl
theorem k_108_89 : cod 108 89 = some (.inl (.ifCond .ge 7), 3) := rfl
theorem k_108_92 : cod 108 92 = some (.inl (.lconst 0), 1) := rfl
theorem k_108_93 : cod 108 93 = some (.inl (.goto 9), 3) := rfl
theorem k_108_96 : cod 108 96 = some (.inl (.aload_n 0), 1) := rfl
theorem k_108_97 : cod 108 97 = some (.inl (.iload_n 3), 1) := rfl
theorem k_108_98 : cod 108 98 = some (.inl (.iload_n 2), 1) := rfl
theorem k_108_99 : cod 108 99 = some (.inr (17, 113, 3, 1, 9), 3) := rfl
theorem k_108_102 : cod 108 102 = some (.inl .lreturn, 1) := rfl
theorem k_109_0 : cod 109 0 = some (.inl (.aload_n 0), 1) := rfl
theorem k_109_1 : cod 109 1 = some (.inl (.aload_n 0), 1) := rfl
theorem k_109_2 : cod 109 2 = some (.inl (.iload_n 1), 1) := rfl
theorem k_109_3 : cod 109 3 = some (.inr (17, 110, 2, 1, 9), 3) := rfl
theorem k_109_6 : cod 109 6 = some (.inl (.ifCond .eq 21), 3) := rfl
theorem k_109_9 : cod 109 9 = some (.inl (.aload_n 0), 1) := rfl
theorem k_109_10 : cod 109 10 = some (.inl (.iload_n 2), 1) := rfl
theorem k_109_11 : cod 109 11 = some (.inr (17, 111, 2, 1, 9), 3) := rfl
theorem k_109_14 : cod 109 14 = some (.inl (.ifCond .eq 13), 3) := rfl
theorem k_109_17 : cod 109 17 = some (.inl (.aload_n 0), 1) := rfl
theorem k_109_18 : cod 109 18 = some (.inr (0, 9, 9, 0, 0), 3) := rfl
theorem k_109_21 : cod 109 21 = some (.inl (.iload_n 2), 1) := rfl
theorem k_109_22 : cod 109 22 = some (.inl .baload, 1) := rfl
theorem k_109_23 : cod 109 23 = some (.inl (.iload_n 3), 1) := rfl
theorem k_109_24 : cod 109 24 = some (.inl (.if_icmp .eq 7), 3) := rfl
theorem k_109_27 : cod 109 27 = some (.inl (.iconst 1), 1) := rfl
theorem k_109_28 : cod 109 28 = some (.inl (.goto 4), 3) := rfl
theorem k_109_31 : cod 109 31 = some (.inl (.iconst 0), 1) := rfl
theorem k_109_32 : cod 109 32 = some (.inl (.aload_n 0), 1) := rfl
theorem k_109_33 : cod 109 33 = some (.inl (.iload_n 1), 1) := rfl
theorem k_109_34 : cod 109 34 = some (.inr (17, 110, 2, 1, 9), 3) := rfl
theorem k_109_37 : cod 109 37 = some (.inl (.ifCond .eq 16), 3) := rfl
theorem k_109_40 : cod 109 40 = some (.inl (.aload_n 0), 1) := rfl
theorem k_109_41 : cod 109 41 = some (.inr (0, 9, 11, 0, 0), 3) := rfl
theorem k_109_44 : cod 109 44 = some (.inl (.iload_n 1), 1) := rfl
theorem k_109_45 : cod 109 45 = some (.inl .iaload, 1) := rfl
theorem k_109_46 : cod 109 46 = some (.inl (.ifCond .eq 7), 3) := rfl
theorem k_109_49 : cod 109 49 = some (.inl (.iconst 1), 1) := rfl
theorem k_109_50 : cod 109 50 = some (.inl (.goto 4), 3) := rfl
theorem k_109_53 : cod 109 53 = some (.inl (.iconst 0), 1) := rfl
theorem k_109_54 : cod 109 54 = some (.inr (17, 104, 3, 1, 9), 3) := rfl
theorem k_109_57 : cod 109 57 = some (.inl .ireturn, 1) := rfl
theorem k_110_0 : cod 110 0 = some (.inl (.iload_n 1), 1) := rfl
theorem k_110_1 : cod 110 1 = some (.inl (.ifCond .lt 15), 3) := rfl
theorem k_110_4 : cod 110 4 = some (.inl (.iload_n 1), 1) := rfl
theorem k_110_5 : cod 110 5 = some (.inl (.aload_n 0), 1) := rfl
theorem k_110_6 : cod 110 6 = some (.inr (0, 9, 3, 0, 0), 3) := rfl
theorem k_110_9 : cod 110 9 = some (.inl (.if_icmp .ge 7), 3) := rfl
theorem k_110_12 : cod 110 12 = some (.inl (.iconst 1), 1) := rfl
theorem k_110_13 : cod 110 13 = some (.inl (.goto 4), 3) := rfl
theorem k_110_16 : cod 110 16 = some (.inl (.iconst 0), 1) := rfl
theorem k_110_17 : cod 110 17 = some (.inl .ireturn, 1) := rfl
theorem k_111_0 : cod 111 0 = some (.inl (.iload_n 1), 1) := rfl
theorem k_111_1 : cod 111 1 = some (.inl (.ifCond .lt 15), 3) := rfl
theorem k_111_4 : cod 111 4 = some (.inl (.iload_n 1), 1) := rfl
theorem k_111_5 : cod 111 5 = some (.inl (.aload_n 0), 1) := rfl
theorem k_111_6 : cod 111 6 = some (.inr (0, 9, 2, 0, 0), 3) := rfl
theorem k_111_9 : cod 111 9 = some (.inl (.if_icmp .ge 7), 3) := rfl
theorem k_111_12 : cod 111 12 = some (.inl (.iconst 1), 1) := rfl
theorem k_111_13 : cod 111 13 = some (.inl (.goto 4), 3) := rfl
theorem k_111_16 : cod 111 16 = some (.inl (.iconst 0), 1) := rfl
theorem k_111_17 : cod 111 17 = some (.inl .ireturn, 1) := rfl
theorem k_112_0 : cod 112 0 = some (.inl (.iconst 0), 1) := rfl
theorem k_112_1 : cod 112 1 = some (.inl (.istore_n 3), 1) := rfl
theorem k_112_2 : cod 112 2 = some (.inl (.iload_n 3), 1) := rfl
theorem k_112_3 : cod 112 3 = some (.inl (.aload_n 0), 1) := rfl
theorem k_112_4 : cod 112 4 = some (.inr (0, 9, 4, 0, 0), 3) := rfl
theorem k_112_7 : cod 112 7 = some (.inl (.if_icmp .ge 31), 3) := rfl
theorem k_112_10 : cod 112 10 = some (.inl (.aload_n 0), 1) := rfl
theorem k_112_11 : cod 112 11 = some (.inr (0, 9, 16, 0, 0), 3) := rfl
theorem k_112_14 : cod 112 14 = some (.inl (.iload_n 3), 1) := rfl
theorem k_112_15 : cod 112 15 = some (.inl .iaload, 1) := rfl
theorem k_112_16 : cod 112 16 = some (.inl (.iload_n 1), 1) := rfl
theorem k_112_17 : cod 112 17 = some (.inl (.if_icmp .ne 15), 3) := rfl
theorem k_112_20 : cod 112 20 = some (.inl (.aload_n 0), 1) := rfl
theorem k_112_21 : cod 112 21 = some (.inr (0, 9, 17, 0, 0), 3) := rfl
theorem k_112_24 : cod 112 24 = some (.inl (.iload_n 3), 1) := rfl
theorem k_112_25 : cod 112 25 = some (.inl .iaload, 1) := rfl
theorem k_112_26 : cod 112 26 = some (.inl (.iload_n 2), 1) := rfl
theorem k_112_27 : cod 112 27 = some (.inl (.if_icmp .ne 5), 3) := rfl
theorem k_112_30 : cod 112 30 = some (.inl (.iconst 1), 1) := rfl
theorem k_112_31 : cod 112 31 = some (.inl .ireturn, 1) := rfl
theorem k_112_32 : cod 112 32 = some (.inl (.iinc 3 1), 3) := rfl
theorem k_112_35 : cod 112 35 = some (.inl (.goto (-33)), 3) := rfl
theorem k_112_38 : cod 112 38 = some (.inl (.iconst 0), 1) := rfl
theorem k_112_39 : cod 112 39 = some (.inl .ireturn, 1) := rfl
theorem k_113_0 : cod 113 0 = some (.inl (.lconst 0), 1) := rfl
theorem k_113_1 : cod 113 1 = some (.inl (.lstore_n 3), 1) := rfl
theorem k_113_2 : cod 113 2 = some (.inl (.iconst 0), 1) := rfl
theorem k_113_3 : cod 113 3 = some (.inl (.istore 5), 2) := rfl
theorem k_113_5 : cod 113 5 = some (.inl (.iload 5), 2) := rfl
theorem k_113_7 : cod 113 7 = some (.inl (.aload_n 0), 1) := rfl
theorem k_113_8 : cod 113 8 = some (.inr (0, 9, 4, 0, 0), 3) := rfl
theorem k_113_11 : cod 113 11 = some (.inl (.if_icmp .ge 39), 3) := rfl
theorem k_113_14 : cod 113 14 = some (.inl (.aload_n 0), 1) := rfl
theorem k_113_15 : cod 113 15 = some (.inr (0, 9, 16, 0, 0), 3) := rfl
theorem k_113_18 : cod 113 18 = some (.inl (.iload 5), 2) := rfl
theorem k_113_20 : cod 113 20 = some (.inl .iaload, 1) := rfl
theorem k_113_21 : cod 113 21 = some (.inl (.iload_n 1), 1) := rfl
theorem k_113_22 : cod 113 22 = some (.inl (.if_icmp .ne 22), 3) := rfl
theorem k_113_25 : cod 113 25 = some (.inl (.aload_n 0), 1) := rfl
theorem k_113_26 : cod 113 26 = some (.inr (0, 9, 17, 0, 0), 3) := rfl
theorem k_113_29 : cod 113 29 = some (.inl (.iload 5), 2) := rfl
theorem k_113_31 : cod 113 31 = some (.inl .iaload, 1) := rfl
theorem k_113_32 : cod 113 32 = some (.inl (.iload_n 2), 1) := rfl
theorem k_113_33 : cod 113 33 = some (.inl (.if_icmp .ne 11), 3) := rfl
theorem k_113_36 : cod 113 36 = some (.inl (.aload_n 0), 1) := rfl
theorem k_113_37 : cod 113 37 = some (.inr (0, 9, 19, 0, 0), 3) := rfl
theorem k_113_40 : cod 113 40 = some (.inl (.iload 5), 2) := rfl
theorem k_113_42 : cod 113 42 = some (.inl .laload, 1) := rfl
theorem k_113_43 : cod 113 43 = some (.inl (.lstore_n 3), 1) := rfl
theorem k_113_44 : cod 113 44 = some (.inl (.iinc 5 1), 3) := rfl
theorem k_113_47 : cod 113 47 = some (.inl (.goto (-42)), 3) := rfl
theorem k_113_50 : cod 113 50 = some (.inl (.lload_n 3), 1) := rfl
theorem k_113_51 : cod 113 51 = some (.inl .lreturn, 1) := rfl
theorem k_114_0 : cod 114 0 = some (.inl (.aload_n 0), 1) := rfl
theorem k_114_1 : cod 114 1 = some (.inr (0, 9, 12, 0, 0), 3) := rfl
theorem k_114_4 : cod 114 4 = some (.inl (.iload_n 1), 1) := rfl
theorem k_114_5 : cod 114 5 = some (.inl .iaload, 1) := rfl
theorem k_114_6 : cod 114 6 = some (.inl (.ifCond .le 32), 3) := rfl
theorem k_114_9 : cod 114 9 = some (.inl (.aload_n 0), 1) := rfl
theorem k_114_10 : cod 114 10 = some (.inr (0, 9, 12, 0, 0), 3) := rfl
theorem k_114_13 : cod 114 13 = some (.inl (.iload_n 1), 1) := rfl
theorem k_114_14 : cod 114 14 = some (.inl .iaload, 1) := rfl
theorem k_114_15 : cod 114 15 = some (.inl (.aload_n 0), 1) := rfl
theorem k_114_16 : cod 114 16 = some (.inr (0, 9, 13, 0, 0), 3) := rfl
theorem k_114_19 : cod 114 19 = some (.inl (.bipush 6), 2) := rfl
theorem k_114_21 : cod 114 21 = some (.inl (.iload_n 2), 1) := rfl
theorem k_114_22 : cod 114 22 = some (.inl .imul, 1) := rfl
theorem k_114_23 : cod 114 23 = some (.inl (.aload_n 0), 1) := rfl
theorem k_114_24 : cod 114 24 = some (.inr (0, 9, 10, 0, 0), 3) := rfl
theorem k_114_27 : cod 114 27 = some (.inl (.iload_n 1), 1) := rfl
theorem k_114_28 : cod 114 28 = some (.inl .iaload, 1) := rfl
theorem k_114_29 : cod 114 29 = some (.inl .iadd, 1) := rfl
theorem k_114_30 : cod 114 30 = some (.inl .iaload, 1) := rfl
theorem k_114_31 : cod 114 31 = some (.inl (.if_icmp .gt 7), 3) := rfl
theorem k_114_34 : cod 114 34 = some (.inl (.iconst 1), 1) := rfl
theorem k_114_35 : cod 114 35 = some (.inl (.goto 4), 3) := rfl
theorem k_114_38 : cod 114 38 = some (.inl (.iconst 0), 1) := rfl
theorem k_114_39 : cod 114 39 = some (.inl .ireturn, 1) := rfl
theorem k_115_0 : cod 115 0 = some (.inl (.aload_n 0), 1) := rfl
theorem k_115_1 : cod 115 1 = some (.inl (.iload_n 1), 1) := rfl
theorem k_115_2 : cod 115 2 = some (.inl (.iload_n 2), 1) := rfl
theorem k_115_3 : cod 115 3 = some (.inl (.iconst 0), 1) := rfl
theorem k_115_4 : cod 115 4 = some (.inr (17, 109, 4, 1, 9), 3) := rfl
theorem k_115_7 : cod 115 7 = some (.inl (.ifCond .ne 11), 3) := rfl
theorem k_115_10 : cod 115 10 = some (.inl (.aload_n 0), 1) := rfl
theorem k_115_11 : cod 115 11 = some (.inl (.iload_n 1), 1) := rfl
theorem k_115_12 : cod 115 12 = some (.inl (.iload_n 2), 1) := rfl
theorem k_115_13 : cod 115 13 = some (.inl (.lload_n 3), 1) := rfl
theorem k_115_14 : cod 115 14 = some (.inl (.iconst 0), 1) := rfl
theorem k_115_15 : cod 115 15 = some (.inr (17, 116, 5, 1, 9), 3) := rfl
theorem k_115_18 : cod 115 18 = some (.inl .return_, 1) := rfl
theorem k_116_0 : cod 116 0 = some (.inl (.aload_n 0), 1) := rfl
theorem k_116_1 : cod 116 1 = some (.inr (0, 9, 16, 0, 0), 3) := rfl
theorem k_116_4 : cod 116 4 = some (.inl (.aload_n 0), 1) := rfl
theorem k_116_5 : cod 116 5 = some (.inr (0, 9, 4, 0, 0), 3) := rfl
theorem k_116_8 : cod 116 8 = some (.inl (.iload_n 1), 1) := rfl
theorem k_116_9 : cod 116 9 = some (.inl .iastore, 1) := rfl
theorem k_116_10 : cod 116 10 = some (.inl (.aload_n 0), 1) := rfl
theorem k_116_11 : cod 116 11 = some (.inr (0, 9, 17, 0, 0), 3) := rfl
theorem k_116_14 : cod 116 14 = some (.inl (.aload_n 0), 1) := rfl
theorem k_116_15 : cod 116 15 = some (.inr (0, 9, 4, 0, 0), 3) := rfl
theorem k_116_18 : cod 116 18 = some (.inl (.iload_n 2), 1) := rfl
theorem k_116_19 : cod 116 19 = some (.inl .iastore, 1) := rfl
theorem k_116_20 : cod 116 20 = some (.inl (.aload_n 0), 1) := rfl
theorem k_116_21 : cod 116 21 = some (.inr (0, 9, 19, 0, 0), 3) := rfl
theorem k_116_24 : cod 116 24 = some (.inl (.aload_n 0), 1) := rfl
theorem k_116_25 : cod 116 25 = some (.inr (0, 9, 4, 0, 0), 3) := rfl
theorem k_116_28 : cod 116 28 = some (.inl (.lload_n 3), 1) := rfl
theorem k_116_29 : cod 116 29 = some (.inl .lastore, 1) := rfl
theorem k_116_30 : cod 116 30 = some (.inl (.aload_n 0), 1) := rfl
theorem k_116_31 : cod 116 31 = some (.inr (0, 9, 18, 0, 0), 3) := rfl
theorem k_116_34 : cod 116 34 = some (.inl (.aload_n 0), 1) := rfl
theorem k_116_35 : cod 116 35 = some (.inr (0, 9, 4, 0, 0), 3) := rfl
theorem k_116_38 : cod 116 38 = some (.inl (.iload 5), 2) := rfl
theorem k_116_40 : cod 116 40 = some (.inl .iastore, 1) := rfl
theorem k_116_41 : cod 116 41 = some (.inl (.aload_n 0), 1) := rfl
theorem k_116_42 : cod 116 42 = some (.inl .dup, 1) := rfl
theorem k_116_43 : cod 116 43 = some (.inr (0, 9, 4, 0, 0), 3) := rfl
theorem k_116_46 : cod 116 46 = some (.inl (.iconst 1), 1) := rfl
theorem k_116_47 : cod 116 47 = some (.inl .iadd, 1) := rfl
theorem k_116_48 : cod 116 48 = some (.inr (1, 9, 4, 0, 0), 3) := rfl
theorem k_116_51 : cod 116 51 = some (.inl .return_, 1) := rfl
theorem k_117_0 : cod 117 0 = some (.inl (.aload_n 0), 1) := rfl
theorem k_117_1 : cod 117 1 = some (.inl (.iload_n 1), 1) := rfl
theorem k_117_2 : cod 117 2 = some (.inl (.iload_n 2), 1) := rfl
theorem k_117_3 : cod 117 3 = some (.inl (.iconst 1), 1) := rfl
theorem k_117_4 : cod 117 4 = some (.inr (17, 109, 4, 1, 9), 3) := rfl
theorem k_117_7 : cod 117 7 = some (.inl (.ifCond .ne 21), 3) := rfl
theorem k_117_10 : cod 117 10 = some (.inl (.aload_n 0), 1) := rfl
theorem k_117_11 : cod 117 11 = some (.inl (.iload_n 1), 1) := rfl
theorem k_117_12 : cod 117 12 = some (.inl (.iload_n 2), 1) := rfl
theorem k_117_13 : cod 117 13 = some (.inl (.iload_n 3), 1) := rfl
theorem k_117_14 : cod 117 14 = some (.inl .i2l, 1) := rfl
theorem k_117_15 : cod 117 15 = some (.inl (.iload 4), 2) := rfl
theorem k_117_17 : cod 117 17 = some (.inl (.ifCond .eq 7), 3) := rfl
theorem k_117_20 : cod 117 20 = some (.inl (.iconst 1), 1) := rfl
theorem k_117_21 : cod 117 21 = some (.inl (.goto 4), 3) := rfl
theorem k_117_24 : cod 117 24 = some (.inl (.iconst (-1)), 1) := rfl
theorem k_117_25 : cod 117 25 = some (.inr (17, 116, 5, 1, 9), 3) := rfl
theorem k_117_28 : cod 117 28 = some (.inl .return_, 1) := rfl
theorem k_118_0 : cod 118 0 = some (.inl (.aload_n 0), 1) := rfl
theorem k_118_1 : cod 118 1 = some (.inl (.iload_n 1), 1) := rfl
theorem k_118_2 : cod 118 2 = some (.inl (.iload_n 2), 1) := rfl
theorem k_118_3 : cod 118 3 = some (.inl (.iconst 1), 1) := rfl
theorem k_118_4 : cod 118 4 = some (.inr (17, 109, 4, 1, 9), 3) := rfl
theorem k_118_7 : cod 118 7 = some (.inl (.ifCond .eq 7), 3) := rfl
theorem k_118_10 : cod 118 10 = some (.inl (.iconst 0), 1) := rfl
theorem k_118_11 : cod 118 11 = some (.inl (.goto 11), 3) := rfl
theorem k_118_14 : cod 118 14 = some (.inl (.aload_n 0), 1) := rfl
theorem k_118_15 : cod 118 15 = some (.inl (.iload_n 1), 1) := rfl
theorem k_118_16 : cod 118 16 = some (.inl (.iload_n 2), 1) := rfl
theorem k_118_17 : cod 118 17 = some (.inl (.iload_n 3), 1) := rfl
theorem k_118_18 : cod 118 18 = some (.inl .i2l, 1) := rfl
theorem k_118_19 : cod 118 19 = some (.inr (17, 119, 4, 1, 9), 3) := rfl
theorem k_118_22 : cod 118 22 = some (.inl .ireturn, 1) := rfl
theorem k_119_0 : cod 119 0 = some (.inl (.iconst 0), 1) := rfl
theorem k_119_1 : cod 119 1 = some (.inl (.istore 5), 2) := rfl
theorem k_119_3 : cod 119 3 = some (.inl (.iconst 0), 1) := rfl
theorem k_119_4 : cod 119 4 = some (.inl (.istore 6), 2) := rfl
theorem k_119_6 : cod 119 6 = some (.inl (.iload 6), 2) := rfl
theorem k_119_8 : cod 119 8 = some (.inl (.aload_n 0), 1) := rfl
theorem k_119_9 : cod 119 9 = some (.inr (0, 9, 4, 0, 0), 3) := rfl
theorem k_119_12 : cod 119 12 = some (.inl (.if_icmp .ge 70), 3) := rfl
theorem k_119_15 : cod 119 15 = some (.inl (.aload_n 0), 1) := rfl
theorem k_119_16 : cod 119 16 = some (.inr (0, 9, 17, 0, 0), 3) := rfl
theorem k_119_19 : cod 119 19 = some (.inl (.iload 6), 2) := rfl
theorem k_119_21 : cod 119 21 = some (.inl .iaload, 1) := rfl
theorem k_119_22 : cod 119 22 = some (.inl (.iload_n 2), 1) := rfl
theorem k_119_23 : cod 119 23 = some (.inl (.if_icmp .ne 53), 3) := rfl
theorem k_119_26 : cod 119 26 = some (.inl (.aload_n 0), 1) := rfl
theorem k_119_27 : cod 119 27 = some (.inr (0, 9, 19, 0, 0), 3) := rfl
theorem k_119_30 : cod 119 30 = some (.inl (.iload 6), 2) := rfl
theorem k_119_32 : cod 119 32 = some (.inl .laload, 1) := rfl
theorem k_119_33 : cod 119 33 = some (.inl (.lload_n 3), 1) := rfl
theorem k_119_34 : cod 119 34 = some (.inl .lcmp, 1) := rfl
theorem k_119_35 : cod 119 35 = some (.inl (.ifCond .ne 41), 3) := rfl
theorem k_119_38 : cod 119 38 = some (.inl (.aload_n 0), 1) := rfl
theorem k_119_39 : cod 119 39 = some (.inr (0, 9, 16, 0, 0), 3) := rfl
theorem k_119_42 : cod 119 42 = some (.inl (.iload 6), 2) := rfl
theorem k_119_44 : cod 119 44 = some (.inl .iaload, 1) := rfl
theorem k_119_45 : cod 119 45 = some (.inl (.iload_n 1), 1) := rfl
theorem k_119_46 : cod 119 46 = some (.inl (.if_icmp .eq 18), 3) := rfl
theorem k_119_49 : cod 119 49 = some (.inl (.aload_n 0), 1) := rfl
theorem k_119_50 : cod 119 50 = some (.inl (.aload_n 0), 1) := rfl
theorem k_119_51 : cod 119 51 = some (.inr (0, 9, 16, 0, 0), 3) := rfl
theorem k_119_54 : cod 119 54 = some (.inl (.iload 6), 2) := rfl
theorem k_119_56 : cod 119 56 = some (.inl .iaload, 1) := rfl
theorem k_119_57 : cod 119 57 = some (.inl (.iload_n 1), 1) := rfl
theorem k_119_58 : cod 119 58 = some (.inr (17, 114, 3, 1, 9), 3) := rfl
theorem k_119_61 : cod 119 61 = some (.inl (.ifCond .eq 15), 3) := rfl
theorem k_119_64 : cod 119 64 = some (.inl (.iload 5), 2) := rfl
theorem k_119_66 : cod 119 66 = some (.inl (.aload_n 0), 1) := rfl
theorem k_119_67 : cod 119 67 = some (.inr (0, 9, 18, 0, 0), 3) := rfl
theorem k_119_70 : cod 119 70 = some (.inl (.iload 6), 2) := rfl
theorem k_119_72 : cod 119 72 = some (.inl .iaload, 1) := rfl
theorem k_119_73 : cod 119 73 = some (.inl .iadd, 1) := rfl
theorem k_119_74 : cod 119 74 = some (.inl (.istore 5), 2) := rfl
theorem k_119_76 : cod 119 76 = some (.inl (.iinc 6 1), 3) := rfl
theorem k_119_79 : cod 119 79 = some (.inl (.goto (-73)), 3) := rfl
theorem k_119_82 : cod 119 82 = some (.inl (.iload 5), 2) := rfl
theorem k_119_84 : cod 119 84 = some (.inl .ireturn, 1) := rfl
theorem k_120_0 : cod 120 0 = some (.inl (.aload_n 0), 1) := rfl
theorem k_120_1 : cod 120 1 = some (.inl (.iload_n 1), 1) := rfl
theorem k_120_2 : cod 120 2 = some (.inl (.iload_n 2), 1) := rfl
theorem k_120_3 : cod 120 3 = some (.inl (.iconst 1), 1) := rfl
theorem k_120_4 : cod 120 4 = some (.inr (17, 109, 4, 1, 9), 3) := rfl
theorem k_120_7 : cod 120 7 = some (.inl (.ifCond .eq 5), 3) := rfl
theorem k_120_10 : cod 120 10 = some (.inl (.iconst 0), 1) := rfl
theorem k_120_11 : cod 120 11 = some (.inl .ireturn, 1) := rfl
theorem k_120_12 : cod 120 12 = some (.inr (15, 9223372036854775808, 1, 0, 0), 3) := rfl
theorem k_120_15 : cod 120 15 = some (.inl (.lstore 4), 2) := rfl
theorem k_120_17 : cod 120 17 = some (.inl (.iconst 0), 1) := rfl
theorem k_120_18 : cod 120 18 = some (.inl (.istore 6), 2) := rfl
theorem k_120_20 : cod 120 20 = some (.inl (.iload 6), 2) := rfl
theorem k_120_22 : cod 120 22 = some (.inl (.iload_n 3), 1) := rfl
theorem k_120_23 : cod 120 23 = some (.inl (.if_icmp .gt 113), 3) := rfl
theorem k_120_26 : cod 120 26 = some (.inr (15, 9223372036854775807, 0, 0, 0), 3) := rfl
theorem k_120_29 : cod 120 29 = some (.inl (.lstore 7), 2) := rfl
theorem k_120_31 : cod 120 31 = some (.inl (.iconst 0), 1) := rfl
theorem k_120_32 : cod 120 32 = some (.inl (.istore 9), 2) := rfl
theorem k_120_34 : cod 120 34 = some (.inl (.iload 9), 2) := rfl
theorem k_120_36 : cod 120 36 = some (.inl (.aload_n 0), 1) := rfl
theorem k_120_37 : cod 120 37 = some (.inr (0, 9, 4, 0, 0), 3) := rfl
theorem k_120_40 : cod 120 40 = some (.inl (.if_icmp .ge 71), 3) := rfl
theorem k_120_43 : cod 120 43 = some (.inl (.aload_n 0), 1) := rfl
theorem k_120_44 : cod 120 44 = some (.inr (0, 9, 17, 0, 0), 3) := rfl
theorem k_120_47 : cod 120 47 = some (.inl (.iload 9), 2) := rfl
theorem k_120_49 : cod 120 49 = some (.inl .iaload, 1) := rfl
theorem k_120_50 : cod 120 50 = some (.inl (.iload_n 2), 1) := rfl
theorem k_120_51 : cod 120 51 = some (.inl (.if_icmp .ne 54), 3) := rfl
theorem k_120_54 : cod 120 54 = some (.inl (.aload_n 0), 1) := rfl
theorem k_120_55 : cod 120 55 = some (.inr (0, 9, 19, 0, 0), 3) := rfl
theorem k_120_58 : cod 120 58 = some (.inl (.iload 9), 2) := rfl
theorem k_120_60 : cod 120 60 = some (.inl .laload, 1) := rfl
theorem k_120_61 : cod 120 61 = some (.inl (.lload 4), 2) := rfl
theorem k_120_63 : cod 120 63 = some (.inl .lcmp, 1) := rfl
theorem k_120_64 : cod 120 64 = some (.inl (.ifCond .le 41), 3) := rfl
theorem k_120_67 : cod 120 67 = some (.inl (.aload_n 0), 1) := rfl
theorem k_120_68 : cod 120 68 = some (.inr (0, 9, 19, 0, 0), 3) := rfl
theorem k_120_71 : cod 120 71 = some (.inl (.iload 9), 2) := rfl
theorem k_120_73 : cod 120 73 = some (.inl .laload, 1) := rfl
theorem k_120_74 : cod 120 74 = some (.inl (.lload 7), 2) := rfl
theorem k_120_76 : cod 120 76 = some (.inl .lcmp, 1) := rfl
theorem k_120_77 : cod 120 77 = some (.inl (.ifCond .ge 28), 3) := rfl
theorem k_120_80 : cod 120 80 = some (.inl (.aload_n 0), 1) := rfl
theorem k_120_81 : cod 120 81 = some (.inl (.iload_n 1), 1) := rfl
theorem k_120_82 : cod 120 82 = some (.inl (.iload_n 2), 1) := rfl
theorem k_120_83 : cod 120 83 = some (.inl (.aload_n 0), 1) := rfl
theorem k_120_84 : cod 120 84 = some (.inr (0, 9, 19, 0, 0), 3) := rfl
theorem k_120_87 : cod 120 87 = some (.inl (.iload 9), 2) := rfl
theorem k_120_89 : cod 120 89 = some (.inl .laload, 1) := rfl
theorem k_120_90 : cod 120 90 = some (.inr (17, 119, 4, 1, 9), 3) := rfl
theorem k_120_93 : cod 120 93 = some (.inl (.ifCond .eq 12), 3) := rfl
theorem k_120_96 : cod 120 96 = some (.inl (.aload_n 0), 1) := rfl
theorem k_120_97 : cod 120 97 = some (.inr (0, 9, 19, 0, 0), 3) := rfl
theorem k_120_100 : cod 120 100 = some (.inl (.iload 9), 2) := rfl
theorem k_120_102 : cod 120 102 = some (.inl .laload, 1) := rfl
theorem k_120_103 : cod 120 103 = some (.inl (.lstore 7), 2) := rfl
theorem k_120_105 : cod 120 105 = some (.inl (.iinc 9 1), 3) := rfl
theorem k_120_108 : cod 120 108 = some (.inl (.goto (-74)), 3) := rfl
theorem k_120_111 : cod 120 111 = some (.inl (.lload 7), 2) := rfl
theorem k_120_113 : cod 120 113 = some (.inr (15, 9223372036854775807, 0, 0, 0), 3) := rfl
theorem k_120_116 : cod 120 116 = some (.inl .lcmp, 1) := rfl
theorem k_120_117 : cod 120 117 = some (.inl (.ifCond .ne 9), 3) := rfl
theorem k_120_120 : cod 120 120 = some (.inl (.aload_n 0), 1) := rfl
theorem k_120_121 : cod 120 121 = some (.inl (.iconst 3), 1) := rfl
theorem k_120_122 : cod 120 122 = some (.inr (17, 121, 2, 1, 9), 3) := rfl
theorem k_120_125 : cod 120 125 = some (.inl .ireturn, 1) := rfl
theorem k_120_126 : cod 120 126 = some (.inl (.lload 7), 2) := rfl
theorem k_120_128 : cod 120 128 = some (.inl (.lstore 4), 2) := rfl
theorem k_120_130 : cod 120 130 = some (.inl (.iinc 6 1), 3) := rfl
theorem k_120_133 : cod 120 133 = some (.inl (.goto (-113)), 3) := rfl
theorem k_120_136 : cod 120 136 = some (.inl (.iload_n 3), 1) := rfl
theorem k_120_137 : cod 120 137 = some (.inl (.ifCond .ge 11), 3) := rfl
theorem k_120_140 : cod 120 140 = some (.inl (.aload_n 0), 1) := rfl
theorem k_120_141 : cod 120 141 = some (.inl (.iconst 3), 1) := rfl
theorem k_120_142 : cod 120 142 = some (.inr (17, 121, 2, 1, 9), 3) := rfl
theorem k_120_145 : cod 120 145 = some (.inl (.goto 6), 3) := rfl
theorem k_120_148 : cod 120 148 = some (.inl (.lload 4), 2) := rfl
theorem k_120_150 : cod 120 150 = some (.inl .l2i, 1) := rfl
theorem k_120_151 : cod 120 151 = some (.inl .ireturn, 1) := rfl
theorem k_121_0 : cod 121 0 = some (.inl (.aload_n 0), 1) := rfl
theorem k_121_1 : cod 121 1 = some (.inl (.iload_n 1), 1) := rfl
theorem k_121_2 : cod 121 2 = some (.inr (1, 9, 0, 0, 0), 3) := rfl
theorem k_121_5 : cod 121 5 = some (.inl (.iconst 0), 1) := rfl
theorem k_121_6 : cod 121 6 = some (.inl .ireturn, 1) := rfl
theorem k_122_0 : cod 122 0 = some (.inl (.aload_n 0), 1) := rfl
theorem k_122_1 : cod 122 1 = some (.inl (.aload_n 0), 1) := rfl
theorem k_122_2 : cod 122 2 = some (.inl (.iload_n 1), 1) := rfl
theorem k_122_3 : cod 122 3 = some (.inr (17, 110, 2, 1, 9), 3) := rfl
theorem k_122_6 : cod 122 6 = some (.inl (.ifCond .ne 7), 3) := rfl
theorem k_122_9 : cod 122 9 = some (.inl (.iconst 1), 1) := rfl
theorem k_122_10 : cod 122 10 = some (.inl (.goto 4), 3) := rfl
theorem k_122_13 : cod 122 13 = some (.inl (.iconst 0), 1) := rfl
theorem k_122_14 : cod 122 14 = some (.inl (.aload_n 0), 1) := rfl
theorem k_122_15 : cod 122 15 = some (.inl (.iload_n 1), 1) := rfl
theorem k_122_16 : cod 122 16 = some (.inr (17, 110, 2, 1, 9), 3) := rfl
theorem k_122_19 : cod 122 19 = some (.inl (.ifCond .eq 16), 3) := rfl
theorem k_122_22 : cod 122 22 = some (.inl (.aload_n 0), 1) := rfl
theorem k_122_23 : cod 122 23 = some (.inr (0, 9, 11, 0, 0), 3) := rfl
theorem k_122_26 : cod 122 26 = some (.inl (.iload_n 1), 1) := rfl
theorem k_122_27 : cod 122 27 = some (.inl .iaload, 1) := rfl
theorem k_122_28 : cod 122 28 = some (.inl (.ifCond .eq 7), 3) := rfl
theorem k_122_31 : cod 122 31 = some (.inl (.iconst 1), 1) := rfl
theorem k_122_32 : cod 122 32 = some (.inl (.goto 4), 3) := rfl
theorem k_122_35 : cod 122 35 = some (.inl (.iconst 0), 1) := rfl
theorem k_122_36 : cod 122 36 = some (.inr (17, 104, 3, 1, 9), 3) := rfl
theorem k_122_39 : cod 122 39 = some (.inl (.ifCond .eq 5), 3) := rfl
theorem k_122_42 : cod 122 42 = some (.inl (.iconst 0), 1) := rfl
theorem k_122_43 : cod 122 43 = some (.inl .ireturn, 1) := rfl
theorem k_122_44 : cod 122 44 = some (.inl (.iconst 0), 1) := rfl
theorem k_122_45 : cod 122 45 = some (.inl (.istore_n 2), 1) := rfl
theorem k_122_46 : cod 122 46 = some (.inl (.iconst 0), 1) := rfl
theorem k_122_47 : cod 122 47 = some (.inl (.istore_n 3), 1) := rfl
theorem k_122_48 : cod 122 48 = some (.inl (.iconst 0), 1) := rfl
theorem k_122_49 : cod 122 49 = some (.inl (.istore 4), 2) := rfl
theorem k_122_51 : cod 122 51 = some (.inl (.aload_n 0), 1) := rfl
theorem k_122_52 : cod 122 52 = some (.inr (0, 9, 10, 0, 0), 3) := rfl
theorem k_122_55 : cod 122 55 = some (.inl (.iload_n 1), 1) := rfl
theorem k_122_56 : cod 122 56 = some (.inl .iaload, 1) := rfl
theorem k_122_57 : cod 122 57 = some (.inl (.istore 5), 2) := rfl
theorem k_122_59 : cod 122 59 = some (.inl (.iconst 0), 1) := rfl
theorem k_122_60 : cod 122 60 = some (.inl (.istore 6), 2) := rfl
theorem k_122_62 : cod 122 62 = some (.inl (.iload 6), 2) := rfl
theorem k_122_64 : cod 122 64 = some (.inl (.aload_n 0), 1) := rfl
theorem k_122_65 : cod 122 65 = some (.inr (0, 9, 4, 0, 0), 3) := rfl
theorem k_122_68 : cod 122 68 = some (.inl (.if_icmp .ge 77), 3) := rfl
theorem k_122_71 : cod 122 71 = some (.inl (.aload_n 0), 1) := rfl
theorem k_122_72 : cod 122 72 = some (.inr (0, 9, 16, 0, 0), 3) := rfl
theorem k_122_75 : cod 122 75 = some (.inl (.iload 6), 2) := rfl
theorem k_122_77 : cod 122 77 = some (.inl .iaload, 1) := rfl
theorem k_122_78 : cod 122 78 = some (.inl (.iload_n 1), 1) := rfl
theorem k_122_79 : cod 122 79 = some (.inl (.if_icmp .eq 6), 3) := rfl
theorem k_122_82 : cod 122 82 = some (.inl (.goto 57), 3) := rfl
theorem k_122_85 : cod 122 85 = some (.inl (.iconst 1), 1) := rfl
theorem k_122_86 : cod 122 86 = some (.inl (.istore_n 3), 1) := rfl
theorem k_122_87 : cod 122 87 = some (.inl (.aload_n 0), 1) := rfl
theorem k_122_88 : cod 122 88 = some (.inr (0, 9, 9, 0, 0), 3) := rfl
theorem k_122_91 : cod 122 91 = some (.inl (.aload_n 0), 1) := rfl
theorem k_122_92 : cod 122 92 = some (.inr (0, 9, 17, 0, 0), 3) := rfl
theorem k_122_95 : cod 122 95 = some (.inl (.iload 6), 2) := rfl
theorem k_122_97 : cod 122 97 = some (.inl .iaload, 1) := rfl
theorem k_122_98 : cod 122 98 = some (.inl .baload, 1) := rfl
theorem k_122_99 : cod 122 99 = some (.inl (.ifCond .ne 5), 3) := rfl
theorem k_122_102 : cod 122 102 = some (.inl (.iconst 1), 1) := rfl
theorem k_122_103 : cod 122 103 = some (.inl (.istore_n 2), 1) := rfl
theorem k_122_104 : cod 122 104 = some (.inl (.aload_n 0), 1) := rfl
theorem k_122_105 : cod 122 105 = some (.inr (0, 9, 9, 0, 0), 3) := rfl
theorem k_122_108 : cod 122 108 = some (.inl (.aload_n 0), 1) := rfl
theorem k_122_109 : cod 122 109 = some (.inr (0, 9, 17, 0, 0), 3) := rfl
theorem k_122_112 : cod 122 112 = some (.inl (.iload 6), 2) := rfl
theorem k_122_114 : cod 122 114 = some (.inl .iaload, 1) := rfl
theorem k_122_115 : cod 122 115 = some (.inl .baload, 1) := rfl
theorem k_122_116 : cod 122 116 = some (.inl (.ifCond .ne 23), 3) := rfl
theorem k_122_119 : cod 122 119 = some (.inl (.aload_n 0), 1) := rfl
theorem k_122_120 : cod 122 120 = some (.inr (0, 9, 7, 0, 0), 3) := rfl
theorem k_122_123 : cod 122 123 = some (.inl (.aload_n 0), 1) := rfl
theorem k_122_124 : cod 122 124 = some (.inr (0, 9, 17, 0, 0), 3) := rfl
theorem k_122_127 : cod 122 127 = some (.inl (.iload 6), 2) := rfl
theorem k_122_129 : cod 122 129 = some (.inl .iaload, 1) := rfl
theorem k_122_130 : cod 122 130 = some (.inl .iaload, 1) := rfl
theorem k_122_131 : cod 122 131 = some (.inl (.iload 5), 2) := rfl
theorem k_122_133 : cod 122 133 = some (.inl (.if_icmp .eq 6), 3) := rfl
theorem k_122_136 : cod 122 136 = some (.inl (.iconst 1), 1) := rfl
theorem k_122_137 : cod 122 137 = some (.inl (.istore 4), 2) := rfl
theorem k_122_139 : cod 122 139 = some (.inl (.iinc 6 1), 3) := rfl
theorem k_122_142 : cod 122 142 = some (.inl (.goto (-80)), 3) := rfl
theorem k_122_145 : cod 122 145 = some (.inl (.iload_n 3), 1) := rfl
theorem k_122_146 : cod 122 146 = some (.inl (.ifCond .ne 13), 3) := rfl
theorem k_122_149 : cod 122 149 = some (.inl (.aload_n 0), 1) := rfl
theorem k_122_150 : cod 122 150 = some (.inr (0, 9, 11, 0, 0), 3) := rfl
theorem k_122_153 : cod 122 153 = some (.inl (.iload_n 1), 1) := rfl
theorem k_122_154 : cod 122 154 = some (.inl (.iconst 1), 1) := rfl
theorem k_122_155 : cod 122 155 = some (.inl .iastore, 1) := rfl
theorem k_122_156 : cod 122 156 = some (.inl (.goto 120), 3) := rfl
theorem k_122_159 : cod 122 159 = some (.inl (.iload_n 2), 1) := rfl
theorem k_122_160 : cod 122 160 = some (.inl (.ifCond .ne 11), 3) := rfl
theorem k_122_163 : cod 122 163 = some (.inl (.aload_n 0), 1) := rfl
theorem k_122_164 : cod 122 164 = some (.inl (.iload_n 1), 1) := rfl
theorem k_122_165 : cod 122 165 = some (.inr (17, 123, 2, 1, 9), 3) := rfl
theorem k_122_168 : cod 122 168 = some (.inl (.goto 108), 3) := rfl
theorem k_122_171 : cod 122 171 = some (.inl (.aload_n 0), 1) := rfl
theorem k_122_172 : cod 122 172 = some (.inl (.iload_n 1), 1) := rfl
theorem k_122_173 : cod 122 173 = some (.inl (.iload 5), 2) := rfl
theorem k_122_175 : cod 122 175 = some (.inr (17, 128, 3, 1, 9), 3) := rfl
theorem k_122_178 : cod 122 178 = some (.inl (.ifCond .eq 13), 3) := rfl
theorem k_122_181 : cod 122 181 = some (.inl (.aload_n 0), 1) := rfl
theorem k_122_182 : cod 122 182 = some (.inr (0, 9, 11, 0, 0), 3) := rfl
theorem k_122_185 : cod 122 185 = some (.inl (.iload_n 1), 1) := rfl
theorem k_122_186 : cod 122 186 = some (.inl (.iconst 2), 1) := rfl
theorem k_122_187 : cod 122 187 = some (.inl .iastore, 1) := rfl
theorem k_122_188 : cod 122 188 = some (.inl (.goto 88), 3) := rfl
theorem k_122_191 : cod 122 191 = some (.inl (.iload 4), 2) := rfl
theorem k_122_193 : cod 122 193 = some (.inl (.ifCond .ne 11), 3) := rfl
theorem k_122_196 : cod 122 196 = some (.inl (.aload_n 0), 1) := rfl
theorem k_122_197 : cod 122 197 = some (.inl (.iload_n 1), 1) := rfl
theorem k_122_198 : cod 122 198 = some (.inr (17, 123, 2, 1, 9), 3) := rfl
theorem k_122_201 : cod 122 201 = some (.inl (.goto 75), 3) := rfl
theorem k_122_204 : cod 122 204 = some (.inl (.aload_n 0), 1) := rfl
theorem k_122_205 : cod 122 205 = some (.inl (.iload_n 1), 1) := rfl
theorem k_122_206 : cod 122 206 = some (.inl (.iload 5), 2) := rfl
theorem k_122_208 : cod 122 208 = some (.inr (17, 130, 3, 1, 9), 3) := rfl
theorem k_122_211 : cod 122 211 = some (.inl (.aload_n 0), 1) := rfl
theorem k_122_212 : cod 122 212 = some (.inr (0, 9, 11, 0, 0), 3) := rfl
theorem k_122_215 : cod 122 215 = some (.inl (.iload_n 1), 1) := rfl
theorem k_122_216 : cod 122 216 = some (.inl (.iconst 3), 1) := rfl
theorem k_122_217 : cod 122 217 = some (.inl .iastore, 1) := rfl
theorem k_122_218 : cod 122 218 = some (.inl (.iconst 0), 1) := rfl
theorem k_122_219 : cod 122 219 = some (.inl (.istore 6), 2) := rfl
theorem k_122_221 : cod 122 221 = some (.inl (.iload 6), 2) := rfl
theorem k_122_223 : cod 122 223 = some (.inl (.aload_n 0), 1) := rfl
theorem k_122_224 : cod 122 224 = some (.inr (0, 9, 1, 0, 0), 3) := rfl
theorem k_122_227 : cod 122 227 = some (.inl (.if_icmp .ge 49), 3) := rfl
theorem k_122_230 : cod 122 230 = some (.inl (.iload 6), 2) := rfl
theorem k_122_232 : cod 122 232 = some (.inl (.iload 5), 2) := rfl
theorem k_122_234 : cod 122 234 = some (.inl (.if_icmp .eq 36), 3) := rfl
theorem k_122_237 : cod 122 237 = some (.inl (.aload_n 0), 1) := rfl
theorem k_122_238 : cod 122 238 = some (.inl (.iload_n 1), 1) := rfl
theorem k_122_239 : cod 122 239 = some (.inl (.iload 6), 2) := rfl
theorem k_122_241 : cod 122 241 = some (.inr (17, 131, 3, 1, 9), 3) := rfl
theorem k_122_244 : cod 122 244 = some (.inl (.ifCond .ne 6), 3) := rfl
theorem k_122_247 : cod 122 247 = some (.inl (.goto 23), 3) := rfl
theorem k_122_250 : cod 122 250 = some (.inl (.aload_n 0), 1) := rfl
theorem k_122_251 : cod 122 251 = some (.inl (.iload 5), 2) := rfl
theorem k_122_253 : cod 122 253 = some (.inl (.iload 6), 2) := rfl
theorem k_122_255 : cod 122 255 = some (.inl (.iconst 1), 1) := rfl
theorem k_122_256 : cod 122 256 = some (.inl (.iload_n 1), 1) := rfl
theorem k_122_257 : cod 122 257 = some (.inr (17, 125, 5, 1, 9), 3) := rfl
theorem k_122_260 : cod 122 260 = some (.inl (.aload_n 0), 1) := rfl
theorem k_122_261 : cod 122 261 = some (.inr (0, 9, 15, 0, 0), 3) := rfl
theorem k_122_264 : cod 122 264 = some (.inl (.iload_n 1), 1) := rfl
theorem k_122_265 : cod 122 265 = some (.inl .dup2, 1) := rfl
theorem k_122_266 : cod 122 266 = some (.inl .iaload, 1) := rfl
theorem k_122_267 : cod 122 267 = some (.inl (.iconst 1), 1) := rfl
theorem k_122_268 : cod 122 268 = some (.inl .iadd, 1) := rfl
theorem k_122_269 : cod 122 269 = some (.inl .iastore, 1) := rfl
theorem k_122_270 : cod 122 270 = some (.inl (.iinc 6 1), 3) := rfl
theorem k_122_273 : cod 122 273 = some (.inl (.goto (-52)), 3) := rfl
theorem k_122_276 : cod 122 276 = some (.inl (.aload_n 0), 1) := rfl
theorem k_122_277 : cod 122 277 = some (.inr (0, 9, 11, 0, 0), 3) := rfl
theorem k_122_280 : cod 122 280 = some (.inl (.iload_n 1), 1) := rfl
theorem k_122_281 : cod 122 281 = some (.inl .iaload, 1) := rfl
theorem k_122_282 : cod 122 282 = some (.inl .ireturn, 1) := rfl
theorem k_123_0 : cod 123 0 = some (.inl (.aload_n 0), 1) := rfl
theorem k_123_1 : cod 123 1 = some (.inr (0, 9, 10, 0, 0), 3) := rfl
theorem k_123_4 : cod 123 4 = some (.inl (.iload_n 1), 1) := rfl
theorem k_123_5 : cod 123 5 = some (.inl .iaload, 1) := rfl
theorem k_123_6 : cod 123 6 = some (.inl (.istore_n 2), 1) := rfl
theorem k_123_7 : cod 123 7 = some (.inl (.aload_n 0), 1) := rfl
theorem k_123_8 : cod 123 8 = some (.inr (0, 9, 11, 0, 0), 3) := rfl
theorem k_123_11 : cod 123 11 = some (.inl (.iload_n 1), 1) := rfl
theorem k_123_12 : cod 123 12 = some (.inl (.iconst 1), 1) := rfl
theorem k_123_13 : cod 123 13 = some (.inl .iastore, 1) := rfl
theorem k_123_14 : cod 123 14 = some (.inl (.aload_n 0), 1) := rfl
theorem k_123_15 : cod 123 15 = some (.inr (0, 9, 21, 0, 0), 3) := rfl
theorem k_123_18 : cod 123 18 = some (.inl (.iload_n 2), 1) := rfl
theorem k_123_19 : cod 123 19 = some (.inl .dup2, 1) := rfl
theorem k_123_20 : cod 123 20 = some (.inl .iaload, 1) := rfl
theorem k_123_21 : cod 123 21 = some (.inl (.iconst 1), 1) := rfl
theorem k_123_22 : cod 123 22 = some (.inl .iadd, 1) := rfl
theorem k_123_23 : cod 123 23 = some (.inl .iastore, 1) := rfl
theorem k_123_24 : cod 123 24 = some (.inl (.aload_n 0), 1) := rfl
theorem k_123_25 : cod 123 25 = some (.inl .dup, 1) := rfl
theorem k_123_26 : cod 123 26 = some (.inr (0, 9, 6, 0, 0), 3) := rfl
theorem k_123_29 : cod 123 29 = some (.inl (.iconst 1), 1) := rfl
theorem k_123_30 : cod 123 30 = some (.inl .iadd, 1) := rfl
theorem k_123_31 : cod 123 31 = some (.inr (1, 9, 6, 0, 0), 3) := rfl
theorem k_123_34 : cod 123 34 = some (.inl (.aload_n 0), 1) := rfl
theorem k_123_35 : cod 123 35 = some (.inr (0, 9, 12, 0, 0), 3) := rfl
theorem k_123_38 : cod 123 38 = some (.inl (.iload_n 1), 1) := rfl
theorem k_123_39 : cod 123 39 = some (.inl (.aload_n 0), 1) := rfl
theorem k_123_40 : cod 123 40 = some (.inr (0, 9, 21, 0, 0), 3) := rfl
theorem k_123_43 : cod 123 43 = some (.inl (.iload_n 2), 1) := rfl
theorem k_123_44 : cod 123 44 = some (.inl .iaload, 1) := rfl
theorem k_123_45 : cod 123 45 = some (.inl .iastore, 1) := rfl
theorem k_123_46 : cod 123 46 = some (.inl (.aload_n 0), 1) := rfl
theorem k_123_47 : cod 123 47 = some (.inr (0, 9, 22, 0, 0), 3) := rfl
theorem k_123_50 : cod 123 50 = some (.inl (.iload_n 2), 1) := rfl
theorem k_123_51 : cod 123 51 = some (.inl (.sipush 501), 3) := rfl
theorem k_123_54 : cod 123 54 = some (.inl .imul, 1) := rfl
theorem k_123_55 : cod 123 55 = some (.inl (.aload_n 0), 1) := rfl
theorem k_123_56 : cod 123 56 = some (.inr (0, 9, 21, 0, 0), 3) := rfl
theorem k_123_59 : cod 123 59 = some (.inl (.iload_n 2), 1) := rfl
theorem k_123_60 : cod 123 60 = some (.inl .iaload, 1) := rfl
theorem k_123_61 : cod 123 61 = some (.inl .iadd, 1) := rfl
theorem k_123_62 : cod 123 62 = some (.inl (.iload_n 1), 1) := rfl
theorem k_123_63 : cod 123 63 = some (.inl .iastore, 1) := rfl
theorem k_123_64 : cod 123 64 = some (.inl (.aload_n 0), 1) := rfl
theorem k_123_65 : cod 123 65 = some (.inr (0, 9, 20, 0, 0), 3) := rfl
theorem k_123_68 : cod 123 68 = some (.inl (.bipush 6), 2) := rfl
theorem k_123_70 : cod 123 70 = some (.inl (.iload_n 2), 1) := rfl
theorem k_123_71 : cod 123 71 = some (.inl .imul, 1) := rfl
theorem k_123_72 : cod 123 72 = some (.inl (.iload_n 2), 1) := rfl
theorem k_123_73 : cod 123 73 = some (.inl .iadd, 1) := rfl
theorem k_123_74 : cod 123 74 = some (.inl (.aload_n 0), 1) := rfl
theorem k_123_75 : cod 123 75 = some (.inr (0, 9, 21, 0, 0), 3) := rfl
theorem k_123_78 : cod 123 78 = some (.inl (.iload_n 2), 1) := rfl
theorem k_123_79 : cod 123 79 = some (.inl .iaload, 1) := rfl
theorem k_123_80 : cod 123 80 = some (.inl .iastore, 1) := rfl
theorem k_123_81 : cod 123 81 = some (.inl (.aload_n 0), 1) := rfl
theorem k_123_82 : cod 123 82 = some (.inl (.iload_n 1), 1) := rfl
theorem k_123_83 : cod 123 83 = some (.inl (.iload_n 2), 1) := rfl
theorem k_123_84 : cod 123 84 = some (.inr (17, 124, 3, 1, 9), 3) := rfl
theorem k_123_87 : cod 123 87 = some (.inl (.iconst 0), 1) := rfl
theorem k_123_88 : cod 123 88 = some (.inl (.istore_n 3), 1) := rfl
theorem k_123_89 : cod 123 89 = some (.inl (.iload_n 3), 1) := rfl
theorem k_123_90 : cod 123 90 = some (.inl (.aload_n 0), 1) := rfl
theorem k_123_91 : cod 123 91 = some (.inr (0, 9, 1, 0, 0), 3) := rfl
theorem k_123_94 : cod 123 94 = some (.inl (.if_icmp .ge 22), 3) := rfl
theorem k_123_97 : cod 123 97 = some (.inl (.iload_n 3), 1) := rfl
theorem k_123_98 : cod 123 98 = some (.inl (.iload_n 2), 1) := rfl
theorem k_123_99 : cod 123 99 = some (.inl (.if_icmp .eq 11), 3) := rfl
theorem k_123_102 : cod 123 102 = some (.inl (.aload_n 0), 1) := rfl
theorem k_123_103 : cod 123 103 = some (.inl (.iload_n 2), 1) := rfl
theorem k_123_104 : cod 123 104 = some (.inl (.iload_n 3), 1) := rfl
theorem k_123_105 : cod 123 105 = some (.inl (.iconst 5), 1) := rfl
theorem k_123_106 : cod 123 106 = some (.inl (.iload_n 1), 1) := rfl
theorem k_123_107 : cod 123 107 = some (.inr (17, 125, 5, 1, 9), 3) := rfl
theorem k_123_110 : cod 123 110 = some (.inl (.iinc 3 1), 3) := rfl
theorem k_123_113 : cod 123 113 = some (.inl (.goto (-24)), 3) := rfl
theorem k_123_116 : cod 123 116 = some (.inl (.aload_n 0), 1) := rfl
theorem k_123_117 : cod 123 117 = some (.inl (.iload_n 2), 1) := rfl
theorem k_123_118 : cod 123 118 = some (.inr (17, 126, 2, 1, 9), 3) := rfl
theorem k_123_121 : cod 123 121 = some (.inl .return_, 1) := rfl
theorem k_124_0 : cod 124 0 = some (.inl (.iconst 0), 1) := rfl
theorem k_124_1 : cod 124 1 = some (.inl (.istore_n 3), 1) := rfl
theorem k_124_2 : cod 124 2 = some (.inl (.iload_n 3), 1) := rfl
theorem k_124_3 : cod 124 3 = some (.inl (.aload_n 0), 1) := rfl
theorem k_124_4 : cod 124 4 = some (.inr (0, 9, 2, 0, 0), 3) := rfl
theorem k_124_7 : cod 124 7 = some (.inl (.if_icmp .ge 36), 3) := rfl
theorem k_124_10 : cod 124 10 = some (.inl (.aload_n 0), 1) := rfl
theorem k_124_11 : cod 124 11 = some (.inr (0, 9, 7, 0, 0), 3) := rfl
theorem k_124_14 : cod 124 14 = some (.inl (.iload_n 3), 1) := rfl
theorem k_124_15 : cod 124 15 = some (.inl .iaload, 1) := rfl
theorem k_124_16 : cod 124 16 = some (.inl (.iload_n 2), 1) := rfl
theorem k_124_17 : cod 124 17 = some (.inl (.if_icmp .ne 20), 3) := rfl
theorem k_124_20 : cod 124 20 = some (.inl (.aload_n 0), 1) := rfl
theorem k_124_21 : cod 124 21 = some (.inr (0, 9, 8, 0, 0), 3) := rfl
theorem k_124_24 : cod 124 24 = some (.inl (.iload_n 3), 1) := rfl
theorem k_124_25 : cod 124 25 = some (.inl .iaload, 1) := rfl
theorem k_124_26 : cod 124 26 = some (.inl (.iload_n 1), 1) := rfl
theorem k_124_27 : cod 124 27 = some (.inl (.if_icmp .ne 10), 3) := rfl
theorem k_124_30 : cod 124 30 = some (.inl (.aload_n 0), 1) := rfl
theorem k_124_31 : cod 124 31 = some (.inr (0, 9, 8, 0, 0), 3) := rfl
theorem k_124_34 : cod 124 34 = some (.inl (.iload_n 3), 1) := rfl
theorem k_124_35 : cod 124 35 = some (.inl (.iconst (-1)), 1) := rfl
theorem k_124_36 : cod 124 36 = some (.inl .iastore, 1) := rfl
theorem k_124_37 : cod 124 37 = some (.inl (.iinc 3 1), 3) := rfl
theorem k_124_40 : cod 124 40 = some (.inl (.goto (-38)), 3) := rfl
theorem k_124_43 : cod 124 43 = some (.inl .return_, 1) := rfl
theorem k_125_0 : cod 125 0 = some (.inl (.aload_n 0), 1) := rfl
theorem k_125_1 : cod 125 1 = some (.inr (0, 9, 23, 0, 0), 3) := rfl
theorem k_125_4 : cod 125 4 = some (.inl (.aload_n 0), 1) := rfl
theorem k_125_5 : cod 125 5 = some (.inr (0, 9, 5, 0, 0), 3) := rfl
theorem k_125_8 : cod 125 8 = some (.inl (.iload_n 1), 1) := rfl
theorem k_125_9 : cod 125 9 = some (.inl .iastore, 1) := rfl
theorem k_125_10 : cod 125 10 = some (.inl (.aload_n 0), 1) := rfl
theorem k_125_11 : cod 125 11 = some (.inr (0, 9, 24, 0, 0), 3) := rfl
theorem k_125_14 : cod 125 14 = some (.inl (.aload_n 0), 1) := rfl
theorem k_125_15 : cod 125 15 = some (.inr (0, 9, 5, 0, 0), 3) := rfl
theorem k_125_18 : cod 125 18 = some (.inl (.iload_n 2), 1) := rfl
theorem k_125_19 : cod 125 19 = some (.inl .iastore, 1) := rfl
theorem k_125_20 : cod 125 20 = some (.inl (.aload_n 0), 1) := rfl
theorem k_125_21 : cod 125 21 = some (.inr (0, 9, 25, 0, 0), 3) := rfl
theorem k_125_24 : cod 125 24 = some (.inl (.aload_n 0), 1) := rfl
theorem k_125_25 : cod 125 25 = some (.inr (0, 9, 5, 0, 0), 3) := rfl
theorem k_125_28 : cod 125 28 = some (.inl (.iload_n 3), 1) := rfl
theorem k_125_29 : cod 125 29 = some (.inl .iastore, 1) := rfl
theorem k_125_30 : cod 125 30 = some (.inl (.aload_n 0), 1) := rfl
theorem k_125_31 : cod 125 31 = some (.inr (0, 9, 26, 0, 0), 3) := rfl
theorem k_125_34 : cod 125 34 = some (.inl (.aload_n 0), 1) := rfl
theorem k_125_35 : cod 125 35 = some (.inr (0, 9, 5, 0, 0), 3) := rfl
theorem k_125_38 : cod 125 38 = some (.inl (.iload 4), 2) := rfl
theorem k_125_40 : cod 125 40 = some (.inl .iastore, 1) := rfl
theorem k_125_41 : cod 125 41 = some (.inl (.aload_n 0), 1) := rfl
theorem k_125_42 : cod 125 42 = some (.inl .dup, 1) := rfl
theorem k_125_43 : cod 125 43 = some (.inr (0, 9, 5, 0, 0), 3) := rfl
theorem k_125_46 : cod 125 46 = some (.inl (.iconst 1), 1) := rfl
theorem k_125_47 : cod 125 47 = some (.inl .iadd, 1) := rfl
theorem k_125_48 : cod 125 48 = some (.inr (1, 9, 5, 0, 0), 3) := rfl
theorem k_125_51 : cod 125 51 = some (.inl .return_, 1) := rfl
theorem k_126_0 : cod 126 0 = some (.inl (.iconst 1), 1) := rfl
theorem k_126_1 : cod 126 1 = some (.inl (.istore_n 2), 1) := rfl
theorem k_126_2 : cod 126 2 = some (.inl (.iload_n 2), 1) := rfl
theorem k_126_3 : cod 126 3 = some (.inl (.ifCond .eq 145), 3) := rfl
theorem k_126_6 : cod 126 6 = some (.inl (.iconst 0), 1) := rfl
theorem k_126_7 : cod 126 7 = some (.inl (.istore_n 2), 1) := rfl
theorem k_126_8 : cod 126 8 = some (.inl (.iconst 0), 1) := rfl
theorem k_126_9 : cod 126 9 = some (.inl (.istore_n 3), 1) := rfl
theorem k_126_10 : cod 126 10 = some (.inl (.iload_n 3), 1) := rfl
theorem k_126_11 : cod 126 11 = some (.inl (.aload_n 0), 1) := rfl
theorem k_126_12 : cod 126 12 = some (.inr (0, 9, 28, 0, 0), 3) := rfl
theorem k_126_15 : cod 126 15 = some (.inl (.iload_n 1), 1) := rfl
theorem k_126_16 : cod 126 16 = some (.inl .iaload, 1) := rfl
theorem k_126_17 : cod 126 17 = some (.inl (.if_icmp .ge 128), 3) := rfl
theorem k_126_20 : cod 126 20 = some (.inl (.iload_n 2), 1) := rfl
theorem k_126_21 : cod 126 21 = some (.inl (.ifCond .ne 124), 3) := rfl
theorem k_126_24 : cod 126 24 = some (.inl (.aload_n 0), 1) := rfl
theorem k_126_25 : cod 126 25 = some (.inr (0, 9, 27, 0, 0), 3) := rfl
theorem k_126_28 : cod 126 28 = some (.inl (.sipush 500), 3) := rfl
theorem k_126_31 : cod 126 31 = some (.inl (.iload_n 1), 1) := rfl
theorem k_126_32 : cod 126 32 = some (.inl .imul, 1) := rfl
theorem k_126_33 : cod 126 33 = some (.inl (.iload_n 3), 1) := rfl
theorem k_126_34 : cod 126 34 = some (.inl .iadd, 1) := rfl
theorem k_126_35 : cod 126 35 = some (.inl .iaload, 1) := rfl
theorem k_126_36 : cod 126 36 = some (.inl (.istore 4), 2) := rfl
theorem k_126_38 : cod 126 38 = some (.inl (.aload_n 0), 1) := rfl
theorem k_126_39 : cod 126 39 = some (.inl (.iload 4), 2) := rfl
theorem k_126_41 : cod 126 41 = some (.inl (.iload_n 1), 1) := rfl
theorem k_126_42 : cod 126 42 = some (.inr (17, 127, 3, 1, 9), 3) := rfl
theorem k_126_45 : cod 126 45 = some (.inl (.ifCond .ne 6), 3) := rfl
theorem k_126_48 : cod 126 48 = some (.inl (.goto 91), 3) := rfl
theorem k_126_51 : cod 126 51 = some (.inl (.aload_n 0), 1) := rfl
theorem k_126_52 : cod 126 52 = some (.inr (0, 9, 28, 0, 0), 3) := rfl
theorem k_126_55 : cod 126 55 = some (.inl (.iload_n 1), 1) := rfl
theorem k_126_56 : cod 126 56 = some (.inl .dup2, 1) := rfl
theorem k_126_57 : cod 126 57 = some (.inl .iaload, 1) := rfl
theorem k_126_58 : cod 126 58 = some (.inl (.iconst 1), 1) := rfl
theorem k_126_59 : cod 126 59 = some (.inl .isub, 1) := rfl
theorem k_126_60 : cod 126 60 = some (.inl .iastore, 1) := rfl
theorem k_126_61 : cod 126 61 = some (.inl (.iload_n 3), 1) := rfl
theorem k_126_62 : cod 126 62 = some (.inl (.istore 5), 2) := rfl
theorem k_126_64 : cod 126 64 = some (.inl (.iload 5), 2) := rfl
theorem k_126_66 : cod 126 66 = some (.inl (.aload_n 0), 1) := rfl
theorem k_126_67 : cod 126 67 = some (.inr (0, 9, 28, 0, 0), 3) := rfl
theorem k_126_70 : cod 126 70 = some (.inl (.iload_n 1), 1) := rfl
theorem k_126_71 : cod 126 71 = some (.inl .iaload, 1) := rfl
theorem k_126_72 : cod 126 72 = some (.inl (.if_icmp .ge 37), 3) := rfl
theorem k_126_75 : cod 126 75 = some (.inl (.aload_n 0), 1) := rfl
theorem k_126_76 : cod 126 76 = some (.inr (0, 9, 27, 0, 0), 3) := rfl
theorem k_126_79 : cod 126 79 = some (.inl (.sipush 500), 3) := rfl
theorem k_126_82 : cod 126 82 = some (.inl (.iload_n 1), 1) := rfl
theorem k_126_83 : cod 126 83 = some (.inl .imul, 1) := rfl
theorem k_126_84 : cod 126 84 = some (.inl (.iload 5), 2) := rfl
theorem k_126_86 : cod 126 86 = some (.inl .iadd, 1) := rfl
theorem k_126_87 : cod 126 87 = some (.inl (.aload_n 0), 1) := rfl
theorem k_126_88 : cod 126 88 = some (.inr (0, 9, 27, 0, 0), 3) := rfl
theorem k_126_91 : cod 126 91 = some (.inl (.sipush 500), 3) := rfl
theorem k_126_94 : cod 126 94 = some (.inl (.iload_n 1), 1) := rfl
theorem k_126_95 : cod 126 95 = some (.inl .imul, 1) := rfl
theorem k_126_96 : cod 126 96 = some (.inl (.iload 5), 2) := rfl
theorem k_126_98 : cod 126 98 = some (.inl .iadd, 1) := rfl
theorem k_126_99 : cod 126 99 = some (.inl (.iconst 1), 1) := rfl
theorem k_126_100 : cod 126 100 = some (.inl .iadd, 1) := rfl
theorem k_126_101 : cod 126 101 = some (.inl .iaload, 1) := rfl
theorem k_126_102 : cod 126 102 = some (.inl .iastore, 1) := rfl
theorem k_126_103 : cod 126 103 = some (.inl (.iinc 5 1), 3) := rfl
theorem k_126_106 : cod 126 106 = some (.inl (.goto (-42)), 3) := rfl
theorem k_126_109 : cod 126 109 = some (.inl (.aload_n 0), 1) := rfl
theorem k_126_110 : cod 126 110 = some (.inr (0, 9, 20, 0, 0), 3) := rfl
theorem k_126_113 : cod 126 113 = some (.inl (.bipush 6), 2) := rfl
theorem k_126_115 : cod 126 115 = some (.inl (.iload_n 1), 1) := rfl
theorem k_126_116 : cod 126 116 = some (.inl .imul, 1) := rfl
theorem k_126_117 : cod 126 117 = some (.inl (.aload_n 0), 1) := rfl
theorem k_126_118 : cod 126 118 = some (.inr (0, 9, 10, 0, 0), 3) := rfl
theorem k_126_121 : cod 126 121 = some (.inl (.iload 4), 2) := rfl
theorem k_126_123 : cod 126 123 = some (.inl .iaload, 1) := rfl
theorem k_126_124 : cod 126 124 = some (.inl .iadd, 1) := rfl
theorem k_126_125 : cod 126 125 = some (.inl .dup2, 1) := rfl
theorem k_126_126 : cod 126 126 = some (.inl .iaload, 1) := rfl
theorem k_126_127 : cod 126 127 = some (.inl (.iconst 1), 1) := rfl
theorem k_126_128 : cod 126 128 = some (.inl .iadd, 1) := rfl
theorem k_126_129 : cod 126 129 = some (.inl .iastore, 1) := rfl
theorem k_126_130 : cod 126 130 = some (.inl (.aload_n 0), 1) := rfl
theorem k_126_131 : cod 126 131 = some (.inl (.iload 4), 2) := rfl
theorem k_126_133 : cod 126 133 = some (.inl (.iload_n 1), 1) := rfl
theorem k_126_134 : cod 126 134 = some (.inr (17, 124, 3, 1, 9), 3) := rfl
theorem k_126_137 : cod 126 137 = some (.inl (.iconst 1), 1) := rfl
theorem k_126_138 : cod 126 138 = some (.inl (.istore_n 2), 1) := rfl
theorem k_126_139 : cod 126 139 = some (.inl (.iinc 3 1), 3) := rfl
theorem k_126_142 : cod 126 142 = some (.inl (.goto (-132)), 3) := rfl
theorem k_126_145 : cod 126 145 = some (.inl (.goto (-143)), 3) := rfl
theorem k_126_148 : cod 126 148 = some (.inl .return_, 1) := rfl
theorem k_127_0 : cod 127 0 = some (.inl (.aload_n 0), 1) := rfl
theorem k_127_1 : cod 127 1 = some (.inr (0, 9, 12, 0, 0), 3) := rfl
theorem k_127_4 : cod 127 4 = some (.inl (.iload_n 1), 1) := rfl
theorem k_127_5 : cod 127 5 = some (.inl .iaload, 1) := rfl
theorem k_127_6 : cod 127 6 = some (.inl (.aload_n 0), 1) := rfl
theorem k_127_7 : cod 127 7 = some (.inr (0, 9, 20, 0, 0), 3) := rfl
theorem k_127_10 : cod 127 10 = some (.inl (.bipush 6), 2) := rfl
theorem k_127_12 : cod 127 12 = some (.inl (.iload_n 2), 1) := rfl
theorem k_127_13 : cod 127 13 = some (.inl .imul, 1) := rfl
theorem k_127_14 : cod 127 14 = some (.inl (.aload_n 0), 1) := rfl
theorem k_127_15 : cod 127 15 = some (.inr (0, 9, 10, 0, 0), 3) := rfl
theorem k_127_18 : cod 127 18 = some (.inl (.iload_n 1), 1) := rfl
theorem k_127_19 : cod 127 19 = some (.inl .iaload, 1) := rfl
theorem k_127_20 : cod 127 20 = some (.inl .iadd, 1) := rfl
theorem k_127_21 : cod 127 21 = some (.inl .iaload, 1) := rfl
theorem k_127_22 : cod 127 22 = some (.inl (.iconst 1), 1) := rfl
theorem k_127_23 : cod 127 23 = some (.inl .iadd, 1) := rfl
theorem k_127_24 : cod 127 24 = some (.inl (.if_icmp .eq 5), 3) := rfl
theorem k_127_27 : cod 127 27 = some (.inl (.iconst 0), 1) := rfl
theorem k_127_28 : cod 127 28 = some (.inl .ireturn, 1) := rfl
theorem k_127_29 : cod 127 29 = some (.inl (.iconst 0), 1) := rfl
theorem k_127_30 : cod 127 30 = some (.inl (.istore_n 3), 1) := rfl
theorem k_127_31 : cod 127 31 = some (.inl (.iload_n 3), 1) := rfl
theorem k_127_32 : cod 127 32 = some (.inl (.aload_n 0), 1) := rfl
theorem k_127_33 : cod 127 33 = some (.inr (0, 9, 1, 0, 0), 3) := rfl
theorem k_127_36 : cod 127 36 = some (.inl (.if_icmp .ge 36), 3) := rfl
theorem k_127_39 : cod 127 39 = some (.inl (.aload_n 0), 1) := rfl
theorem k_127_40 : cod 127 40 = some (.inr (0, 9, 13, 0, 0), 3) := rfl
theorem k_127_43 : cod 127 43 = some (.inl (.bipush 6), 2) := rfl
theorem k_127_45 : cod 127 45 = some (.inl (.iload_n 1), 1) := rfl
theorem k_127_46 : cod 127 46 = some (.inl .imul, 1) := rfl
theorem k_127_47 : cod 127 47 = some (.inl (.iload_n 3), 1) := rfl
theorem k_127_48 : cod 127 48 = some (.inl .iadd, 1) := rfl
theorem k_127_49 : cod 127 49 = some (.inl .iaload, 1) := rfl
theorem k_127_50 : cod 127 50 = some (.inl (.aload_n 0), 1) := rfl
theorem k_127_51 : cod 127 51 = some (.inr (0, 9, 20, 0, 0), 3) := rfl
theorem k_127_54 : cod 127 54 = some (.inl (.bipush 6), 2) := rfl
theorem k_127_56 : cod 127 56 = some (.inl (.iload_n 2), 1) := rfl
theorem k_127_57 : cod 127 57 = some (.inl .imul, 1) := rfl
theorem k_127_58 : cod 127 58 = some (.inl (.iload_n 3), 1) := rfl
theorem k_127_59 : cod 127 59 = some (.inl .iadd, 1) := rfl
theorem k_127_60 : cod 127 60 = some (.inl .iaload, 1) := rfl
theorem k_127_61 : cod 127 61 = some (.inl (.if_icmp .le 5), 3) := rfl
theorem k_127_64 : cod 127 64 = some (.inl (.iconst 0), 1) := rfl
theorem k_127_65 : cod 127 65 = some (.inl .ireturn, 1) := rfl
theorem k_127_66 : cod 127 66 = some (.inl (.iinc 3 1), 3) := rfl
theorem k_127_69 : cod 127 69 = some (.inl (.goto (-38)), 3) := rfl
theorem k_127_72 : cod 127 72 = some (.inl (.iconst 1), 1) := rfl
theorem k_127_73 : cod 127 73 = some (.inl .ireturn, 1) := rfl
theorem k_128_0 : cod 128 0 = some (.inl (.iconst 0), 1) := rfl
theorem k_128_1 : cod 128 1 = some (.inl (.istore_n 3), 1) := rfl
theorem k_128_2 : cod 128 2 = some (.inl (.iload_n 3), 1) := rfl
theorem k_128_3 : cod 128 3 = some (.inl (.aload_n 0), 1) := rfl
theorem k_128_4 : cod 128 4 = some (.inr (0, 9, 2, 0, 0), 3) := rfl
theorem k_128_7 : cod 128 7 = some (.inl (.if_icmp .ge 48), 3) := rfl
theorem k_128_10 : cod 128 10 = some (.inl (.aload_n 0), 1) := rfl
theorem k_128_11 : cod 128 11 = some (.inr (0, 9, 9, 0, 0), 3) := rfl
theorem k_128_14 : cod 128 14 = some (.inl (.iload_n 3), 1) := rfl
theorem k_128_15 : cod 128 15 = some (.inl .baload, 1) := rfl
theorem k_128_16 : cod 128 16 = some (.inl (.ifCond .ne 33), 3) := rfl
theorem k_128_19 : cod 128 19 = some (.inl (.aload_n 0), 1) := rfl
theorem k_128_20 : cod 128 20 = some (.inr (0, 9, 7, 0, 0), 3) := rfl
theorem k_128_23 : cod 128 23 = some (.inl (.iload_n 3), 1) := rfl
theorem k_128_24 : cod 128 24 = some (.inl .iaload, 1) := rfl
theorem k_128_25 : cod 128 25 = some (.inl (.iload_n 2), 1) := rfl
theorem k_128_26 : cod 128 26 = some (.inl (.if_icmp .ne 23), 3) := rfl
theorem k_128_29 : cod 128 29 = some (.inl (.aload_n 0), 1) := rfl
theorem k_128_30 : cod 128 30 = some (.inl (.iload_n 1), 1) := rfl
theorem k_128_31 : cod 128 31 = some (.inl (.iload_n 3), 1) := rfl
theorem k_128_32 : cod 128 32 = some (.inr (17, 112, 3, 1, 9), 3) := rfl
theorem k_128_35 : cod 128 35 = some (.inl (.ifCond .eq 14), 3) := rfl
theorem k_128_38 : cod 128 38 = some (.inl (.aload_n 0), 1) := rfl
theorem k_128_39 : cod 128 39 = some (.inl (.iload_n 1), 1) := rfl
theorem k_128_40 : cod 128 40 = some (.inl (.iload_n 3), 1) := rfl
theorem k_128_41 : cod 128 41 = some (.inr (17, 129, 3, 1, 9), 3) := rfl
theorem k_128_44 : cod 128 44 = some (.inl (.ifCond .eq 5), 3) := rfl
theorem k_128_47 : cod 128 47 = some (.inl (.iconst 1), 1) := rfl
theorem k_128_48 : cod 128 48 = some (.inl .ireturn, 1) := rfl
theorem k_128_49 : cod 128 49 = some (.inl (.iinc 3 1), 3) := rfl
theorem k_128_52 : cod 128 52 = some (.inl (.goto (-50)), 3) := rfl
theorem k_128_55 : cod 128 55 = some (.inl (.iconst 0), 1) := rfl
theorem k_128_56 : cod 128 56 = some (.inl .ireturn, 1) := rfl
theorem k_129_0 : cod 129 0 = some (.inl (.aload_n 0), 1) := rfl
theorem k_129_1 : cod 129 1 = some (.inr (0, 9, 7, 0, 0), 3) := rfl
theorem k_129_4 : cod 129 4 = some (.inl (.iload_n 2), 1) := rfl
theorem k_129_5 : cod 129 5 = some (.inl .iaload, 1) := rfl
theorem k_129_6 : cod 129 6 = some (.inl (.istore_n 3), 1) := rfl
theorem k_129_7 : cod 129 7 = some (.inl (.aload_n 0), 1) := rfl
theorem k_129_8 : cod 129 8 = some (.inr (0, 9, 8, 0, 0), 3) := rfl
theorem k_129_11 : cod 129 11 = some (.inl (.iload_n 2), 1) := rfl
theorem k_129_12 : cod 129 12 = some (.inl .iaload, 1) := rfl
theorem k_129_13 : cod 129 13 = some (.inl (.ifCond .lt 15), 3) := rfl
theorem k_129_16 : cod 129 16 = some (.inl (.aload_n 0), 1) := rfl
theorem k_129_17 : cod 129 17 = some (.inr (0, 9, 8, 0, 0), 3) := rfl
theorem k_129_20 : cod 129 20 = some (.inl (.iload_n 2), 1) := rfl
theorem k_129_21 : cod 129 21 = some (.inl .iaload, 1) := rfl
theorem k_129_22 : cod 129 22 = some (.inl (.iload_n 1), 1) := rfl
theorem k_129_23 : cod 129 23 = some (.inl (.if_icmp .eq 5), 3) := rfl
theorem k_129_26 : cod 129 26 = some (.inl (.iconst 1), 1) := rfl
theorem k_129_27 : cod 129 27 = some (.inl .ireturn, 1) := rfl
theorem k_129_28 : cod 129 28 = some (.inl (.iconst 0), 1) := rfl
theorem k_129_29 : cod 129 29 = some (.inl (.istore 4), 2) := rfl
theorem k_129_31 : cod 129 31 = some (.inl (.iload 4), 2) := rfl
theorem k_129_33 : cod 129 33 = some (.inl (.aload_n 0), 1) := rfl
theorem k_129_34 : cod 129 34 = some (.inr (0, 9, 3, 0, 0), 3) := rfl
theorem k_129_37 : cod 129 37 = some (.inl (.if_icmp .ge 86), 3) := rfl
theorem k_129_40 : cod 129 40 = some (.inl (.aload_n 0), 1) := rfl
theorem k_129_41 : cod 129 41 = some (.inr (0, 9, 12, 0, 0), 3) := rfl
theorem k_129_44 : cod 129 44 = some (.inl (.iload 4), 2) := rfl
theorem k_129_46 : cod 129 46 = some (.inl .iaload, 1) := rfl
theorem k_129_47 : cod 129 47 = some (.inl (.ifCond .le 34), 3) := rfl
theorem k_129_50 : cod 129 50 = some (.inl (.aload_n 0), 1) := rfl
theorem k_129_51 : cod 129 51 = some (.inr (0, 9, 12, 0, 0), 3) := rfl
theorem k_129_54 : cod 129 54 = some (.inl (.iload 4), 2) := rfl
theorem k_129_56 : cod 129 56 = some (.inl .iaload, 1) := rfl
theorem k_129_57 : cod 129 57 = some (.inl (.aload_n 0), 1) := rfl
theorem k_129_58 : cod 129 58 = some (.inr (0, 9, 20, 0, 0), 3) := rfl
theorem k_129_61 : cod 129 61 = some (.inl (.bipush 6), 2) := rfl
theorem k_129_63 : cod 129 63 = some (.inl (.iload_n 3), 1) := rfl
theorem k_129_64 : cod 129 64 = some (.inl .imul, 1) := rfl
theorem k_129_65 : cod 129 65 = some (.inl (.aload_n 0), 1) := rfl
theorem k_129_66 : cod 129 66 = some (.inr (0, 9, 10, 0, 0), 3) := rfl
theorem k_129_69 : cod 129 69 = some (.inl (.iload 4), 2) := rfl
theorem k_129_71 : cod 129 71 = some (.inl .iaload, 1) := rfl
theorem k_129_72 : cod 129 72 = some (.inl .iadd, 1) := rfl
theorem k_129_73 : cod 129 73 = some (.inl .iaload, 1) := rfl
theorem k_129_74 : cod 129 74 = some (.inl (.if_icmp .gt 7), 3) := rfl
theorem k_129_77 : cod 129 77 = some (.inl (.iconst 1), 1) := rfl
theorem k_129_78 : cod 129 78 = some (.inl (.goto 4), 3) := rfl
theorem k_129_81 : cod 129 81 = some (.inl (.iconst 0), 1) := rfl
theorem k_129_82 : cod 129 82 = some (.inl (.istore 5), 2) := rfl
theorem k_129_84 : cod 129 84 = some (.inl (.iload 4), 2) := rfl
theorem k_129_86 : cod 129 86 = some (.inl (.iload_n 1), 1) := rfl
theorem k_129_87 : cod 129 87 = some (.inl (.if_icmp .eq 30), 3) := rfl
theorem k_129_90 : cod 129 90 = some (.inl (.iload 5), 2) := rfl
theorem k_129_92 : cod 129 92 = some (.inl (.ifCond .eq 25), 3) := rfl
theorem k_129_95 : cod 129 95 = some (.inl (.aload_n 0), 1) := rfl
theorem k_129_96 : cod 129 96 = some (.inl (.iload 4), 2) := rfl
theorem k_129_98 : cod 129 98 = some (.inl (.iload_n 1), 1) := rfl
theorem k_129_99 : cod 129 99 = some (.inr (17, 114, 3, 1, 9), 3) := rfl
theorem k_129_102 : cod 129 102 = some (.inl (.ifCond .ne 15), 3) := rfl
theorem k_129_105 : cod 129 105 = some (.inl (.aload_n 0), 1) := rfl
theorem k_129_106 : cod 129 106 = some (.inl (.iload 4), 2) := rfl
theorem k_129_108 : cod 129 108 = some (.inl (.iload_n 2), 1) := rfl
theorem k_129_109 : cod 129 109 = some (.inr (17, 112, 3, 1, 9), 3) := rfl
theorem k_129_112 : cod 129 112 = some (.inl (.ifCond .eq 5), 3) := rfl
theorem k_129_115 : cod 129 115 = some (.inl (.iconst 1), 1) := rfl
theorem k_129_116 : cod 129 116 = some (.inl .ireturn, 1) := rfl
theorem k_129_117 : cod 129 117 = some (.inl (.iinc 4 1), 3) := rfl
theorem k_129_120 : cod 129 120 = some (.inl (.goto (-89)), 3) := rfl
theorem k_129_123 : cod 129 123 = some (.inl (.iconst 0), 1) := rfl
theorem k_129_124 : cod 129 124 = some (.inl .ireturn, 1) := rfl
theorem k_130_0 : cod 130 0 = some (.inl (.iconst 0), 1) := rfl
theorem k_130_1 : cod 130 1 = some (.inl (.istore_n 3), 1) := rfl
theorem k_130_2 : cod 130 2 = some (.inl (.iload_n 3), 1) := rfl
theorem k_130_3 : cod 130 3 = some (.inl (.aload_n 0), 1) := rfl
theorem k_130_4 : cod 130 4 = some (.inr (0, 9, 2, 0, 0), 3) := rfl
theorem k_130_7 : cod 130 7 = some (.inl (.if_icmp .ge 44), 3) := rfl
theorem k_130_10 : cod 130 10 = some (.inl (.aload_n 0), 1) := rfl
theorem k_130_11 : cod 130 11 = some (.inr (0, 9, 9, 0, 0), 3) := rfl
theorem k_130_14 : cod 130 14 = some (.inl (.iload_n 3), 1) := rfl
theorem k_130_15 : cod 130 15 = some (.inl .baload, 1) := rfl
theorem k_130_16 : cod 130 16 = some (.inl (.ifCond .ne 29), 3) := rfl
theorem k_130_19 : cod 130 19 = some (.inl (.aload_n 0), 1) := rfl
theorem k_130_20 : cod 130 20 = some (.inr (0, 9, 7, 0, 0), 3) := rfl
theorem k_130_23 : cod 130 23 = some (.inl (.iload_n 3), 1) := rfl
theorem k_130_24 : cod 130 24 = some (.inl .iaload, 1) := rfl
theorem k_130_25 : cod 130 25 = some (.inl (.iload_n 2), 1) := rfl
theorem k_130_26 : cod 130 26 = some (.inl (.if_icmp .ne 19), 3) := rfl
theorem k_130_29 : cod 130 29 = some (.inl (.aload_n 0), 1) := rfl
theorem k_130_30 : cod 130 30 = some (.inl (.iload_n 1), 1) := rfl
theorem k_130_31 : cod 130 31 = some (.inl (.iload_n 3), 1) := rfl
theorem k_130_32 : cod 130 32 = some (.inr (17, 112, 3, 1, 9), 3) := rfl
theorem k_130_35 : cod 130 35 = some (.inl (.ifCond .eq 10), 3) := rfl
theorem k_130_38 : cod 130 38 = some (.inl (.aload_n 0), 1) := rfl
theorem k_130_39 : cod 130 39 = some (.inr (0, 9, 8, 0, 0), 3) := rfl
theorem k_130_42 : cod 130 42 = some (.inl (.iload_n 3), 1) := rfl
theorem k_130_43 : cod 130 43 = some (.inl (.iload_n 1), 1) := rfl
theorem k_130_44 : cod 130 44 = some (.inl .iastore, 1) := rfl
theorem k_130_45 : cod 130 45 = some (.inl (.iinc 3 1), 3) := rfl
theorem k_130_48 : cod 130 48 = some (.inl (.goto (-46)), 3) := rfl
theorem k_130_51 : cod 130 51 = some (.inl .return_, 1) := rfl
theorem k_131_0 : cod 131 0 = some (.inl (.iconst 0), 1) := rfl
theorem k_131_1 : cod 131 1 = some (.inl (.istore_n 3), 1) := rfl
theorem k_131_2 : cod 131 2 = some (.inl (.iload_n 3), 1) := rfl
theorem k_131_3 : cod 131 3 = some (.inl (.aload_n 0), 1) := rfl
theorem k_131_4 : cod 131 4 = some (.inr (0, 9, 2, 0, 0), 3) := rfl
theorem k_131_7 : cod 131 7 = some (.inl (.if_icmp .ge 39), 3) := rfl
theorem k_131_10 : cod 131 10 = some (.inl (.aload_n 0), 1) := rfl
theorem k_131_11 : cod 131 11 = some (.inr (0, 9, 9, 0, 0), 3) := rfl
theorem k_131_14 : cod 131 14 = some (.inl (.iload_n 3), 1) := rfl
theorem k_131_15 : cod 131 15 = some (.inl .baload, 1) := rfl
theorem k_131_16 : cod 131 16 = some (.inl (.ifCond .ne 24), 3) := rfl
theorem k_131_19 : cod 131 19 = some (.inl (.aload_n 0), 1) := rfl
theorem k_131_20 : cod 131 20 = some (.inr (0, 9, 7, 0, 0), 3) := rfl
theorem k_131_23 : cod 131 23 = some (.inl (.iload_n 3), 1) := rfl
theorem k_131_24 : cod 131 24 = some (.inl .iaload, 1) := rfl
theorem k_131_25 : cod 131 25 = some (.inl (.iload_n 2), 1) := rfl
theorem k_131_26 : cod 131 26 = some (.inl (.if_icmp .ne 14), 3) := rfl
theorem k_131_29 : cod 131 29 = some (.inl (.aload_n 0), 1) := rfl
theorem k_131_30 : cod 131 30 = some (.inl (.iload_n 1), 1) := rfl
theorem k_131_31 : cod 131 31 = some (.inl (.iload_n 3), 1) := rfl
theorem k_131_32 : cod 131 32 = some (.inr (17, 112, 3, 1, 9), 3) := rfl
theorem k_131_35 : cod 131 35 = some (.inl (.ifCond .eq 5), 3) := rfl
theorem k_131_38 : cod 131 38 = some (.inl (.iconst 1), 1) := rfl
theorem k_131_39 : cod 131 39 = some (.inl .ireturn, 1) := rfl
theorem k_131_40 : cod 131 40 = some (.inl (.iinc 3 1), 3) := rfl
theorem k_131_43 : cod 131 43 = some (.inl (.goto (-41)), 3) := rfl
theorem k_131_46 : cod 131 46 = some (.inl (.iconst 0), 1) := rfl
theorem k_131_47 : cod 131 47 = some (.inl .ireturn, 1) := rfl
theorem k_132_0 : cod 132 0 = some (.inl (.aload_n 0), 1) := rfl
theorem k_132_1 : cod 132 1 = some (.inl (.aload_n 0), 1) := rfl
theorem k_132_2 : cod 132 2 = some (.inl (.iload_n 1), 1) := rfl
theorem k_132_3 : cod 132 3 = some (.inr (17, 110, 2, 1, 9), 3) := rfl
theorem k_132_6 : cod 132 6 = some (.inl (.ifCond .ne 7), 3) := rfl
theorem k_132_9 : cod 132 9 = some (.inl (.iconst 1), 1) := rfl
theorem k_132_10 : cod 132 10 = some (.inl (.goto 4), 3) := rfl
theorem k_132_13 : cod 132 13 = some (.inl (.iconst 0), 1) := rfl
theorem k_132_14 : cod 132 14 = some (.inl (.aload_n 0), 1) := rfl
theorem k_132_15 : cod 132 15 = some (.inl (.iload_n 1), 1) := rfl
theorem k_132_16 : cod 132 16 = some (.inr (17, 110, 2, 1, 9), 3) := rfl
theorem k_132_19 : cod 132 19 = some (.inl (.ifCond .eq 16), 3) := rfl
theorem k_132_22 : cod 132 22 = some (.inl (.aload_n 0), 1) := rfl
theorem k_132_23 : cod 132 23 = some (.inr (0, 9, 11, 0, 0), 3) := rfl
theorem k_132_26 : cod 132 26 = some (.inl (.iload_n 1), 1) := rfl
theorem k_132_27 : cod 132 27 = some (.inl .iaload, 1) := rfl
theorem k_132_28 : cod 132 28 = some (.inl (.ifCond .eq 7), 3) := rfl
theorem k_132_31 : cod 132 31 = some (.inl (.iconst 1), 1) := rfl
theorem k_132_32 : cod 132 32 = some (.inl (.goto 4), 3) := rfl
theorem k_132_35 : cod 132 35 = some (.inl (.iconst 0), 1) := rfl
theorem k_132_36 : cod 132 36 = some (.inr (17, 104, 3, 1, 9), 3) := rfl
theorem k_132_39 : cod 132 39 = some (.inl (.ifCond .eq 4), 3) := rfl
theorem k_132_42 : cod 132 42 = some (.inl .return_, 1) := rfl
theorem k_132_43 : cod 132 43 = some (.inl (.aload_n 0), 1) := rfl
theorem k_132_44 : cod 132 44 = some (.inr (0, 9, 11, 0, 0), 3) := rfl
theorem k_132_47 : cod 132 47 = some (.inl (.iload_n 1), 1) := rfl
theorem k_132_48 : cod 132 48 = some (.inl (.iconst 2), 1) := rfl
theorem k_132_49 : cod 132 49 = some (.inl .iastore, 1) := rfl
theorem k_132_50 : cod 132 50 = some (.inl .return_, 1) := rfl
theorem k_133_0 : cod 133 0 = some (.inl (.aload_n 0), 1) := rfl
theorem k_133_1 : cod 133 1 = some (.inl (.aload_n 0), 1) := rfl
theorem k_133_2 : cod 133 2 = some (.inl (.iload_n 1), 1) := rfl
theorem k_133_3 : cod 133 3 = some (.inr (17, 106, 2, 1, 9), 3) := rfl
theorem k_133_6 : cod 133 6 = some (.inl (.ifCond .eq 16), 3) := rfl
theorem k_133_9 : cod 133 9 = some (.inl (.aload_n 0), 1) := rfl
theorem k_133_10 : cod 133 10 = some (.inl (.iload_n 2), 1) := rfl
theorem k_133_11 : cod 133 11 = some (.inr (17, 106, 2, 1, 9), 3) := rfl
theorem k_133_14 : cod 133 14 = some (.inl (.ifCond .eq 8), 3) := rfl
theorem k_133_17 : cod 133 17 = some (.inl (.iload_n 1), 1) := rfl
theorem k_133_18 : cod 133 18 = some (.inl (.iload_n 2), 1) := rfl
theorem k_133_19 : cod 133 19 = some (.inl (.if_icmp .ne 7), 3) := rfl
theorem k_133_22 : cod 133 22 = some (.inl (.iconst 1), 1) := rfl
theorem k_133_23 : cod 133 23 = some (.inl (.goto 4), 3) := rfl
theorem k_133_26 : cod 133 26 = some (.inl (.iconst 0), 1) := rfl
theorem k_133_27 : cod 133 27 = some (.inl (.iconst 0), 1) := rfl
theorem k_133_28 : cod 133 28 = some (.inr (17, 104, 3, 1, 9), 3) := rfl
theorem k_133_31 : cod 133 31 = some (.inl (.ifCond .eq 5), 3) := rfl
theorem k_133_34 : cod 133 34 = some (.inl (.iconst 0), 1) := rfl
theorem k_133_35 : cod 133 35 = some (.inl .ireturn, 1) := rfl
theorem k_133_36 : cod 133 36 = some (.inl (.iconst 0), 1) := rfl
theorem k_133_37 : cod 133 37 = some (.inl (.istore_n 3), 1) := rfl
theorem k_133_38 : cod 133 38 = some (.inl (.iload_n 3), 1) := rfl
theorem k_133_39 : cod 133 39 = some (.inl (.aload_n 0), 1) := rfl
theorem k_133_40 : cod 133 40 = some (.inr (0, 9, 5, 0, 0), 3) := rfl
theorem k_133_43 : cod 133 43 = some (.inl (.if_icmp .ge 73), 3) := rfl
theorem k_133_46 : cod 133 46 = some (.inl (.aload_n 0), 1) := rfl
theorem k_133_47 : cod 133 47 = some (.inr (0, 9, 25, 0, 0), 3) := rfl
theorem k_133_50 : cod 133 50 = some (.inl (.iload_n 3), 1) := rfl
theorem k_133_51 : cod 133 51 = some (.inl .iaload, 1) := rfl
theorem k_133_52 : cod 133 52 = some (.inl (.ifCond .eq 58), 3) := rfl
theorem k_133_55 : cod 133 55 = some (.inl (.aload_n 0), 1) := rfl
theorem k_133_56 : cod 133 56 = some (.inr (0, 9, 23, 0, 0), 3) := rfl
theorem k_133_59 : cod 133 59 = some (.inl (.iload_n 3), 1) := rfl
theorem k_133_60 : cod 133 60 = some (.inl .iaload, 1) := rfl
theorem k_133_61 : cod 133 61 = some (.inl (.iload_n 1), 1) := rfl
theorem k_133_62 : cod 133 62 = some (.inl (.if_icmp .ne 48), 3) := rfl
theorem k_133_65 : cod 133 65 = some (.inl (.aload_n 0), 1) := rfl
theorem k_133_66 : cod 133 66 = some (.inr (0, 9, 24, 0, 0), 3) := rfl
theorem k_133_69 : cod 133 69 = some (.inl (.iload_n 3), 1) := rfl
theorem k_133_70 : cod 133 70 = some (.inl .iaload, 1) := rfl
theorem k_133_71 : cod 133 71 = some (.inl (.iload_n 2), 1) := rfl
theorem k_133_72 : cod 133 72 = some (.inl (.if_icmp .eq 6), 3) := rfl
theorem k_133_75 : cod 133 75 = some (.inl (.goto 35), 3) := rfl
theorem k_133_78 : cod 133 78 = some (.inl (.aload_n 0), 1) := rfl
theorem k_133_79 : cod 133 79 = some (.inr (0, 9, 25, 0, 0), 3) := rfl
theorem k_133_82 : cod 133 82 = some (.inl (.iload_n 3), 1) := rfl
theorem k_133_83 : cod 133 83 = some (.inl .iaload, 1) := rfl
theorem k_133_84 : cod 133 84 = some (.inl (.istore 4), 2) := rfl
theorem k_133_86 : cod 133 86 = some (.inl (.aload_n 0), 1) := rfl
theorem k_133_87 : cod 133 87 = some (.inr (0, 9, 25, 0, 0), 3) := rfl
theorem k_133_90 : cod 133 90 = some (.inl (.iload_n 3), 1) := rfl
theorem k_133_91 : cod 133 91 = some (.inl (.iconst 0), 1) := rfl
theorem k_133_92 : cod 133 92 = some (.inl .iastore, 1) := rfl
theorem k_133_93 : cod 133 93 = some (.inl (.aload_n 0), 1) := rfl
theorem k_133_94 : cod 133 94 = some (.inl (.iload 4), 2) := rfl
theorem k_133_96 : cod 133 96 = some (.inl (.aload_n 0), 1) := rfl
theorem k_133_97 : cod 133 97 = some (.inr (0, 9, 26, 0, 0), 3) := rfl
theorem k_133_100 : cod 133 100 = some (.inl (.iload_n 3), 1) := rfl
theorem k_133_101 : cod 133 101 = some (.inl .iaload, 1) := rfl
theorem k_133_102 : cod 133 102 = some (.inl (.iload_n 1), 1) := rfl
theorem k_133_103 : cod 133 103 = some (.inl (.iload_n 2), 1) := rfl
theorem k_133_104 : cod 133 104 = some (.inr (17, 134, 5, 1, 9), 3) := rfl
theorem k_133_107 : cod 133 107 = some (.inl (.iload 4), 2) := rfl
theorem k_133_109 : cod 133 109 = some (.inl .ireturn, 1) := rfl
theorem k_133_110 : cod 133 110 = some (.inl (.iinc 3 1), 3) := rfl
theorem k_133_113 : cod 133 113 = some (.inl (.goto (-75)), 3) := rfl
theorem k_133_116 : cod 133 116 = some (.inl (.iconst 0), 1) := rfl
theorem k_133_117 : cod 133 117 = some (.inl .ireturn, 1) := rfl
theorem k_134_0 : cod 134 0 = some (.inl (.iload_n 1), 1) := rfl
theorem k_134_1 : cod 134 1 = some (.inl (.tableswitch 209 1 4 #[31, 72, 118, 199]), 31) := rfl
theorem k_134_32 : cod 134 32 = some (.inl (.aload_n 0), 1) := rfl
theorem k_134_33 : cod 134 33 = some (.inl (.iload_n 2), 1) := rfl
theorem k_134_34 : cod 134 34 = some (.inl (.iload 4), 2) := rfl
theorem k_134_36 : cod 134 36 = some (.inr (17, 128, 3, 1, 9), 3) := rfl
theorem k_134_39 : cod 134 39 = some (.inl (.ifCond .eq 15), 3) := rfl
theorem k_134_42 : cod 134 42 = some (.inl (.aload_n 0), 1) := rfl
theorem k_134_43 : cod 134 43 = some (.inl (.iload 4), 2) := rfl
theorem k_134_45 : cod 134 45 = some (.inl (.iload_n 3), 1) := rfl
theorem k_134_46 : cod 134 46 = some (.inl (.iconst 3), 1) := rfl
theorem k_134_47 : cod 134 47 = some (.inl (.iload_n 2), 1) := rfl
theorem k_134_48 : cod 134 48 = some (.inr (17, 125, 5, 1, 9), 3) := rfl
theorem k_134_51 : cod 134 51 = some (.inl (.goto 196), 3) := rfl
theorem k_134_54 : cod 134 54 = some (.inl (.aload_n 0), 1) := rfl
theorem k_134_55 : cod 134 55 = some (.inl (.iload_n 2), 1) := rfl
theorem k_134_56 : cod 134 56 = some (.inl (.iload 4), 2) := rfl
theorem k_134_58 : cod 134 58 = some (.inr (17, 130, 3, 1, 9), 3) := rfl
theorem k_134_61 : cod 134 61 = some (.inl (.aload_n 0), 1) := rfl
theorem k_134_62 : cod 134 62 = some (.inl (.iload 4), 2) := rfl
theorem k_134_64 : cod 134 64 = some (.inl (.iload_n 3), 1) := rfl
theorem k_134_65 : cod 134 65 = some (.inl (.iconst 2), 1) := rfl
theorem k_134_66 : cod 134 66 = some (.inl (.iload_n 2), 1) := rfl
theorem k_134_67 : cod 134 67 = some (.inr (17, 125, 5, 1, 9), 3) := rfl
theorem k_134_70 : cod 134 70 = some (.inl (.goto 177), 3) := rfl
theorem k_134_73 : cod 134 73 = some (.inl (.aload_n 0), 1) := rfl
theorem k_134_74 : cod 134 74 = some (.inr (0, 9, 11, 0, 0), 3) := rfl
theorem k_134_77 : cod 134 77 = some (.inl (.iload_n 2), 1) := rfl
theorem k_134_78 : cod 134 78 = some (.inl .iaload, 1) := rfl
theorem k_134_79 : cod 134 79 = some (.inl (.iconst 3), 1) := rfl
theorem k_134_80 : cod 134 80 = some (.inl (.if_icmp .eq 6), 3) := rfl
theorem k_134_83 : cod 134 83 = some (.inl (.goto 164), 3) := rfl
theorem k_134_86 : cod 134 86 = some (.inl (.aload_n 0), 1) := rfl
theorem k_134_87 : cod 134 87 = some (.inr (0, 9, 14, 0, 0), 3) := rfl
theorem k_134_90 : cod 134 90 = some (.inl (.iload_n 2), 1) := rfl
theorem k_134_91 : cod 134 91 = some (.inl .dup2, 1) := rfl
theorem k_134_92 : cod 134 92 = some (.inl .iaload, 1) := rfl
theorem k_134_93 : cod 134 93 = some (.inl (.iconst 1), 1) := rfl
theorem k_134_94 : cod 134 94 = some (.inl .iadd, 1) := rfl
theorem k_134_95 : cod 134 95 = some (.inl .iastore, 1) := rfl
theorem k_134_96 : cod 134 96 = some (.inl (.aload_n 0), 1) := rfl
theorem k_134_97 : cod 134 97 = some (.inr (0, 9, 14, 0, 0), 3) := rfl
theorem k_134_100 : cod 134 100 = some (.inl (.iload_n 2), 1) := rfl
theorem k_134_101 : cod 134 101 = some (.inl .iaload, 1) := rfl
theorem k_134_102 : cod 134 102 = some (.inl (.aload_n 0), 1) := rfl
theorem k_134_103 : cod 134 103 = some (.inr (0, 9, 15, 0, 0), 3) := rfl
theorem k_134_106 : cod 134 106 = some (.inl (.iload_n 2), 1) := rfl
theorem k_134_107 : cod 134 107 = some (.inl .iaload, 1) := rfl
theorem k_134_108 : cod 134 108 = some (.inl (.if_icmp .ne 139), 3) := rfl
theorem k_134_111 : cod 134 111 = some (.inl (.aload_n 0), 1) := rfl
theorem k_134_112 : cod 134 112 = some (.inl (.iload_n 2), 1) := rfl
theorem k_134_113 : cod 134 113 = some (.inr (17, 123, 2, 1, 9), 3) := rfl
theorem k_134_116 : cod 134 116 = some (.inl (.goto 131), 3) := rfl
theorem k_134_119 : cod 134 119 = some (.inl (.aload_n 0), 1) := rfl
theorem k_134_120 : cod 134 120 = some (.inr (0, 9, 11, 0, 0), 3) := rfl
theorem k_134_123 : cod 134 123 = some (.inl (.iload_n 2), 1) := rfl
theorem k_134_124 : cod 134 124 = some (.inl .iaload, 1) := rfl
theorem k_134_125 : cod 134 125 = some (.inl (.iconst 3), 1) := rfl
theorem k_134_126 : cod 134 126 = some (.inl (.if_icmp .eq 6), 3) := rfl
theorem k_134_129 : cod 134 129 = some (.inl (.goto 118), 3) := rfl
theorem k_134_132 : cod 134 132 = some (.inl (.aload_n 0), 1) := rfl
theorem k_134_133 : cod 134 133 = some (.inr (0, 9, 11, 0, 0), 3) := rfl
theorem k_134_136 : cod 134 136 = some (.inl (.iload_n 2), 1) := rfl
theorem k_134_137 : cod 134 137 = some (.inl (.iconst 2), 1) := rfl
theorem k_134_138 : cod 134 138 = some (.inl .iastore, 1) := rfl
theorem k_134_139 : cod 134 139 = some (.inl (.aload_n 0), 1) := rfl
theorem k_134_140 : cod 134 140 = some (.inl (.iload_n 2), 1) := rfl
theorem k_134_141 : cod 134 141 = some (.inl (.iload 4), 2) := rfl
theorem k_134_143 : cod 134 143 = some (.inr (17, 124, 3, 1, 9), 3) := rfl
theorem k_134_146 : cod 134 146 = some (.inl (.iconst 0), 1) := rfl
theorem k_134_147 : cod 134 147 = some (.inl (.istore 5), 2) := rfl
theorem k_134_149 : cod 134 149 = some (.inl (.iload 5), 2) := rfl
theorem k_134_151 : cod 134 151 = some (.inl (.aload_n 0), 1) := rfl
theorem k_134_152 : cod 134 152 = some (.inr (0, 9, 1, 0, 0), 3) := rfl
theorem k_134_155 : cod 134 155 = some (.inl (.if_icmp .ge 42), 3) := rfl
theorem k_134_158 : cod 134 158 = some (.inl (.iload 5), 2) := rfl
theorem k_134_160 : cod 134 160 = some (.inl (.iload 4), 2) := rfl
theorem k_134_162 : cod 134 162 = some (.inl (.if_icmp .eq 29), 3) := rfl
theorem k_134_165 : cod 134 165 = some (.inl (.iload 5), 2) := rfl
theorem k_134_167 : cod 134 167 = some (.inl (.iload_n 3), 1) := rfl
theorem k_134_168 : cod 134 168 = some (.inl (.if_icmp .eq 23), 3) := rfl
theorem k_134_171 : cod 134 171 = some (.inl (.aload_n 0), 1) := rfl
theorem k_134_172 : cod 134 172 = some (.inl (.iload_n 2), 1) := rfl
theorem k_134_173 : cod 134 173 = some (.inl (.iload 5), 2) := rfl
theorem k_134_175 : cod 134 175 = some (.inr (17, 131, 3, 1, 9), 3) := rfl
theorem k_134_178 : cod 134 178 = some (.inl (.ifCond .eq 13), 3) := rfl
theorem k_134_181 : cod 134 181 = some (.inl (.aload_n 0), 1) := rfl
theorem k_134_182 : cod 134 182 = some (.inl (.iload 4), 2) := rfl
theorem k_134_184 : cod 134 184 = some (.inl (.iload 5), 2) := rfl
theorem k_134_186 : cod 134 186 = some (.inl (.iconst 4), 1) := rfl
theorem k_134_187 : cod 134 187 = some (.inl (.iload_n 2), 1) := rfl
theorem k_134_188 : cod 134 188 = some (.inr (17, 125, 5, 1, 9), 3) := rfl
theorem k_134_191 : cod 134 191 = some (.inl (.iinc 5 1), 3) := rfl
theorem k_134_194 : cod 134 194 = some (.inl (.goto (-45)), 3) := rfl
theorem k_134_197 : cod 134 197 = some (.inl (.goto 50), 3) := rfl
theorem k_134_200 : cod 134 200 = some (.inl (.aload_n 0), 1) := rfl
theorem k_134_201 : cod 134 201 = some (.inl (.iload_n 2), 1) := rfl
theorem k_134_202 : cod 134 202 = some (.inl (.iload 4), 2) := rfl
theorem k_134_204 : cod 134 204 = some (.inr (17, 124, 3, 1, 9), 3) := rfl
theorem k_134_207 : cod 134 207 = some (.inl (.goto 40), 3) := rfl
theorem k_134_210 : cod 134 210 = some (.inl (.aload_n 0), 1) := rfl
theorem k_134_211 : cod 134 211 = some (.inr (0, 9, 27, 0, 0), 3) := rfl
theorem k_134_214 : cod 134 214 = some (.inl (.sipush 500), 3) := rfl
theorem k_134_217 : cod 134 217 = some (.inl (.iload 4), 2) := rfl
theorem k_134_219 : cod 134 219 = some (.inl .imul, 1) := rfl
theorem k_134_220 : cod 134 220 = some (.inl (.aload_n 0), 1) := rfl
theorem k_134_221 : cod 134 221 = some (.inr (0, 9, 28, 0, 0), 3) := rfl
theorem k_134_224 : cod 134 224 = some (.inl (.iload 4), 2) := rfl
theorem k_134_226 : cod 134 226 = some (.inl .iaload, 1) := rfl
theorem k_134_227 : cod 134 227 = some (.inl .iadd, 1) := rfl
theorem k_134_228 : cod 134 228 = some (.inl (.iload_n 2), 1) := rfl
theorem k_134_229 : cod 134 229 = some (.inl .iastore, 1) := rfl
theorem k_134_230 : cod 134 230 = some (.inl (.aload_n 0), 1) := rfl
theorem k_134_231 : cod 134 231 = some (.inr (0, 9, 28, 0, 0), 3) := rfl
theorem k_134_234 : cod 134 234 = some (.inl (.iload 4), 2) := rfl
theorem k_134_236 : cod 134 236 = some (.inl .dup2, 1) := rfl
theorem k_134_237 : cod 134 237 = some (.inl .iaload, 1) := rfl
theorem k_134_238 : cod 134 238 = some (.inl (.iconst 1), 1) := rfl
theorem k_134_239 : cod 134 239 = some (.inl .iadd, 1) := rfl
theorem k_134_240 : cod 134 240 = some (.inl .iastore, 1) := rfl
theorem k_134_241 : cod 134 241 = some (.inl (.aload_n 0), 1) := rfl
theorem k_134_242 : cod 134 242 = some (.inl (.iload 4), 2) := rfl
theorem k_134_244 : cod 134 244 = some (.inr (17, 126, 2, 1, 9), 3) := rfl
theorem k_134_247 : cod 134 247 = some (.inl .return_, 1) := rfl
theorem k_135_0 : cod 135 0 = some (.inl (.aload_n 0), 1) := rfl
theorem k_135_1 : cod 135 1 = some (.inl (.aload_n 0), 1) := rfl
theorem k_135_2 : cod 135 2 = some (.inl (.iload_n 1), 1) := rfl
theorem k_135_3 : cod 135 3 = some (.inr (17, 106, 2, 1, 9), 3) := rfl
theorem k_135_6 : cod 135 6 = some (.inl (.ifCond .eq 16), 3) := rfl
theorem k_135_9 : cod 135 9 = some (.inl (.aload_n 0), 1) := rfl
theorem k_135_10 : cod 135 10 = some (.inl (.iload_n 2), 1) := rfl
theorem k_135_11 : cod 135 11 = some (.inr (17, 106, 2, 1, 9), 3) := rfl
theorem k_135_14 : cod 135 14 = some (.inl (.ifCond .eq 8), 3) := rfl
theorem k_135_17 : cod 135 17 = some (.inl (.iload_n 1), 1) := rfl
theorem k_135_18 : cod 135 18 = some (.inl (.iload_n 2), 1) := rfl
theorem k_135_19 : cod 135 19 = some (.inl (.if_icmp .ne 7), 3) := rfl
theorem k_135_22 : cod 135 22 = some (.inl (.iconst 1), 1) := rfl
theorem k_135_23 : cod 135 23 = some (.inl (.goto 4), 3) := rfl
theorem k_135_26 : cod 135 26 = some (.inl (.iconst 0), 1) := rfl
theorem k_135_27 : cod 135 27 = some (.inl (.iconst 0), 1) := rfl
theorem k_135_28 : cod 135 28 = some (.inr (17, 104, 3, 1, 9), 3) := rfl
theorem k_135_31 : cod 135 31 = some (.inl (.ifCond .eq 5), 3) := rfl
theorem k_135_34 : cod 135 34 = some (.inl (.iconst 0), 1) := rfl
theorem k_135_35 : cod 135 35 = some (.inl .ireturn, 1) := rfl
theorem k_135_36 : cod 135 36 = some (.inl (.iconst 0), 1) := rfl
theorem k_135_37 : cod 135 37 = some (.inl (.istore_n 3), 1) := rfl
theorem k_135_38 : cod 135 38 = some (.inl (.iconst 0), 1) := rfl
theorem k_135_39 : cod 135 39 = some (.inl (.istore 4), 2) := rfl
theorem k_135_41 : cod 135 41 = some (.inl (.iload 4), 2) := rfl
theorem k_135_43 : cod 135 43 = some (.inl (.aload_n 0), 1) := rfl
theorem k_135_44 : cod 135 44 = some (.inr (0, 9, 5, 0, 0), 3) := rfl
theorem k_135_47 : cod 135 47 = some (.inl (.if_icmp .ge 44), 3) := rfl
theorem k_135_50 : cod 135 50 = some (.inl (.aload_n 0), 1) := rfl
theorem k_135_51 : cod 135 51 = some (.inr (0, 9, 25, 0, 0), 3) := rfl
theorem k_135_54 : cod 135 54 = some (.inl (.iload 4), 2) := rfl
theorem k_135_56 : cod 135 56 = some (.inl .iaload, 1) := rfl
theorem k_135_57 : cod 135 57 = some (.inl (.ifCond .eq 28), 3) := rfl
theorem k_135_60 : cod 135 60 = some (.inl (.aload_n 0), 1) := rfl
theorem k_135_61 : cod 135 61 = some (.inr (0, 9, 23, 0, 0), 3) := rfl
theorem k_135_64 : cod 135 64 = some (.inl (.iload 4), 2) := rfl
theorem k_135_66 : cod 135 66 = some (.inl .iaload, 1) := rfl
theorem k_135_67 : cod 135 67 = some (.inl (.iload_n 1), 1) := rfl
theorem k_135_68 : cod 135 68 = some (.inl (.if_icmp .ne 17), 3) := rfl
theorem k_135_71 : cod 135 71 = some (.inl (.aload_n 0), 1) := rfl
theorem k_135_72 : cod 135 72 = some (.inr (0, 9, 24, 0, 0), 3) := rfl
theorem k_135_75 : cod 135 75 = some (.inl (.iload 4), 2) := rfl
theorem k_135_77 : cod 135 77 = some (.inl .iaload, 1) := rfl
theorem k_135_78 : cod 135 78 = some (.inl (.iload_n 2), 1) := rfl
theorem k_135_79 : cod 135 79 = some (.inl (.if_icmp .ne 6), 3) := rfl
theorem k_135_82 : cod 135 82 = some (.inl (.iinc 3 1), 3) := rfl
theorem k_135_85 : cod 135 85 = some (.inl (.iinc 4 1), 3) := rfl
theorem k_135_88 : cod 135 88 = some (.inl (.goto (-47)), 3) := rfl
theorem k_135_91 : cod 135 91 = some (.inl (.iload_n 3), 1) := rfl
theorem k_135_92 : cod 135 92 = some (.inl .ireturn, 1) := rfl
theorem k_136_0 : cod 136 0 = some (.inl (.aload_n 0), 1) := rfl
theorem k_136_1 : cod 136 1 = some (.inl (.aload_n 0), 1) := rfl
theorem k_136_2 : cod 136 2 = some (.inl (.iload_n 1), 1) := rfl
theorem k_136_3 : cod 136 3 = some (.inr (17, 106, 2, 1, 9), 3) := rfl
theorem k_136_6 : cod 136 6 = some (.inl (.ifCond .eq 11), 3) := rfl
theorem k_136_9 : cod 136 9 = some (.inl (.aload_n 0), 1) := rfl
theorem k_136_10 : cod 136 10 = some (.inl (.iload_n 2), 1) := rfl
theorem k_136_11 : cod 136 11 = some (.inr (17, 106, 2, 1, 9), 3) := rfl
theorem k_136_14 : cod 136 14 = some (.inl (.ifCond .ne 7), 3) := rfl
theorem k_136_17 : cod 136 17 = some (.inl (.iconst 1), 1) := rfl
theorem k_136_18 : cod 136 18 = some (.inl (.goto 4), 3) := rfl
theorem k_136_21 : cod 136 21 = some (.inl (.iconst 0), 1) := rfl
theorem k_136_22 : cod 136 22 = some (.inl (.iconst 0), 1) := rfl
theorem k_136_23 : cod 136 23 = some (.inr (17, 104, 3, 1, 9), 3) := rfl
theorem k_136_26 : cod 136 26 = some (.inl (.ifCond .eq 7), 3) := rfl
theorem k_136_29 : cod 136 29 = some (.inl (.iconst 0), 1) := rfl
theorem k_136_30 : cod 136 30 = some (.inl (.goto 14), 3) := rfl
theorem k_136_33 : cod 136 33 = some (.inl (.aload_n 0), 1) := rfl
theorem k_136_34 : cod 136 34 = some (.inr (0, 9, 20, 0, 0), 3) := rfl
theorem k_136_37 : cod 136 37 = some (.inl (.bipush 6), 2) := rfl
theorem k_136_39 : cod 136 39 = some (.inl (.iload_n 1), 1) := rfl
theorem k_136_40 : cod 136 40 = some (.inl .imul, 1) := rfl
theorem k_136_41 : cod 136 41 = some (.inl (.iload_n 2), 1) := rfl
theorem k_136_42 : cod 136 42 = some (.inl .iadd, 1) := rfl
theorem k_136_43 : cod 136 43 = some (.inl .iaload, 1) := rfl
theorem k_136_44 : cod 136 44 = some (.inl .ireturn, 1) := rfl
theorem k_137_0 : cod 137 0 = some (.inl (.aload_n 0), 1) := rfl
theorem k_137_1 : cod 137 1 = some (.inl (.aload_n 0), 1) := rfl
theorem k_137_2 : cod 137 2 = some (.inl (.iload_n 1), 1) := rfl
theorem k_137_3 : cod 137 3 = some (.inr (17, 110, 2, 1, 9), 3) := rfl
theorem k_137_6 : cod 137 6 = some (.inl (.ifCond .eq 12), 3) := rfl
theorem k_137_9 : cod 137 9 = some (.inl (.iload_n 2), 1) := rfl
theorem k_137_10 : cod 137 10 = some (.inl (.ifCond .lt 8), 3) := rfl
theorem k_137_13 : cod 137 13 = some (.inl (.iload_n 2), 1) := rfl
theorem k_137_14 : cod 137 14 = some (.inl (.iconst 3), 1) := rfl
theorem k_137_15 : cod 137 15 = some (.inl (.if_icmp .le 7), 3) := rfl
theorem k_137_18 : cod 137 18 = some (.inl (.iconst 1), 1) := rfl
theorem k_137_19 : cod 137 19 = some (.inl (.goto 4), 3) := rfl
theorem k_137_22 : cod 137 22 = some (.inl (.iconst 0), 1) := rfl
theorem k_137_23 : cod 137 23 = some (.inl (.iconst 0), 1) := rfl
theorem k_137_24 : cod 137 24 = some (.inr (17, 104, 3, 1, 9), 3) := rfl
theorem k_137_27 : cod 137 27 = some (.inl (.ifCond .eq 5), 3) := rfl
theorem k_137_30 : cod 137 30 = some (.inl (.iconst 0), 1) := rfl
theorem k_137_31 : cod 137 31 = some (.inl .ireturn, 1) := rfl
theorem k_137_32 : cod 137 32 = some (.inl (.iload_n 2), 1) := rfl
theorem k_137_33 : cod 137 33 = some (.inl (.ifCond .ne 10), 3) := rfl
theorem k_137_36 : cod 137 36 = some (.inl (.aload_n 0), 1) := rfl
theorem k_137_37 : cod 137 37 = some (.inr (0, 9, 11, 0, 0), 3) := rfl
theorem k_137_40 : cod 137 40 = some (.inl (.iload_n 1), 1) := rfl
theorem k_137_41 : cod 137 41 = some (.inl .iaload, 1) := rfl
theorem k_137_42 : cod 137 42 = some (.inl .ireturn, 1) := rfl
theorem k_137_43 : cod 137 43 = some (.inl (.iload_n 2), 1) := rfl
theorem k_137_44 : cod 137 44 = some (.inl (.iconst 1), 1) := rfl
theorem k_137_45 : cod 137 45 = some (.inl (.if_icmp .ne 10), 3) := rfl
theorem k_137_48 : cod 137 48 = some (.inl (.aload_n 0), 1) := rfl
theorem k_137_49 : cod 137 49 = some (.inr (0, 9, 12, 0, 0), 3) := rfl
theorem k_137_52 : cod 137 52 = some (.inl (.iload_n 1), 1) := rfl
theorem k_137_53 : cod 137 53 = some (.inl .iaload, 1) := rfl
theorem k_137_54 : cod 137 54 = some (.inl .ireturn, 1) := rfl
theorem k_137_55 : cod 137 55 = some (.inl (.iload_n 2), 1) := rfl
theorem k_137_56 : cod 137 56 = some (.inl (.iconst 3), 1) := rfl
theorem k_137_57 : cod 137 57 = some (.inl (.if_icmp .ne 31), 3) := rfl
theorem k_137_60 : cod 137 60 = some (.inl (.aload_n 0), 1) := rfl
theorem k_137_61 : cod 137 61 = some (.inr (0, 9, 11, 0, 0), 3) := rfl
theorem k_137_64 : cod 137 64 = some (.inl (.iload_n 1), 1) := rfl
theorem k_137_65 : cod 137 65 = some (.inl .iaload, 1) := rfl
theorem k_137_66 : cod 137 66 = some (.inl (.iconst 3), 1) := rfl
theorem k_137_67 : cod 137 67 = some (.inl (.if_icmp .ne 19), 3) := rfl
theorem k_137_70 : cod 137 70 = some (.inl (.aload_n 0), 1) := rfl
theorem k_137_71 : cod 137 71 = some (.inr (0, 9, 15, 0, 0), 3) := rfl
theorem k_137_74 : cod 137 74 = some (.inl (.iload_n 1), 1) := rfl
theorem k_137_75 : cod 137 75 = some (.inl .iaload, 1) := rfl
theorem k_137_76 : cod 137 76 = some (.inl (.aload_n 0), 1) := rfl
theorem k_137_77 : cod 137 77 = some (.inr (0, 9, 14, 0, 0), 3) := rfl
theorem k_137_80 : cod 137 80 = some (.inl (.iload_n 1), 1) := rfl
theorem k_137_81 : cod 137 81 = some (.inl .iaload, 1) := rfl
theorem k_137_82 : cod 137 82 = some (.inl .isub, 1) := rfl
theorem k_137_83 : cod 137 83 = some (.inl (.goto 4), 3) := rfl
theorem k_137_86 : cod 137 86 = some (.inl (.iconst 0), 1) := rfl
theorem k_137_87 : cod 137 87 = some (.inl .ireturn, 1) := rfl
theorem k_137_88 : cod 137 88 = some (.inl (.iconst 0), 1) := rfl
theorem k_137_89 : cod 137 89 = some (.inl (.istore_n 3), 1) := rfl
theorem k_137_90 : cod 137 90 = some (.inl (.iconst 0), 1) := rfl
theorem k_137_91 : cod 137 91 = some (.inl (.istore 4), 2) := rfl
theorem k_137_93 : cod 137 93 = some (.inl (.iload 4), 2) := rfl
theorem k_137_95 : cod 137 95 = some (.inl (.aload_n 0), 1) := rfl
theorem k_137_96 : cod 137 96 = some (.inr (0, 9, 1, 0, 0), 3) := rfl
theorem k_137_99 : cod 137 99 = some (.inl (.if_icmp .ge 47), 3) := rfl
theorem k_137_102 : cod 137 102 = some (.inl (.aload_n 0), 1) := rfl
theorem k_137_103 : cod 137 103 = some (.inr (0, 9, 12, 0, 0), 3) := rfl
theorem k_137_106 : cod 137 106 = some (.inl (.iload_n 1), 1) := rfl
theorem k_137_107 : cod 137 107 = some (.inl .iaload, 1) := rfl
theorem k_137_108 : cod 137 108 = some (.inl (.ifCond .le 32), 3) := rfl
theorem k_137_111 : cod 137 111 = some (.inl (.aload_n 0), 1) := rfl
theorem k_137_112 : cod 137 112 = some (.inr (0, 9, 20, 0, 0), 3) := rfl
theorem k_137_115 : cod 137 115 = some (.inl (.bipush 6), 2) := rfl
theorem k_137_117 : cod 137 117 = some (.inl (.iload 4), 2) := rfl
theorem k_137_119 : cod 137 119 = some (.inl .imul, 1) := rfl
theorem k_137_120 : cod 137 120 = some (.inl (.aload_n 0), 1) := rfl
theorem k_137_121 : cod 137 121 = some (.inr (0, 9, 10, 0, 0), 3) := rfl
theorem k_137_124 : cod 137 124 = some (.inl (.iload_n 1), 1) := rfl
theorem k_137_125 : cod 137 125 = some (.inl .iaload, 1) := rfl
theorem k_137_126 : cod 137 126 = some (.inl .iadd, 1) := rfl
theorem k_137_127 : cod 137 127 = some (.inl .iaload, 1) := rfl
theorem k_137_128 : cod 137 128 = some (.inl (.aload_n 0), 1) := rfl
theorem k_137_129 : cod 137 129 = some (.inr (0, 9, 12, 0, 0), 3) := rfl
theorem k_137_132 : cod 137 132 = some (.inl (.iload_n 1), 1) := rfl
theorem k_137_133 : cod 137 133 = some (.inl .iaload, 1) := rfl
theorem k_137_134 : cod 137 134 = some (.inl (.if_icmp .lt 6), 3) := rfl
theorem k_137_137 : cod 137 137 = some (.inl (.iinc 3 1), 3) := rfl
theorem k_137_140 : cod 137 140 = some (.inl (.iinc 4 1), 3) := rfl
theorem k_137_143 : cod 137 143 = some (.inl (.goto (-50)), 3) := rfl
theorem k_137_146 : cod 137 146 = some (.inl (.iload_n 3), 1) := rfl
theorem k_137_147 : cod 137 147 = some (.inl .ireturn, 1) := rfl
theorem k_138_0 : cod 138 0 = some (.inl (.aload_n 0), 1) := rfl
theorem k_138_1 : cod 138 1 = some (.inl (.aload_n 0), 1) := rfl
theorem k_138_2 : cod 138 2 = some (.inl (.iload_n 1), 1) := rfl
theorem k_138_3 : cod 138 3 = some (.inr (17, 111, 2, 1, 9), 3) := rfl
theorem k_138_6 : cod 138 6 = some (.inl (.ifCond .ne 7), 3) := rfl
theorem k_138_9 : cod 138 9 = some (.inl (.iconst 1), 1) := rfl
theorem k_138_10 : cod 138 10 = some (.inl (.goto 4), 3) := rfl
theorem k_138_13 : cod 138 13 = some (.inl (.iconst 0), 1) := rfl
theorem k_138_14 : cod 138 14 = some (.inl (.iconst 0), 1) := rfl
theorem k_138_15 : cod 138 15 = some (.inr (17, 104, 3, 1, 9), 3) := rfl
theorem k_138_18 : cod 138 18 = some (.inl (.ifCond .eq 7), 3) := rfl
theorem k_138_21 : cod 138 21 = some (.inl (.iconst 0), 1) := rfl
theorem k_138_22 : cod 138 22 = some (.inl (.goto 9), 3) := rfl
theorem k_138_25 : cod 138 25 = some (.inl (.aload_n 0), 1) := rfl
theorem k_138_26 : cod 138 26 = some (.inr (0, 9, 8, 0, 0), 3) := rfl
theorem k_138_29 : cod 138 29 = some (.inl (.iload_n 1), 1) := rfl
theorem k_138_30 : cod 138 30 = some (.inl .iaload, 1) := rfl
theorem k_138_31 : cod 138 31 = some (.inl .ireturn, 1) := rfl
theorem k_139_0 : cod 139 0 = some (.inl (.aload_n 0), 1) := rfl
theorem k_139_1 : cod 139 1 = some (.inl (.iconst 0), 1) := rfl
theorem k_139_2 : cod 139 2 = some (.inr (1, 9, 0, 0, 0), 3) := rfl
theorem k_139_5 : cod 139 5 = some (.inl (.iconst 0), 1) := rfl
theorem k_139_6 : cod 139 6 = some (.inl (.istore_n 2), 1) := rfl
theorem k_139_7 : cod 139 7 = some (.inl (.iload_n 1), 1) := rfl
theorem k_139_8 : cod 139 8 = some (.inl (.tableswitch 117 0 5 #[40, 45, 50, 55, 60, 87]), 40) := rfl
theorem k_139_48 : cod 139 48 = some (.inl (.aload_n 0), 1) := rfl
theorem k_139_49 : cod 139 49 = some (.inr (0, 9, 1, 0, 0), 3) := rfl
theorem k_139_52 : cod 139 52 = some (.inl .ireturn, 1) := rfl
theorem k_139_53 : cod 139 53 = some (.inl (.aload_n 0), 1) := rfl
theorem k_139_54 : cod 139 54 = some (.inr (0, 9, 2, 0, 0), 3) := rfl
theorem k_139_57 : cod 139 57 = some (.inl .ireturn, 1) := rfl
theorem k_139_58 : cod 139 58 = some (.inl (.aload_n 0), 1) := rfl
theorem k_139_59 : cod 139 59 = some (.inr (0, 9, 3, 0, 0), 3) := rfl
theorem k_139_62 : cod 139 62 = some (.inl .ireturn, 1) := rfl
theorem k_139_63 : cod 139 63 = some (.inl (.aload_n 0), 1) := rfl
theorem k_139_64 : cod 139 64 = some (.inr (0, 9, 6, 0, 0), 3) := rfl
theorem k_139_67 : cod 139 67 = some (.inl .ireturn, 1) := rfl
theorem k_139_68 : cod 139 68 = some (.inl (.iconst 0), 1) := rfl
theorem k_139_69 : cod 139 69 = some (.inl (.istore_n 3), 1) := rfl
theorem k_139_70 : cod 139 70 = some (.inl (.iload_n 3), 1) := rfl
theorem k_139_71 : cod 139 71 = some (.inl (.aload_n 0), 1) := rfl
theorem k_139_72 : cod 139 72 = some (.inr (0, 9, 1, 0, 0), 3) := rfl
theorem k_139_75 : cod 139 75 = some (.inl (.if_icmp .ge 18), 3) := rfl
theorem k_139_78 : cod 139 78 = some (.inl (.iload_n 2), 1) := rfl
theorem k_139_79 : cod 139 79 = some (.inl (.aload_n 0), 1) := rfl
theorem k_139_80 : cod 139 80 = some (.inr (0, 9, 28, 0, 0), 3) := rfl
theorem k_139_83 : cod 139 83 = some (.inl (.iload_n 3), 1) := rfl
theorem k_139_84 : cod 139 84 = some (.inl .iaload, 1) := rfl
theorem k_139_85 : cod 139 85 = some (.inl .iadd, 1) := rfl
theorem k_139_86 : cod 139 86 = some (.inl (.istore_n 2), 1) := rfl
theorem k_139_87 : cod 139 87 = some (.inl (.iinc 3 1), 3) := rfl
theorem k_139_90 : cod 139 90 = some (.inl (.goto (-20)), 3) := rfl
theorem k_139_93 : cod 139 93 = some (.inl (.iload_n 2), 1) := rfl
theorem k_139_94 : cod 139 94 = some (.inl .ireturn, 1) := rfl
theorem k_139_95 : cod 139 95 = some (.inl (.iconst 0), 1) := rfl
theorem k_139_96 : cod 139 96 = some (.inl (.istore_n 3), 1) := rfl
theorem k_139_97 : cod 139 97 = some (.inl (.iload_n 3), 1) := rfl
theorem k_139_98 : cod 139 98 = some (.inl (.aload_n 0), 1) := rfl
theorem k_139_99 : cod 139 99 = some (.inr (0, 9, 5, 0, 0), 3) := rfl
theorem k_139_102 : cod 139 102 = some (.inl (.if_icmp .ge 21), 3) := rfl
theorem k_139_105 : cod 139 105 = some (.inl (.aload_n 0), 1) := rfl
theorem k_139_106 : cod 139 106 = some (.inr (0, 9, 25, 0, 0), 3) := rfl
theorem k_139_109 : cod 139 109 = some (.inl (.iload_n 3), 1) := rfl
theorem k_139_110 : cod 139 110 = some (.inl .iaload, 1) := rfl
theorem k_139_111 : cod 139 111 = some (.inl (.ifCond .eq 6), 3) := rfl
theorem k_139_114 : cod 139 114 = some (.inl (.iinc 2 1), 3) := rfl
theorem k_139_117 : cod 139 117 = some (.inl (.iinc 3 1), 3) := rfl
theorem k_139_120 : cod 139 120 = some (.inl (.goto (-23)), 3) := rfl
theorem k_139_123 : cod 139 123 = some (.inl (.iload_n 2), 1) := rfl
theorem k_139_124 : cod 139 124 = some (.inl .ireturn, 1) := rfl
theorem k_139_125 : cod 139 125 = some (.inl (.iconst (-1)), 1) := rfl
theorem k_139_126 : cod 139 126 = some (.inl .ireturn, 1) := rfl
