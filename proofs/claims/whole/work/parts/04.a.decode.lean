theorem dX0_init_0 : decode cX0_init 0 = .ok (.aload_n 0, 1) := by decide +kernel
theorem dX0_init_1 : decode cX0_init 1 = .ok (.invokespecial 3, 3) := by decide +kernel
theorem dX0_init_4 : decode cX0_init 4 = .ok (.aload_n 0, 1) := by decide +kernel
theorem dX0_init_5 : decode cX0_init 5 = .ok (.sipush 128, 3) := by decide +kernel
theorem dX0_init_8 : decode cX0_init 8 = .ok (.newarray .int, 2) := by decide +kernel
theorem dX0_init_10 : decode cX0_init 10 = .ok (.putfield 9, 3) := by decide +kernel
theorem dX0_init_13 : decode cX0_init 13 = .ok (.return_, 1) := by decide +kernel
theorem dX0_mostShared_0 : decode cX0_mostShared 0 = .ok (.iconst 1, 1) := by decide +kernel
theorem dX0_mostShared_1 : decode cX0_mostShared 1 = .ok (.aload_n 1, 1) := by decide +kernel
theorem dX0_mostShared_2 : decode cX0_mostShared 2 = .ok (.getfield 15, 3) := by decide +kernel
theorem dX0_mostShared_5 : decode cX0_mostShared 5 = .ok (.ishl, 1) := by decide +kernel
theorem dX0_mostShared_6 : decode cX0_mostShared 6 = .ok (.iconst 1, 1) := by decide +kernel
theorem dX0_mostShared_7 : decode cX0_mostShared 7 = .ok (.isub, 1) := by decide +kernel
theorem dX0_mostShared_8 : decode cX0_mostShared 8 = .ok (.istore_n 2, 1) := by decide +kernel
theorem dX0_mostShared_9 : decode cX0_mostShared 9 = .ok (.iconst 0, 1) := by decide +kernel
theorem dX0_mostShared_10 : decode cX0_mostShared 10 = .ok (.istore_n 3, 1) := by decide +kernel
theorem dX0_mostShared_11 : decode cX0_mostShared 11 = .ok (.iload_n 3, 1) := by decide +kernel
theorem dX0_mostShared_12 : decode cX0_mostShared 12 = .ok (.iload_n 2, 1) := by decide +kernel
theorem dX0_mostShared_13 : decode cX0_mostShared 13 = .ok (.if_icmp .gt 112, 3) := by decide +kernel
theorem dX0_mostShared_16 : decode cX0_mostShared 16 = .ok (.iload_n 3, 1) := by decide +kernel
theorem dX0_mostShared_17 : decode cX0_mostShared 17 = .ok (.sipush 128, 3) := by decide +kernel
theorem dX0_mostShared_20 : decode cX0_mostShared 20 = .ok (.if_icmp .ge 105, 3) := by decide +kernel
theorem dX0_mostShared_23 : decode cX0_mostShared 23 = .ok (.iconst 0, 1) := by decide +kernel
theorem dX0_mostShared_24 : decode cX0_mostShared 24 = .ok (.istore 4, 2) := by decide +kernel
theorem dX0_mostShared_26 : decode cX0_mostShared 26 = .ok (.iload 4, 2) := by decide +kernel
theorem dX0_mostShared_28 : decode cX0_mostShared 28 = .ok (.aload_n 1, 1) := by decide +kernel
theorem dX0_mostShared_29 : decode cX0_mostShared 29 = .ok (.getfield 15, 3) := by decide +kernel
theorem dX0_mostShared_32 : decode cX0_mostShared 32 = .ok (.if_icmp .ge 18, 3) := by decide +kernel
theorem dX0_mostShared_35 : decode cX0_mostShared 35 = .ok (.iload_n 3, 1) := by decide +kernel
theorem dX0_mostShared_36 : decode cX0_mostShared 36 = .ok (.iload 4, 2) := by decide +kernel
theorem dX0_mostShared_38 : decode cX0_mostShared 38 = .ok (.invokestatic 21, 3) := by decide +kernel
theorem dX0_mostShared_41 : decode cX0_mostShared 41 = .ok (.ifCond .ne 9, 3) := by decide +kernel
theorem dX0_mostShared_44 : decode cX0_mostShared 44 = .ok (.iinc 4 1, 3) := by decide +kernel
theorem dX0_mostShared_47 : decode cX0_mostShared 47 = .ok (.goto (-21), 3) := by decide +kernel
theorem dX0_mostShared_50 : decode cX0_mostShared 50 = .ok (.aload_n 0, 1) := by decide +kernel
theorem dX0_mostShared_51 : decode cX0_mostShared 51 = .ok (.iload_n 3, 1) := by decide +kernel
theorem dX0_mostShared_52 : decode cX0_mostShared 52 = .ok (.iconst 1, 1) := by decide +kernel
theorem dX0_mostShared_53 : decode cX0_mostShared 53 = .ok (.iload 4, 2) := by decide +kernel
theorem dX0_mostShared_55 : decode cX0_mostShared 55 = .ok (.ishl, 1) := by decide +kernel
theorem dX0_mostShared_56 : decode cX0_mostShared 56 = .ok (.iconst (-1), 1) := by decide +kernel
theorem dX0_mostShared_57 : decode cX0_mostShared 57 = .ok (.ixor, 1) := by decide +kernel
theorem dX0_mostShared_58 : decode cX0_mostShared 58 = .ok (.iand, 1) := by decide +kernel
theorem dX0_mostShared_59 : decode cX0_mostShared 59 = .ok (.invokevirtual 25, 3) := by decide +kernel
theorem dX0_mostShared_62 : decode cX0_mostShared 62 = .ok (.istore 5, 2) := by decide +kernel
theorem dX0_mostShared_64 : decode cX0_mostShared 64 = .ok (.iload 4, 2) := by decide +kernel
theorem dX0_mostShared_66 : decode cX0_mostShared 66 = .ok (.iconst 1, 1) := by decide +kernel
theorem dX0_mostShared_67 : decode cX0_mostShared 67 = .ok (.iadd, 1) := by decide +kernel
theorem dX0_mostShared_68 : decode cX0_mostShared 68 = .ok (.istore 6, 2) := by decide +kernel
theorem dX0_mostShared_70 : decode cX0_mostShared 70 = .ok (.iload 6, 2) := by decide +kernel
theorem dX0_mostShared_72 : decode cX0_mostShared 72 = .ok (.aload_n 1, 1) := by decide +kernel
theorem dX0_mostShared_73 : decode cX0_mostShared 73 = .ok (.getfield 15, 3) := by decide +kernel
theorem dX0_mostShared_76 : decode cX0_mostShared 76 = .ok (.if_icmp .ge 35, 3) := by decide +kernel
theorem dX0_mostShared_79 : decode cX0_mostShared 79 = .ok (.iload_n 3, 1) := by decide +kernel
theorem dX0_mostShared_80 : decode cX0_mostShared 80 = .ok (.iload 6, 2) := by decide +kernel
theorem dX0_mostShared_82 : decode cX0_mostShared 82 = .ok (.invokestatic 21, 3) := by decide +kernel
theorem dX0_mostShared_85 : decode cX0_mostShared 85 = .ok (.ifCond .eq 20, 3) := by decide +kernel
theorem dX0_mostShared_88 : decode cX0_mostShared 88 = .ok (.iload 5, 2) := by decide +kernel
theorem dX0_mostShared_90 : decode cX0_mostShared 90 = .ok (.aload_n 0, 1) := by decide +kernel
theorem dX0_mostShared_91 : decode cX0_mostShared 91 = .ok (.aload_n 1, 1) := by decide +kernel
theorem dX0_mostShared_92 : decode cX0_mostShared 92 = .ok (.iload_n 3, 1) := by decide +kernel
theorem dX0_mostShared_93 : decode cX0_mostShared 93 = .ok (.iload 4, 2) := by decide +kernel
theorem dX0_mostShared_95 : decode cX0_mostShared 95 = .ok (.iload 6, 2) := by decide +kernel
theorem dX0_mostShared_97 : decode cX0_mostShared 97 = .ok (.invokevirtual 29, 3) := by decide +kernel
theorem dX0_mostShared_100 : decode cX0_mostShared 100 = .ok (.invokestatic 33, 3) := by decide +kernel
theorem dX0_mostShared_103 : decode cX0_mostShared 103 = .ok (.istore 5, 2) := by decide +kernel
theorem dX0_mostShared_105 : decode cX0_mostShared 105 = .ok (.iinc 6 1, 3) := by decide +kernel
theorem dX0_mostShared_108 : decode cX0_mostShared 108 = .ok (.goto (-38), 3) := by decide +kernel
theorem dX0_mostShared_111 : decode cX0_mostShared 111 = .ok (.aload_n 0, 1) := by decide +kernel
theorem dX0_mostShared_112 : decode cX0_mostShared 112 = .ok (.getfield 9, 3) := by decide +kernel
theorem dX0_mostShared_115 : decode cX0_mostShared 115 = .ok (.iload_n 3, 1) := by decide +kernel
theorem dX0_mostShared_116 : decode cX0_mostShared 116 = .ok (.iload 5, 2) := by decide +kernel
theorem dX0_mostShared_118 : decode cX0_mostShared 118 = .ok (.iastore, 1) := by decide +kernel
theorem dX0_mostShared_119 : decode cX0_mostShared 119 = .ok (.iinc 3 1, 3) := by decide +kernel
theorem dX0_mostShared_122 : decode cX0_mostShared 122 = .ok (.goto (-111), 3) := by decide +kernel
theorem dX0_mostShared_125 : decode cX0_mostShared 125 = .ok (.aload_n 0, 1) := by decide +kernel
theorem dX0_mostShared_126 : decode cX0_mostShared 126 = .ok (.iload_n 2, 1) := by decide +kernel
theorem dX0_mostShared_127 : decode cX0_mostShared 127 = .ok (.invokevirtual 25, 3) := by decide +kernel
theorem dX0_mostShared_130 : decode cX0_mostShared 130 = .ok (.ireturn, 1) := by decide +kernel
theorem dX0_sharedOf_0 : decode cX0_sharedOf 0 = .ok (.iload_n 1, 1) := by decide +kernel
theorem dX0_sharedOf_1 : decode cX0_sharedOf 1 = .ok (.ifCond .le 19, 3) := by decide +kernel
theorem dX0_sharedOf_4 : decode cX0_sharedOf 4 = .ok (.iload_n 1, 1) := by decide +kernel
theorem dX0_sharedOf_5 : decode cX0_sharedOf 5 = .ok (.sipush 128, 3) := by decide +kernel
theorem dX0_sharedOf_8 : decode cX0_sharedOf 8 = .ok (.if_icmp .ge 12, 3) := by decide +kernel
theorem dX0_sharedOf_11 : decode cX0_sharedOf 11 = .ok (.aload_n 0, 1) := by decide +kernel
theorem dX0_sharedOf_12 : decode cX0_sharedOf 12 = .ok (.getfield 9, 3) := by decide +kernel
theorem dX0_sharedOf_15 : decode cX0_sharedOf 15 = .ok (.iload_n 1, 1) := by decide +kernel
theorem dX0_sharedOf_16 : decode cX0_sharedOf 16 = .ok (.iaload, 1) := by decide +kernel
theorem dX0_sharedOf_17 : decode cX0_sharedOf 17 = .ok (.goto 4, 3) := by decide +kernel
theorem dX0_sharedOf_20 : decode cX0_sharedOf 20 = .ok (.iconst 0, 1) := by decide +kernel
theorem dX0_sharedOf_21 : decode cX0_sharedOf 21 = .ok (.ireturn, 1) := by decide +kernel
theorem dX0_sharedWith_0 : decode cX0_sharedWith 0 = .ok (.aload_n 1, 1) := by decide +kernel
theorem dX0_sharedWith_1 : decode cX0_sharedWith 1 = .ok (.iconst 3, 1) := by decide +kernel
theorem dX0_sharedWith_2 : decode cX0_sharedWith 2 = .ok (.iload_n 3, 1) := by decide +kernel
theorem dX0_sharedWith_3 : decode cX0_sharedWith 3 = .ok (.invokevirtual 39, 3) := by decide +kernel
theorem dX0_sharedWith_6 : decode cX0_sharedWith 6 = .ok (.aload_n 1, 1) := by decide +kernel
theorem dX0_sharedWith_7 : decode cX0_sharedWith 7 = .ok (.iconst 3, 1) := by decide +kernel
theorem dX0_sharedWith_8 : decode cX0_sharedWith 8 = .ok (.iload 4, 2) := by decide +kernel
theorem dX0_sharedWith_10 : decode cX0_sharedWith 10 = .ok (.invokevirtual 39, 3) := by decide +kernel
theorem dX0_sharedWith_13 : decode cX0_sharedWith 13 = .ok (.iand, 1) := by decide +kernel
theorem dX0_sharedWith_14 : decode cX0_sharedWith 14 = .ok (.istore 5, 2) := by decide +kernel
theorem dX0_sharedWith_16 : decode cX0_sharedWith 16 = .ok (.iload 5, 2) := by decide +kernel
theorem dX0_sharedWith_18 : decode cX0_sharedWith 18 = .ok (.invokestatic 42, 3) := by decide +kernel
theorem dX0_sharedWith_21 : decode cX0_sharedWith 21 = .ok (.aload_n 0, 1) := by decide +kernel
theorem dX0_sharedWith_22 : decode cX0_sharedWith 22 = .ok (.iload_n 2, 1) := by decide +kernel
theorem dX0_sharedWith_23 : decode cX0_sharedWith 23 = .ok (.iconst 1, 1) := by decide +kernel
theorem dX0_sharedWith_24 : decode cX0_sharedWith 24 = .ok (.iload_n 3, 1) := by decide +kernel
theorem dX0_sharedWith_25 : decode cX0_sharedWith 25 = .ok (.ishl, 1) := by decide +kernel
theorem dX0_sharedWith_26 : decode cX0_sharedWith 26 = .ok (.iconst (-1), 1) := by decide +kernel
theorem dX0_sharedWith_27 : decode cX0_sharedWith 27 = .ok (.ixor, 1) := by decide +kernel
theorem dX0_sharedWith_28 : decode cX0_sharedWith 28 = .ok (.iand, 1) := by decide +kernel
theorem dX0_sharedWith_29 : decode cX0_sharedWith 29 = .ok (.iconst 1, 1) := by decide +kernel
theorem dX0_sharedWith_30 : decode cX0_sharedWith 30 = .ok (.iload 4, 2) := by decide +kernel
theorem dX0_sharedWith_32 : decode cX0_sharedWith 32 = .ok (.ishl, 1) := by decide +kernel
theorem dX0_sharedWith_33 : decode cX0_sharedWith 33 = .ok (.iconst (-1), 1) := by decide +kernel
theorem dX0_sharedWith_34 : decode cX0_sharedWith 34 = .ok (.ixor, 1) := by decide +kernel
theorem dX0_sharedWith_35 : decode cX0_sharedWith 35 = .ok (.iand, 1) := by decide +kernel
theorem dX0_sharedWith_36 : decode cX0_sharedWith 36 = .ok (.invokevirtual 25, 3) := by decide +kernel
theorem dX0_sharedWith_39 : decode cX0_sharedWith 39 = .ok (.iadd, 1) := by decide +kernel
theorem dX0_sharedWith_40 : decode cX0_sharedWith 40 = .ok (.ireturn, 1) := by decide +kernel
theorem dX0_partnerOf_0 : decode cX0_partnerOf 0 = .ok (.aload_n 0, 1) := by decide +kernel
theorem dX0_partnerOf_1 : decode cX0_partnerOf 1 = .ok (.aload_n 1, 1) := by decide +kernel
theorem dX0_partnerOf_2 : decode cX0_partnerOf 2 = .ok (.invokevirtual 47, 3) := by decide +kernel
theorem dX0_partnerOf_5 : decode cX0_partnerOf 5 = .ok (.pop, 1) := by decide +kernel
theorem dX0_partnerOf_6 : decode cX0_partnerOf 6 = .ok (.iconst 1, 1) := by decide +kernel
theorem dX0_partnerOf_7 : decode cX0_partnerOf 7 = .ok (.aload_n 1, 1) := by decide +kernel
theorem dX0_partnerOf_8 : decode cX0_partnerOf 8 = .ok (.getfield 15, 3) := by decide +kernel
theorem dX0_partnerOf_11 : decode cX0_partnerOf 11 = .ok (.ishl, 1) := by decide +kernel
theorem dX0_partnerOf_12 : decode cX0_partnerOf 12 = .ok (.iconst 1, 1) := by decide +kernel
theorem dX0_partnerOf_13 : decode cX0_partnerOf 13 = .ok (.isub, 1) := by decide +kernel
theorem dX0_partnerOf_14 : decode cX0_partnerOf 14 = .ok (.istore_n 3, 1) := by decide +kernel
theorem dX0_partnerOf_15 : decode cX0_partnerOf 15 = .ok (.iconst 0, 1) := by decide +kernel
theorem dX0_partnerOf_16 : decode cX0_partnerOf 16 = .ok (.istore 4, 2) := by decide +kernel
theorem dX0_partnerOf_18 : decode cX0_partnerOf 18 = .ok (.iload 4, 2) := by decide +kernel
theorem dX0_partnerOf_20 : decode cX0_partnerOf 20 = .ok (.aload_n 1, 1) := by decide +kernel
theorem dX0_partnerOf_21 : decode cX0_partnerOf 21 = .ok (.getfield 15, 3) := by decide +kernel
theorem dX0_partnerOf_24 : decode cX0_partnerOf 24 = .ok (.if_icmp .ge 74, 3) := by decide +kernel
theorem dX0_partnerOf_27 : decode cX0_partnerOf 27 = .ok (.iload_n 3, 1) := by decide +kernel
theorem dX0_partnerOf_28 : decode cX0_partnerOf 28 = .ok (.iload 4, 2) := by decide +kernel
theorem dX0_partnerOf_30 : decode cX0_partnerOf 30 = .ok (.invokestatic 21, 3) := by decide +kernel
theorem dX0_partnerOf_33 : decode cX0_partnerOf 33 = .ok (.ifCond .eq 59, 3) := by decide +kernel
theorem dX0_partnerOf_36 : decode cX0_partnerOf 36 = .ok (.aload_n 0, 1) := by decide +kernel
theorem dX0_partnerOf_37 : decode cX0_partnerOf 37 = .ok (.aload_n 1, 1) := by decide +kernel
theorem dX0_partnerOf_38 : decode cX0_partnerOf 38 = .ok (.iload_n 3, 1) := by decide +kernel
theorem dX0_partnerOf_39 : decode cX0_partnerOf 39 = .ok (.iload 4, 2) := by decide +kernel
theorem dX0_partnerOf_41 : decode cX0_partnerOf 41 = .ok (.invokevirtual 51, 3) := by decide +kernel
theorem dX0_partnerOf_44 : decode cX0_partnerOf 44 = .ok (.istore 5, 2) := by decide +kernel
theorem dX0_partnerOf_46 : decode cX0_partnerOf 46 = .ok (.iload 4, 2) := by decide +kernel
theorem dX0_partnerOf_48 : decode cX0_partnerOf 48 = .ok (.iload_n 2, 1) := by decide +kernel
theorem dX0_partnerOf_49 : decode cX0_partnerOf 49 = .ok (.if_icmp .ne 6, 3) := by decide +kernel
theorem dX0_partnerOf_52 : decode cX0_partnerOf 52 = .ok (.iload 5, 2) := by decide +kernel
theorem dX0_partnerOf_54 : decode cX0_partnerOf 54 = .ok (.ireturn, 1) := by decide +kernel
theorem dX0_partnerOf_55 : decode cX0_partnerOf 55 = .ok (.iload 5, 2) := by decide +kernel
theorem dX0_partnerOf_57 : decode cX0_partnerOf 57 = .ok (.iload_n 2, 1) := by decide +kernel
theorem dX0_partnerOf_58 : decode cX0_partnerOf 58 = .ok (.if_icmp .ne 6, 3) := by decide +kernel
theorem dX0_partnerOf_61 : decode cX0_partnerOf 61 = .ok (.iload 4, 2) := by decide +kernel
theorem dX0_partnerOf_63 : decode cX0_partnerOf 63 = .ok (.ireturn, 1) := by decide +kernel
theorem dX0_partnerOf_64 : decode cX0_partnerOf 64 = .ok (.iload_n 3, 1) := by decide +kernel
theorem dX0_partnerOf_65 : decode cX0_partnerOf 65 = .ok (.iconst 1, 1) := by decide +kernel
theorem dX0_partnerOf_66 : decode cX0_partnerOf 66 = .ok (.iload 4, 2) := by decide +kernel
theorem dX0_partnerOf_68 : decode cX0_partnerOf 68 = .ok (.ishl, 1) := by decide +kernel
theorem dX0_partnerOf_69 : decode cX0_partnerOf 69 = .ok (.iconst (-1), 1) := by decide +kernel
theorem dX0_partnerOf_70 : decode cX0_partnerOf 70 = .ok (.ixor, 1) := by decide +kernel
theorem dX0_partnerOf_71 : decode cX0_partnerOf 71 = .ok (.iand, 1) := by decide +kernel
theorem dX0_partnerOf_72 : decode cX0_partnerOf 72 = .ok (.istore_n 3, 1) := by decide +kernel
theorem dX0_partnerOf_73 : decode cX0_partnerOf 73 = .ok (.iload 5, 2) := by decide +kernel
theorem dX0_partnerOf_75 : decode cX0_partnerOf 75 = .ok (.iconst (-1), 1) := by decide +kernel
theorem dX0_partnerOf_76 : decode cX0_partnerOf 76 = .ok (.if_icmp .ne 7, 3) := by decide +kernel
theorem dX0_partnerOf_79 : decode cX0_partnerOf 79 = .ok (.iload_n 3, 1) := by decide +kernel
theorem dX0_partnerOf_80 : decode cX0_partnerOf 80 = .ok (.goto 11, 3) := by decide +kernel
theorem dX0_partnerOf_83 : decode cX0_partnerOf 83 = .ok (.iload_n 3, 1) := by decide +kernel
theorem dX0_partnerOf_84 : decode cX0_partnerOf 84 = .ok (.iconst 1, 1) := by decide +kernel
theorem dX0_partnerOf_85 : decode cX0_partnerOf 85 = .ok (.iload 5, 2) := by decide +kernel
theorem dX0_partnerOf_87 : decode cX0_partnerOf 87 = .ok (.ishl, 1) := by decide +kernel
theorem dX0_partnerOf_88 : decode cX0_partnerOf 88 = .ok (.iconst (-1), 1) := by decide +kernel
theorem dX0_partnerOf_89 : decode cX0_partnerOf 89 = .ok (.ixor, 1) := by decide +kernel
theorem dX0_partnerOf_90 : decode cX0_partnerOf 90 = .ok (.iand, 1) := by decide +kernel
theorem dX0_partnerOf_91 : decode cX0_partnerOf 91 = .ok (.istore_n 3, 1) := by decide +kernel
theorem dX0_partnerOf_92 : decode cX0_partnerOf 92 = .ok (.iinc 4 1, 3) := by decide +kernel
theorem dX0_partnerOf_95 : decode cX0_partnerOf 95 = .ok (.goto (-77), 3) := by decide +kernel
theorem dX0_partnerOf_98 : decode cX0_partnerOf 98 = .ok (.iconst (-1), 1) := by decide +kernel
theorem dX0_partnerOf_99 : decode cX0_partnerOf 99 = .ok (.ireturn, 1) := by decide +kernel
theorem dX0_firstPartner_0 : decode cX0_firstPartner 0 = .ok (.aload_n 0, 1) := by decide +kernel
theorem dX0_firstPartner_1 : decode cX0_firstPartner 1 = .ok (.iload_n 2, 1) := by decide +kernel
theorem dX0_firstPartner_2 : decode cX0_firstPartner 2 = .ok (.iconst 1, 1) := by decide +kernel
theorem dX0_firstPartner_3 : decode cX0_firstPartner 3 = .ok (.iload_n 3, 1) := by decide +kernel
theorem dX0_firstPartner_4 : decode cX0_firstPartner 4 = .ok (.ishl, 1) := by decide +kernel
theorem dX0_firstPartner_5 : decode cX0_firstPartner 5 = .ok (.iconst (-1), 1) := by decide +kernel
theorem dX0_firstPartner_6 : decode cX0_firstPartner 6 = .ok (.ixor, 1) := by decide +kernel
theorem dX0_firstPartner_7 : decode cX0_firstPartner 7 = .ok (.iand, 1) := by decide +kernel
theorem dX0_firstPartner_8 : decode cX0_firstPartner 8 = .ok (.invokevirtual 25, 3) := by decide +kernel
theorem dX0_firstPartner_11 : decode cX0_firstPartner 11 = .ok (.aload_n 0, 1) := by decide +kernel
theorem dX0_firstPartner_12 : decode cX0_firstPartner 12 = .ok (.iload_n 2, 1) := by decide +kernel
theorem dX0_firstPartner_13 : decode cX0_firstPartner 13 = .ok (.invokevirtual 25, 3) := by decide +kernel
theorem dX0_firstPartner_16 : decode cX0_firstPartner 16 = .ok (.if_icmp .ne 5, 3) := by decide +kernel
theorem dX0_firstPartner_19 : decode cX0_firstPartner 19 = .ok (.iconst (-1), 1) := by decide +kernel
theorem dX0_firstPartner_20 : decode cX0_firstPartner 20 = .ok (.ireturn, 1) := by decide +kernel
theorem dX0_firstPartner_21 : decode cX0_firstPartner 21 = .ok (.iload_n 3, 1) := by decide +kernel
theorem dX0_firstPartner_22 : decode cX0_firstPartner 22 = .ok (.iconst 1, 1) := by decide +kernel
theorem dX0_firstPartner_23 : decode cX0_firstPartner 23 = .ok (.iadd, 1) := by decide +kernel
theorem dX0_firstPartner_24 : decode cX0_firstPartner 24 = .ok (.istore 4, 2) := by decide +kernel
theorem dX0_firstPartner_26 : decode cX0_firstPartner 26 = .ok (.iload 4, 2) := by decide +kernel
theorem dX0_firstPartner_28 : decode cX0_firstPartner 28 = .ok (.aload_n 1, 1) := by decide +kernel
theorem dX0_firstPartner_29 : decode cX0_firstPartner 29 = .ok (.getfield 15, 3) := by decide +kernel
theorem dX0_firstPartner_32 : decode cX0_firstPartner 32 = .ok (.if_icmp .ge 38, 3) := by decide +kernel
theorem dX0_firstPartner_35 : decode cX0_firstPartner 35 = .ok (.iload_n 2, 1) := by decide +kernel
theorem dX0_firstPartner_36 : decode cX0_firstPartner 36 = .ok (.iload 4, 2) := by decide +kernel
theorem dX0_firstPartner_38 : decode cX0_firstPartner 38 = .ok (.invokestatic 21, 3) := by decide +kernel
theorem dX0_firstPartner_41 : decode cX0_firstPartner 41 = .ok (.ifCond .eq 23, 3) := by decide +kernel
theorem dX0_firstPartner_44 : decode cX0_firstPartner 44 = .ok (.aload_n 0, 1) := by decide +kernel
theorem dX0_firstPartner_45 : decode cX0_firstPartner 45 = .ok (.aload_n 1, 1) := by decide +kernel
theorem dX0_firstPartner_46 : decode cX0_firstPartner 46 = .ok (.iload_n 2, 1) := by decide +kernel
theorem dX0_firstPartner_47 : decode cX0_firstPartner 47 = .ok (.iload_n 3, 1) := by decide +kernel
theorem dX0_firstPartner_48 : decode cX0_firstPartner 48 = .ok (.iload 4, 2) := by decide +kernel
theorem dX0_firstPartner_50 : decode cX0_firstPartner 50 = .ok (.invokevirtual 29, 3) := by decide +kernel
theorem dX0_firstPartner_53 : decode cX0_firstPartner 53 = .ok (.aload_n 0, 1) := by decide +kernel
theorem dX0_firstPartner_54 : decode cX0_firstPartner 54 = .ok (.iload_n 2, 1) := by decide +kernel
theorem dX0_firstPartner_55 : decode cX0_firstPartner 55 = .ok (.invokevirtual 25, 3) := by decide +kernel
theorem dX0_firstPartner_58 : decode cX0_firstPartner 58 = .ok (.if_icmp .ne 6, 3) := by decide +kernel
theorem dX0_firstPartner_61 : decode cX0_firstPartner 61 = .ok (.iload 4, 2) := by decide +kernel
theorem dX0_firstPartner_63 : decode cX0_firstPartner 63 = .ok (.ireturn, 1) := by decide +kernel
theorem dX0_firstPartner_64 : decode cX0_firstPartner 64 = .ok (.iinc 4 1, 3) := by decide +kernel
theorem dX0_firstPartner_67 : decode cX0_firstPartner 67 = .ok (.goto (-41), 3) := by decide +kernel
theorem dX0_firstPartner_70 : decode cX0_firstPartner 70 = .ok (.iconst (-1), 1) := by decide +kernel
theorem dX0_firstPartner_71 : decode cX0_firstPartner 71 = .ok (.ireturn, 1) := by decide +kernel
theorem dX0_fewestWatching_0 : decode cX0_fewestWatching 0 = .ok (.iconst (-1), 1) := by decide +kernel
theorem dX0_fewestWatching_1 : decode cX0_fewestWatching 1 = .ok (.istore_n 2, 1) := by decide +kernel
theorem dX0_fewestWatching_2 : decode cX0_fewestWatching 2 = .ok (.bipush 8, 2) := by decide +kernel
theorem dX0_fewestWatching_4 : decode cX0_fewestWatching 4 = .ok (.istore_n 3, 1) := by decide +kernel
theorem dX0_fewestWatching_5 : decode cX0_fewestWatching 5 = .ok (.iconst 0, 1) := by decide +kernel
theorem dX0_fewestWatching_6 : decode cX0_fewestWatching 6 = .ok (.istore 4, 2) := by decide +kernel
theorem dX0_fewestWatching_8 : decode cX0_fewestWatching 8 = .ok (.iload 4, 2) := by decide +kernel
theorem dX0_fewestWatching_10 : decode cX0_fewestWatching 10 = .ok (.iconst 1, 1) := by decide +kernel
theorem dX0_fewestWatching_11 : decode cX0_fewestWatching 11 = .ok (.aload_n 1, 1) := by decide +kernel
theorem dX0_fewestWatching_12 : decode cX0_fewestWatching 12 = .ok (.getfield 15, 3) := by decide +kernel
theorem dX0_fewestWatching_15 : decode cX0_fewestWatching 15 = .ok (.ishl, 1) := by decide +kernel
theorem dX0_fewestWatching_16 : decode cX0_fewestWatching 16 = .ok (.if_icmp .ge 45, 3) := by decide +kernel
theorem dX0_fewestWatching_19 : decode cX0_fewestWatching 19 = .ok (.iload 4, 2) := by decide +kernel
theorem dX0_fewestWatching_21 : decode cX0_fewestWatching 21 = .ok (.sipush 128, 3) := by decide +kernel
theorem dX0_fewestWatching_24 : decode cX0_fewestWatching 24 = .ok (.if_icmp .ge 37, 3) := by decide +kernel
theorem dX0_fewestWatching_27 : decode cX0_fewestWatching 27 = .ok (.iload 4, 2) := by decide +kernel
theorem dX0_fewestWatching_29 : decode cX0_fewestWatching 29 = .ok (.invokestatic 42, 3) := by decide +kernel
theorem dX0_fewestWatching_32 : decode cX0_fewestWatching 32 = .ok (.iload_n 3, 1) := by decide +kernel
theorem dX0_fewestWatching_33 : decode cX0_fewestWatching 33 = .ok (.if_icmp .ge 22, 3) := by decide +kernel
theorem dX0_fewestWatching_36 : decode cX0_fewestWatching 36 = .ok (.aload_n 0, 1) := by decide +kernel
theorem dX0_fewestWatching_37 : decode cX0_fewestWatching 37 = .ok (.aload_n 1, 1) := by decide +kernel
theorem dX0_fewestWatching_38 : decode cX0_fewestWatching 38 = .ok (.iload 4, 2) := by decide +kernel
theorem dX0_fewestWatching_40 : decode cX0_fewestWatching 40 = .ok (.invokevirtual 55, 3) := by decide +kernel
theorem dX0_fewestWatching_43 : decode cX0_fewestWatching 43 = .ok (.ifCond .eq 12, 3) := by decide +kernel
theorem dX0_fewestWatching_46 : decode cX0_fewestWatching 46 = .ok (.iload 4, 2) := by decide +kernel
theorem dX0_fewestWatching_48 : decode cX0_fewestWatching 48 = .ok (.invokestatic 42, 3) := by decide +kernel
theorem dX0_fewestWatching_51 : decode cX0_fewestWatching 51 = .ok (.istore_n 3, 1) := by decide +kernel
theorem dX0_fewestWatching_52 : decode cX0_fewestWatching 52 = .ok (.iload 4, 2) := by decide +kernel
theorem dX0_fewestWatching_54 : decode cX0_fewestWatching 54 = .ok (.istore_n 2, 1) := by decide +kernel
theorem dX0_fewestWatching_55 : decode cX0_fewestWatching 55 = .ok (.iinc 4 1, 3) := by decide +kernel
theorem dX0_fewestWatching_58 : decode cX0_fewestWatching 58 = .ok (.goto (-50), 3) := by decide +kernel
theorem dX0_fewestWatching_61 : decode cX0_fewestWatching 61 = .ok (.iload_n 2, 1) := by decide +kernel
theorem dX0_fewestWatching_62 : decode cX0_fewestWatching 62 = .ok (.ireturn, 1) := by decide +kernel
theorem dX0_watchesAll_0 : decode cX0_watchesAll 0 = .ok (.iconst 0, 1) := by decide +kernel
theorem dX0_watchesAll_1 : decode cX0_watchesAll 1 = .ok (.istore_n 3, 1) := by decide +kernel
theorem dX0_watchesAll_2 : decode cX0_watchesAll 2 = .ok (.iload_n 3, 1) := by decide +kernel
theorem dX0_watchesAll_3 : decode cX0_watchesAll 3 = .ok (.aload_n 1, 1) := by decide +kernel
theorem dX0_watchesAll_4 : decode cX0_watchesAll 4 = .ok (.getfield 15, 3) := by decide +kernel
theorem dX0_watchesAll_7 : decode cX0_watchesAll 7 = .ok (.if_icmp .ge 42, 3) := by decide +kernel
theorem dX0_watchesAll_10 : decode cX0_watchesAll 10 = .ok (.iload_n 2, 1) := by decide +kernel
theorem dX0_watchesAll_11 : decode cX0_watchesAll 11 = .ok (.iload_n 3, 1) := by decide +kernel
theorem dX0_watchesAll_12 : decode cX0_watchesAll 12 = .ok (.invokestatic 21, 3) := by decide +kernel
theorem dX0_watchesAll_15 : decode cX0_watchesAll 15 = .ok (.ifCond .eq 11, 3) := by decide +kernel
theorem dX0_watchesAll_18 : decode cX0_watchesAll 18 = .ok (.aload_n 1, 1) := by decide +kernel
theorem dX0_watchesAll_19 : decode cX0_watchesAll 19 = .ok (.iload_n 3, 1) := by decide +kernel
theorem dX0_watchesAll_20 : decode cX0_watchesAll 20 = .ok (.invokevirtual 59, 3) := by decide +kernel
theorem dX0_watchesAll_23 : decode cX0_watchesAll 23 = .ok (.ifCond .ne 18, 3) := by decide +kernel
theorem dX0_watchesAll_26 : decode cX0_watchesAll 26 = .ok (.aload_n 0, 1) := by decide +kernel
theorem dX0_watchesAll_27 : decode cX0_watchesAll 27 = .ok (.aload_n 1, 1) := by decide +kernel
theorem dX0_watchesAll_28 : decode cX0_watchesAll 28 = .ok (.aload_n 1, 1) := by decide +kernel
theorem dX0_watchesAll_29 : decode cX0_watchesAll 29 = .ok (.iconst 0, 1) := by decide +kernel
theorem dX0_watchesAll_30 : decode cX0_watchesAll 30 = .ok (.iload_n 3, 1) := by decide +kernel
theorem dX0_watchesAll_31 : decode cX0_watchesAll 31 = .ok (.invokevirtual 39, 3) := by decide +kernel
theorem dX0_watchesAll_34 : decode cX0_watchesAll 34 = .ok (.iload_n 2, 1) := by decide +kernel
theorem dX0_watchesAll_35 : decode cX0_watchesAll 35 = .ok (.invokevirtual 63, 3) := by decide +kernel
theorem dX0_watchesAll_38 : decode cX0_watchesAll 38 = .ok (.ifCond .ne 5, 3) := by decide +kernel
theorem dX0_watchesAll_41 : decode cX0_watchesAll 41 = .ok (.iconst 0, 1) := by decide +kernel
theorem dX0_watchesAll_42 : decode cX0_watchesAll 42 = .ok (.ireturn, 1) := by decide +kernel
theorem dX0_watchesAll_43 : decode cX0_watchesAll 43 = .ok (.iinc 3 1, 3) := by decide +kernel
theorem dX0_watchesAll_46 : decode cX0_watchesAll 46 = .ok (.goto (-44), 3) := by decide +kernel
theorem dX0_watchesAll_49 : decode cX0_watchesAll 49 = .ok (.iconst 1, 1) := by decide +kernel
theorem dX0_watchesAll_50 : decode cX0_watchesAll 50 = .ok (.ireturn, 1) := by decide +kernel
theorem dX0_isWatched_0 : decode cX0_isWatched 0 = .ok (.iconst 0, 1) := by decide +kernel
theorem dX0_isWatched_1 : decode cX0_isWatched 1 = .ok (.istore 4, 2) := by decide +kernel
theorem dX0_isWatched_3 : decode cX0_isWatched 3 = .ok (.iload 4, 2) := by decide +kernel
theorem dX0_isWatched_5 : decode cX0_isWatched 5 = .ok (.aload_n 1, 1) := by decide +kernel
theorem dX0_isWatched_6 : decode cX0_isWatched 6 = .ok (.getfield 15, 3) := by decide +kernel
theorem dX0_isWatched_9 : decode cX0_isWatched 9 = .ok (.if_icmp .ge 35, 3) := by decide +kernel
theorem dX0_isWatched_12 : decode cX0_isWatched 12 = .ok (.iload_n 3, 1) := by decide +kernel
theorem dX0_isWatched_13 : decode cX0_isWatched 13 = .ok (.iload 4, 2) := by decide +kernel
theorem dX0_isWatched_15 : decode cX0_isWatched 15 = .ok (.invokestatic 21, 3) := by decide +kernel
theorem dX0_isWatched_18 : decode cX0_isWatched 18 = .ok (.ifCond .eq 20, 3) := by decide +kernel
theorem dX0_isWatched_21 : decode cX0_isWatched 21 = .ok (.aload_n 1, 1) := by decide +kernel
theorem dX0_isWatched_22 : decode cX0_isWatched 22 = .ok (.iconst 0, 1) := by decide +kernel
theorem dX0_isWatched_23 : decode cX0_isWatched 23 = .ok (.iload 4, 2) := by decide +kernel
theorem dX0_isWatched_25 : decode cX0_isWatched 25 = .ok (.invokevirtual 39, 3) := by decide +kernel
theorem dX0_isWatched_28 : decode cX0_isWatched 28 = .ok (.iload_n 2, 1) := by decide +kernel
theorem dX0_isWatched_29 : decode cX0_isWatched 29 = .ok (.invokestatic 67, 3) := by decide +kernel
theorem dX0_isWatched_32 : decode cX0_isWatched 32 = .ok (.iconst 2, 1) := by decide +kernel
theorem dX0_isWatched_33 : decode cX0_isWatched 33 = .ok (.if_icmp .gt 5, 3) := by decide +kernel
theorem dX0_isWatched_36 : decode cX0_isWatched 36 = .ok (.iconst 1, 1) := by decide +kernel
theorem dX0_isWatched_37 : decode cX0_isWatched 37 = .ok (.ireturn, 1) := by decide +kernel
theorem dX0_isWatched_38 : decode cX0_isWatched 38 = .ok (.iinc 4 1, 3) := by decide +kernel
theorem dX0_isWatched_41 : decode cX0_isWatched 41 = .ok (.goto (-38), 3) := by decide +kernel
theorem dX0_isWatched_44 : decode cX0_isWatched 44 = .ok (.iconst 0, 1) := by decide +kernel
theorem dX0_isWatched_45 : decode cX0_isWatched 45 = .ok (.ireturn, 1) := by decide +kernel
theorem dX0_carries_0 : decode cX0_carries 0 = .ok (.iconst 0, 1) := by decide +kernel
theorem dX0_carries_1 : decode cX0_carries 1 = .ok (.istore_n 3, 1) := by decide +kernel
theorem dX0_carries_2 : decode cX0_carries 2 = .ok (.iconst 0, 1) := by decide +kernel
theorem dX0_carries_3 : decode cX0_carries 3 = .ok (.istore 4, 2) := by decide +kernel
theorem dX0_carries_5 : decode cX0_carries 5 = .ok (.iload 4, 2) := by decide +kernel
theorem dX0_carries_7 : decode cX0_carries 7 = .ok (.aload_n 1, 1) := by decide +kernel
theorem dX0_carries_8 : decode cX0_carries 8 = .ok (.getfield 15, 3) := by decide +kernel
theorem dX0_carries_11 : decode cX0_carries 11 = .ok (.if_icmp .ge 29, 3) := by decide +kernel
theorem dX0_carries_14 : decode cX0_carries 14 = .ok (.iload_n 2, 1) := by decide +kernel
theorem dX0_carries_15 : decode cX0_carries 15 = .ok (.iload 4, 2) := by decide +kernel
theorem dX0_carries_17 : decode cX0_carries 17 = .ok (.invokestatic 21, 3) := by decide +kernel
theorem dX0_carries_20 : decode cX0_carries 20 = .ok (.ifCond .eq 14, 3) := by decide +kernel
theorem dX0_carries_23 : decode cX0_carries 23 = .ok (.iload_n 3, 1) := by decide +kernel
theorem dX0_carries_24 : decode cX0_carries 24 = .ok (.aload_n 1, 1) := by decide +kernel
theorem dX0_carries_25 : decode cX0_carries 25 = .ok (.bipush 7, 2) := by decide +kernel
theorem dX0_carries_27 : decode cX0_carries 27 = .ok (.iload 4, 2) := by decide +kernel
theorem dX0_carries_29 : decode cX0_carries 29 = .ok (.invokevirtual 39, 3) := by decide +kernel
theorem dX0_carries_32 : decode cX0_carries 32 = .ok (.iadd, 1) := by decide +kernel
theorem dX0_carries_33 : decode cX0_carries 33 = .ok (.istore_n 3, 1) := by decide +kernel
theorem dX0_carries_34 : decode cX0_carries 34 = .ok (.iinc 4 1, 3) := by decide +kernel
theorem dX0_carries_37 : decode cX0_carries 37 = .ok (.goto (-32), 3) := by decide +kernel
theorem dX0_carries_40 : decode cX0_carries 40 = .ok (.iload_n 3, 1) := by decide +kernel
theorem dX0_carries_41 : decode cX0_carries 41 = .ok (.aload_n 1, 1) := by decide +kernel
theorem dX0_carries_42 : decode cX0_carries 42 = .ok (.bipush 7, 2) := by decide +kernel
theorem dX0_carries_44 : decode cX0_carries 44 = .ok (.invokevirtual 70, 3) := by decide +kernel
theorem dX0_carries_47 : decode cX0_carries 47 = .ok (.iload_n 3, 1) := by decide +kernel
theorem dX0_carries_48 : decode cX0_carries 48 = .ok (.isub, 1) := by decide +kernel
theorem dX0_carries_49 : decode cX0_carries 49 = .ok (.if_icmp .le 7, 3) := by decide +kernel
theorem dX0_carries_52 : decode cX0_carries 52 = .ok (.iconst 1, 1) := by decide +kernel
theorem dX0_carries_53 : decode cX0_carries 53 = .ok (.goto 4, 3) := by decide +kernel
theorem dX0_carries_56 : decode cX0_carries 56 = .ok (.iconst 0, 1) := by decide +kernel
theorem dX0_carries_57 : decode cX0_carries 57 = .ok (.ireturn, 1) := by decide +kernel
theorem dX0_swingsOf_0 : decode cX0_swingsOf 0 = .ok (.iconst 0, 1) := by decide +kernel
theorem dX0_swingsOf_1 : decode cX0_swingsOf 1 = .ok (.istore_n 3, 1) := by decide +kernel
theorem dX0_swingsOf_2 : decode cX0_swingsOf 2 = .ok (.iconst 0, 1) := by decide +kernel
theorem dX0_swingsOf_3 : decode cX0_swingsOf 3 = .ok (.istore 4, 2) := by decide +kernel
theorem dX0_swingsOf_5 : decode cX0_swingsOf 5 = .ok (.iload 4, 2) := by decide +kernel
theorem dX0_swingsOf_7 : decode cX0_swingsOf 7 = .ok (.iconst 1, 1) := by decide +kernel
theorem dX0_swingsOf_8 : decode cX0_swingsOf 8 = .ok (.aload_n 1, 1) := by decide +kernel
theorem dX0_swingsOf_9 : decode cX0_swingsOf 9 = .ok (.getfield 15, 3) := by decide +kernel
theorem dX0_swingsOf_12 : decode cX0_swingsOf 12 = .ok (.ishl, 1) := by decide +kernel
theorem dX0_swingsOf_13 : decode cX0_swingsOf 13 = .ok (.if_icmp .ge 47, 3) := by decide +kernel
theorem dX0_swingsOf_16 : decode cX0_swingsOf 16 = .ok (.iload 4, 2) := by decide +kernel
theorem dX0_swingsOf_18 : decode cX0_swingsOf 18 = .ok (.iload_n 2, 1) := by decide +kernel
theorem dX0_swingsOf_19 : decode cX0_swingsOf 19 = .ok (.invokestatic 21, 3) := by decide +kernel
theorem dX0_swingsOf_22 : decode cX0_swingsOf 22 = .ok (.ifCond .eq 32, 3) := by decide +kernel
theorem dX0_swingsOf_25 : decode cX0_swingsOf 25 = .ok (.aload_n 0, 1) := by decide +kernel
theorem dX0_swingsOf_26 : decode cX0_swingsOf 26 = .ok (.aload_n 1, 1) := by decide +kernel
theorem dX0_swingsOf_27 : decode cX0_swingsOf 27 = .ok (.iload 4, 2) := by decide +kernel
theorem dX0_swingsOf_29 : decode cX0_swingsOf 29 = .ok (.invokevirtual 73, 3) := by decide +kernel
theorem dX0_swingsOf_32 : decode cX0_swingsOf 32 = .ok (.ifCond .eq 22, 3) := by decide +kernel
theorem dX0_swingsOf_35 : decode cX0_swingsOf 35 = .ok (.aload_n 0, 1) := by decide +kernel
theorem dX0_swingsOf_36 : decode cX0_swingsOf 36 = .ok (.aload_n 1, 1) := by decide +kernel
theorem dX0_swingsOf_37 : decode cX0_swingsOf 37 = .ok (.iload 4, 2) := by decide +kernel
theorem dX0_swingsOf_39 : decode cX0_swingsOf 39 = .ok (.iconst 1, 1) := by decide +kernel
theorem dX0_swingsOf_40 : decode cX0_swingsOf 40 = .ok (.iload_n 2, 1) := by decide +kernel
theorem dX0_swingsOf_41 : decode cX0_swingsOf 41 = .ok (.ishl, 1) := by decide +kernel
theorem dX0_swingsOf_42 : decode cX0_swingsOf 42 = .ok (.iconst (-1), 1) := by decide +kernel
theorem dX0_swingsOf_43 : decode cX0_swingsOf 43 = .ok (.ixor, 1) := by decide +kernel
theorem dX0_swingsOf_44 : decode cX0_swingsOf 44 = .ok (.iand, 1) := by decide +kernel
theorem dX0_swingsOf_45 : decode cX0_swingsOf 45 = .ok (.invokevirtual 73, 3) := by decide +kernel
theorem dX0_swingsOf_48 : decode cX0_swingsOf 48 = .ok (.ifCond .ne 6, 3) := by decide +kernel
theorem dX0_swingsOf_51 : decode cX0_swingsOf 51 = .ok (.iinc 3 1, 3) := by decide +kernel
theorem dX0_swingsOf_54 : decode cX0_swingsOf 54 = .ok (.iinc 4 1, 3) := by decide +kernel
theorem dX0_swingsOf_57 : decode cX0_swingsOf 57 = .ok (.goto (-52), 3) := by decide +kernel
theorem dX0_swingsOf_60 : decode cX0_swingsOf 60 = .ok (.iload_n 3, 1) := by decide +kernel
theorem dX0_swingsOf_61 : decode cX0_swingsOf 61 = .ok (.ireturn, 1) := by decide +kernel
theorem dX0_mostSwinging_0 : decode cX0_mostSwinging 0 = .ok (.iconst (-1), 1) := by decide +kernel
theorem dX0_mostSwinging_1 : decode cX0_mostSwinging 1 = .ok (.istore_n 2, 1) := by decide +kernel
theorem dX0_mostSwinging_2 : decode cX0_mostSwinging 2 = .ok (.iconst 0, 1) := by decide +kernel
theorem dX0_mostSwinging_3 : decode cX0_mostSwinging 3 = .ok (.istore_n 3, 1) := by decide +kernel
theorem dX0_mostSwinging_4 : decode cX0_mostSwinging 4 = .ok (.iconst 0, 1) := by decide +kernel
theorem dX0_mostSwinging_5 : decode cX0_mostSwinging 5 = .ok (.istore 4, 2) := by decide +kernel
theorem dX0_mostSwinging_7 : decode cX0_mostSwinging 7 = .ok (.iload 4, 2) := by decide +kernel
theorem dX0_mostSwinging_9 : decode cX0_mostSwinging 9 = .ok (.aload_n 1, 1) := by decide +kernel
theorem dX0_mostSwinging_10 : decode cX0_mostSwinging 10 = .ok (.getfield 15, 3) := by decide +kernel
theorem dX0_mostSwinging_13 : decode cX0_mostSwinging 13 = .ok (.if_icmp .ge 30, 3) := by decide +kernel
theorem dX0_mostSwinging_16 : decode cX0_mostSwinging 16 = .ok (.aload_n 0, 1) := by decide +kernel
theorem dX0_mostSwinging_17 : decode cX0_mostSwinging 17 = .ok (.aload_n 1, 1) := by decide +kernel
theorem dX0_mostSwinging_18 : decode cX0_mostSwinging 18 = .ok (.iload 4, 2) := by decide +kernel
theorem dX0_mostSwinging_20 : decode cX0_mostSwinging 20 = .ok (.invokevirtual 76, 3) := by decide +kernel
theorem dX0_mostSwinging_23 : decode cX0_mostSwinging 23 = .ok (.istore 5, 2) := by decide +kernel
theorem dX0_mostSwinging_25 : decode cX0_mostSwinging 25 = .ok (.iload 5, 2) := by decide +kernel
theorem dX0_mostSwinging_27 : decode cX0_mostSwinging 27 = .ok (.iload_n 3, 1) := by decide +kernel
theorem dX0_mostSwinging_28 : decode cX0_mostSwinging 28 = .ok (.if_icmp .le 9, 3) := by decide +kernel
theorem dX0_mostSwinging_31 : decode cX0_mostSwinging 31 = .ok (.iload 5, 2) := by decide +kernel
theorem dX0_mostSwinging_33 : decode cX0_mostSwinging 33 = .ok (.istore_n 3, 1) := by decide +kernel
theorem dX0_mostSwinging_34 : decode cX0_mostSwinging 34 = .ok (.iload 4, 2) := by decide +kernel
theorem dX0_mostSwinging_36 : decode cX0_mostSwinging 36 = .ok (.istore_n 2, 1) := by decide +kernel
theorem dX0_mostSwinging_37 : decode cX0_mostSwinging 37 = .ok (.iinc 4 1, 3) := by decide +kernel
theorem dX0_mostSwinging_40 : decode cX0_mostSwinging 40 = .ok (.goto (-33), 3) := by decide +kernel
theorem dX0_mostSwinging_43 : decode cX0_mostSwinging 43 = .ok (.iload_n 2, 1) := by decide +kernel
theorem dX0_mostSwinging_44 : decode cX0_mostSwinging 44 = .ok (.ireturn, 1) := by decide +kernel
theorem dX0_restsOf_0 : decode cX0_restsOf 0 = .ok (.iconst 0, 1) := by decide +kernel
theorem dX0_restsOf_1 : decode cX0_restsOf 1 = .ok (.istore_n 3, 1) := by decide +kernel
theorem dX0_restsOf_2 : decode cX0_restsOf 2 = .ok (.iconst 0, 1) := by decide +kernel
theorem dX0_restsOf_3 : decode cX0_restsOf 3 = .ok (.istore 4, 2) := by decide +kernel
theorem dX0_restsOf_5 : decode cX0_restsOf 5 = .ok (.iload 4, 2) := by decide +kernel
theorem dX0_restsOf_7 : decode cX0_restsOf 7 = .ok (.iconst 4, 1) := by decide +kernel
theorem dX0_restsOf_8 : decode cX0_restsOf 8 = .ok (.if_icmp .ge 62, 3) := by decide +kernel
theorem dX0_restsOf_11 : decode cX0_restsOf 11 = .ok (.aload_n 1, 1) := by decide +kernel
theorem dX0_restsOf_12 : decode cX0_restsOf 12 = .ok (.iload_n 2, 1) := by decide +kernel
theorem dX0_restsOf_13 : decode cX0_restsOf 13 = .ok (.iload 4, 2) := by decide +kernel
theorem dX0_restsOf_15 : decode cX0_restsOf 15 = .ok (.invokestatic 80, 3) := by decide +kernel
theorem dX0_restsOf_18 : decode cX0_restsOf 18 = .ok (.aload_n 1, 1) := by decide +kernel
theorem dX0_restsOf_19 : decode cX0_restsOf 19 = .ok (.iload_n 2, 1) := by decide +kernel
theorem dX0_restsOf_20 : decode cX0_restsOf 20 = .ok (.iload 4, 2) := by decide +kernel
theorem dX0_restsOf_22 : decode cX0_restsOf 22 = .ok (.iconst 2, 1) := by decide +kernel
theorem dX0_restsOf_23 : decode cX0_restsOf 23 = .ok (.ixor, 1) := by decide +kernel
theorem dX0_restsOf_24 : decode cX0_restsOf 24 = .ok (.invokestatic 80, 3) := by decide +kernel
theorem dX0_restsOf_27 : decode cX0_restsOf 27 = .ok (.if_icmp .lt 7, 3) := by decide +kernel
theorem dX0_restsOf_30 : decode cX0_restsOf 30 = .ok (.iconst 1, 1) := by decide +kernel
theorem dX0_restsOf_31 : decode cX0_restsOf 31 = .ok (.goto 4, 3) := by decide +kernel
theorem dX0_restsOf_34 : decode cX0_restsOf 34 = .ok (.iconst 0, 1) := by decide +kernel
theorem dX0_restsOf_35 : decode cX0_restsOf 35 = .ok (.istore 5, 2) := by decide +kernel
theorem dX0_restsOf_37 : decode cX0_restsOf 37 = .ok (.iload 5, 2) := by decide +kernel
theorem dX0_restsOf_39 : decode cX0_restsOf 39 = .ok (.ifCond .eq 25, 3) := by decide +kernel
theorem dX0_restsOf_42 : decode cX0_restsOf 42 = .ok (.iload 4, 2) := by decide +kernel
theorem dX0_restsOf_44 : decode cX0_restsOf 44 = .ok (.invokestatic 83, 3) := by decide +kernel
theorem dX0_restsOf_47 : decode cX0_restsOf 47 = .ok (.iload 4, 2) := by decide +kernel
theorem dX0_restsOf_49 : decode cX0_restsOf 49 = .ok (.iconst 1, 1) := by decide +kernel
theorem dX0_restsOf_50 : decode cX0_restsOf 50 = .ok (.ixor, 1) := by decide +kernel
theorem dX0_restsOf_51 : decode cX0_restsOf 51 = .ok (.invokestatic 83, 3) := by decide +kernel
theorem dX0_restsOf_54 : decode cX0_restsOf 54 = .ok (.if_icmp .lt 10, 3) := by decide +kernel
theorem dX0_restsOf_57 : decode cX0_restsOf 57 = .ok (.iload_n 3, 1) := by decide +kernel
theorem dX0_restsOf_58 : decode cX0_restsOf 58 = .ok (.iconst 1, 1) := by decide +kernel
theorem dX0_restsOf_59 : decode cX0_restsOf 59 = .ok (.iload 4, 2) := by decide +kernel
theorem dX0_restsOf_61 : decode cX0_restsOf 61 = .ok (.ishl, 1) := by decide +kernel
theorem dX0_restsOf_62 : decode cX0_restsOf 62 = .ok (.ior, 1) := by decide +kernel
theorem dX0_restsOf_63 : decode cX0_restsOf 63 = .ok (.istore_n 3, 1) := by decide +kernel
theorem dX0_restsOf_64 : decode cX0_restsOf 64 = .ok (.iinc 4 1, 3) := by decide +kernel
theorem dX0_restsOf_67 : decode cX0_restsOf 67 = .ok (.goto (-62), 3) := by decide +kernel
theorem dX0_restsOf_70 : decode cX0_restsOf 70 = .ok (.iload_n 3, 1) := by decide +kernel
theorem dX0_restsOf_71 : decode cX0_restsOf 71 = .ok (.ireturn, 1) := by decide +kernel
theorem dX0_gainOfMonk_0 : decode cX0_gainOfMonk 0 = .ok (.iload_n 2, 1) := by decide +kernel
theorem dX0_gainOfMonk_1 : decode cX0_gainOfMonk 1 = .ok (.ifCond .ne 9, 3) := by decide +kernel
theorem dX0_gainOfMonk_4 : decode cX0_gainOfMonk 4 = .ok (.aload_n 0, 1) := by decide +kernel
theorem dX0_gainOfMonk_5 : decode cX0_gainOfMonk 5 = .ok (.getfield 86, 3) := by decide +kernel
theorem dX0_gainOfMonk_8 : decode cX0_gainOfMonk 8 = .ok (.ineg, 1) := by decide +kernel
theorem dX0_gainOfMonk_9 : decode cX0_gainOfMonk 9 = .ok (.ireturn, 1) := by decide +kernel
theorem dX0_gainOfMonk_10 : decode cX0_gainOfMonk 10 = .ok (.iload_n 2, 1) := by decide +kernel
theorem dX0_gainOfMonk_11 : decode cX0_gainOfMonk 11 = .ok (.iconst 1, 1) := by decide +kernel
theorem dX0_gainOfMonk_12 : decode cX0_gainOfMonk 12 = .ok (.if_icmp .ne 19, 3) := by decide +kernel
theorem dX0_gainOfMonk_15 : decode cX0_gainOfMonk 15 = .ok (.aload_n 0, 1) := by decide +kernel
theorem dX0_gainOfMonk_16 : decode cX0_gainOfMonk 16 = .ok (.iconst 0, 1) := by decide +kernel
theorem dX0_gainOfMonk_17 : decode cX0_gainOfMonk 17 = .ok (.iload_n 1, 1) := by decide +kernel
theorem dX0_gainOfMonk_18 : decode cX0_gainOfMonk 18 = .ok (.invokevirtual 39, 3) := by decide +kernel
theorem dX0_gainOfMonk_21 : decode cX0_gainOfMonk 21 = .ok (.aload_n 0, 1) := by decide +kernel
theorem dX0_gainOfMonk_22 : decode cX0_gainOfMonk 22 = .ok (.getfield 89, 3) := by decide +kernel
theorem dX0_gainOfMonk_25 : decode cX0_gainOfMonk 25 = .ok (.invokestatic 67, 3) := by decide +kernel
theorem dX0_gainOfMonk_28 : decode cX0_gainOfMonk 28 = .ok (.goto 4, 3) := by decide +kernel
theorem dX0_gainOfMonk_31 : decode cX0_gainOfMonk 31 = .ok (.iconst 0, 1) := by decide +kernel
theorem dX0_gainOfMonk_32 : decode cX0_gainOfMonk 32 = .ok (.ireturn, 1) := by decide +kernel
theorem dX0_gainOfGardener_0 : decode cX0_gainOfGardener 0 = .ok (.iload_n 0, 1) := by decide +kernel
theorem dX0_gainOfGardener_1 : decode cX0_gainOfGardener 1 = .ok (.tableswitch 34 0 2 #[27, 29, 32], 27) := by decide +kernel
theorem dX0_gainOfGardener_28 : decode cX0_gainOfGardener 28 = .ok (.iconst 3, 1) := by decide +kernel
theorem dX0_gainOfGardener_29 : decode cX0_gainOfGardener 29 = .ok (.ireturn, 1) := by decide +kernel
theorem dX0_gainOfGardener_30 : decode cX0_gainOfGardener 30 = .ok (.bipush (-2), 2) := by decide +kernel
theorem dX0_gainOfGardener_32 : decode cX0_gainOfGardener 32 = .ok (.ireturn, 1) := by decide +kernel
theorem dX0_gainOfGardener_33 : decode cX0_gainOfGardener 33 = .ok (.iconst (-1), 1) := by decide +kernel
theorem dX0_gainOfGardener_34 : decode cX0_gainOfGardener 34 = .ok (.ireturn, 1) := by decide +kernel
theorem dX0_gainOfGardener_35 : decode cX0_gainOfGardener 35 = .ok (.iconst 0, 1) := by decide +kernel
theorem dX0_gainOfGardener_36 : decode cX0_gainOfGardener 36 = .ok (.ireturn, 1) := by decide +kernel
theorem dX1_init_0 : decode cX1_init 0 = .ok (.aload_n 0, 1) := by decide +kernel
theorem dX1_init_1 : decode cX1_init 1 = .ok (.invokespecial 3, 3) := by decide +kernel
theorem dX1_init_4 : decode cX1_init 4 = .ok (.aload_n 0, 1) := by decide +kernel
theorem dX1_init_5 : decode cX1_init 5 = .ok (.bipush 56, 2) := by decide +kernel
theorem dX1_init_7 : decode cX1_init 7 = .ok (.newarray .int, 2) := by decide +kernel
theorem dX1_init_9 : decode cX1_init 9 = .ok (.putfield 9, 3) := by decide +kernel
theorem dX1_init_12 : decode cX1_init 12 = .ok (.aload_n 0, 1) := by decide +kernel
theorem dX1_init_13 : decode cX1_init 13 = .ok (.iconst 4, 1) := by decide +kernel
theorem dX1_init_14 : decode cX1_init 14 = .ok (.newarray .int, 2) := by decide +kernel
theorem dX1_init_16 : decode cX1_init 16 = .ok (.dup, 1) := by decide +kernel
theorem dX1_init_17 : decode cX1_init 17 = .ok (.iconst 0, 1) := by decide +kernel
theorem dX1_init_18 : decode cX1_init 18 = .ok (.bipush 20, 2) := by decide +kernel
theorem dX1_init_20 : decode cX1_init 20 = .ok (.iastore, 1) := by decide +kernel
theorem dX1_init_21 : decode cX1_init 21 = .ok (.dup, 1) := by decide +kernel
theorem dX1_init_22 : decode cX1_init 22 = .ok (.iconst 1, 1) := by decide +kernel
theorem dX1_init_23 : decode cX1_init 23 = .ok (.bipush 20, 2) := by decide +kernel
theorem dX1_init_25 : decode cX1_init 25 = .ok (.iastore, 1) := by decide +kernel
theorem dX1_init_26 : decode cX1_init 26 = .ok (.dup, 1) := by decide +kernel
theorem dX1_init_27 : decode cX1_init 27 = .ok (.iconst 2, 1) := by decide +kernel
theorem dX1_init_28 : decode cX1_init 28 = .ok (.bipush 20, 2) := by decide +kernel
theorem dX1_init_30 : decode cX1_init 30 = .ok (.iastore, 1) := by decide +kernel
theorem dX1_init_31 : decode cX1_init 31 = .ok (.dup, 1) := by decide +kernel
theorem dX1_init_32 : decode cX1_init 32 = .ok (.iconst 3, 1) := by decide +kernel
theorem dX1_init_33 : decode cX1_init 33 = .ok (.bipush 20, 2) := by decide +kernel
theorem dX1_init_35 : decode cX1_init 35 = .ok (.iastore, 1) := by decide +kernel
theorem dX1_init_36 : decode cX1_init 36 = .ok (.putfield 15, 3) := by decide +kernel
theorem dX1_init_39 : decode cX1_init 39 = .ok (.aload_n 0, 1) := by decide +kernel
theorem dX1_init_40 : decode cX1_init 40 = .ok (.new 18, 3) := by decide +kernel
theorem dX1_init_43 : decode cX1_init 43 = .ok (.dup, 1) := by decide +kernel
theorem dX1_init_44 : decode cX1_init 44 = .ok (.invokespecial 20, 3) := by decide +kernel
theorem dX1_init_47 : decode cX1_init 47 = .ok (.putfield 21, 3) := by decide +kernel
theorem dX1_init_50 : decode cX1_init 50 = .ok (.aload_n 0, 1) := by decide +kernel
theorem dX1_init_51 : decode cX1_init 51 = .ok (.iconst 4, 1) := by decide +kernel
theorem dX1_init_52 : decode cX1_init 52 = .ok (.putfield 25, 3) := by decide +kernel
theorem dX1_init_55 : decode cX1_init 55 = .ok (.aload_n 0, 1) := by decide +kernel
theorem dX1_init_56 : decode cX1_init 56 = .ok (.iconst 4, 1) := by decide +kernel
theorem dX1_init_57 : decode cX1_init 57 = .ok (.putfield 29, 3) := by decide +kernel
theorem dX1_init_60 : decode cX1_init 60 = .ok (.aload_n 0, 1) := by decide +kernel
theorem dX1_init_61 : decode cX1_init 61 = .ok (.iconst 1, 1) := by decide +kernel
theorem dX1_init_62 : decode cX1_init 62 = .ok (.putfield 32, 3) := by decide +kernel
theorem dX1_init_65 : decode cX1_init 65 = .ok (.return_, 1) := by decide +kernel
theorem dX1_copyFrom_0 : decode cX1_copyFrom 0 = .ok (.aload_n 1, 1) := by decide +kernel
theorem dX1_copyFrom_1 : decode cX1_copyFrom 1 = .ok (.getfield 9, 3) := by decide +kernel
theorem dX1_copyFrom_4 : decode cX1_copyFrom 4 = .ok (.aload_n 0, 1) := by decide +kernel
theorem dX1_copyFrom_5 : decode cX1_copyFrom 5 = .ok (.getfield 9, 3) := by decide +kernel
theorem dX1_copyFrom_8 : decode cX1_copyFrom 8 = .ok (.invokestatic 35, 3) := by decide +kernel
theorem dX1_copyFrom_11 : decode cX1_copyFrom 11 = .ok (.aload_n 1, 1) := by decide +kernel
theorem dX1_copyFrom_12 : decode cX1_copyFrom 12 = .ok (.getfield 15, 3) := by decide +kernel
theorem dX1_copyFrom_15 : decode cX1_copyFrom 15 = .ok (.aload_n 0, 1) := by decide +kernel
theorem dX1_copyFrom_16 : decode cX1_copyFrom 16 = .ok (.getfield 15, 3) := by decide +kernel
theorem dX1_copyFrom_19 : decode cX1_copyFrom 19 = .ok (.invokestatic 35, 3) := by decide +kernel
theorem dX1_copyFrom_22 : decode cX1_copyFrom 22 = .ok (.aload_n 0, 1) := by decide +kernel
theorem dX1_copyFrom_23 : decode cX1_copyFrom 23 = .ok (.getfield 21, 3) := by decide +kernel
theorem dX1_copyFrom_26 : decode cX1_copyFrom 26 = .ok (.aload_n 1, 1) := by decide +kernel
theorem dX1_copyFrom_27 : decode cX1_copyFrom 27 = .ok (.getfield 21, 3) := by decide +kernel
theorem dX1_copyFrom_30 : decode cX1_copyFrom 30 = .ok (.invokevirtual 39, 3) := by decide +kernel
theorem dX1_copyFrom_33 : decode cX1_copyFrom 33 = .ok (.aload_n 0, 1) := by decide +kernel
theorem dX1_copyFrom_34 : decode cX1_copyFrom 34 = .ok (.aload_n 1, 1) := by decide +kernel
theorem dX1_copyFrom_35 : decode cX1_copyFrom 35 = .ok (.getfield 43, 3) := by decide +kernel
theorem dX1_copyFrom_38 : decode cX1_copyFrom 38 = .ok (.putfield 43, 3) := by decide +kernel
theorem dX1_copyFrom_41 : decode cX1_copyFrom 41 = .ok (.aload_n 0, 1) := by decide +kernel
theorem dX1_copyFrom_42 : decode cX1_copyFrom 42 = .ok (.aload_n 1, 1) := by decide +kernel
theorem dX1_copyFrom_43 : decode cX1_copyFrom 43 = .ok (.getfield 46, 3) := by decide +kernel
theorem dX1_copyFrom_46 : decode cX1_copyFrom 46 = .ok (.putfield 46, 3) := by decide +kernel
theorem dX1_copyFrom_49 : decode cX1_copyFrom 49 = .ok (.aload_n 0, 1) := by decide +kernel
theorem dX1_copyFrom_50 : decode cX1_copyFrom 50 = .ok (.aload_n 1, 1) := by decide +kernel
theorem dX1_copyFrom_51 : decode cX1_copyFrom 51 = .ok (.getfield 49, 3) := by decide +kernel
theorem dX1_copyFrom_54 : decode cX1_copyFrom 54 = .ok (.putfield 49, 3) := by decide +kernel
theorem dX1_copyFrom_57 : decode cX1_copyFrom 57 = .ok (.aload_n 0, 1) := by decide +kernel
theorem dX1_copyFrom_58 : decode cX1_copyFrom 58 = .ok (.aload_n 1, 1) := by decide +kernel
theorem dX1_copyFrom_59 : decode cX1_copyFrom 59 = .ok (.getfield 52, 3) := by decide +kernel
theorem dX1_copyFrom_62 : decode cX1_copyFrom 62 = .ok (.putfield 52, 3) := by decide +kernel
theorem dX1_copyFrom_65 : decode cX1_copyFrom 65 = .ok (.aload_n 0, 1) := by decide +kernel
theorem dX1_copyFrom_66 : decode cX1_copyFrom 66 = .ok (.aload_n 1, 1) := by decide +kernel
theorem dX1_copyFrom_67 : decode cX1_copyFrom 67 = .ok (.getfield 55, 3) := by decide +kernel
theorem dX1_copyFrom_70 : decode cX1_copyFrom 70 = .ok (.putfield 55, 3) := by decide +kernel
theorem dX1_copyFrom_73 : decode cX1_copyFrom 73 = .ok (.aload_n 0, 1) := by decide +kernel
theorem dX1_copyFrom_74 : decode cX1_copyFrom 74 = .ok (.aload_n 1, 1) := by decide +kernel
theorem dX1_copyFrom_75 : decode cX1_copyFrom 75 = .ok (.getfield 25, 3) := by decide +kernel
theorem dX1_copyFrom_78 : decode cX1_copyFrom 78 = .ok (.putfield 25, 3) := by decide +kernel
theorem dX1_copyFrom_81 : decode cX1_copyFrom 81 = .ok (.aload_n 0, 1) := by decide +kernel
theorem dX1_copyFrom_82 : decode cX1_copyFrom 82 = .ok (.aload_n 1, 1) := by decide +kernel
theorem dX1_copyFrom_83 : decode cX1_copyFrom 83 = .ok (.getfield 58, 3) := by decide +kernel
theorem dX1_copyFrom_86 : decode cX1_copyFrom 86 = .ok (.putfield 58, 3) := by decide +kernel
theorem dX1_copyFrom_89 : decode cX1_copyFrom 89 = .ok (.aload_n 0, 1) := by decide +kernel
theorem dX1_copyFrom_90 : decode cX1_copyFrom 90 = .ok (.aload_n 1, 1) := by decide +kernel
theorem dX1_copyFrom_91 : decode cX1_copyFrom 91 = .ok (.getfield 29, 3) := by decide +kernel
theorem dX1_copyFrom_94 : decode cX1_copyFrom 94 = .ok (.putfield 29, 3) := by decide +kernel
theorem dX1_copyFrom_97 : decode cX1_copyFrom 97 = .ok (.aload_n 0, 1) := by decide +kernel
theorem dX1_copyFrom_98 : decode cX1_copyFrom 98 = .ok (.aload_n 1, 1) := by decide +kernel
theorem dX1_copyFrom_99 : decode cX1_copyFrom 99 = .ok (.getfield 32, 3) := by decide +kernel
theorem dX1_copyFrom_102 : decode cX1_copyFrom 102 = .ok (.putfield 32, 3) := by decide +kernel
theorem dX1_copyFrom_105 : decode cX1_copyFrom 105 = .ok (.return_, 1) := by decide +kernel
theorem dX1_of_0 : decode cX1_of 0 = .ok (.iload_n 1, 1) := by decide +kernel
theorem dX1_of_1 : decode cX1_of 1 = .ok (.bipush 7, 2) := by decide +kernel
theorem dX1_of_3 : decode cX1_of 3 = .ok (.imul, 1) := by decide +kernel
theorem dX1_of_4 : decode cX1_of 4 = .ok (.iload_n 2, 1) := by decide +kernel
theorem dX1_of_5 : decode cX1_of 5 = .ok (.iadd, 1) := by decide +kernel
theorem dX1_of_6 : decode cX1_of 6 = .ok (.istore_n 3, 1) := by decide +kernel
theorem dX1_of_7 : decode cX1_of 7 = .ok (.iload_n 3, 1) := by decide +kernel
theorem dX1_of_8 : decode cX1_of 8 = .ok (.ifCond .lt 21, 3) := by decide +kernel
theorem dX1_of_11 : decode cX1_of 11 = .ok (.iload_n 3, 1) := by decide +kernel
theorem dX1_of_12 : decode cX1_of 12 = .ok (.aload_n 0, 1) := by decide +kernel
theorem dX1_of_13 : decode cX1_of 13 = .ok (.getfield 9, 3) := by decide +kernel
theorem dX1_of_16 : decode cX1_of 16 = .ok (.arraylength, 1) := by decide +kernel
theorem dX1_of_17 : decode cX1_of 17 = .ok (.if_icmp .ge 12, 3) := by decide +kernel
theorem dX1_of_20 : decode cX1_of 20 = .ok (.aload_n 0, 1) := by decide +kernel
theorem dX1_of_21 : decode cX1_of 21 = .ok (.getfield 9, 3) := by decide +kernel
theorem dX1_of_24 : decode cX1_of 24 = .ok (.iload_n 3, 1) := by decide +kernel
theorem dX1_of_25 : decode cX1_of 25 = .ok (.iaload, 1) := by decide +kernel
theorem dX1_of_26 : decode cX1_of 26 = .ok (.goto 4, 3) := by decide +kernel
theorem dX1_of_29 : decode cX1_of 29 = .ok (.iconst 0, 1) := by decide +kernel
theorem dX1_of_30 : decode cX1_of 30 = .ok (.ireturn, 1) := by decide +kernel
theorem dX1_put_0 : decode cX1_put 0 = .ok (.iload_n 1, 1) := by decide +kernel
theorem dX1_put_1 : decode cX1_put 1 = .ok (.bipush 7, 2) := by decide +kernel
theorem dX1_put_3 : decode cX1_put 3 = .ok (.imul, 1) := by decide +kernel
theorem dX1_put_4 : decode cX1_put 4 = .ok (.iload_n 2, 1) := by decide +kernel
theorem dX1_put_5 : decode cX1_put 5 = .ok (.iadd, 1) := by decide +kernel
theorem dX1_put_6 : decode cX1_put 6 = .ok (.istore 4, 2) := by decide +kernel
theorem dX1_put_8 : decode cX1_put 8 = .ok (.iload 4, 2) := by decide +kernel
theorem dX1_put_10 : decode cX1_put 10 = .ok (.ifCond .lt 21, 3) := by decide +kernel
theorem dX1_put_13 : decode cX1_put 13 = .ok (.iload 4, 2) := by decide +kernel
theorem dX1_put_15 : decode cX1_put 15 = .ok (.aload_n 0, 1) := by decide +kernel
theorem dX1_put_16 : decode cX1_put 16 = .ok (.getfield 9, 3) := by decide +kernel
theorem dX1_put_19 : decode cX1_put 19 = .ok (.arraylength, 1) := by decide +kernel
theorem dX1_put_20 : decode cX1_put 20 = .ok (.if_icmp .ge 11, 3) := by decide +kernel
theorem dX1_put_23 : decode cX1_put 23 = .ok (.aload_n 0, 1) := by decide +kernel
theorem dX1_put_24 : decode cX1_put 24 = .ok (.getfield 9, 3) := by decide +kernel
theorem dX1_put_27 : decode cX1_put 27 = .ok (.iload 4, 2) := by decide +kernel
theorem dX1_put_29 : decode cX1_put 29 = .ok (.iload_n 3, 1) := by decide +kernel
theorem dX1_put_30 : decode cX1_put 30 = .ok (.iastore, 1) := by decide +kernel
theorem dX1_put_31 : decode cX1_put 31 = .ok (.return_, 1) := by decide +kernel
theorem dX1_storeOf_0 : decode cX1_storeOf 0 = .ok (.iload_n 1, 1) := by decide +kernel
theorem dX1_storeOf_1 : decode cX1_storeOf 1 = .ok (.ifCond .lt 21, 3) := by decide +kernel
theorem dX1_storeOf_4 : decode cX1_storeOf 4 = .ok (.iload_n 1, 1) := by decide +kernel
theorem dX1_storeOf_5 : decode cX1_storeOf 5 = .ok (.aload_n 0, 1) := by decide +kernel
theorem dX1_storeOf_6 : decode cX1_storeOf 6 = .ok (.getfield 15, 3) := by decide +kernel
theorem dX1_storeOf_9 : decode cX1_storeOf 9 = .ok (.arraylength, 1) := by decide +kernel
theorem dX1_storeOf_10 : decode cX1_storeOf 10 = .ok (.if_icmp .ge 12, 3) := by decide +kernel
theorem dX1_storeOf_13 : decode cX1_storeOf 13 = .ok (.aload_n 0, 1) := by decide +kernel
theorem dX1_storeOf_14 : decode cX1_storeOf 14 = .ok (.getfield 15, 3) := by decide +kernel
theorem dX1_storeOf_17 : decode cX1_storeOf 17 = .ok (.iload_n 1, 1) := by decide +kernel
theorem dX1_storeOf_18 : decode cX1_storeOf 18 = .ok (.iaload, 1) := by decide +kernel
theorem dX1_storeOf_19 : decode cX1_storeOf 19 = .ok (.goto 4, 3) := by decide +kernel
theorem dX1_storeOf_22 : decode cX1_storeOf 22 = .ok (.iconst 0, 1) := by decide +kernel
theorem dX1_storeOf_23 : decode cX1_storeOf 23 = .ok (.ireturn, 1) := by decide +kernel
theorem dX1_putStore_0 : decode cX1_putStore 0 = .ok (.iload_n 1, 1) := by decide +kernel
theorem dX1_putStore_1 : decode cX1_putStore 1 = .ok (.ifCond .lt 19, 3) := by decide +kernel
theorem dX1_putStore_4 : decode cX1_putStore 4 = .ok (.iload_n 1, 1) := by decide +kernel
theorem dX1_putStore_5 : decode cX1_putStore 5 = .ok (.aload_n 0, 1) := by decide +kernel
theorem dX1_putStore_6 : decode cX1_putStore 6 = .ok (.getfield 15, 3) := by decide +kernel
theorem dX1_putStore_9 : decode cX1_putStore 9 = .ok (.arraylength, 1) := by decide +kernel
theorem dX1_putStore_10 : decode cX1_putStore 10 = .ok (.if_icmp .ge 10, 3) := by decide +kernel
theorem dX1_putStore_13 : decode cX1_putStore 13 = .ok (.aload_n 0, 1) := by decide +kernel
theorem dX1_putStore_14 : decode cX1_putStore 14 = .ok (.getfield 15, 3) := by decide +kernel
theorem dX1_putStore_17 : decode cX1_putStore 17 = .ok (.iload_n 1, 1) := by decide +kernel
theorem dX1_putStore_18 : decode cX1_putStore 18 = .ok (.iload_n 2, 1) := by decide +kernel
theorem dX1_putStore_19 : decode cX1_putStore 19 = .ok (.iastore, 1) := by decide +kernel
theorem dX1_putStore_20 : decode cX1_putStore 20 = .ok (.return_, 1) := by decide +kernel
theorem dX1_addStore_0 : decode cX1_addStore 0 = .ok (.aload_n 0, 1) := by decide +kernel
theorem dX1_addStore_1 : decode cX1_addStore 1 = .ok (.iload_n 1, 1) := by decide +kernel
theorem dX1_addStore_2 : decode cX1_addStore 2 = .ok (.sipush 999, 3) := by decide +kernel
theorem dX1_addStore_5 : decode cX1_addStore 5 = .ok (.aload_n 0, 1) := by decide +kernel
theorem dX1_addStore_6 : decode cX1_addStore 6 = .ok (.iload_n 1, 1) := by decide +kernel
theorem dX1_addStore_7 : decode cX1_addStore 7 = .ok (.invokevirtual 61, 3) := by decide +kernel
theorem dX1_addStore_10 : decode cX1_addStore 10 = .ok (.iload_n 2, 1) := by decide +kernel
theorem dX1_addStore_11 : decode cX1_addStore 11 = .ok (.iadd, 1) := by decide +kernel
theorem dX1_addStore_12 : decode cX1_addStore 12 = .ok (.invokestatic 65, 3) := by decide +kernel
theorem dX1_addStore_15 : decode cX1_addStore 15 = .ok (.invokevirtual 71, 3) := by decide +kernel
theorem dX1_addStore_18 : decode cX1_addStore 18 = .ok (.return_, 1) := by decide +kernel
theorem dX1_storeOfAll_0 : decode cX1_storeOfAll 0 = .ok (.iconst 0, 1) := by decide +kernel
theorem dX1_storeOfAll_1 : decode cX1_storeOfAll 1 = .ok (.istore_n 1, 1) := by decide +kernel
theorem dX1_storeOfAll_2 : decode cX1_storeOfAll 2 = .ok (.aload_n 0, 1) := by decide +kernel
theorem dX1_storeOfAll_3 : decode cX1_storeOfAll 3 = .ok (.getfield 15, 3) := by decide +kernel
theorem dX1_storeOfAll_6 : decode cX1_storeOfAll 6 = .ok (.astore_n 2, 1) := by decide +kernel
theorem dX1_storeOfAll_7 : decode cX1_storeOfAll 7 = .ok (.aload_n 2, 1) := by decide +kernel
theorem dX1_storeOfAll_8 : decode cX1_storeOfAll 8 = .ok (.arraylength, 1) := by decide +kernel
theorem dX1_storeOfAll_9 : decode cX1_storeOfAll 9 = .ok (.istore_n 3, 1) := by decide +kernel
theorem dX1_storeOfAll_10 : decode cX1_storeOfAll 10 = .ok (.iconst 0, 1) := by decide +kernel
theorem dX1_storeOfAll_11 : decode cX1_storeOfAll 11 = .ok (.istore 4, 2) := by decide +kernel
theorem dX1_storeOfAll_13 : decode cX1_storeOfAll 13 = .ok (.iload 4, 2) := by decide +kernel
theorem dX1_storeOfAll_15 : decode cX1_storeOfAll 15 = .ok (.iload_n 3, 1) := by decide +kernel
theorem dX1_storeOfAll_16 : decode cX1_storeOfAll 16 = .ok (.if_icmp .ge 20, 3) := by decide +kernel
theorem dX1_storeOfAll_19 : decode cX1_storeOfAll 19 = .ok (.aload_n 2, 1) := by decide +kernel
theorem dX1_storeOfAll_20 : decode cX1_storeOfAll 20 = .ok (.iload 4, 2) := by decide +kernel
theorem dX1_storeOfAll_22 : decode cX1_storeOfAll 22 = .ok (.iaload, 1) := by decide +kernel
theorem dX1_storeOfAll_23 : decode cX1_storeOfAll 23 = .ok (.istore 5, 2) := by decide +kernel
theorem dX1_storeOfAll_25 : decode cX1_storeOfAll 25 = .ok (.iload_n 1, 1) := by decide +kernel
theorem dX1_storeOfAll_26 : decode cX1_storeOfAll 26 = .ok (.iload 5, 2) := by decide +kernel
theorem dX1_storeOfAll_28 : decode cX1_storeOfAll 28 = .ok (.iadd, 1) := by decide +kernel
theorem dX1_storeOfAll_29 : decode cX1_storeOfAll 29 = .ok (.istore_n 1, 1) := by decide +kernel
theorem dX1_storeOfAll_30 : decode cX1_storeOfAll 30 = .ok (.iinc 4 1, 3) := by decide +kernel
theorem dX1_storeOfAll_33 : decode cX1_storeOfAll 33 = .ok (.goto (-20), 3) := by decide +kernel
theorem dX1_storeOfAll_36 : decode cX1_storeOfAll 36 = .ok (.iload_n 1, 1) := by decide +kernel
theorem dX1_storeOfAll_37 : decode cX1_storeOfAll 37 = .ok (.ireturn, 1) := by decide +kernel
theorem dX1_addMonk_0 : decode cX1_addMonk 0 = .ok (.aload_n 0, 1) := by decide +kernel
theorem dX1_addMonk_1 : decode cX1_addMonk 1 = .ok (.getfield 43, 3) := by decide +kernel
theorem dX1_addMonk_4 : decode cX1_addMonk 4 = .ok (.bipush 7, 2) := by decide +kernel
theorem dX1_addMonk_6 : decode cX1_addMonk 6 = .ok (.if_icmp .ge 54, 3) := by decide +kernel
theorem dX1_addMonk_9 : decode cX1_addMonk 9 = .ok (.aload_n 0, 1) := by decide +kernel
theorem dX1_addMonk_10 : decode cX1_addMonk 10 = .ok (.iconst 0, 1) := by decide +kernel
theorem dX1_addMonk_11 : decode cX1_addMonk 11 = .ok (.aload_n 0, 1) := by decide +kernel
theorem dX1_addMonk_12 : decode cX1_addMonk 12 = .ok (.getfield 43, 3) := by decide +kernel
theorem dX1_addMonk_15 : decode cX1_addMonk 15 = .ok (.iload_n 1, 1) := by decide +kernel
theorem dX1_addMonk_16 : decode cX1_addMonk 16 = .ok (.invokevirtual 75, 3) := by decide +kernel
theorem dX1_addMonk_19 : decode cX1_addMonk 19 = .ok (.aload_n 0, 1) := by decide +kernel
theorem dX1_addMonk_20 : decode cX1_addMonk 20 = .ok (.iconst 2, 1) := by decide +kernel
theorem dX1_addMonk_21 : decode cX1_addMonk 21 = .ok (.aload_n 0, 1) := by decide +kernel
theorem dX1_addMonk_22 : decode cX1_addMonk 22 = .ok (.getfield 43, 3) := by decide +kernel
theorem dX1_addMonk_25 : decode cX1_addMonk 25 = .ok (.iload_n 2, 1) := by decide +kernel
theorem dX1_addMonk_26 : decode cX1_addMonk 26 = .ok (.invokevirtual 75, 3) := by decide +kernel
theorem dX1_addMonk_29 : decode cX1_addMonk 29 = .ok (.aload_n 0, 1) := by decide +kernel
theorem dX1_addMonk_30 : decode cX1_addMonk 30 = .ok (.iconst 1, 1) := by decide +kernel
theorem dX1_addMonk_31 : decode cX1_addMonk 31 = .ok (.aload_n 0, 1) := by decide +kernel
theorem dX1_addMonk_32 : decode cX1_addMonk 32 = .ok (.getfield 43, 3) := by decide +kernel
theorem dX1_addMonk_35 : decode cX1_addMonk 35 = .ok (.iload_n 3, 1) := by decide +kernel
theorem dX1_addMonk_36 : decode cX1_addMonk 36 = .ok (.invokevirtual 75, 3) := by decide +kernel
theorem dX1_addMonk_39 : decode cX1_addMonk 39 = .ok (.aload_n 0, 1) := by decide +kernel
theorem dX1_addMonk_40 : decode cX1_addMonk 40 = .ok (.iconst 3, 1) := by decide +kernel
theorem dX1_addMonk_41 : decode cX1_addMonk 41 = .ok (.aload_n 0, 1) := by decide +kernel
theorem dX1_addMonk_42 : decode cX1_addMonk 42 = .ok (.getfield 43, 3) := by decide +kernel
theorem dX1_addMonk_45 : decode cX1_addMonk 45 = .ok (.iload 4, 2) := by decide +kernel
theorem dX1_addMonk_47 : decode cX1_addMonk 47 = .ok (.invokevirtual 75, 3) := by decide +kernel
theorem dX1_addMonk_50 : decode cX1_addMonk 50 = .ok (.aload_n 0, 1) := by decide +kernel
theorem dX1_addMonk_51 : decode cX1_addMonk 51 = .ok (.dup, 1) := by decide +kernel
theorem dX1_addMonk_52 : decode cX1_addMonk 52 = .ok (.getfield 43, 3) := by decide +kernel
theorem dX1_addMonk_55 : decode cX1_addMonk 55 = .ok (.iconst 1, 1) := by decide +kernel
theorem dX1_addMonk_56 : decode cX1_addMonk 56 = .ok (.iadd, 1) := by decide +kernel
theorem dX1_addMonk_57 : decode cX1_addMonk 57 = .ok (.putfield 43, 3) := by decide +kernel
theorem dX1_addMonk_60 : decode cX1_addMonk 60 = .ok (.return_, 1) := by decide +kernel
theorem dX1_hasStall_0 : decode cX1_hasStall 0 = .ok (.iconst 0, 1) := by decide +kernel
theorem dX1_hasStall_1 : decode cX1_hasStall 1 = .ok (.istore_n 2, 1) := by decide +kernel
theorem dX1_hasStall_2 : decode cX1_hasStall 2 = .ok (.iload_n 2, 1) := by decide +kernel
theorem dX1_hasStall_3 : decode cX1_hasStall 3 = .ok (.aload_n 0, 1) := by decide +kernel
theorem dX1_hasStall_4 : decode cX1_hasStall 4 = .ok (.getfield 43, 3) := by decide +kernel
theorem dX1_hasStall_7 : decode cX1_hasStall 7 = .ok (.if_icmp .ge 21, 3) := by decide +kernel
theorem dX1_hasStall_10 : decode cX1_hasStall 10 = .ok (.aload_n 0, 1) := by decide +kernel
theorem dX1_hasStall_11 : decode cX1_hasStall 11 = .ok (.iconst 2, 1) := by decide +kernel
theorem dX1_hasStall_12 : decode cX1_hasStall 12 = .ok (.iload_n 2, 1) := by decide +kernel
theorem dX1_hasStall_13 : decode cX1_hasStall 13 = .ok (.invokevirtual 79, 3) := by decide +kernel
theorem dX1_hasStall_16 : decode cX1_hasStall 16 = .ok (.iload_n 1, 1) := by decide +kernel
theorem dX1_hasStall_17 : decode cX1_hasStall 17 = .ok (.if_icmp .ne 5, 3) := by decide +kernel
theorem dX1_hasStall_20 : decode cX1_hasStall 20 = .ok (.iconst 1, 1) := by decide +kernel
theorem dX1_hasStall_21 : decode cX1_hasStall 21 = .ok (.ireturn, 1) := by decide +kernel
theorem dX1_hasStall_22 : decode cX1_hasStall 22 = .ok (.iinc 2 1, 3) := by decide +kernel
theorem dX1_hasStall_25 : decode cX1_hasStall 25 = .ok (.goto (-23), 3) := by decide +kernel
theorem dX1_hasStall_28 : decode cX1_hasStall 28 = .ok (.iconst 0, 1) := by decide +kernel
theorem dX1_hasStall_29 : decode cX1_hasStall 29 = .ok (.ireturn, 1) := by decide +kernel
theorem dX1_isLost_0 : decode cX1_isLost 0 = .ok (.aload_n 0, 1) := by decide +kernel
theorem dX1_isLost_1 : decode cX1_isLost 1 = .ok (.iconst 4, 1) := by decide +kernel
theorem dX1_isLost_2 : decode cX1_isLost 2 = .ok (.iload_n 1, 1) := by decide +kernel
theorem dX1_isLost_3 : decode cX1_isLost 3 = .ok (.invokevirtual 79, 3) := by decide +kernel
theorem dX1_isLost_6 : decode cX1_isLost 6 = .ok (.ifCond .le 7, 3) := by decide +kernel
theorem dX1_isLost_9 : decode cX1_isLost 9 = .ok (.iconst 1, 1) := by decide +kernel
theorem dX1_isLost_10 : decode cX1_isLost 10 = .ok (.goto 4, 3) := by decide +kernel
theorem dX1_isLost_13 : decode cX1_isLost 13 = .ok (.iconst 0, 1) := by decide +kernel
theorem dX1_isLost_14 : decode cX1_isLost 14 = .ok (.ireturn, 1) := by decide +kernel
theorem dX1_isAt_0 : decode cX1_isAt 0 = .ok (.aload_n 0, 1) := by decide +kernel
theorem dX1_isAt_1 : decode cX1_isAt 1 = .ok (.iconst 4, 1) := by decide +kernel
theorem dX1_isAt_2 : decode cX1_isAt 2 = .ok (.iload_n 1, 1) := by decide +kernel
theorem dX1_isAt_3 : decode cX1_isAt 3 = .ok (.invokevirtual 79, 3) := by decide +kernel
theorem dX1_isAt_6 : decode cX1_isAt 6 = .ok (.ifCond .ne 17, 3) := by decide +kernel
theorem dX1_isAt_9 : decode cX1_isAt 9 = .ok (.aload_n 0, 1) := by decide +kernel
theorem dX1_isAt_10 : decode cX1_isAt 10 = .ok (.iconst 0, 1) := by decide +kernel
theorem dX1_isAt_11 : decode cX1_isAt 11 = .ok (.iload_n 1, 1) := by decide +kernel
theorem dX1_isAt_12 : decode cX1_isAt 12 = .ok (.invokevirtual 79, 3) := by decide +kernel
theorem dX1_isAt_15 : decode cX1_isAt 15 = .ok (.iload_n 2, 1) := by decide +kernel
theorem dX1_isAt_16 : decode cX1_isAt 16 = .ok (.if_icmp .ne 7, 3) := by decide +kernel
theorem dX1_isAt_19 : decode cX1_isAt 19 = .ok (.iconst 1, 1) := by decide +kernel
theorem dX1_isAt_20 : decode cX1_isAt 20 = .ok (.goto 4, 3) := by decide +kernel
theorem dX1_isAt_23 : decode cX1_isAt 23 = .ok (.iconst 0, 1) := by decide +kernel
theorem dX1_isAt_24 : decode cX1_isAt 24 = .ok (.ireturn, 1) := by decide +kernel
theorem dX1_doesLike_0 : decode cX1_doesLike 0 = .ok (.aload_n 0, 1) := by decide +kernel
theorem dX1_doesLike_1 : decode cX1_doesLike 1 = .ok (.iconst 3, 1) := by decide +kernel
theorem dX1_doesLike_2 : decode cX1_doesLike 2 = .ok (.iload_n 1, 1) := by decide +kernel
theorem dX1_doesLike_3 : decode cX1_doesLike 3 = .ok (.invokevirtual 79, 3) := by decide +kernel
theorem dX1_doesLike_6 : decode cX1_doesLike 6 = .ok (.iload_n 2, 1) := by decide +kernel
theorem dX1_doesLike_7 : decode cX1_doesLike 7 = .ok (.invokestatic 82, 3) := by decide +kernel
theorem dX1_doesLike_10 : decode cX1_doesLike 10 = .ok (.ireturn, 1) := by decide +kernel
theorem dX1_walkOf_0 : decode cX1_walkOf 0 = .ok (.aload_n 0, 1) := by decide +kernel
theorem dX1_walkOf_1 : decode cX1_walkOf 1 = .ok (.iconst 0, 1) := by decide +kernel
theorem dX1_walkOf_2 : decode cX1_walkOf 2 = .ok (.iload_n 1, 1) := by decide +kernel
theorem dX1_walkOf_3 : decode cX1_walkOf 3 = .ok (.invokevirtual 79, 3) := by decide +kernel
theorem dX1_walkOf_6 : decode cX1_walkOf 6 = .ok (.iconst 4, 1) := by decide +kernel
theorem dX1_walkOf_7 : decode cX1_walkOf 7 = .ok (.idiv, 1) := by decide +kernel
theorem dX1_walkOf_8 : decode cX1_walkOf 8 = .ok (.ireturn, 1) := by decide +kernel
theorem dX1_monksIn_0 : decode cX1_monksIn 0 = .ok (.iconst 0, 1) := by decide +kernel
theorem dX1_monksIn_1 : decode cX1_monksIn 1 = .ok (.istore_n 2, 1) := by decide +kernel
theorem dX1_monksIn_2 : decode cX1_monksIn 2 = .ok (.iconst 0, 1) := by decide +kernel
theorem dX1_monksIn_3 : decode cX1_monksIn 3 = .ok (.istore_n 3, 1) := by decide +kernel
theorem dX1_monksIn_4 : decode cX1_monksIn 4 = .ok (.iload_n 3, 1) := by decide +kernel
theorem dX1_monksIn_5 : decode cX1_monksIn 5 = .ok (.aload_n 0, 1) := by decide +kernel
theorem dX1_monksIn_6 : decode cX1_monksIn 6 = .ok (.getfield 43, 3) := by decide +kernel
theorem dX1_monksIn_9 : decode cX1_monksIn 9 = .ok (.if_icmp .ge 21, 3) := by decide +kernel
theorem dX1_monksIn_12 : decode cX1_monksIn 12 = .ok (.aload_n 0, 1) := by decide +kernel
theorem dX1_monksIn_13 : decode cX1_monksIn 13 = .ok (.iload_n 3, 1) := by decide +kernel
theorem dX1_monksIn_14 : decode cX1_monksIn 14 = .ok (.invokevirtual 86, 3) := by decide +kernel
theorem dX1_monksIn_17 : decode cX1_monksIn 17 = .ok (.iload_n 1, 1) := by decide +kernel
theorem dX1_monksIn_18 : decode cX1_monksIn 18 = .ok (.if_icmp .ne 6, 3) := by decide +kernel
theorem dX1_monksIn_21 : decode cX1_monksIn 21 = .ok (.iinc 2 1, 3) := by decide +kernel
theorem dX1_monksIn_24 : decode cX1_monksIn 24 = .ok (.iinc 3 1, 3) := by decide +kernel
theorem dX1_monksIn_27 : decode cX1_monksIn 27 = .ok (.goto (-23), 3) := by decide +kernel
theorem dX1_monksIn_30 : decode cX1_monksIn 30 = .ok (.iload_n 2, 1) := by decide +kernel
theorem dX1_monksIn_31 : decode cX1_monksIn 31 = .ok (.ireturn, 1) := by decide +kernel
theorem dX1_seasonOf_0 : decode cX1_seasonOf 0 = .ok (.aload_n 0, 1) := by decide +kernel
theorem dX1_seasonOf_1 : decode cX1_seasonOf 1 = .ok (.getfield 25, 3) := by decide +kernel
theorem dX1_seasonOf_4 : decode cX1_seasonOf 4 = .ok (.iconst 4, 1) := by decide +kernel
theorem dX1_seasonOf_5 : decode cX1_seasonOf 5 = .ok (.if_icmp .ne 9, 3) := by decide +kernel
theorem dX1_seasonOf_8 : decode cX1_seasonOf 8 = .ok (.iload_n 1, 1) := by decide +kernel
theorem dX1_seasonOf_9 : decode cX1_seasonOf 9 = .ok (.iconst 4, 1) := by decide +kernel
theorem dX1_seasonOf_10 : decode cX1_seasonOf 10 = .ok (.idiv, 1) := by decide +kernel
theorem dX1_seasonOf_11 : decode cX1_seasonOf 11 = .ok (.goto 7, 3) := by decide +kernel
theorem dX1_seasonOf_14 : decode cX1_seasonOf 14 = .ok (.aload_n 0, 1) := by decide +kernel
theorem dX1_seasonOf_15 : decode cX1_seasonOf 15 = .ok (.getfield 25, 3) := by decide +kernel
theorem dX1_seasonOf_18 : decode cX1_seasonOf 18 = .ok (.ireturn, 1) := by decide +kernel
theorem dX1_sumOf_0 : decode cX1_sumOf 0 = .ok (.iconst 0, 1) := by decide +kernel
theorem dX1_sumOf_1 : decode cX1_sumOf 1 = .ok (.istore_n 2, 1) := by decide +kernel
theorem dX1_sumOf_2 : decode cX1_sumOf 2 = .ok (.iconst 0, 1) := by decide +kernel
theorem dX1_sumOf_3 : decode cX1_sumOf 3 = .ok (.istore_n 3, 1) := by decide +kernel
theorem dX1_sumOf_4 : decode cX1_sumOf 4 = .ok (.iload_n 3, 1) := by decide +kernel
theorem dX1_sumOf_5 : decode cX1_sumOf 5 = .ok (.aload_n 0, 1) := by decide +kernel
theorem dX1_sumOf_6 : decode cX1_sumOf 6 = .ok (.getfield 43, 3) := by decide +kernel
theorem dX1_sumOf_9 : decode cX1_sumOf 9 = .ok (.if_icmp .ge 18, 3) := by decide +kernel
theorem dX1_sumOf_12 : decode cX1_sumOf 12 = .ok (.iload_n 2, 1) := by decide +kernel
theorem dX1_sumOf_13 : decode cX1_sumOf 13 = .ok (.aload_n 0, 1) := by decide +kernel
theorem dX1_sumOf_14 : decode cX1_sumOf 14 = .ok (.iload_n 1, 1) := by decide +kernel
theorem dX1_sumOf_15 : decode cX1_sumOf 15 = .ok (.iload_n 3, 1) := by decide +kernel
theorem dX1_sumOf_16 : decode cX1_sumOf 16 = .ok (.invokevirtual 79, 3) := by decide +kernel
theorem dX1_sumOf_19 : decode cX1_sumOf 19 = .ok (.iadd, 1) := by decide +kernel
theorem dX1_sumOf_20 : decode cX1_sumOf 20 = .ok (.istore_n 2, 1) := by decide +kernel
theorem dX1_sumOf_21 : decode cX1_sumOf 21 = .ok (.iinc 3 1, 3) := by decide +kernel
theorem dX1_sumOf_24 : decode cX1_sumOf 24 = .ok (.goto (-20), 3) := by decide +kernel
theorem dX1_sumOf_27 : decode cX1_sumOf 27 = .ok (.iload_n 2, 1) := by decide +kernel
theorem dX1_sumOf_28 : decode cX1_sumOf 28 = .ok (.ireturn, 1) := by decide +kernel
theorem dX1_lagOf_0 : decode cX1_lagOf 0 = .ok (.aload_n 0, 1) := by decide +kernel
theorem dX1_lagOf_1 : decode cX1_lagOf 1 = .ok (.iconst 5, 1) := by decide +kernel
theorem dX1_lagOf_2 : decode cX1_lagOf 2 = .ok (.invokevirtual 89, 3) := by decide +kernel
theorem dX1_lagOf_5 : decode cX1_lagOf 5 = .ok (.istore_n 2, 1) := by decide +kernel
theorem dX1_lagOf_6 : decode cX1_lagOf 6 = .ok (.iload_n 2, 1) := by decide +kernel
theorem dX1_lagOf_7 : decode cX1_lagOf 7 = .ok (.ifCond .ne 7, 3) := by decide +kernel
theorem dX1_lagOf_10 : decode cX1_lagOf 10 = .ok (.iconst 0, 1) := by decide +kernel
theorem dX1_lagOf_11 : decode cX1_lagOf 11 = .ok (.goto 14, 3) := by decide +kernel
theorem dX1_lagOf_14 : decode cX1_lagOf 14 = .ok (.bipush 100, 2) := by decide +kernel
theorem dX1_lagOf_16 : decode cX1_lagOf 16 = .ok (.aload_n 0, 1) := by decide +kernel
theorem dX1_lagOf_17 : decode cX1_lagOf 17 = .ok (.iconst 5, 1) := by decide +kernel
theorem dX1_lagOf_18 : decode cX1_lagOf 18 = .ok (.iload_n 1, 1) := by decide +kernel
theorem dX1_lagOf_19 : decode cX1_lagOf 19 = .ok (.invokevirtual 79, 3) := by decide +kernel
theorem dX1_lagOf_22 : decode cX1_lagOf 22 = .ok (.imul, 1) := by decide +kernel
theorem dX1_lagOf_23 : decode cX1_lagOf 23 = .ok (.iload_n 2, 1) := by decide +kernel
theorem dX1_lagOf_24 : decode cX1_lagOf 24 = .ok (.idiv, 1) := by decide +kernel
theorem dX1_lagOf_25 : decode cX1_lagOf 25 = .ok (.ireturn, 1) := by decide +kernel
theorem dX1_farOf_0 : decode cX1_farOf 0 = .ok (.iload_n 1, 1) := by decide +kernel
theorem dX1_farOf_1 : decode cX1_farOf 1 = .ok (.iload_n 2, 1) := by decide +kernel
theorem dX1_farOf_2 : decode cX1_farOf 2 = .ok (.invokestatic 92, 3) := by decide +kernel
theorem dX1_farOf_5 : decode cX1_farOf 5 = .ok (.istore_n 3, 1) := by decide +kernel
theorem dX1_farOf_6 : decode cX1_farOf 6 = .ok (.iload_n 3, 1) := by decide +kernel
theorem dX1_farOf_7 : decode cX1_farOf 7 = .ok (.iconst 1, 1) := by decide +kernel
theorem dX1_farOf_8 : decode cX1_farOf 8 = .ok (.aload_n 0, 1) := by decide +kernel
theorem dX1_farOf_9 : decode cX1_farOf 9 = .ok (.getfield 29, 3) := by decide +kernel
theorem dX1_farOf_12 : decode cX1_farOf 12 = .ok (.invokestatic 95, 3) := by decide +kernel
theorem dX1_farOf_15 : decode cX1_farOf 15 = .ok (.bipush 8, 2) := by decide +kernel
theorem dX1_farOf_17 : decode cX1_farOf 17 = .ok (.iadd, 1) := by decide +kernel
theorem dX1_farOf_18 : decode cX1_farOf 18 = .ok (.iload_n 3, 1) := by decide +kernel
theorem dX1_farOf_19 : decode cX1_farOf 19 = .ok (.isub, 1) := by decide +kernel
theorem dX1_farOf_20 : decode cX1_farOf 20 = .ok (.invokestatic 65, 3) := by decide +kernel
theorem dX1_farOf_23 : decode cX1_farOf 23 = .ok (.ireturn, 1) := by decide +kernel
theorem dX1_shareOut_0 : decode cX1_shareOut 0 = .ok (.iconst 0, 1) := by decide +kernel
theorem dX1_shareOut_1 : decode cX1_shareOut 1 = .ok (.istore_n 2, 1) := by decide +kernel
theorem dX1_shareOut_2 : decode cX1_shareOut 2 = .ok (.iload_n 2, 1) := by decide +kernel
theorem dX1_shareOut_3 : decode cX1_shareOut 3 = .ok (.iload_n 1, 1) := by decide +kernel
theorem dX1_shareOut_4 : decode cX1_shareOut 4 = .ok (.if_icmp .ge 49, 3) := by decide +kernel
theorem dX1_shareOut_7 : decode cX1_shareOut 7 = .ok (.iconst 0, 1) := by decide +kernel
theorem dX1_shareOut_8 : decode cX1_shareOut 8 = .ok (.istore_n 3, 1) := by decide +kernel
theorem dX1_shareOut_9 : decode cX1_shareOut 9 = .ok (.iconst 1, 1) := by decide +kernel
theorem dX1_shareOut_10 : decode cX1_shareOut 10 = .ok (.istore 4, 2) := by decide +kernel
theorem dX1_shareOut_12 : decode cX1_shareOut 12 = .ok (.iload 4, 2) := by decide +kernel
theorem dX1_shareOut_14 : decode cX1_shareOut 14 = .ok (.iconst 4, 1) := by decide +kernel
theorem dX1_shareOut_15 : decode cX1_shareOut 15 = .ok (.if_icmp .ge 26, 3) := by decide +kernel
theorem dX1_shareOut_18 : decode cX1_shareOut 18 = .ok (.aload_n 0, 1) := by decide +kernel
theorem dX1_shareOut_19 : decode cX1_shareOut 19 = .ok (.iload 4, 2) := by decide +kernel
theorem dX1_shareOut_21 : decode cX1_shareOut 21 = .ok (.invokevirtual 61, 3) := by decide +kernel
theorem dX1_shareOut_24 : decode cX1_shareOut 24 = .ok (.aload_n 0, 1) := by decide +kernel
theorem dX1_shareOut_25 : decode cX1_shareOut 25 = .ok (.iload_n 3, 1) := by decide +kernel
theorem dX1_shareOut_26 : decode cX1_shareOut 26 = .ok (.invokevirtual 61, 3) := by decide +kernel
theorem dX1_shareOut_29 : decode cX1_shareOut 29 = .ok (.if_icmp .ge 6, 3) := by decide +kernel
theorem dX1_shareOut_32 : decode cX1_shareOut 32 = .ok (.iload 4, 2) := by decide +kernel
theorem dX1_shareOut_34 : decode cX1_shareOut 34 = .ok (.istore_n 3, 1) := by decide +kernel
theorem dX1_shareOut_35 : decode cX1_shareOut 35 = .ok (.iinc 4 1, 3) := by decide +kernel
theorem dX1_shareOut_38 : decode cX1_shareOut 38 = .ok (.goto (-26), 3) := by decide +kernel
theorem dX1_shareOut_41 : decode cX1_shareOut 41 = .ok (.aload_n 0, 1) := by decide +kernel
theorem dX1_shareOut_42 : decode cX1_shareOut 42 = .ok (.iload_n 3, 1) := by decide +kernel
theorem dX1_shareOut_43 : decode cX1_shareOut 43 = .ok (.iconst 1, 1) := by decide +kernel
theorem dX1_shareOut_44 : decode cX1_shareOut 44 = .ok (.invokevirtual 98, 3) := by decide +kernel
theorem dX1_shareOut_47 : decode cX1_shareOut 47 = .ok (.iinc 2 1, 3) := by decide +kernel
theorem dX1_shareOut_50 : decode cX1_shareOut 50 = .ok (.goto (-48), 3) := by decide +kernel
theorem dX1_shareOut_53 : decode cX1_shareOut 53 = .ok (.return_, 1) := by decide +kernel
theorem dX1_passHour_0 : decode cX1_passHour 0 = .ok (.iconst 0, 1) := by decide +kernel
theorem dX1_passHour_1 : decode cX1_passHour 1 = .ok (.istore_n 3, 1) := by decide +kernel
theorem dX1_passHour_2 : decode cX1_passHour 2 = .ok (.iload_n 3, 1) := by decide +kernel
theorem dX1_passHour_3 : decode cX1_passHour 3 = .ok (.aload_n 0, 1) := by decide +kernel
theorem dX1_passHour_4 : decode cX1_passHour 4 = .ok (.getfield 43, 3) := by decide +kernel
theorem dX1_passHour_7 : decode cX1_passHour 7 = .ok (.if_icmp .ge 15, 3) := by decide +kernel
theorem dX1_passHour_10 : decode cX1_passHour 10 = .ok (.aload_n 0, 1) := by decide +kernel
theorem dX1_passHour_11 : decode cX1_passHour 11 = .ok (.iload_n 3, 1) := by decide +kernel
theorem dX1_passHour_12 : decode cX1_passHour 12 = .ok (.aload_n 1, 1) := by decide +kernel
theorem dX1_passHour_13 : decode cX1_passHour 13 = .ok (.invokevirtual 101, 3) := by decide +kernel
theorem dX1_passHour_16 : decode cX1_passHour 16 = .ok (.iinc 3 1, 3) := by decide +kernel
theorem dX1_passHour_19 : decode cX1_passHour 19 = .ok (.goto (-17), 3) := by decide +kernel
theorem dX1_passHour_22 : decode cX1_passHour 22 = .ok (.iconst 0, 1) := by decide +kernel
theorem dX1_passHour_23 : decode cX1_passHour 23 = .ok (.istore_n 3, 1) := by decide +kernel
theorem dX1_passHour_24 : decode cX1_passHour 24 = .ok (.iload_n 3, 1) := by decide +kernel
theorem dX1_passHour_25 : decode cX1_passHour 25 = .ok (.aload_n 0, 1) := by decide +kernel
theorem dX1_passHour_26 : decode cX1_passHour 26 = .ok (.getfield 43, 3) := by decide +kernel
theorem dX1_passHour_29 : decode cX1_passHour 29 = .ok (.if_icmp .ge 14, 3) := by decide +kernel
theorem dX1_passHour_32 : decode cX1_passHour 32 = .ok (.aload_n 0, 1) := by decide +kernel
theorem dX1_passHour_33 : decode cX1_passHour 33 = .ok (.iload_n 3, 1) := by decide +kernel
theorem dX1_passHour_34 : decode cX1_passHour 34 = .ok (.invokevirtual 105, 3) := by decide +kernel
theorem dX1_passHour_37 : decode cX1_passHour 37 = .ok (.iinc 3 1, 3) := by decide +kernel
theorem dX1_passHour_40 : decode cX1_passHour 40 = .ok (.goto (-16), 3) := by decide +kernel
theorem dX1_passHour_43 : decode cX1_passHour 43 = .ok (.aload_n 0, 1) := by decide +kernel
theorem dX1_passHour_44 : decode cX1_passHour 44 = .ok (.getfield 49, 3) := by decide +kernel
theorem dX1_passHour_47 : decode cX1_passHour 47 = .ok (.iconst 3, 1) := by decide +kernel
theorem dX1_passHour_48 : decode cX1_passHour 48 = .ok (.irem, 1) := by decide +kernel
theorem dX1_passHour_49 : decode cX1_passHour 49 = .ok (.ifCond .ne 10, 3) := by decide +kernel
theorem dX1_passHour_52 : decode cX1_passHour 52 = .ok (.aload_n 0, 1) := by decide +kernel
theorem dX1_passHour_53 : decode cX1_passHour 53 = .ok (.invokevirtual 109, 3) := by decide +kernel
theorem dX1_passHour_56 : decode cX1_passHour 56 = .ok (.goto 4, 3) := by decide +kernel
theorem dX1_passHour_59 : decode cX1_passHour 59 = .ok (.iconst 0, 1) := by decide +kernel
theorem dX1_passHour_60 : decode cX1_passHour 60 = .ok (.istore_n 3, 1) := by decide +kernel
theorem dX1_passHour_61 : decode cX1_passHour 61 = .ok (.iload_n 2, 1) := by decide +kernel
theorem dX1_passHour_62 : decode cX1_passHour 62 = .ok (.ifCond .eq 27, 3) := by decide +kernel
theorem dX1_passHour_65 : decode cX1_passHour 65 = .ok (.aload_n 0, 1) := by decide +kernel
theorem dX1_passHour_66 : decode cX1_passHour 66 = .ok (.invokevirtual 113, 3) := by decide +kernel
theorem dX1_passHour_69 : decode cX1_passHour 69 = .ok (.bipush 100, 2) := by decide +kernel
theorem dX1_passHour_71 : decode cX1_passHour 71 = .ok (.irem, 1) := by decide +kernel
theorem dX1_passHour_72 : decode cX1_passHour 72 = .ok (.aload_n 0, 1) := by decide +kernel
theorem dX1_passHour_73 : decode cX1_passHour 73 = .ok (.getfield 58, 3) := by decide +kernel
theorem dX1_passHour_76 : decode cX1_passHour 76 = .ok (.if_icmp .ge 13, 3) := by decide +kernel
theorem dX1_passHour_79 : decode cX1_passHour 79 = .ok (.aload_n 0, 1) := by decide +kernel
theorem dX1_passHour_80 : decode cX1_passHour 80 = .ok (.aload_n 0, 1) := by decide +kernel
theorem dX1_passHour_81 : decode cX1_passHour 81 = .ok (.invokevirtual 113, 3) := by decide +kernel
theorem dX1_passHour_84 : decode cX1_passHour 84 = .ok (.iconst 5, 1) := by decide +kernel
theorem dX1_passHour_85 : decode cX1_passHour 85 = .ok (.irem, 1) := by decide +kernel
theorem dX1_passHour_86 : decode cX1_passHour 86 = .ok (.putfield 25, 3) := by decide +kernel
theorem dX1_passHour_89 : decode cX1_passHour 89 = .ok (.aload_n 0, 1) := by decide +kernel
theorem dX1_passHour_90 : decode cX1_passHour 90 = .ok (.invokevirtual 116, 3) := by decide +kernel
theorem dX1_passHour_93 : decode cX1_passHour 93 = .ok (.aload_n 0, 1) := by decide +kernel
theorem dX1_passHour_94 : decode cX1_passHour 94 = .ok (.invokevirtual 119, 3) := by decide +kernel
theorem dX1_passHour_97 : decode cX1_passHour 97 = .ok (.iload_n 3, 1) := by decide +kernel
theorem dX1_passHour_98 : decode cX1_passHour 98 = .ok (.ireturn, 1) := by decide +kernel
theorem dX1_goOn_0 : decode cX1_goOn 0 = .ok (.aload_n 0, 1) := by decide +kernel
theorem dX1_goOn_1 : decode cX1_goOn 1 = .ok (.iload_n 1, 1) := by decide +kernel
theorem dX1_goOn_2 : decode cX1_goOn 2 = .ok (.invokevirtual 122, 3) := by decide +kernel
theorem dX1_goOn_5 : decode cX1_goOn 5 = .ok (.ifCond .eq 18, 3) := by decide +kernel
theorem dX1_goOn_8 : decode cX1_goOn 8 = .ok (.aload_n 0, 1) := by decide +kernel
theorem dX1_goOn_9 : decode cX1_goOn 9 = .ok (.iconst 4, 1) := by decide +kernel
theorem dX1_goOn_10 : decode cX1_goOn 10 = .ok (.iload_n 1, 1) := by decide +kernel
theorem dX1_goOn_11 : decode cX1_goOn 11 = .ok (.aload_n 0, 1) := by decide +kernel
theorem dX1_goOn_12 : decode cX1_goOn 12 = .ok (.iconst 4, 1) := by decide +kernel
theorem dX1_goOn_13 : decode cX1_goOn 13 = .ok (.iload_n 1, 1) := by decide +kernel
theorem dX1_goOn_14 : decode cX1_goOn 14 = .ok (.invokevirtual 79, 3) := by decide +kernel
theorem dX1_goOn_17 : decode cX1_goOn 17 = .ok (.iconst 1, 1) := by decide +kernel
theorem dX1_goOn_18 : decode cX1_goOn 18 = .ok (.isub, 1) := by decide +kernel
theorem dX1_goOn_19 : decode cX1_goOn 19 = .ok (.invokevirtual 75, 3) := by decide +kernel
theorem dX1_goOn_22 : decode cX1_goOn 22 = .ok (.return_, 1) := by decide +kernel
theorem dX1_goOn_23 : decode cX1_goOn 23 = .ok (.aload_n 0, 1) := by decide +kernel
theorem dX1_goOn_24 : decode cX1_goOn 24 = .ok (.iconst 0, 1) := by decide +kernel
theorem dX1_goOn_25 : decode cX1_goOn 25 = .ok (.iload_n 1, 1) := by decide +kernel
theorem dX1_goOn_26 : decode cX1_goOn 26 = .ok (.invokevirtual 79, 3) := by decide +kernel
theorem dX1_goOn_29 : decode cX1_goOn 29 = .ok (.aload_n 2, 1) := by decide +kernel
theorem dX1_goOn_30 : decode cX1_goOn 30 = .ok (.aload_n 0, 1) := by decide +kernel
theorem dX1_goOn_31 : decode cX1_goOn 31 = .ok (.iload_n 1, 1) := by decide +kernel
theorem dX1_goOn_32 : decode cX1_goOn 32 = .ok (.invokevirtual 126, 3) := by decide +kernel
theorem dX1_goOn_35 : decode cX1_goOn 35 = .ok (.iadd, 1) := by decide +kernel
theorem dX1_goOn_36 : decode cX1_goOn 36 = .ok (.istore_n 3, 1) := by decide +kernel
theorem dX1_goOn_37 : decode cX1_goOn 37 = .ok (.aload_n 0, 1) := by decide +kernel
theorem dX1_goOn_38 : decode cX1_goOn 38 = .ok (.iconst 0, 1) := by decide +kernel
theorem dX1_goOn_39 : decode cX1_goOn 39 = .ok (.iload_n 1, 1) := by decide +kernel
theorem dX1_goOn_40 : decode cX1_goOn 40 = .ok (.iload_n 3, 1) := by decide +kernel
theorem dX1_goOn_41 : decode cX1_goOn 41 = .ok (.bipush 16, 2) := by decide +kernel
theorem dX1_goOn_43 : decode cX1_goOn 43 = .ok (.irem, 1) := by decide +kernel
theorem dX1_goOn_44 : decode cX1_goOn 44 = .ok (.invokevirtual 75, 3) := by decide +kernel
theorem dX1_goOn_47 : decode cX1_goOn 47 = .ok (.iload_n 3, 1) := by decide +kernel
theorem dX1_goOn_48 : decode cX1_goOn 48 = .ok (.bipush 16, 2) := by decide +kernel
theorem dX1_goOn_50 : decode cX1_goOn 50 = .ok (.if_icmp .lt 46, 3) := by decide +kernel
theorem dX1_goOn_53 : decode cX1_goOn 53 = .ok (.aload_n 0, 1) := by decide +kernel
theorem dX1_goOn_54 : decode cX1_goOn 54 = .ok (.bipush 7, 2) := by decide +kernel
theorem dX1_goOn_56 : decode cX1_goOn 56 = .ok (.iload_n 1, 1) := by decide +kernel
theorem dX1_goOn_57 : decode cX1_goOn 57 = .ok (.sipush 999, 3) := by decide +kernel
theorem dX1_goOn_60 : decode cX1_goOn 60 = .ok (.aload_n 0, 1) := by decide +kernel
theorem dX1_goOn_61 : decode cX1_goOn 61 = .ok (.bipush 7, 2) := by decide +kernel
theorem dX1_goOn_63 : decode cX1_goOn 63 = .ok (.iload_n 1, 1) := by decide +kernel
theorem dX1_goOn_64 : decode cX1_goOn 64 = .ok (.invokevirtual 79, 3) := by decide +kernel
theorem dX1_goOn_67 : decode cX1_goOn 67 = .ok (.iconst 1, 1) := by decide +kernel
theorem dX1_goOn_68 : decode cX1_goOn 68 = .ok (.iadd, 1) := by decide +kernel
theorem dX1_goOn_69 : decode cX1_goOn 69 = .ok (.invokestatic 65, 3) := by decide +kernel
theorem dX1_goOn_72 : decode cX1_goOn 72 = .ok (.invokevirtual 75, 3) := by decide +kernel
theorem dX1_goOn_75 : decode cX1_goOn 75 = .ok (.aload_n 0, 1) := by decide +kernel
theorem dX1_goOn_76 : decode cX1_goOn 76 = .ok (.getfield 21, 3) := by decide +kernel
theorem dX1_goOn_79 : decode cX1_goOn 79 = .ok (.aload_n 0, 1) := by decide +kernel
theorem dX1_goOn_80 : decode cX1_goOn 80 = .ok (.getfield 52, 3) := by decide +kernel
theorem dX1_goOn_83 : decode cX1_goOn 83 = .ok (.aload_n 0, 1) := by decide +kernel
theorem dX1_goOn_84 : decode cX1_goOn 84 = .ok (.getfield 49, 3) := by decide +kernel
theorem dX1_goOn_87 : decode cX1_goOn 87 = .ok (.iconst 1, 1) := by decide +kernel
theorem dX1_goOn_88 : decode cX1_goOn 88 = .ok (.iload_n 1, 1) := by decide +kernel
theorem dX1_goOn_89 : decode cX1_goOn 89 = .ok (.iload_n 3, 1) := by decide +kernel
theorem dX1_goOn_90 : decode cX1_goOn 90 = .ok (.bipush 16, 2) := by decide +kernel
theorem dX1_goOn_92 : decode cX1_goOn 92 = .ok (.irem, 1) := by decide +kernel
theorem dX1_goOn_93 : decode cX1_goOn 93 = .ok (.invokevirtual 132, 3) := by decide +kernel
theorem dX1_goOn_96 : decode cX1_goOn 96 = .ok (.return_, 1) := by decide +kernel
theorem dX1_eat_0 : decode cX1_eat 0 = .ok (.aload_n 0, 1) := by decide +kernel
theorem dX1_eat_1 : decode cX1_eat 1 = .ok (.iload_n 1, 1) := by decide +kernel
theorem dX1_eat_2 : decode cX1_eat 2 = .ok (.invokevirtual 122, 3) := by decide +kernel
theorem dX1_eat_5 : decode cX1_eat 5 = .ok (.ifCond .eq 4, 3) := by decide +kernel
theorem dX1_eat_8 : decode cX1_eat 8 = .ok (.return_, 1) := by decide +kernel
theorem dX1_eat_9 : decode cX1_eat 9 = .ok (.aload_n 0, 1) := by decide +kernel
theorem dX1_eat_10 : decode cX1_eat 10 = .ok (.iload_n 1, 1) := by decide +kernel
theorem dX1_eat_11 : decode cX1_eat 11 = .ok (.invokevirtual 86, 3) := by decide +kernel
theorem dX1_eat_14 : decode cX1_eat 14 = .ok (.istore_n 2, 1) := by decide +kernel
theorem dX1_eat_15 : decode cX1_eat 15 = .ok (.aload_n 0, 1) := by decide +kernel
theorem dX1_eat_16 : decode cX1_eat 16 = .ok (.iload_n 2, 1) := by decide +kernel
theorem dX1_eat_17 : decode cX1_eat 17 = .ok (.invokevirtual 61, 3) := by decide +kernel
theorem dX1_eat_20 : decode cX1_eat 20 = .ok (.ifCond .le 20, 3) := by decide +kernel
theorem dX1_eat_23 : decode cX1_eat 23 = .ok (.aload_n 0, 1) := by decide +kernel
theorem dX1_eat_24 : decode cX1_eat 24 = .ok (.iload_n 2, 1) := by decide +kernel
theorem dX1_eat_25 : decode cX1_eat 25 = .ok (.iconst (-1), 1) := by decide +kernel
theorem dX1_eat_26 : decode cX1_eat 26 = .ok (.invokevirtual 98, 3) := by decide +kernel
theorem dX1_eat_29 : decode cX1_eat 29 = .ok (.aload_n 0, 1) := by decide +kernel
theorem dX1_eat_30 : decode cX1_eat 30 = .ok (.bipush 6, 2) := by decide +kernel
theorem dX1_eat_32 : decode cX1_eat 32 = .ok (.iload_n 1, 1) := by decide +kernel
theorem dX1_eat_33 : decode cX1_eat 33 = .ok (.iconst 0, 1) := by decide +kernel
theorem dX1_eat_34 : decode cX1_eat 34 = .ok (.invokevirtual 75, 3) := by decide +kernel
theorem dX1_eat_37 : decode cX1_eat 37 = .ok (.goto 24, 3) := by decide +kernel
theorem dX1_eat_40 : decode cX1_eat 40 = .ok (.aload_n 0, 1) := by decide +kernel
theorem dX1_eat_41 : decode cX1_eat 41 = .ok (.bipush 6, 2) := by decide +kernel
theorem dX1_eat_43 : decode cX1_eat 43 = .ok (.iload_n 1, 1) := by decide +kernel
theorem dX1_eat_44 : decode cX1_eat 44 = .ok (.bipush 99, 2) := by decide +kernel
theorem dX1_eat_46 : decode cX1_eat 46 = .ok (.aload_n 0, 1) := by decide +kernel
theorem dX1_eat_47 : decode cX1_eat 47 = .ok (.bipush 6, 2) := by decide +kernel
theorem dX1_eat_49 : decode cX1_eat 49 = .ok (.iload_n 1, 1) := by decide +kernel
theorem dX1_eat_50 : decode cX1_eat 50 = .ok (.invokevirtual 79, 3) := by decide +kernel
theorem dX1_eat_53 : decode cX1_eat 53 = .ok (.iconst 1, 1) := by decide +kernel
theorem dX1_eat_54 : decode cX1_eat 54 = .ok (.iadd, 1) := by decide +kernel
theorem dX1_eat_55 : decode cX1_eat 55 = .ok (.invokestatic 65, 3) := by decide +kernel
theorem dX1_eat_58 : decode cX1_eat 58 = .ok (.invokevirtual 75, 3) := by decide +kernel
theorem dX1_eat_61 : decode cX1_eat 61 = .ok (.return_, 1) := by decide +kernel
theorem dX1_holdOffice_0 : decode cX1_holdOffice 0 = .ok (.iconst 0, 1) := by decide +kernel
theorem dX1_holdOffice_1 : decode cX1_holdOffice 1 = .ok (.istore_n 1, 1) := by decide +kernel
theorem dX1_holdOffice_2 : decode cX1_holdOffice 2 = .ok (.iconst 0, 1) := by decide +kernel
theorem dX1_holdOffice_3 : decode cX1_holdOffice 3 = .ok (.istore_n 2, 1) := by decide +kernel
theorem dX1_holdOffice_4 : decode cX1_holdOffice 4 = .ok (.iload_n 2, 1) := by decide +kernel
theorem dX1_holdOffice_5 : decode cX1_holdOffice 5 = .ok (.aload_n 0, 1) := by decide +kernel
theorem dX1_holdOffice_6 : decode cX1_holdOffice 6 = .ok (.getfield 43, 3) := by decide +kernel
theorem dX1_holdOffice_9 : decode cX1_holdOffice 9 = .ok (.if_icmp .ge 70, 3) := by decide +kernel
theorem dX1_holdOffice_12 : decode cX1_holdOffice 12 = .ok (.aload_n 0, 1) := by decide +kernel
theorem dX1_holdOffice_13 : decode cX1_holdOffice 13 = .ok (.iload_n 2, 1) := by decide +kernel
theorem dX1_holdOffice_14 : decode cX1_holdOffice 14 = .ok (.aload_n 0, 1) := by decide +kernel
theorem dX1_holdOffice_15 : decode cX1_holdOffice 15 = .ok (.getfield 55, 3) := by decide +kernel
theorem dX1_holdOffice_18 : decode cX1_holdOffice 18 = .ok (.invokevirtual 136, 3) := by decide +kernel
theorem dX1_holdOffice_21 : decode cX1_holdOffice 21 = .ok (.ifCond .ne 52, 3) := by decide +kernel
theorem dX1_holdOffice_24 : decode cX1_holdOffice 24 = .ok (.iload_n 1, 1) := by decide +kernel
theorem dX1_holdOffice_25 : decode cX1_holdOffice 25 = .ok (.iconst 1, 1) := by decide +kernel
theorem dX1_holdOffice_26 : decode cX1_holdOffice 26 = .ok (.iload_n 2, 1) := by decide +kernel
theorem dX1_holdOffice_27 : decode cX1_holdOffice 27 = .ok (.ishl, 1) := by decide +kernel
theorem dX1_holdOffice_28 : decode cX1_holdOffice 28 = .ok (.ior, 1) := by decide +kernel
theorem dX1_holdOffice_29 : decode cX1_holdOffice 29 = .ok (.istore_n 1, 1) := by decide +kernel
theorem dX1_holdOffice_30 : decode cX1_holdOffice 30 = .ok (.aload_n 0, 1) := by decide +kernel
theorem dX1_holdOffice_31 : decode cX1_holdOffice 31 = .ok (.iconst 5, 1) := by decide +kernel
theorem dX1_holdOffice_32 : decode cX1_holdOffice 32 = .ok (.iload_n 2, 1) := by decide +kernel
theorem dX1_holdOffice_33 : decode cX1_holdOffice 33 = .ok (.sipush 999, 3) := by decide +kernel
theorem dX1_holdOffice_36 : decode cX1_holdOffice 36 = .ok (.aload_n 0, 1) := by decide +kernel
theorem dX1_holdOffice_37 : decode cX1_holdOffice 37 = .ok (.iconst 5, 1) := by decide +kernel
theorem dX1_holdOffice_38 : decode cX1_holdOffice 38 = .ok (.iload_n 2, 1) := by decide +kernel
theorem dX1_holdOffice_39 : decode cX1_holdOffice 39 = .ok (.invokevirtual 79, 3) := by decide +kernel
theorem dX1_holdOffice_42 : decode cX1_holdOffice 42 = .ok (.iconst 1, 1) := by decide +kernel
theorem dX1_holdOffice_43 : decode cX1_holdOffice 43 = .ok (.iadd, 1) := by decide +kernel
theorem dX1_holdOffice_44 : decode cX1_holdOffice 44 = .ok (.invokestatic 65, 3) := by decide +kernel
theorem dX1_holdOffice_47 : decode cX1_holdOffice 47 = .ok (.invokevirtual 75, 3) := by decide +kernel
theorem dX1_holdOffice_50 : decode cX1_holdOffice 50 = .ok (.aload_n 0, 1) := by decide +kernel
theorem dX1_holdOffice_51 : decode cX1_holdOffice 51 = .ok (.getfield 21, 3) := by decide +kernel
theorem dX1_holdOffice_54 : decode cX1_holdOffice 54 = .ok (.aload_n 0, 1) := by decide +kernel
theorem dX1_holdOffice_55 : decode cX1_holdOffice 55 = .ok (.getfield 52, 3) := by decide +kernel
theorem dX1_holdOffice_58 : decode cX1_holdOffice 58 = .ok (.aload_n 0, 1) := by decide +kernel
theorem dX1_holdOffice_59 : decode cX1_holdOffice 59 = .ok (.getfield 49, 3) := by decide +kernel
theorem dX1_holdOffice_62 : decode cX1_holdOffice 62 = .ok (.iconst 0, 1) := by decide +kernel
theorem dX1_holdOffice_63 : decode cX1_holdOffice 63 = .ok (.iload_n 2, 1) := by decide +kernel
theorem dX1_holdOffice_64 : decode cX1_holdOffice 64 = .ok (.aload_n 0, 1) := by decide +kernel
theorem dX1_holdOffice_65 : decode cX1_holdOffice 65 = .ok (.iconst 0, 1) := by decide +kernel
theorem dX1_holdOffice_66 : decode cX1_holdOffice 66 = .ok (.iload_n 2, 1) := by decide +kernel
theorem dX1_holdOffice_67 : decode cX1_holdOffice 67 = .ok (.invokevirtual 79, 3) := by decide +kernel
theorem dX1_holdOffice_70 : decode cX1_holdOffice 70 = .ok (.invokevirtual 132, 3) := by decide +kernel
theorem dX1_holdOffice_73 : decode cX1_holdOffice 73 = .ok (.iinc 2 1, 3) := by decide +kernel
theorem dX1_holdOffice_76 : decode cX1_holdOffice 76 = .ok (.goto (-72), 3) := by decide +kernel
theorem dX1_holdOffice_79 : decode cX1_holdOffice 79 = .ok (.iload_n 1, 1) := by decide +kernel
theorem dX1_holdOffice_80 : decode cX1_holdOffice 80 = .ok (.ireturn, 1) := by decide +kernel
theorem dX1_draw_0 : decode cX1_draw 0 = .ok (.aload_n 0, 1) := by decide +kernel
theorem dX1_draw_1 : decode cX1_draw 1 = .ok (.ldc 139, 2) := by decide +kernel
theorem dX1_draw_3 : decode cX1_draw 3 = .ok (.aload_n 0, 1) := by decide +kernel
theorem dX1_draw_4 : decode cX1_draw 4 = .ok (.getfield 32, 3) := by decide +kernel
theorem dX1_draw_7 : decode cX1_draw 7 = .ok (.imul, 1) := by decide +kernel
theorem dX1_draw_8 : decode cX1_draw 8 = .ok (.sipush 12345, 3) := by decide +kernel
theorem dX1_draw_11 : decode cX1_draw 11 = .ok (.iadd, 1) := by decide +kernel
theorem dX1_draw_12 : decode cX1_draw 12 = .ok (.putfield 32, 3) := by decide +kernel
theorem dX1_draw_15 : decode cX1_draw 15 = .ok (.aload_n 0, 1) := by decide +kernel
theorem dX1_draw_16 : decode cX1_draw 16 = .ok (.getfield 32, 3) := by decide +kernel
theorem dX1_draw_19 : decode cX1_draw 19 = .ok (.bipush 16, 2) := by decide +kernel
theorem dX1_draw_21 : decode cX1_draw 21 = .ok (.iushr, 1) := by decide +kernel
theorem dX1_draw_22 : decode cX1_draw 22 = .ok (.sipush 32767, 3) := by decide +kernel
theorem dX1_draw_25 : decode cX1_draw 25 = .ok (.iand, 1) := by decide +kernel
theorem dX1_draw_26 : decode cX1_draw 26 = .ok (.ireturn, 1) := by decide +kernel
theorem dX1_harvest_0 : decode cX1_harvest 0 = .ok (.iconst 0, 1) := by decide +kernel
theorem dX1_harvest_1 : decode cX1_harvest 1 = .ok (.istore_n 1, 1) := by decide +kernel
theorem dX1_harvest_2 : decode cX1_harvest 2 = .ok (.iload_n 1, 1) := by decide +kernel
theorem dX1_harvest_3 : decode cX1_harvest 3 = .ok (.iconst 4, 1) := by decide +kernel
theorem dX1_harvest_4 : decode cX1_harvest 4 = .ok (.if_icmp .ge 26, 3) := by decide +kernel
theorem dX1_harvest_7 : decode cX1_harvest 7 = .ok (.aload_n 0, 1) := by decide +kernel
theorem dX1_harvest_8 : decode cX1_harvest 8 = .ok (.iload_n 1, 1) := by decide +kernel
theorem dX1_harvest_9 : decode cX1_harvest 9 = .ok (.iconst 4, 1) := by decide +kernel
theorem dX1_harvest_10 : decode cX1_harvest 10 = .ok (.imul, 1) := by decide +kernel
theorem dX1_harvest_11 : decode cX1_harvest 11 = .ok (.invokevirtual 140, 3) := by decide +kernel
theorem dX1_harvest_14 : decode cX1_harvest 14 = .ok (.iconst 1, 1) := by decide +kernel
theorem dX1_harvest_15 : decode cX1_harvest 15 = .ok (.if_icmp .ne 9, 3) := by decide +kernel
theorem dX1_harvest_18 : decode cX1_harvest 18 = .ok (.aload_n 0, 1) := by decide +kernel
theorem dX1_harvest_19 : decode cX1_harvest 19 = .ok (.iload_n 1, 1) := by decide +kernel
theorem dX1_harvest_20 : decode cX1_harvest 20 = .ok (.iconst 2, 1) := by decide +kernel
theorem dX1_harvest_21 : decode cX1_harvest 21 = .ok (.invokevirtual 98, 3) := by decide +kernel
theorem dX1_harvest_24 : decode cX1_harvest 24 = .ok (.iinc 1 1, 3) := by decide +kernel
theorem dX1_harvest_27 : decode cX1_harvest 27 = .ok (.goto (-25), 3) := by decide +kernel
theorem dX1_harvest_30 : decode cX1_harvest 30 = .ok (.return_, 1) := by decide +kernel
theorem dX1_turnClock_0 : decode cX1_turnClock 0 = .ok (.aload_n 0, 1) := by decide +kernel
theorem dX1_turnClock_1 : decode cX1_turnClock 1 = .ok (.dup, 1) := by decide +kernel
theorem dX1_turnClock_2 : decode cX1_turnClock 2 = .ok (.getfield 49, 3) := by decide +kernel
theorem dX1_turnClock_5 : decode cX1_turnClock 5 = .ok (.iconst 1, 1) := by decide +kernel
theorem dX1_turnClock_6 : decode cX1_turnClock 6 = .ok (.iadd, 1) := by decide +kernel
theorem dX1_turnClock_7 : decode cX1_turnClock 7 = .ok (.putfield 49, 3) := by decide +kernel
theorem dX1_turnClock_10 : decode cX1_turnClock 10 = .ok (.aload_n 0, 1) := by decide +kernel
theorem dX1_turnClock_11 : decode cX1_turnClock 11 = .ok (.getfield 49, 3) := by decide +kernel
theorem dX1_turnClock_14 : decode cX1_turnClock 14 = .ok (.bipush 24, 2) := by decide +kernel
theorem dX1_turnClock_16 : decode cX1_turnClock 16 = .ok (.if_icmp .lt 24, 3) := by decide +kernel
theorem dX1_turnClock_19 : decode cX1_turnClock 19 = .ok (.aload_n 0, 1) := by decide +kernel
theorem dX1_turnClock_20 : decode cX1_turnClock 20 = .ok (.iconst 0, 1) := by decide +kernel
theorem dX1_turnClock_21 : decode cX1_turnClock 21 = .ok (.putfield 49, 3) := by decide +kernel
theorem dX1_turnClock_24 : decode cX1_turnClock 24 = .ok (.aload_n 0, 1) := by decide +kernel
theorem dX1_turnClock_25 : decode cX1_turnClock 25 = .ok (.sipush 9999, 3) := by decide +kernel
theorem dX1_turnClock_28 : decode cX1_turnClock 28 = .ok (.aload_n 0, 1) := by decide +kernel
theorem dX1_turnClock_29 : decode cX1_turnClock 29 = .ok (.getfield 52, 3) := by decide +kernel
theorem dX1_turnClock_32 : decode cX1_turnClock 32 = .ok (.iconst 1, 1) := by decide +kernel
theorem dX1_turnClock_33 : decode cX1_turnClock 33 = .ok (.iadd, 1) := by decide +kernel
theorem dX1_turnClock_34 : decode cX1_turnClock 34 = .ok (.invokestatic 65, 3) := by decide +kernel
theorem dX1_turnClock_37 : decode cX1_turnClock 37 = .ok (.putfield 52, 3) := by decide +kernel
theorem dX1_turnClock_40 : decode cX1_turnClock 40 = .ok (.return_, 1) := by decide +kernel
theorem dX2_readInto_0 : decode cX2_readInto 0 = .ok (.iconst 0, 1) := by decide +kernel
theorem dX2_readInto_1 : decode cX2_readInto 1 = .ok (.istore_n 2, 1) := by decide +kernel
theorem dX2_readInto_2 : decode cX2_readInto 2 = .ok (.iload_n 2, 1) := by decide +kernel
theorem dX2_readInto_3 : decode cX2_readInto 3 = .ok (.bipush 14, 2) := by decide +kernel
theorem dX2_readInto_5 : decode cX2_readInto 5 = .ok (.if_icmp .gt 24, 3) := by decide +kernel
theorem dX2_readInto_8 : decode cX2_readInto 8 = .ok (.aload_n 0, 1) := by decide +kernel
theorem dX2_readInto_9 : decode cX2_readInto 9 = .ok (.iload_n 2, 1) := by decide +kernel
theorem dX2_readInto_10 : decode cX2_readInto 10 = .ok (.bipush 14, 2) := by decide +kernel
theorem dX2_readInto_12 : decode cX2_readInto 12 = .ok (.invokevirtual 11, 3) := by decide +kernel
theorem dX2_readInto_15 : decode cX2_readInto 15 = .ok (.ifCond .eq 14, 3) := by decide +kernel
theorem dX2_readInto_18 : decode cX2_readInto 18 = .ok (.aload_n 0, 1) := by decide +kernel
theorem dX2_readInto_19 : decode cX2_readInto 19 = .ok (.aload_n 1, 1) := by decide +kernel
theorem dX2_readInto_20 : decode cX2_readInto 20 = .ok (.invokestatic 17, 3) := by decide +kernel
theorem dX2_readInto_23 : decode cX2_readInto 23 = .ok (.iinc 2 1, 3) := by decide +kernel
theorem dX2_readInto_26 : decode cX2_readInto 26 = .ok (.goto (-24), 3) := by decide +kernel
theorem dX2_readInto_29 : decode cX2_readInto 29 = .ok (.aload_n 0, 1) := by decide +kernel
theorem dX2_readInto_30 : decode cX2_readInto 30 = .ok (.getfield 21, 3) := by decide +kernel
theorem dX2_readInto_33 : decode cX2_readInto 33 = .ok (.ireturn, 1) := by decide +kernel
theorem dX2_readLine_0 : decode cX2_readLine 0 = .ok (.aload_n 0, 1) := by decide +kernel
theorem dX2_readLine_1 : decode cX2_readLine 1 = .ok (.ldc 25, 2) := by decide +kernel
theorem dX2_readLine_3 : decode cX2_readLine 3 = .ok (.invokevirtual 27, 3) := by decide +kernel
theorem dX2_readLine_6 : decode cX2_readLine 6 = .ok (.ifCond .eq 11, 3) := by decide +kernel
theorem dX2_readLine_9 : decode cX2_readLine 9 = .ok (.aload_n 0, 1) := by decide +kernel
theorem dX2_readLine_10 : decode cX2_readLine 10 = .ok (.aload_n 1, 1) := by decide +kernel
theorem dX2_readLine_11 : decode cX2_readLine 11 = .ok (.invokestatic 31, 3) := by decide +kernel
theorem dX2_readLine_14 : decode cX2_readLine 14 = .ok (.goto 167, 3) := by decide +kernel
theorem dX2_readLine_17 : decode cX2_readLine 17 = .ok (.aload_n 0, 1) := by decide +kernel
theorem dX2_readLine_18 : decode cX2_readLine 18 = .ok (.ldc 34, 2) := by decide +kernel
theorem dX2_readLine_20 : decode cX2_readLine 20 = .ok (.invokevirtual 36, 3) := by decide +kernel
theorem dX2_readLine_23 : decode cX2_readLine 23 = .ok (.ifCond .eq 16, 3) := by decide +kernel
theorem dX2_readLine_26 : decode cX2_readLine 26 = .ok (.aload_n 1, 1) := by decide +kernel
theorem dX2_readLine_27 : decode cX2_readLine 27 = .ok (.aload_n 0, 1) := by decide +kernel
theorem dX2_readLine_28 : decode cX2_readLine 28 = .ok (.bipush 15, 2) := by decide +kernel
theorem dX2_readLine_30 : decode cX2_readLine 30 = .ok (.invokevirtual 39, 3) := by decide +kernel
theorem dX2_readLine_33 : decode cX2_readLine 33 = .ok (.putfield 43, 3) := by decide +kernel
theorem dX2_readLine_36 : decode cX2_readLine 36 = .ok (.goto 145, 3) := by decide +kernel
theorem dX2_readLine_39 : decode cX2_readLine 39 = .ok (.aload_n 0, 1) := by decide +kernel
theorem dX2_readLine_40 : decode cX2_readLine 40 = .ok (.ldc 47, 2) := by decide +kernel
theorem dX2_readLine_42 : decode cX2_readLine 42 = .ok (.invokevirtual 36, 3) := by decide +kernel
theorem dX2_readLine_45 : decode cX2_readLine 45 = .ok (.ifCond .eq 14, 3) := by decide +kernel
theorem dX2_readLine_48 : decode cX2_readLine 48 = .ok (.aload_n 1, 1) := by decide +kernel
theorem dX2_readLine_49 : decode cX2_readLine 49 = .ok (.aload_n 0, 1) := by decide +kernel
theorem dX2_readLine_50 : decode cX2_readLine 50 = .ok (.invokevirtual 49, 3) := by decide +kernel
theorem dX2_readLine_53 : decode cX2_readLine 53 = .ok (.putfield 53, 3) := by decide +kernel
theorem dX2_readLine_56 : decode cX2_readLine 56 = .ok (.goto 125, 3) := by decide +kernel
theorem dX2_readLine_59 : decode cX2_readLine 59 = .ok (.aload_n 0, 1) := by decide +kernel
theorem dX2_readLine_60 : decode cX2_readLine 60 = .ok (.ldc 55, 2) := by decide +kernel
theorem dX2_readLine_62 : decode cX2_readLine 62 = .ok (.invokevirtual 36, 3) := by decide +kernel
theorem dX2_readLine_65 : decode cX2_readLine 65 = .ok (.ifCond .eq 16, 3) := by decide +kernel
theorem dX2_readLine_68 : decode cX2_readLine 68 = .ok (.aload_n 1, 1) := by decide +kernel
theorem dX2_readLine_69 : decode cX2_readLine 69 = .ok (.aload_n 0, 1) := by decide +kernel
theorem dX2_readLine_70 : decode cX2_readLine 70 = .ok (.bipush 100, 2) := by decide +kernel
theorem dX2_readLine_72 : decode cX2_readLine 72 = .ok (.invokevirtual 39, 3) := by decide +kernel
theorem dX2_readLine_75 : decode cX2_readLine 75 = .ok (.putfield 57, 3) := by decide +kernel
theorem dX2_readLine_78 : decode cX2_readLine 78 = .ok (.goto 103, 3) := by decide +kernel
theorem dX2_readLine_81 : decode cX2_readLine 81 = .ok (.aload_n 0, 1) := by decide +kernel
theorem dX2_readLine_82 : decode cX2_readLine 82 = .ok (.ldc 59, 2) := by decide +kernel
theorem dX2_readLine_84 : decode cX2_readLine 84 = .ok (.invokevirtual 36, 3) := by decide +kernel
theorem dX2_readLine_87 : decode cX2_readLine 87 = .ok (.ifCond .eq 16, 3) := by decide +kernel
theorem dX2_readLine_90 : decode cX2_readLine 90 = .ok (.aload_n 1, 1) := by decide +kernel
theorem dX2_readLine_91 : decode cX2_readLine 91 = .ok (.aload_n 0, 1) := by decide +kernel
theorem dX2_readLine_92 : decode cX2_readLine 92 = .ok (.bipush 20, 2) := by decide +kernel
theorem dX2_readLine_94 : decode cX2_readLine 94 = .ok (.invokevirtual 39, 3) := by decide +kernel
theorem dX2_readLine_97 : decode cX2_readLine 97 = .ok (.putfield 61, 3) := by decide +kernel
theorem dX2_readLine_100 : decode cX2_readLine 100 = .ok (.goto 81, 3) := by decide +kernel
theorem dX2_readLine_103 : decode cX2_readLine 103 = .ok (.aload_n 0, 1) := by decide +kernel
theorem dX2_readLine_104 : decode cX2_readLine 104 = .ok (.ldc 63, 2) := by decide +kernel
theorem dX2_readLine_106 : decode cX2_readLine 106 = .ok (.invokevirtual 36, 3) := by decide +kernel
theorem dX2_readLine_109 : decode cX2_readLine 109 = .ok (.ifCond .eq 23, 3) := by decide +kernel
theorem dX2_readLine_112 : decode cX2_readLine 112 = .ok (.aload_n 0, 1) := by decide +kernel
theorem dX2_readLine_113 : decode cX2_readLine 113 = .ok (.invokevirtual 65, 3) := by decide +kernel
theorem dX2_readLine_116 : decode cX2_readLine 116 = .ok (.istore_n 2, 1) := by decide +kernel
theorem dX2_readLine_117 : decode cX2_readLine 117 = .ok (.aload_n 1, 1) := by decide +kernel
theorem dX2_readLine_118 : decode cX2_readLine 118 = .ok (.iload_n 2, 1) := by decide +kernel
theorem dX2_readLine_119 : decode cX2_readLine 119 = .ok (.aload_n 0, 1) := by decide +kernel
theorem dX2_readLine_120 : decode cX2_readLine 120 = .ok (.sipush 999, 3) := by decide +kernel
theorem dX2_readLine_123 : decode cX2_readLine 123 = .ok (.invokevirtual 39, 3) := by decide +kernel
theorem dX2_readLine_126 : decode cX2_readLine 126 = .ok (.invokevirtual 68, 3) := by decide +kernel
theorem dX2_readLine_129 : decode cX2_readLine 129 = .ok (.goto 52, 3) := by decide +kernel
theorem dX2_readLine_132 : decode cX2_readLine 132 = .ok (.aload_n 0, 1) := by decide +kernel
theorem dX2_readLine_133 : decode cX2_readLine 133 = .ok (.ldc 72, 2) := by decide +kernel
theorem dX2_readLine_135 : decode cX2_readLine 135 = .ok (.invokevirtual 36, 3) := by decide +kernel
theorem dX2_readLine_138 : decode cX2_readLine 138 = .ok (.ifCond .eq 16, 3) := by decide +kernel
theorem dX2_readLine_141 : decode cX2_readLine 141 = .ok (.aload_n 1, 1) := by decide +kernel
theorem dX2_readLine_142 : decode cX2_readLine 142 = .ok (.aload_n 0, 1) := by decide +kernel
theorem dX2_readLine_143 : decode cX2_readLine 143 = .ok (.bipush 23, 2) := by decide +kernel
theorem dX2_readLine_145 : decode cX2_readLine 145 = .ok (.invokevirtual 39, 3) := by decide +kernel
theorem dX2_readLine_148 : decode cX2_readLine 148 = .ok (.putfield 74, 3) := by decide +kernel
theorem dX2_readLine_151 : decode cX2_readLine 151 = .ok (.goto 30, 3) := by decide +kernel
theorem dX2_readLine_154 : decode cX2_readLine 154 = .ok (.aload_n 0, 1) := by decide +kernel
theorem dX2_readLine_155 : decode cX2_readLine 155 = .ok (.ldc 76, 2) := by decide +kernel
theorem dX2_readLine_157 : decode cX2_readLine 157 = .ok (.invokevirtual 36, 3) := by decide +kernel
theorem dX2_readLine_160 : decode cX2_readLine 160 = .ok (.ifCond .eq 17, 3) := by decide +kernel
theorem dX2_readLine_163 : decode cX2_readLine 163 = .ok (.aload_n 1, 1) := by decide +kernel
theorem dX2_readLine_164 : decode cX2_readLine 164 = .ok (.aload_n 0, 1) := by decide +kernel
theorem dX2_readLine_165 : decode cX2_readLine 165 = .ok (.sipush 999, 3) := by decide +kernel
theorem dX2_readLine_168 : decode cX2_readLine 168 = .ok (.invokevirtual 39, 3) := by decide +kernel
theorem dX2_readLine_171 : decode cX2_readLine 171 = .ok (.putfield 78, 3) := by decide +kernel
theorem dX2_readLine_174 : decode cX2_readLine 174 = .ok (.goto 7, 3) := by decide +kernel
theorem dX2_readLine_177 : decode cX2_readLine 177 = .ok (.aload_n 0, 1) := by decide +kernel
theorem dX2_readLine_178 : decode cX2_readLine 178 = .ok (.invokevirtual 80, 3) := by decide +kernel
theorem dX2_readLine_181 : decode cX2_readLine 181 = .ok (.return_, 1) := by decide +kernel
theorem dX2_readMonk_0 : decode cX2_readMonk 0 = .ok (.aload_n 1, 1) := by decide +kernel
theorem dX2_readMonk_1 : decode cX2_readMonk 1 = .ok (.getfield 83, 3) := by decide +kernel
theorem dX2_readMonk_4 : decode cX2_readMonk 4 = .ok (.bipush 7, 2) := by decide +kernel
theorem dX2_readMonk_6 : decode cX2_readMonk 6 = .ok (.if_icmp .lt 8, 3) := by decide +kernel
theorem dX2_readMonk_9 : decode cX2_readMonk 9 = .ok (.aload_n 0, 1) := by decide +kernel
theorem dX2_readMonk_10 : decode cX2_readMonk 10 = .ok (.invokevirtual 80, 3) := by decide +kernel
theorem dX2_readMonk_13 : decode cX2_readMonk 13 = .ok (.return_, 1) := by decide +kernel
theorem dX2_readMonk_14 : decode cX2_readMonk 14 = .ok (.aload_n 0, 1) := by decide +kernel
theorem dX2_readMonk_15 : decode cX2_readMonk 15 = .ok (.ldc 25, 2) := by decide +kernel
theorem dX2_readMonk_17 : decode cX2_readMonk 17 = .ok (.invokevirtual 86, 3) := by decide +kernel
theorem dX2_readMonk_20 : decode cX2_readMonk 20 = .ok (.aload_n 0, 1) := by decide +kernel
theorem dX2_readMonk_21 : decode cX2_readMonk 21 = .ok (.ldc 90, 2) := by decide +kernel
theorem dX2_readMonk_23 : decode cX2_readMonk 23 = .ok (.invokevirtual 86, 3) := by decide +kernel
theorem dX2_readMonk_26 : decode cX2_readMonk 26 = .ok (.aload_n 0, 1) := by decide +kernel
theorem dX2_readMonk_27 : decode cX2_readMonk 27 = .ok (.bipush 15, 2) := by decide +kernel
theorem dX2_readMonk_29 : decode cX2_readMonk 29 = .ok (.invokevirtual 39, 3) := by decide +kernel
theorem dX2_readMonk_32 : decode cX2_readMonk 32 = .ok (.istore_n 2, 1) := by decide +kernel
theorem dX2_readMonk_33 : decode cX2_readMonk 33 = .ok (.aload_n 0, 1) := by decide +kernel
theorem dX2_readMonk_34 : decode cX2_readMonk 34 = .ok (.ldc 92, 2) := by decide +kernel
theorem dX2_readMonk_36 : decode cX2_readMonk 36 = .ok (.invokevirtual 86, 3) := by decide +kernel
theorem dX2_readMonk_39 : decode cX2_readMonk 39 = .ok (.aload_n 1, 1) := by decide +kernel
theorem dX2_readMonk_40 : decode cX2_readMonk 40 = .ok (.aload_n 0, 1) := by decide +kernel
theorem dX2_readMonk_41 : decode cX2_readMonk 41 = .ok (.invokevirtual 94, 3) := by decide +kernel
theorem dX2_readMonk_44 : decode cX2_readMonk 44 = .ok (.invokevirtual 97, 3) := by decide +kernel
theorem dX2_readMonk_47 : decode cX2_readMonk 47 = .ok (.ifCond .eq 7, 3) := by decide +kernel
theorem dX2_readMonk_50 : decode cX2_readMonk 50 = .ok (.aload_n 0, 1) := by decide +kernel
theorem dX2_readMonk_51 : decode cX2_readMonk 51 = .ok (.invokevirtual 80, 3) := by decide +kernel
theorem dX2_readMonk_54 : decode cX2_readMonk 54 = .ok (.aload_n 0, 1) := by decide +kernel
theorem dX2_readMonk_55 : decode cX2_readMonk 55 = .ok (.bipush 11, 2) := by decide +kernel
theorem dX2_readMonk_57 : decode cX2_readMonk 57 = .ok (.invokevirtual 39, 3) := by decide +kernel
theorem dX2_readMonk_60 : decode cX2_readMonk 60 = .ok (.istore_n 3, 1) := by decide +kernel
theorem dX2_readMonk_61 : decode cX2_readMonk 61 = .ok (.aload_n 0, 1) := by decide +kernel
theorem dX2_readMonk_62 : decode cX2_readMonk 62 = .ok (.ldc 101, 2) := by decide +kernel
theorem dX2_readMonk_64 : decode cX2_readMonk 64 = .ok (.invokevirtual 36, 3) := by decide +kernel
theorem dX2_readMonk_67 : decode cX2_readMonk 67 = .ok (.ifCond .eq 12, 3) := by decide +kernel
theorem dX2_readMonk_70 : decode cX2_readMonk 70 = .ok (.aload_n 0, 1) := by decide +kernel
theorem dX2_readMonk_71 : decode cX2_readMonk 71 = .ok (.bipush 8, 2) := by decide +kernel
theorem dX2_readMonk_73 : decode cX2_readMonk 73 = .ok (.invokevirtual 39, 3) := by decide +kernel
theorem dX2_readMonk_76 : decode cX2_readMonk 76 = .ok (.goto 4, 3) := by decide +kernel
theorem dX2_readMonk_79 : decode cX2_readMonk 79 = .ok (.iconst 2, 1) := by decide +kernel
theorem dX2_readMonk_80 : decode cX2_readMonk 80 = .ok (.istore 4, 2) := by decide +kernel
theorem dX2_readMonk_82 : decode cX2_readMonk 82 = .ok (.aload_n 0, 1) := by decide +kernel
theorem dX2_readMonk_83 : decode cX2_readMonk 83 = .ok (.ldc 103, 2) := by decide +kernel
theorem dX2_readMonk_85 : decode cX2_readMonk 85 = .ok (.invokevirtual 36, 3) := by decide +kernel
theorem dX2_readMonk_88 : decode cX2_readMonk 88 = .ok (.ifCond .eq 10, 3) := by decide +kernel
theorem dX2_readMonk_91 : decode cX2_readMonk 91 = .ok (.aload_n 0, 1) := by decide +kernel
theorem dX2_readMonk_92 : decode cX2_readMonk 92 = .ok (.invokevirtual 105, 3) := by decide +kernel
theorem dX2_readMonk_95 : decode cX2_readMonk 95 = .ok (.goto 4, 3) := by decide +kernel
theorem dX2_readMonk_98 : decode cX2_readMonk 98 = .ok (.iconst 0, 1) := by decide +kernel
theorem dX2_readMonk_99 : decode cX2_readMonk 99 = .ok (.istore 5, 2) := by decide +kernel
theorem dX2_readMonk_101 : decode cX2_readMonk 101 = .ok (.aload_n 1, 1) := by decide +kernel
theorem dX2_readMonk_102 : decode cX2_readMonk 102 = .ok (.iload_n 2, 1) := by decide +kernel
theorem dX2_readMonk_103 : decode cX2_readMonk 103 = .ok (.iload_n 3, 1) := by decide +kernel
theorem dX2_readMonk_104 : decode cX2_readMonk 104 = .ok (.iload 4, 2) := by decide +kernel
theorem dX2_readMonk_106 : decode cX2_readMonk 106 = .ok (.iload 5, 2) := by decide +kernel
theorem dX2_readMonk_108 : decode cX2_readMonk 108 = .ok (.invokevirtual 108, 3) := by decide +kernel
theorem dX2_readMonk_111 : decode cX2_readMonk 111 = .ok (.return_, 1) := by decide +kernel
theorem dX3_init_0 : decode cX3_init 0 = .ok (.aload_n 0, 1) := by decide +kernel
theorem dX3_init_1 : decode cX3_init 1 = .ok (.invokespecial 3, 3) := by decide +kernel
theorem dX3_init_4 : decode cX3_init 4 = .ok (.aload_n 0, 1) := by decide +kernel
theorem dX3_init_5 : decode cX3_init 5 = .ok (.new 9, 3) := by decide +kernel
theorem dX3_init_8 : decode cX3_init 8 = .ok (.dup, 1) := by decide +kernel
theorem dX3_init_9 : decode cX3_init 9 = .ok (.invokespecial 11, 3) := by decide +kernel
theorem dX3_init_12 : decode cX3_init 12 = .ok (.putfield 12, 3) := by decide +kernel
theorem dX3_init_15 : decode cX3_init 15 = .ok (.aload_n 0, 1) := by decide +kernel
theorem dX3_init_16 : decode cX3_init 16 = .ok (.bipush 7, 2) := by decide +kernel
theorem dX3_init_18 : decode cX3_init 18 = .ok (.newarray .int, 2) := by decide +kernel
theorem dX3_init_20 : decode cX3_init 20 = .ok (.putfield 18, 3) := by decide +kernel
theorem dX3_init_23 : decode cX3_init 23 = .ok (.aload_n 0, 1) := by decide +kernel
theorem dX3_init_24 : decode cX3_init 24 = .ok (.bipush 7, 2) := by decide +kernel
theorem dX3_init_26 : decode cX3_init 26 = .ok (.newarray .long, 2) := by decide +kernel
theorem dX3_init_28 : decode cX3_init 28 = .ok (.putfield 22, 3) := by decide +kernel
theorem dX3_init_31 : decode cX3_init 31 = .ok (.return_, 1) := by decide +kernel
theorem dX3_look_0 : decode cX3_look 0 = .ok (.aload_n 0, 1) := by decide +kernel
theorem dX3_look_1 : decode cX3_look 1 = .ok (.getfield 12, 3) := by decide +kernel
theorem dX3_look_4 : decode cX3_look 4 = .ok (.aload_n 1, 1) := by decide +kernel
theorem dX3_look_5 : decode cX3_look 5 = .ok (.invokevirtual 26, 3) := by decide +kernel
theorem dX3_look_8 : decode cX3_look 8 = .ok (.return_, 1) := by decide +kernel
theorem dX3_passHours_0 : decode cX3_passHours 0 = .ok (.iconst 0, 1) := by decide +kernel
theorem dX3_passHours_1 : decode cX3_passHours 1 = .ok (.istore 4, 2) := by decide +kernel
theorem dX3_passHours_3 : decode cX3_passHours 3 = .ok (.iload 4, 2) := by decide +kernel
theorem dX3_passHours_5 : decode cX3_passHours 5 = .ok (.iload_n 2, 1) := by decide +kernel
theorem dX3_passHours_6 : decode cX3_passHours 6 = .ok (.if_icmp .ge 19, 3) := by decide +kernel
theorem dX3_passHours_9 : decode cX3_passHours 9 = .ok (.aload_n 0, 1) := by decide +kernel
theorem dX3_passHours_10 : decode cX3_passHours 10 = .ok (.getfield 12, 3) := by decide +kernel
theorem dX3_passHours_13 : decode cX3_passHours 13 = .ok (.aload_n 1, 1) := by decide +kernel
theorem dX3_passHours_14 : decode cX3_passHours 14 = .ok (.iload_n 3, 1) := by decide +kernel
theorem dX3_passHours_15 : decode cX3_passHours 15 = .ok (.invokevirtual 30, 3) := by decide +kernel
theorem dX3_passHours_18 : decode cX3_passHours 18 = .ok (.pop, 1) := by decide +kernel
theorem dX3_passHours_19 : decode cX3_passHours 19 = .ok (.iinc 4 1, 3) := by decide +kernel
theorem dX3_passHours_22 : decode cX3_passHours 22 = .ok (.goto (-19), 3) := by decide +kernel
theorem dX3_passHours_25 : decode cX3_passHours 25 = .ok (.return_, 1) := by decide +kernel
theorem dX3_firstAt_0 : decode cX3_firstAt 0 = .ok (.aload_n 0, 1) := by decide +kernel
theorem dX3_firstAt_1 : decode cX3_firstAt 1 = .ok (.aload_n 1, 1) := by decide +kernel
theorem dX3_firstAt_2 : decode cX3_firstAt 2 = .ok (.invokevirtual 34, 3) := by decide +kernel
theorem dX3_firstAt_5 : decode cX3_firstAt 5 = .ok (.iconst 0, 1) := by decide +kernel
theorem dX3_firstAt_6 : decode cX3_firstAt 6 = .ok (.istore 5, 2) := by decide +kernel
theorem dX3_firstAt_8 : decode cX3_firstAt 8 = .ok (.iload 5, 2) := by decide +kernel
theorem dX3_firstAt_10 : decode cX3_firstAt 10 = .ok (.bipush 72, 2) := by decide +kernel
theorem dX3_firstAt_12 : decode cX3_firstAt 12 = .ok (.if_icmp .gt 35, 3) := by decide +kernel
theorem dX3_firstAt_15 : decode cX3_firstAt 15 = .ok (.aload_n 0, 1) := by decide +kernel
theorem dX3_firstAt_16 : decode cX3_firstAt 16 = .ok (.getfield 12, 3) := by decide +kernel
theorem dX3_firstAt_19 : decode cX3_firstAt 19 = .ok (.iload_n 3, 1) := by decide +kernel
theorem dX3_firstAt_20 : decode cX3_firstAt 20 = .ok (.iload 4, 2) := by decide +kernel
theorem dX3_firstAt_22 : decode cX3_firstAt 22 = .ok (.invokevirtual 37, 3) := by decide +kernel
theorem dX3_firstAt_25 : decode cX3_firstAt 25 = .ok (.ifCond .eq 6, 3) := by decide +kernel
theorem dX3_firstAt_28 : decode cX3_firstAt 28 = .ok (.iload 5, 2) := by decide +kernel
theorem dX3_firstAt_30 : decode cX3_firstAt 30 = .ok (.ireturn, 1) := by decide +kernel
theorem dX3_firstAt_31 : decode cX3_firstAt 31 = .ok (.aload_n 0, 1) := by decide +kernel
theorem dX3_firstAt_32 : decode cX3_firstAt 32 = .ok (.getfield 12, 3) := by decide +kernel
theorem dX3_firstAt_35 : decode cX3_firstAt 35 = .ok (.aload_n 2, 1) := by decide +kernel
theorem dX3_firstAt_36 : decode cX3_firstAt 36 = .ok (.iconst 0, 1) := by decide +kernel
theorem dX3_firstAt_37 : decode cX3_firstAt 37 = .ok (.invokevirtual 30, 3) := by decide +kernel
theorem dX3_firstAt_40 : decode cX3_firstAt 40 = .ok (.pop, 1) := by decide +kernel
theorem dX3_firstAt_41 : decode cX3_firstAt 41 = .ok (.iinc 5 1, 3) := by decide +kernel
theorem dX3_firstAt_44 : decode cX3_firstAt 44 = .ok (.goto (-36), 3) := by decide +kernel
theorem dX3_firstAt_47 : decode cX3_firstAt 47 = .ok (.iconst (-1), 1) := by decide +kernel
theorem dX3_firstAt_48 : decode cX3_firstAt 48 = .ok (.ireturn, 1) := by decide +kernel
theorem dX3_firstTogether_0 : decode cX3_firstTogether 0 = .ok (.aload_n 0, 1) := by decide +kernel
theorem dX3_firstTogether_1 : decode cX3_firstTogether 1 = .ok (.aload_n 1, 1) := by decide +kernel
theorem dX3_firstTogether_2 : decode cX3_firstTogether 2 = .ok (.invokevirtual 34, 3) := by decide +kernel
theorem dX3_firstTogether_5 : decode cX3_firstTogether 5 = .ok (.iconst 0, 1) := by decide +kernel
theorem dX3_firstTogether_6 : decode cX3_firstTogether 6 = .ok (.istore 5, 2) := by decide +kernel
theorem dX3_firstTogether_8 : decode cX3_firstTogether 8 = .ok (.iload 5, 2) := by decide +kernel
theorem dX3_firstTogether_10 : decode cX3_firstTogether 10 = .ok (.bipush 72, 2) := by decide +kernel
theorem dX3_firstTogether_12 : decode cX3_firstTogether 12 = .ok (.if_icmp .gt 54, 3) := by decide +kernel
theorem dX3_firstTogether_15 : decode cX3_firstTogether 15 = .ok (.aload_n 0, 1) := by decide +kernel
theorem dX3_firstTogether_16 : decode cX3_firstTogether 16 = .ok (.getfield 12, 3) := by decide +kernel
theorem dX3_firstTogether_19 : decode cX3_firstTogether 19 = .ok (.iload_n 3, 1) := by decide +kernel
theorem dX3_firstTogether_20 : decode cX3_firstTogether 20 = .ok (.invokevirtual 41, 3) := by decide +kernel
theorem dX3_firstTogether_23 : decode cX3_firstTogether 23 = .ok (.ifCond .ne 27, 3) := by decide +kernel
theorem dX3_firstTogether_26 : decode cX3_firstTogether 26 = .ok (.aload_n 0, 1) := by decide +kernel
theorem dX3_firstTogether_27 : decode cX3_firstTogether 27 = .ok (.getfield 12, 3) := by decide +kernel
theorem dX3_firstTogether_30 : decode cX3_firstTogether 30 = .ok (.iload 4, 2) := by decide +kernel
theorem dX3_firstTogether_32 : decode cX3_firstTogether 32 = .ok (.aload_n 0, 1) := by decide +kernel
theorem dX3_firstTogether_33 : decode cX3_firstTogether 33 = .ok (.getfield 12, 3) := by decide +kernel
theorem dX3_firstTogether_36 : decode cX3_firstTogether 36 = .ok (.iconst 0, 1) := by decide +kernel
theorem dX3_firstTogether_37 : decode cX3_firstTogether 37 = .ok (.iload_n 3, 1) := by decide +kernel
theorem dX3_firstTogether_38 : decode cX3_firstTogether 38 = .ok (.invokevirtual 45, 3) := by decide +kernel
theorem dX3_firstTogether_41 : decode cX3_firstTogether 41 = .ok (.invokevirtual 37, 3) := by decide +kernel
theorem dX3_firstTogether_44 : decode cX3_firstTogether 44 = .ok (.ifCond .eq 6, 3) := by decide +kernel
theorem dX3_firstTogether_47 : decode cX3_firstTogether 47 = .ok (.iload 5, 2) := by decide +kernel
theorem dX3_firstTogether_49 : decode cX3_firstTogether 49 = .ok (.ireturn, 1) := by decide +kernel
theorem dX3_firstTogether_50 : decode cX3_firstTogether 50 = .ok (.aload_n 0, 1) := by decide +kernel
theorem dX3_firstTogether_51 : decode cX3_firstTogether 51 = .ok (.getfield 12, 3) := by decide +kernel
theorem dX3_firstTogether_54 : decode cX3_firstTogether 54 = .ok (.aload_n 2, 1) := by decide +kernel
theorem dX3_firstTogether_55 : decode cX3_firstTogether 55 = .ok (.iconst 0, 1) := by decide +kernel
theorem dX3_firstTogether_56 : decode cX3_firstTogether 56 = .ok (.invokevirtual 30, 3) := by decide +kernel
theorem dX3_firstTogether_59 : decode cX3_firstTogether 59 = .ok (.pop, 1) := by decide +kernel
theorem dX3_firstTogether_60 : decode cX3_firstTogether 60 = .ok (.iinc 5 1, 3) := by decide +kernel
theorem dX3_firstTogether_63 : decode cX3_firstTogether 63 = .ok (.goto (-55), 3) := by decide +kernel
theorem dX3_firstTogether_66 : decode cX3_firstTogether 66 = .ok (.iconst (-1), 1) := by decide +kernel
theorem dX3_firstTogether_67 : decode cX3_firstTogether 67 = .ok (.ireturn, 1) := by decide +kernel
theorem dX3_firstHunger_0 : decode cX3_firstHunger 0 = .ok (.aload_n 0, 1) := by decide +kernel
theorem dX3_firstHunger_1 : decode cX3_firstHunger 1 = .ok (.aload_n 1, 1) := by decide +kernel
theorem dX3_firstHunger_2 : decode cX3_firstHunger 2 = .ok (.invokevirtual 34, 3) := by decide +kernel
theorem dX3_firstHunger_5 : decode cX3_firstHunger 5 = .ok (.iconst 0, 1) := by decide +kernel
theorem dX3_firstHunger_6 : decode cX3_firstHunger 6 = .ok (.istore_n 3, 1) := by decide +kernel
theorem dX3_firstHunger_7 : decode cX3_firstHunger 7 = .ok (.iload_n 3, 1) := by decide +kernel
theorem dX3_firstHunger_8 : decode cX3_firstHunger 8 = .ok (.bipush 72, 2) := by decide +kernel
theorem dX3_firstHunger_10 : decode cX3_firstHunger 10 = .ok (.if_icmp .gt 33, 3) := by decide +kernel
theorem dX3_firstHunger_13 : decode cX3_firstHunger 13 = .ok (.aload_n 0, 1) := by decide +kernel
theorem dX3_firstHunger_14 : decode cX3_firstHunger 14 = .ok (.getfield 12, 3) := by decide +kernel
theorem dX3_firstHunger_17 : decode cX3_firstHunger 17 = .ok (.bipush 6, 2) := by decide +kernel
theorem dX3_firstHunger_19 : decode cX3_firstHunger 19 = .ok (.invokevirtual 49, 3) := by decide +kernel
theorem dX3_firstHunger_22 : decode cX3_firstHunger 22 = .ok (.ifCond .le 5, 3) := by decide +kernel
theorem dX3_firstHunger_25 : decode cX3_firstHunger 25 = .ok (.iload_n 3, 1) := by decide +kernel
theorem dX3_firstHunger_26 : decode cX3_firstHunger 26 = .ok (.ireturn, 1) := by decide +kernel
theorem dX3_firstHunger_27 : decode cX3_firstHunger 27 = .ok (.aload_n 0, 1) := by decide +kernel
theorem dX3_firstHunger_28 : decode cX3_firstHunger 28 = .ok (.getfield 12, 3) := by decide +kernel
theorem dX3_firstHunger_31 : decode cX3_firstHunger 31 = .ok (.aload_n 2, 1) := by decide +kernel
theorem dX3_firstHunger_32 : decode cX3_firstHunger 32 = .ok (.iconst 0, 1) := by decide +kernel
theorem dX3_firstHunger_33 : decode cX3_firstHunger 33 = .ok (.invokevirtual 30, 3) := by decide +kernel
theorem dX3_firstHunger_36 : decode cX3_firstHunger 36 = .ok (.pop, 1) := by decide +kernel
theorem dX3_firstHunger_37 : decode cX3_firstHunger 37 = .ok (.iinc 3 1, 3) := by decide +kernel
theorem dX3_firstHunger_40 : decode cX3_firstHunger 40 = .ok (.goto (-33), 3) := by decide +kernel
theorem dX3_firstHunger_43 : decode cX3_firstHunger 43 = .ok (.iconst (-1), 1) := by decide +kernel
theorem dX3_firstHunger_44 : decode cX3_firstHunger 44 = .ok (.ireturn, 1) := by decide +kernel
theorem dX3_passOffices_0 : decode cX3_passOffices 0 = .ok (.iconst 0, 1) := by decide +kernel
theorem dX3_passOffices_1 : decode cX3_passOffices 1 = .ok (.istore_n 3, 1) := by decide +kernel
theorem dX3_passOffices_2 : decode cX3_passOffices 2 = .ok (.iload_n 3, 1) := by decide +kernel
theorem dX3_passOffices_3 : decode cX3_passOffices 3 = .ok (.bipush 7, 2) := by decide +kernel
theorem dX3_passOffices_5 : decode cX3_passOffices 5 = .ok (.if_icmp .ge 16, 3) := by decide +kernel
theorem dX3_passOffices_8 : decode cX3_passOffices 8 = .ok (.aload_n 0, 1) := by decide +kernel
theorem dX3_passOffices_9 : decode cX3_passOffices 9 = .ok (.getfield 18, 3) := by decide +kernel
theorem dX3_passOffices_12 : decode cX3_passOffices 12 = .ok (.iload_n 3, 1) := by decide +kernel
theorem dX3_passOffices_13 : decode cX3_passOffices 13 = .ok (.iconst 0, 1) := by decide +kernel
theorem dX3_passOffices_14 : decode cX3_passOffices 14 = .ok (.iastore, 1) := by decide +kernel
theorem dX3_passOffices_15 : decode cX3_passOffices 15 = .ok (.iinc 3 1, 3) := by decide +kernel
theorem dX3_passOffices_18 : decode cX3_passOffices 18 = .ok (.goto (-16), 3) := by decide +kernel
theorem dX3_passOffices_21 : decode cX3_passOffices 21 = .ok (.iconst 0, 1) := by decide +kernel
theorem dX3_passOffices_22 : decode cX3_passOffices 22 = .ok (.istore_n 3, 1) := by decide +kernel
theorem dX3_passOffices_23 : decode cX3_passOffices 23 = .ok (.iconst 0, 1) := by decide +kernel
theorem dX3_passOffices_24 : decode cX3_passOffices 24 = .ok (.istore 4, 2) := by decide +kernel
theorem dX3_passOffices_26 : decode cX3_passOffices 26 = .ok (.iconst 0, 1) := by decide +kernel
theorem dX3_passOffices_27 : decode cX3_passOffices 27 = .ok (.istore 5, 2) := by decide +kernel
theorem dX3_passOffices_29 : decode cX3_passOffices 29 = .ok (.iload 5, 2) := by decide +kernel
theorem dX3_passOffices_31 : decode cX3_passOffices 31 = .ok (.bipush 27, 2) := by decide +kernel
theorem dX3_passOffices_33 : decode cX3_passOffices 33 = .ok (.if_icmp .ge 47, 3) := by decide +kernel
theorem dX3_passOffices_36 : decode cX3_passOffices 36 = .ok (.iload_n 3, 1) := by decide +kernel
theorem dX3_passOffices_37 : decode cX3_passOffices 37 = .ok (.iload_n 2, 1) := by decide +kernel
theorem dX3_passOffices_38 : decode cX3_passOffices 38 = .ok (.if_icmp .ge 42, 3) := by decide +kernel
theorem dX3_passOffices_41 : decode cX3_passOffices 41 = .ok (.aload_n 0, 1) := by decide +kernel
theorem dX3_passOffices_42 : decode cX3_passOffices 42 = .ok (.getfield 12, 3) := by decide +kernel
theorem dX3_passOffices_45 : decode cX3_passOffices 45 = .ok (.getfield 53, 3) := by decide +kernel
theorem dX3_passOffices_48 : decode cX3_passOffices 48 = .ok (.iconst 3, 1) := by decide +kernel
theorem dX3_passOffices_49 : decode cX3_passOffices 49 = .ok (.irem, 1) := by decide +kernel
theorem dX3_passOffices_50 : decode cX3_passOffices 50 = .ok (.ifCond .ne 6, 3) := by decide +kernel
theorem dX3_passOffices_53 : decode cX3_passOffices 53 = .ok (.iinc 3 1, 3) := by decide +kernel
theorem dX3_passOffices_56 : decode cX3_passOffices 56 = .ok (.iload 4, 2) := by decide +kernel
theorem dX3_passOffices_58 : decode cX3_passOffices 58 = .ok (.aload_n 0, 1) := by decide +kernel
theorem dX3_passOffices_59 : decode cX3_passOffices 59 = .ok (.aload_n 0, 1) := by decide +kernel
theorem dX3_passOffices_60 : decode cX3_passOffices 60 = .ok (.getfield 12, 3) := by decide +kernel
theorem dX3_passOffices_63 : decode cX3_passOffices 63 = .ok (.aload_n 1, 1) := by decide +kernel
theorem dX3_passOffices_64 : decode cX3_passOffices 64 = .ok (.iconst 0, 1) := by decide +kernel
theorem dX3_passOffices_65 : decode cX3_passOffices 65 = .ok (.invokevirtual 30, 3) := by decide +kernel
theorem dX3_passOffices_68 : decode cX3_passOffices 68 = .ok (.invokevirtual 57, 3) := by decide +kernel
theorem dX3_passOffices_71 : decode cX3_passOffices 71 = .ok (.iadd, 1) := by decide +kernel
theorem dX3_passOffices_72 : decode cX3_passOffices 72 = .ok (.istore 4, 2) := by decide +kernel
theorem dX3_passOffices_74 : decode cX3_passOffices 74 = .ok (.iinc 5 1, 3) := by decide +kernel
theorem dX3_passOffices_77 : decode cX3_passOffices 77 = .ok (.goto (-48), 3) := by decide +kernel
theorem dX3_passOffices_80 : decode cX3_passOffices 80 = .ok (.iload 4, 2) := by decide +kernel
theorem dX3_passOffices_82 : decode cX3_passOffices 82 = .ok (.ireturn, 1) := by decide +kernel
theorem dX3_countLate_0 : decode cX3_countLate 0 = .ok (.iconst 0, 1) := by decide +kernel
theorem dX3_countLate_1 : decode cX3_countLate 1 = .ok (.istore_n 2, 1) := by decide +kernel
theorem dX3_countLate_2 : decode cX3_countLate 2 = .ok (.iload_n 2, 1) := by decide +kernel
theorem dX3_countLate_3 : decode cX3_countLate 3 = .ok (.bipush 7, 2) := by decide +kernel
theorem dX3_countLate_5 : decode cX3_countLate 5 = .ok (.if_icmp .ge 27, 3) := by decide +kernel
theorem dX3_countLate_8 : decode cX3_countLate 8 = .ok (.iload_n 1, 1) := by decide +kernel
theorem dX3_countLate_9 : decode cX3_countLate 9 = .ok (.iload_n 2, 1) := by decide +kernel
theorem dX3_countLate_10 : decode cX3_countLate 10 = .ok (.invokestatic 60, 3) := by decide +kernel
theorem dX3_countLate_13 : decode cX3_countLate 13 = .ok (.ifCond .eq 13, 3) := by decide +kernel
theorem dX3_countLate_16 : decode cX3_countLate 16 = .ok (.aload_n 0, 1) := by decide +kernel
theorem dX3_countLate_17 : decode cX3_countLate 17 = .ok (.getfield 18, 3) := by decide +kernel
theorem dX3_countLate_20 : decode cX3_countLate 20 = .ok (.iload_n 2, 1) := by decide +kernel
theorem dX3_countLate_21 : decode cX3_countLate 21 = .ok (.dup2, 1) := by decide +kernel
theorem dX3_countLate_22 : decode cX3_countLate 22 = .ok (.iaload, 1) := by decide +kernel
theorem dX3_countLate_23 : decode cX3_countLate 23 = .ok (.iconst 1, 1) := by decide +kernel
theorem dX3_countLate_24 : decode cX3_countLate 24 = .ok (.iadd, 1) := by decide +kernel
theorem dX3_countLate_25 : decode cX3_countLate 25 = .ok (.iastore, 1) := by decide +kernel
theorem dX3_countLate_26 : decode cX3_countLate 26 = .ok (.iinc 2 1, 3) := by decide +kernel
theorem dX3_countLate_29 : decode cX3_countLate 29 = .ok (.goto (-27), 3) := by decide +kernel
theorem dX3_countLate_32 : decode cX3_countLate 32 = .ok (.iload_n 1, 1) := by decide +kernel
theorem dX3_countLate_33 : decode cX3_countLate 33 = .ok (.invokestatic 63, 3) := by decide +kernel
theorem dX3_countLate_36 : decode cX3_countLate 36 = .ok (.ireturn, 1) := by decide +kernel
theorem dX3_mostLate_0 : decode cX3_mostLate 0 = .ok (.iconst (-1), 1) := by decide +kernel
theorem dX3_mostLate_1 : decode cX3_mostLate 1 = .ok (.istore_n 1, 1) := by decide +kernel
theorem dX3_mostLate_2 : decode cX3_mostLate 2 = .ok (.iconst 0, 1) := by decide +kernel
theorem dX3_mostLate_3 : decode cX3_mostLate 3 = .ok (.istore_n 2, 1) := by decide +kernel
theorem dX3_mostLate_4 : decode cX3_mostLate 4 = .ok (.iconst 0, 1) := by decide +kernel
theorem dX3_mostLate_5 : decode cX3_mostLate 5 = .ok (.istore_n 3, 1) := by decide +kernel
theorem dX3_mostLate_6 : decode cX3_mostLate 6 = .ok (.iload_n 3, 1) := by decide +kernel
theorem dX3_mostLate_7 : decode cX3_mostLate 7 = .ok (.bipush 7, 2) := by decide +kernel
theorem dX3_mostLate_9 : decode cX3_mostLate 9 = .ok (.if_icmp .ge 28, 3) := by decide +kernel
theorem dX3_mostLate_12 : decode cX3_mostLate 12 = .ok (.aload_n 0, 1) := by decide +kernel
theorem dX3_mostLate_13 : decode cX3_mostLate 13 = .ok (.getfield 18, 3) := by decide +kernel
theorem dX3_mostLate_16 : decode cX3_mostLate 16 = .ok (.iload_n 3, 1) := by decide +kernel
theorem dX3_mostLate_17 : decode cX3_mostLate 17 = .ok (.iaload, 1) := by decide +kernel
theorem dX3_mostLate_18 : decode cX3_mostLate 18 = .ok (.iload_n 2, 1) := by decide +kernel
theorem dX3_mostLate_19 : decode cX3_mostLate 19 = .ok (.if_icmp .le 12, 3) := by decide +kernel
theorem dX3_mostLate_22 : decode cX3_mostLate 22 = .ok (.aload_n 0, 1) := by decide +kernel
theorem dX3_mostLate_23 : decode cX3_mostLate 23 = .ok (.getfield 18, 3) := by decide +kernel
theorem dX3_mostLate_26 : decode cX3_mostLate 26 = .ok (.iload_n 3, 1) := by decide +kernel
theorem dX3_mostLate_27 : decode cX3_mostLate 27 = .ok (.iaload, 1) := by decide +kernel
theorem dX3_mostLate_28 : decode cX3_mostLate 28 = .ok (.istore_n 2, 1) := by decide +kernel
theorem dX3_mostLate_29 : decode cX3_mostLate 29 = .ok (.iload_n 3, 1) := by decide +kernel
theorem dX3_mostLate_30 : decode cX3_mostLate 30 = .ok (.istore_n 1, 1) := by decide +kernel
theorem dX3_mostLate_31 : decode cX3_mostLate 31 = .ok (.iinc 3 1, 3) := by decide +kernel
theorem dX3_mostLate_34 : decode cX3_mostLate 34 = .ok (.goto (-28), 3) := by decide +kernel
theorem dX3_mostLate_37 : decode cX3_mostLate 37 = .ok (.iload_n 1, 1) := by decide +kernel
theorem dX3_mostLate_38 : decode cX3_mostLate 38 = .ok (.ireturn, 1) := by decide +kernel
theorem dX3_bestChoice_0 : decode cX3_bestChoice 0 = .ok (.iconst 0, 1) := by decide +kernel
theorem dX3_bestChoice_1 : decode cX3_bestChoice 1 = .ok (.istore 4, 2) := by decide +kernel
theorem dX3_bestChoice_3 : decode cX3_bestChoice 3 = .ok (.ldc 68, 2) := by decide +kernel
theorem dX3_bestChoice_5 : decode cX3_bestChoice 5 = .ok (.istore 5, 2) := by decide +kernel
theorem dX3_bestChoice_7 : decode cX3_bestChoice 7 = .ok (.iconst 0, 1) := by decide +kernel
theorem dX3_bestChoice_8 : decode cX3_bestChoice 8 = .ok (.istore 6, 2) := by decide +kernel
theorem dX3_bestChoice_10 : decode cX3_bestChoice 10 = .ok (.iload 6, 2) := by decide +kernel
theorem dX3_bestChoice_12 : decode cX3_bestChoice 12 = .ok (.iload_n 3, 1) := by decide +kernel
theorem dX3_bestChoice_13 : decode cX3_bestChoice 13 = .ok (.ifCond .eq 7, 3) := by decide +kernel
theorem dX3_bestChoice_16 : decode cX3_bestChoice 16 = .ok (.iconst 5, 1) := by decide +kernel
theorem dX3_bestChoice_17 : decode cX3_bestChoice 17 = .ok (.goto 5, 3) := by decide +kernel
theorem dX3_bestChoice_20 : decode cX3_bestChoice 20 = .ok (.bipush 16, 2) := by decide +kernel
theorem dX3_bestChoice_22 : decode cX3_bestChoice 22 = .ok (.if_icmp .ge 63, 3) := by decide +kernel
theorem dX3_bestChoice_25 : decode cX3_bestChoice 25 = .ok (.aload_n 0, 1) := by decide +kernel
theorem dX3_bestChoice_26 : decode cX3_bestChoice 26 = .ok (.aload_n 1, 1) := by decide +kernel
theorem dX3_bestChoice_27 : decode cX3_bestChoice 27 = .ok (.invokevirtual 34, 3) := by decide +kernel
theorem dX3_bestChoice_30 : decode cX3_bestChoice 30 = .ok (.iload_n 3, 1) := by decide +kernel
theorem dX3_bestChoice_31 : decode cX3_bestChoice 31 = .ok (.ifCond .eq 15, 3) := by decide +kernel
theorem dX3_bestChoice_34 : decode cX3_bestChoice 34 = .ok (.aload_n 0, 1) := by decide +kernel
theorem dX3_bestChoice_35 : decode cX3_bestChoice 35 = .ok (.getfield 12, 3) := by decide +kernel
theorem dX3_bestChoice_38 : decode cX3_bestChoice 38 = .ok (.iload 6, 2) := by decide +kernel
theorem dX3_bestChoice_40 : decode cX3_bestChoice 40 = .ok (.putfield 69, 3) := by decide +kernel
theorem dX3_bestChoice_43 : decode cX3_bestChoice 43 = .ok (.goto 12, 3) := by decide +kernel
theorem dX3_bestChoice_46 : decode cX3_bestChoice 46 = .ok (.aload_n 0, 1) := by decide +kernel
theorem dX3_bestChoice_47 : decode cX3_bestChoice 47 = .ok (.getfield 12, 3) := by decide +kernel
theorem dX3_bestChoice_50 : decode cX3_bestChoice 50 = .ok (.iload 6, 2) := by decide +kernel
theorem dX3_bestChoice_52 : decode cX3_bestChoice 52 = .ok (.putfield 72, 3) := by decide +kernel
theorem dX3_bestChoice_55 : decode cX3_bestChoice 55 = .ok (.aload_n 0, 1) := by decide +kernel
theorem dX3_bestChoice_56 : decode cX3_bestChoice 56 = .ok (.aload_n 2, 1) := by decide +kernel
theorem dX3_bestChoice_57 : decode cX3_bestChoice 57 = .ok (.bipush 8, 2) := by decide +kernel
theorem dX3_bestChoice_59 : decode cX3_bestChoice 59 = .ok (.invokevirtual 75, 3) := by decide +kernel
theorem dX3_bestChoice_62 : decode cX3_bestChoice 62 = .ok (.istore 7, 2) := by decide +kernel
theorem dX3_bestChoice_64 : decode cX3_bestChoice 64 = .ok (.iload 7, 2) := by decide +kernel
theorem dX3_bestChoice_66 : decode cX3_bestChoice 66 = .ok (.iload 5, 2) := by decide +kernel
theorem dX3_bestChoice_68 : decode cX3_bestChoice 68 = .ok (.if_icmp .ge 11, 3) := by decide +kernel
theorem dX3_bestChoice_71 : decode cX3_bestChoice 71 = .ok (.iload 7, 2) := by decide +kernel
theorem dX3_bestChoice_73 : decode cX3_bestChoice 73 = .ok (.istore 5, 2) := by decide +kernel
theorem dX3_bestChoice_75 : decode cX3_bestChoice 75 = .ok (.iload 6, 2) := by decide +kernel
theorem dX3_bestChoice_77 : decode cX3_bestChoice 77 = .ok (.istore 4, 2) := by decide +kernel
theorem dX3_bestChoice_79 : decode cX3_bestChoice 79 = .ok (.iinc 6 1, 3) := by decide +kernel
theorem dX3_bestChoice_82 : decode cX3_bestChoice 82 = .ok (.goto (-72), 3) := by decide +kernel
theorem dX3_bestChoice_85 : decode cX3_bestChoice 85 = .ok (.iload 4, 2) := by decide +kernel
theorem dX3_bestChoice_87 : decode cX3_bestChoice 87 = .ok (.ireturn, 1) := by decide +kernel
theorem dX3_spanOf_0 : decode cX3_spanOf 0 = .ok (.ldc 68, 2) := by decide +kernel
theorem dX3_spanOf_2 : decode cX3_spanOf 2 = .ok (.istore 5, 2) := by decide +kernel
theorem dX3_spanOf_4 : decode cX3_spanOf 4 = .ok (.iconst 0, 1) := by decide +kernel
theorem dX3_spanOf_5 : decode cX3_spanOf 5 = .ok (.istore 6, 2) := by decide +kernel
theorem dX3_spanOf_7 : decode cX3_spanOf 7 = .ok (.iconst 1, 1) := by decide +kernel
theorem dX3_spanOf_8 : decode cX3_spanOf 8 = .ok (.istore 7, 2) := by decide +kernel
theorem dX3_spanOf_10 : decode cX3_spanOf 10 = .ok (.iload 7, 2) := by decide +kernel
theorem dX3_spanOf_12 : decode cX3_spanOf 12 = .ok (.bipush 6, 2) := by decide +kernel
theorem dX3_spanOf_14 : decode cX3_spanOf 14 = .ok (.if_icmp .gt 58, 3) := by decide +kernel
theorem dX3_spanOf_17 : decode cX3_spanOf 17 = .ok (.aload_n 0, 1) := by decide +kernel
theorem dX3_spanOf_18 : decode cX3_spanOf 18 = .ok (.aload_n 1, 1) := by decide +kernel
theorem dX3_spanOf_19 : decode cX3_spanOf 19 = .ok (.invokevirtual 34, 3) := by decide +kernel
theorem dX3_spanOf_22 : decode cX3_spanOf 22 = .ok (.aload_n 0, 1) := by decide +kernel
theorem dX3_spanOf_23 : decode cX3_spanOf 23 = .ok (.getfield 12, 3) := by decide +kernel
theorem dX3_spanOf_26 : decode cX3_spanOf 26 = .ok (.iload 7, 2) := by decide +kernel
theorem dX3_spanOf_28 : decode cX3_spanOf 28 = .ok (.putfield 79, 3) := by decide +kernel
theorem dX3_spanOf_31 : decode cX3_spanOf 31 = .ok (.aload_n 0, 1) := by decide +kernel
theorem dX3_spanOf_32 : decode cX3_spanOf 32 = .ok (.aload_n 2, 1) := by decide +kernel
theorem dX3_spanOf_33 : decode cX3_spanOf 33 = .ok (.iload_n 3, 1) := by decide +kernel
theorem dX3_spanOf_34 : decode cX3_spanOf 34 = .ok (.iconst 1, 1) := by decide +kernel
theorem dX3_spanOf_35 : decode cX3_spanOf 35 = .ok (.invokevirtual 82, 3) := by decide +kernel
theorem dX3_spanOf_38 : decode cX3_spanOf 38 = .ok (.aload_n 0, 1) := by decide +kernel
theorem dX3_spanOf_39 : decode cX3_spanOf 39 = .ok (.getfield 12, 3) := by decide +kernel
theorem dX3_spanOf_42 : decode cX3_spanOf 42 = .ok (.iconst 5, 1) := by decide +kernel
theorem dX3_spanOf_43 : decode cX3_spanOf 43 = .ok (.invokevirtual 49, 3) := by decide +kernel
theorem dX3_spanOf_46 : decode cX3_spanOf 46 = .ok (.istore 8, 2) := by decide +kernel
theorem dX3_spanOf_48 : decode cX3_spanOf 48 = .ok (.iload 5, 2) := by decide +kernel
theorem dX3_spanOf_50 : decode cX3_spanOf 50 = .ok (.iload 8, 2) := by decide +kernel
theorem dX3_spanOf_52 : decode cX3_spanOf 52 = .ok (.invokestatic 86, 3) := by decide +kernel
theorem dX3_spanOf_55 : decode cX3_spanOf 55 = .ok (.istore 5, 2) := by decide +kernel
theorem dX3_spanOf_57 : decode cX3_spanOf 57 = .ok (.iload 6, 2) := by decide +kernel
theorem dX3_spanOf_59 : decode cX3_spanOf 59 = .ok (.iload 8, 2) := by decide +kernel
theorem dX3_spanOf_61 : decode cX3_spanOf 61 = .ok (.invokestatic 91, 3) := by decide +kernel
theorem dX3_spanOf_64 : decode cX3_spanOf 64 = .ok (.istore 6, 2) := by decide +kernel
theorem dX3_spanOf_66 : decode cX3_spanOf 66 = .ok (.iinc 7 1, 3) := by decide +kernel
theorem dX3_spanOf_69 : decode cX3_spanOf 69 = .ok (.goto (-59), 3) := by decide +kernel
theorem dX3_spanOf_72 : decode cX3_spanOf 72 = .ok (.iload 4, 2) := by decide +kernel
theorem dX3_spanOf_74 : decode cX3_spanOf 74 = .ok (.ifCond .eq 8, 3) := by decide +kernel
theorem dX3_spanOf_77 : decode cX3_spanOf 77 = .ok (.iload 6, 2) := by decide +kernel
theorem dX3_spanOf_79 : decode cX3_spanOf 79 = .ok (.goto 5, 3) := by decide +kernel
theorem dX3_spanOf_82 : decode cX3_spanOf 82 = .ok (.iload 5, 2) := by decide +kernel
theorem dX3_spanOf_84 : decode cX3_spanOf 84 = .ok (.ireturn, 1) := by decide +kernel
theorem dX3_oddsOf_0 : decode cX3_oddsOf 0 = .ok (.iconst 0, 1) := by decide +kernel
theorem dX3_oddsOf_1 : decode cX3_oddsOf 1 = .ok (.istore 4, 2) := by decide +kernel
theorem dX3_oddsOf_3 : decode cX3_oddsOf 3 = .ok (.iload 4, 2) := by decide +kernel
theorem dX3_oddsOf_5 : decode cX3_oddsOf 5 = .ok (.bipush 6, 2) := by decide +kernel
theorem dX3_oddsOf_7 : decode cX3_oddsOf 7 = .ok (.if_icmp .gt 26, 3) := by decide +kernel
theorem dX3_oddsOf_10 : decode cX3_oddsOf 10 = .ok (.aload_n 0, 1) := by decide +kernel
theorem dX3_oddsOf_11 : decode cX3_oddsOf 11 = .ok (.getfield 22, 3) := by decide +kernel
theorem dX3_oddsOf_14 : decode cX3_oddsOf 14 = .ok (.iload 4, 2) := by decide +kernel
theorem dX3_oddsOf_16 : decode cX3_oddsOf 16 = .ok (.iload 4, 2) := by decide +kernel
theorem dX3_oddsOf_18 : decode cX3_oddsOf 18 = .ok (.ifCond .ne 7, 3) := by decide +kernel
theorem dX3_oddsOf_21 : decode cX3_oddsOf 21 = .ok (.lconst 1, 1) := by decide +kernel
theorem dX3_oddsOf_22 : decode cX3_oddsOf 22 = .ok (.goto 4, 3) := by decide +kernel
theorem dX3_oddsOf_25 : decode cX3_oddsOf 25 = .ok (.lconst 0, 1) := by decide +kernel
theorem dX3_oddsOf_26 : decode cX3_oddsOf 26 = .ok (.lastore, 1) := by decide +kernel
theorem dX3_oddsOf_27 : decode cX3_oddsOf 27 = .ok (.iinc 4 1, 3) := by decide +kernel
theorem dX3_oddsOf_30 : decode cX3_oddsOf 30 = .ok (.goto (-27), 3) := by decide +kernel
theorem dX3_oddsOf_33 : decode cX3_oddsOf 33 = .ok (.iconst 0, 1) := by decide +kernel
theorem dX3_oddsOf_34 : decode cX3_oddsOf 34 = .ok (.istore 4, 2) := by decide +kernel
theorem dX3_oddsOf_36 : decode cX3_oddsOf 36 = .ok (.iload 4, 2) := by decide +kernel
theorem dX3_oddsOf_38 : decode cX3_oddsOf 38 = .ok (.iload_n 2, 1) := by decide +kernel
theorem dX3_oddsOf_39 : decode cX3_oddsOf 39 = .ok (.if_icmp .ge 76, 3) := by decide +kernel
theorem dX3_oddsOf_42 : decode cX3_oddsOf 42 = .ok (.bipush 6, 2) := by decide +kernel
theorem dX3_oddsOf_44 : decode cX3_oddsOf 44 = .ok (.istore 5, 2) := by decide +kernel
theorem dX3_oddsOf_46 : decode cX3_oddsOf 46 = .ok (.iload 5, 2) := by decide +kernel
theorem dX3_oddsOf_48 : decode cX3_oddsOf 48 = .ok (.ifCond .lt 61, 3) := by decide +kernel
theorem dX3_oddsOf_51 : decode cX3_oddsOf 51 = .ok (.iload 5, 2) := by decide +kernel
theorem dX3_oddsOf_53 : decode cX3_oddsOf 53 = .ok (.ifCond .le 15, 3) := by decide +kernel
theorem dX3_oddsOf_56 : decode cX3_oddsOf 56 = .ok (.aload_n 0, 1) := by decide +kernel
theorem dX3_oddsOf_57 : decode cX3_oddsOf 57 = .ok (.getfield 22, 3) := by decide +kernel
theorem dX3_oddsOf_60 : decode cX3_oddsOf 60 = .ok (.iload 5, 2) := by decide +kernel
theorem dX3_oddsOf_62 : decode cX3_oddsOf 62 = .ok (.iconst 1, 1) := by decide +kernel
theorem dX3_oddsOf_63 : decode cX3_oddsOf 63 = .ok (.isub, 1) := by decide +kernel
theorem dX3_oddsOf_64 : decode cX3_oddsOf 64 = .ok (.laload, 1) := by decide +kernel
theorem dX3_oddsOf_65 : decode cX3_oddsOf 65 = .ok (.goto 4, 3) := by decide +kernel
theorem dX3_oddsOf_68 : decode cX3_oddsOf 68 = .ok (.lconst 0, 1) := by decide +kernel
theorem dX3_oddsOf_69 : decode cX3_oddsOf 69 = .ok (.lstore 6, 2) := by decide +kernel
theorem dX3_oddsOf_71 : decode cX3_oddsOf 71 = .ok (.aload_n 0, 1) := by decide +kernel
theorem dX3_oddsOf_72 : decode cX3_oddsOf 72 = .ok (.getfield 22, 3) := by decide +kernel
theorem dX3_oddsOf_75 : decode cX3_oddsOf 75 = .ok (.iload 5, 2) := by decide +kernel
theorem dX3_oddsOf_77 : decode cX3_oddsOf 77 = .ok (.aload_n 0, 1) := by decide +kernel
theorem dX3_oddsOf_78 : decode cX3_oddsOf 78 = .ok (.getfield 22, 3) := by decide +kernel
theorem dX3_oddsOf_81 : decode cX3_oddsOf 81 = .ok (.iload 5, 2) := by decide +kernel
theorem dX3_oddsOf_83 : decode cX3_oddsOf 83 = .ok (.laload, 1) := by decide +kernel
theorem dX3_oddsOf_84 : decode cX3_oddsOf 84 = .ok (.bipush 100, 2) := by decide +kernel
theorem dX3_oddsOf_86 : decode cX3_oddsOf 86 = .ok (.aload_n 1, 1) := by decide +kernel
theorem dX3_oddsOf_87 : decode cX3_oddsOf 87 = .ok (.getfield 94, 3) := by decide +kernel
theorem dX3_oddsOf_90 : decode cX3_oddsOf 90 = .ok (.isub, 1) := by decide +kernel
theorem dX3_oddsOf_91 : decode cX3_oddsOf 91 = .ok (.i2l, 1) := by decide +kernel
theorem dX3_oddsOf_92 : decode cX3_oddsOf 92 = .ok (.lmul, 1) := by decide +kernel
theorem dX3_oddsOf_93 : decode cX3_oddsOf 93 = .ok (.lload 6, 2) := by decide +kernel
theorem dX3_oddsOf_95 : decode cX3_oddsOf 95 = .ok (.aload_n 1, 1) := by decide +kernel
theorem dX3_oddsOf_96 : decode cX3_oddsOf 96 = .ok (.getfield 94, 3) := by decide +kernel
theorem dX3_oddsOf_99 : decode cX3_oddsOf 99 = .ok (.i2l, 1) := by decide +kernel
theorem dX3_oddsOf_100 : decode cX3_oddsOf 100 = .ok (.lmul, 1) := by decide +kernel
theorem dX3_oddsOf_101 : decode cX3_oddsOf 101 = .ok (.ladd, 1) := by decide +kernel
theorem dX3_oddsOf_102 : decode cX3_oddsOf 102 = .ok (.lastore, 1) := by decide +kernel
theorem dX3_oddsOf_103 : decode cX3_oddsOf 103 = .ok (.iinc 5 (-1), 3) := by decide +kernel
theorem dX3_oddsOf_106 : decode cX3_oddsOf 106 = .ok (.goto (-60), 3) := by decide +kernel
theorem dX3_oddsOf_109 : decode cX3_oddsOf 109 = .ok (.iinc 4 1, 3) := by decide +kernel
theorem dX3_oddsOf_112 : decode cX3_oddsOf 112 = .ok (.goto (-76), 3) := by decide +kernel
theorem dX3_oddsOf_115 : decode cX3_oddsOf 115 = .ok (.lconst 0, 1) := by decide +kernel
theorem dX3_oddsOf_116 : decode cX3_oddsOf 116 = .ok (.lstore 4, 2) := by decide +kernel
theorem dX3_oddsOf_118 : decode cX3_oddsOf 118 = .ok (.bipush 6, 2) := by decide +kernel
theorem dX3_oddsOf_120 : decode cX3_oddsOf 120 = .ok (.istore 6, 2) := by decide +kernel
theorem dX3_oddsOf_122 : decode cX3_oddsOf 122 = .ok (.iload 6, 2) := by decide +kernel
theorem dX3_oddsOf_124 : decode cX3_oddsOf 124 = .ok (.iload_n 3, 1) := by decide +kernel
theorem dX3_oddsOf_125 : decode cX3_oddsOf 125 = .ok (.if_icmp .lt 30, 3) := by decide +kernel
theorem dX3_oddsOf_128 : decode cX3_oddsOf 128 = .ok (.iload 6, 2) := by decide +kernel
theorem dX3_oddsOf_130 : decode cX3_oddsOf 130 = .ok (.ifCond .lt 25, 3) := by decide +kernel
theorem dX3_oddsOf_133 : decode cX3_oddsOf 133 = .ok (.lload 4, 2) := by decide +kernel
theorem dX3_oddsOf_135 : decode cX3_oddsOf 135 = .ok (.ldc2_w 97, 3) := by decide +kernel
theorem dX3_oddsOf_138 : decode cX3_oddsOf 138 = .ok (.aload_n 0, 1) := by decide +kernel
theorem dX3_oddsOf_139 : decode cX3_oddsOf 139 = .ok (.getfield 22, 3) := by decide +kernel
theorem dX3_oddsOf_142 : decode cX3_oddsOf 142 = .ok (.iload 6, 2) := by decide +kernel
theorem dX3_oddsOf_144 : decode cX3_oddsOf 144 = .ok (.laload, 1) := by decide +kernel
theorem dX3_oddsOf_145 : decode cX3_oddsOf 145 = .ok (.lmul, 1) := by decide +kernel
theorem dX3_oddsOf_146 : decode cX3_oddsOf 146 = .ok (.ladd, 1) := by decide +kernel
theorem dX3_oddsOf_147 : decode cX3_oddsOf 147 = .ok (.lstore 4, 2) := by decide +kernel
theorem dX3_oddsOf_149 : decode cX3_oddsOf 149 = .ok (.iinc 6 (-1), 3) := by decide +kernel
theorem dX3_oddsOf_152 : decode cX3_oddsOf 152 = .ok (.goto (-30), 3) := by decide +kernel
theorem dX3_oddsOf_155 : decode cX3_oddsOf 155 = .ok (.iconst 0, 1) := by decide +kernel
theorem dX3_oddsOf_156 : decode cX3_oddsOf 156 = .ok (.istore 6, 2) := by decide +kernel
theorem dX3_oddsOf_158 : decode cX3_oddsOf 158 = .ok (.iload 6, 2) := by decide +kernel
theorem dX3_oddsOf_160 : decode cX3_oddsOf 160 = .ok (.iload_n 2, 1) := by decide +kernel
theorem dX3_oddsOf_161 : decode cX3_oddsOf 161 = .ok (.if_icmp .ge 17, 3) := by decide +kernel
theorem dX3_oddsOf_164 : decode cX3_oddsOf 164 = .ok (.lload 4, 2) := by decide +kernel
theorem dX3_oddsOf_166 : decode cX3_oddsOf 166 = .ok (.ldc2_w 99, 3) := by decide +kernel
theorem dX3_oddsOf_169 : decode cX3_oddsOf 169 = .ok (.ldiv, 1) := by decide +kernel
theorem dX3_oddsOf_170 : decode cX3_oddsOf 170 = .ok (.lstore 4, 2) := by decide +kernel
theorem dX3_oddsOf_172 : decode cX3_oddsOf 172 = .ok (.iinc 6 1, 3) := by decide +kernel
theorem dX3_oddsOf_175 : decode cX3_oddsOf 175 = .ok (.goto (-17), 3) := by decide +kernel
theorem dX3_oddsOf_178 : decode cX3_oddsOf 178 = .ok (.lload 4, 2) := by decide +kernel
theorem dX3_oddsOf_180 : decode cX3_oddsOf 180 = .ok (.l2i, 1) := by decide +kernel
theorem dX3_oddsOf_181 : decode cX3_oddsOf 181 = .ok (.ireturn, 1) := by decide +kernel
theorem dX4_init_0 : decode cX4_init 0 = .ok (.aload_n 0, 1) := by decide +kernel
theorem dX4_init_1 : decode cX4_init 1 = .ok (.invokespecial 3, 3) := by decide +kernel
theorem dX4_init_4 : decode cX4_init 4 = .ok (.aload_n 0, 1) := by decide +kernel
theorem dX4_init_5 : decode cX4_init 5 = .ok (.bipush 12, 2) := by decide +kernel
theorem dX4_init_7 : decode cX4_init 7 = .ok (.newarray .int, 2) := by decide +kernel
theorem dX4_init_9 : decode cX4_init 9 = .ok (.putfield 11, 3) := by decide +kernel
theorem dX4_init_12 : decode cX4_init 12 = .ok (.aload_n 0, 1) := by decide +kernel
theorem dX4_init_13 : decode cX4_init 13 = .ok (.bipush 12, 2) := by decide +kernel
theorem dX4_init_15 : decode cX4_init 15 = .ok (.newarray .int, 2) := by decide +kernel
theorem dX4_init_17 : decode cX4_init 17 = .ok (.putfield 15, 3) := by decide +kernel
theorem dX4_init_20 : decode cX4_init 20 = .ok (.aload_n 0, 1) := by decide +kernel
theorem dX4_init_21 : decode cX4_init 21 = .ok (.bipush 12, 2) := by decide +kernel
theorem dX4_init_23 : decode cX4_init 23 = .ok (.newarray .int, 2) := by decide +kernel
theorem dX4_init_25 : decode cX4_init 25 = .ok (.putfield 18, 3) := by decide +kernel
theorem dX4_init_28 : decode cX4_init 28 = .ok (.aload_n 0, 1) := by decide +kernel
theorem dX4_init_29 : decode cX4_init 29 = .ok (.sipush 400, 3) := by decide +kernel
theorem dX4_init_32 : decode cX4_init 32 = .ok (.newarray .int, 2) := by decide +kernel
theorem dX4_init_34 : decode cX4_init 34 = .ok (.putfield 21, 3) := by decide +kernel
theorem dX4_init_37 : decode cX4_init 37 = .ok (.aload_n 0, 1) := by decide +kernel
theorem dX4_init_38 : decode cX4_init 38 = .ok (.bipush 8, 2) := by decide +kernel
theorem dX4_init_40 : decode cX4_init 40 = .ok (.newarray .int, 2) := by decide +kernel
theorem dX4_init_42 : decode cX4_init 42 = .ok (.putfield 24, 3) := by decide +kernel
theorem dX4_init_45 : decode cX4_init 45 = .ok (.aload_n 0, 1) := by decide +kernel
theorem dX4_init_46 : decode cX4_init 46 = .ok (.iconst (-1), 1) := by decide +kernel
theorem dX4_init_47 : decode cX4_init 47 = .ok (.putfield 27, 3) := by decide +kernel
theorem dX4_init_50 : decode cX4_init 50 = .ok (.return_, 1) := by decide +kernel
theorem dX4_clear_0 : decode cX4_clear 0 = .ok (.aload_n 0, 1) := by decide +kernel
theorem dX4_clear_1 : decode cX4_clear 1 = .ok (.iconst 0, 1) := by decide +kernel
theorem dX4_clear_2 : decode cX4_clear 2 = .ok (.putfield 27, 3) := by decide +kernel
theorem dX4_clear_5 : decode cX4_clear 5 = .ok (.aload_n 0, 1) := by decide +kernel
theorem dX4_clear_6 : decode cX4_clear 6 = .ok (.iconst 0, 1) := by decide +kernel
theorem dX4_clear_7 : decode cX4_clear 7 = .ok (.putfield 31, 3) := by decide +kernel
theorem dX4_clear_10 : decode cX4_clear 10 = .ok (.return_, 1) := by decide +kernel
theorem dX4_copyFrom_0 : decode cX4_copyFrom 0 = .ok (.aload_n 1, 1) := by decide +kernel
theorem dX4_copyFrom_1 : decode cX4_copyFrom 1 = .ok (.getfield 11, 3) := by decide +kernel
theorem dX4_copyFrom_4 : decode cX4_copyFrom 4 = .ok (.aload_n 0, 1) := by decide +kernel
theorem dX4_copyFrom_5 : decode cX4_copyFrom 5 = .ok (.getfield 11, 3) := by decide +kernel
theorem dX4_copyFrom_8 : decode cX4_copyFrom 8 = .ok (.invokestatic 34, 3) := by decide +kernel
theorem dX4_copyFrom_11 : decode cX4_copyFrom 11 = .ok (.aload_n 1, 1) := by decide +kernel
theorem dX4_copyFrom_12 : decode cX4_copyFrom 12 = .ok (.getfield 15, 3) := by decide +kernel
theorem dX4_copyFrom_15 : decode cX4_copyFrom 15 = .ok (.aload_n 0, 1) := by decide +kernel
theorem dX4_copyFrom_16 : decode cX4_copyFrom 16 = .ok (.getfield 15, 3) := by decide +kernel
theorem dX4_copyFrom_19 : decode cX4_copyFrom 19 = .ok (.invokestatic 34, 3) := by decide +kernel
theorem dX4_copyFrom_22 : decode cX4_copyFrom 22 = .ok (.aload_n 1, 1) := by decide +kernel
theorem dX4_copyFrom_23 : decode cX4_copyFrom 23 = .ok (.getfield 18, 3) := by decide +kernel
theorem dX4_copyFrom_26 : decode cX4_copyFrom 26 = .ok (.aload_n 0, 1) := by decide +kernel
theorem dX4_copyFrom_27 : decode cX4_copyFrom 27 = .ok (.getfield 18, 3) := by decide +kernel
theorem dX4_copyFrom_30 : decode cX4_copyFrom 30 = .ok (.invokestatic 34, 3) := by decide +kernel
theorem dX4_copyFrom_33 : decode cX4_copyFrom 33 = .ok (.aload_n 1, 1) := by decide +kernel
theorem dX4_copyFrom_34 : decode cX4_copyFrom 34 = .ok (.getfield 21, 3) := by decide +kernel
theorem dX4_copyFrom_37 : decode cX4_copyFrom 37 = .ok (.aload_n 0, 1) := by decide +kernel
theorem dX4_copyFrom_38 : decode cX4_copyFrom 38 = .ok (.getfield 21, 3) := by decide +kernel
theorem dX4_copyFrom_41 : decode cX4_copyFrom 41 = .ok (.invokestatic 34, 3) := by decide +kernel
theorem dX4_copyFrom_44 : decode cX4_copyFrom 44 = .ok (.aload_n 0, 1) := by decide +kernel
theorem dX4_copyFrom_45 : decode cX4_copyFrom 45 = .ok (.aload_n 1, 1) := by decide +kernel
theorem dX4_copyFrom_46 : decode cX4_copyFrom 46 = .ok (.getfield 31, 3) := by decide +kernel
theorem dX4_copyFrom_49 : decode cX4_copyFrom 49 = .ok (.putfield 31, 3) := by decide +kernel
theorem dX4_copyFrom_52 : decode cX4_copyFrom 52 = .ok (.aload_n 0, 1) := by decide +kernel
theorem dX4_copyFrom_53 : decode cX4_copyFrom 53 = .ok (.aload_n 1, 1) := by decide +kernel
theorem dX4_copyFrom_54 : decode cX4_copyFrom 54 = .ok (.getfield 27, 3) := by decide +kernel
theorem dX4_copyFrom_57 : decode cX4_copyFrom 57 = .ok (.putfield 27, 3) := by decide +kernel
theorem dX4_copyFrom_60 : decode cX4_copyFrom 60 = .ok (.return_, 1) := by decide +kernel
theorem dX4_addStep_0 : decode cX4_addStep 0 = .ok (.aload_n 0, 1) := by decide +kernel
theorem dX4_addStep_1 : decode cX4_addStep 1 = .ok (.getfield 31, 3) := by decide +kernel
theorem dX4_addStep_4 : decode cX4_addStep 4 = .ok (.ifCond .lt 39, 3) := by decide +kernel
theorem dX4_addStep_7 : decode cX4_addStep 7 = .ok (.aload_n 0, 1) := by decide +kernel
theorem dX4_addStep_8 : decode cX4_addStep 8 = .ok (.getfield 31, 3) := by decide +kernel
theorem dX4_addStep_11 : decode cX4_addStep 11 = .ok (.aload_n 0, 1) := by decide +kernel
theorem dX4_addStep_12 : decode cX4_addStep 12 = .ok (.getfield 21, 3) := by decide +kernel
theorem dX4_addStep_15 : decode cX4_addStep 15 = .ok (.arraylength, 1) := by decide +kernel
theorem dX4_addStep_16 : decode cX4_addStep 16 = .ok (.if_icmp .ge 27, 3) := by decide +kernel
theorem dX4_addStep_19 : decode cX4_addStep 19 = .ok (.aload_n 0, 1) := by decide +kernel
theorem dX4_addStep_20 : decode cX4_addStep 20 = .ok (.getfield 21, 3) := by decide +kernel
theorem dX4_addStep_23 : decode cX4_addStep 23 = .ok (.aload_n 0, 1) := by decide +kernel
theorem dX4_addStep_24 : decode cX4_addStep 24 = .ok (.getfield 31, 3) := by decide +kernel
theorem dX4_addStep_27 : decode cX4_addStep 27 = .ok (.iload_n 2, 1) := by decide +kernel
theorem dX4_addStep_28 : decode cX4_addStep 28 = .ok (.iconst 4, 1) := by decide +kernel
theorem dX4_addStep_29 : decode cX4_addStep 29 = .ok (.ishl, 1) := by decide +kernel
theorem dX4_addStep_30 : decode cX4_addStep 30 = .ok (.iload_n 1, 1) := by decide +kernel
theorem dX4_addStep_31 : decode cX4_addStep 31 = .ok (.ior, 1) := by decide +kernel
theorem dX4_addStep_32 : decode cX4_addStep 32 = .ok (.iastore, 1) := by decide +kernel
theorem dX4_addStep_33 : decode cX4_addStep 33 = .ok (.aload_n 0, 1) := by decide +kernel
theorem dX4_addStep_34 : decode cX4_addStep 34 = .ok (.dup, 1) := by decide +kernel
theorem dX4_addStep_35 : decode cX4_addStep 35 = .ok (.getfield 31, 3) := by decide +kernel
theorem dX4_addStep_38 : decode cX4_addStep 38 = .ok (.iconst 1, 1) := by decide +kernel
theorem dX4_addStep_39 : decode cX4_addStep 39 = .ok (.iadd, 1) := by decide +kernel
theorem dX4_addStep_40 : decode cX4_addStep 40 = .ok (.putfield 31, 3) := by decide +kernel
theorem dX4_addStep_43 : decode cX4_addStep 43 = .ok (.return_, 1) := by decide +kernel
theorem dX4_addLine_0 : decode cX4_addLine 0 = .ok (.aload_n 0, 1) := by decide +kernel
theorem dX4_addLine_1 : decode cX4_addLine 1 = .ok (.getfield 27, 3) := by decide +kernel
theorem dX4_addLine_4 : decode cX4_addLine 4 = .ok (.ifCond .lt 55, 3) := by decide +kernel
theorem dX4_addLine_7 : decode cX4_addLine 7 = .ok (.aload_n 0, 1) := by decide +kernel
theorem dX4_addLine_8 : decode cX4_addLine 8 = .ok (.getfield 27, 3) := by decide +kernel
theorem dX4_addLine_11 : decode cX4_addLine 11 = .ok (.bipush 12, 2) := by decide +kernel
theorem dX4_addLine_13 : decode cX4_addLine 13 = .ok (.if_icmp .ge 46, 3) := by decide +kernel
theorem dX4_addLine_16 : decode cX4_addLine 16 = .ok (.aload_n 0, 1) := by decide +kernel
theorem dX4_addLine_17 : decode cX4_addLine 17 = .ok (.getfield 11, 3) := by decide +kernel
theorem dX4_addLine_20 : decode cX4_addLine 20 = .ok (.aload_n 0, 1) := by decide +kernel
theorem dX4_addLine_21 : decode cX4_addLine 21 = .ok (.getfield 27, 3) := by decide +kernel
theorem dX4_addLine_24 : decode cX4_addLine 24 = .ok (.iload_n 1, 1) := by decide +kernel
theorem dX4_addLine_25 : decode cX4_addLine 25 = .ok (.iastore, 1) := by decide +kernel
theorem dX4_addLine_26 : decode cX4_addLine 26 = .ok (.aload_n 0, 1) := by decide +kernel
theorem dX4_addLine_27 : decode cX4_addLine 27 = .ok (.getfield 15, 3) := by decide +kernel
theorem dX4_addLine_30 : decode cX4_addLine 30 = .ok (.aload_n 0, 1) := by decide +kernel
theorem dX4_addLine_31 : decode cX4_addLine 31 = .ok (.getfield 27, 3) := by decide +kernel
theorem dX4_addLine_34 : decode cX4_addLine 34 = .ok (.iload_n 2, 1) := by decide +kernel
theorem dX4_addLine_35 : decode cX4_addLine 35 = .ok (.iastore, 1) := by decide +kernel
theorem dX4_addLine_36 : decode cX4_addLine 36 = .ok (.aload_n 0, 1) := by decide +kernel
theorem dX4_addLine_37 : decode cX4_addLine 37 = .ok (.getfield 18, 3) := by decide +kernel
theorem dX4_addLine_40 : decode cX4_addLine 40 = .ok (.aload_n 0, 1) := by decide +kernel
theorem dX4_addLine_41 : decode cX4_addLine 41 = .ok (.getfield 27, 3) := by decide +kernel
theorem dX4_addLine_44 : decode cX4_addLine 44 = .ok (.aload_n 0, 1) := by decide +kernel
theorem dX4_addLine_45 : decode cX4_addLine 45 = .ok (.getfield 31, 3) := by decide +kernel
theorem dX4_addLine_48 : decode cX4_addLine 48 = .ok (.iastore, 1) := by decide +kernel
theorem dX4_addLine_49 : decode cX4_addLine 49 = .ok (.aload_n 0, 1) := by decide +kernel
theorem dX4_addLine_50 : decode cX4_addLine 50 = .ok (.dup, 1) := by decide +kernel
theorem dX4_addLine_51 : decode cX4_addLine 51 = .ok (.getfield 27, 3) := by decide +kernel
theorem dX4_addLine_54 : decode cX4_addLine 54 = .ok (.iconst 1, 1) := by decide +kernel
theorem dX4_addLine_55 : decode cX4_addLine 55 = .ok (.iadd, 1) := by decide +kernel
theorem dX4_addLine_56 : decode cX4_addLine 56 = .ok (.putfield 27, 3) := by decide +kernel
theorem dX4_addLine_59 : decode cX4_addLine 59 = .ok (.return_, 1) := by decide +kernel
theorem dX4_strideOf_0 : decode cX4_strideOf 0 = .ok (.aload_n 1, 1) := by decide +kernel
theorem dX4_strideOf_1 : decode cX4_strideOf 1 = .ok (.iconst 1, 1) := by decide +kernel
theorem dX4_strideOf_2 : decode cX4_strideOf 2 = .ok (.iload_n 2, 1) := by decide +kernel
theorem dX4_strideOf_3 : decode cX4_strideOf 3 = .ok (.invokevirtual 38, 3) := by decide +kernel
theorem dX4_strideOf_6 : decode cX4_strideOf 6 = .ok (.istore_n 3, 1) := by decide +kernel
theorem dX4_strideOf_7 : decode cX4_strideOf 7 = .ok (.aload_n 0, 1) := by decide +kernel
theorem dX4_strideOf_8 : decode cX4_strideOf 8 = .ok (.getfield 27, 3) := by decide +kernel
theorem dX4_strideOf_11 : decode cX4_strideOf 11 = .ok (.iconst (-1), 1) := by decide +kernel
theorem dX4_strideOf_12 : decode cX4_strideOf 12 = .ok (.if_icmp .ne 41, 3) := by decide +kernel
theorem dX4_strideOf_15 : decode cX4_strideOf 15 = .ok (.aload_n 1, 1) := by decide +kernel
theorem dX4_strideOf_16 : decode cX4_strideOf 16 = .ok (.aload_n 1, 1) := by decide +kernel
theorem dX4_strideOf_17 : decode cX4_strideOf 17 = .ok (.iconst 0, 1) := by decide +kernel
theorem dX4_strideOf_18 : decode cX4_strideOf 18 = .ok (.iload_n 2, 1) := by decide +kernel
theorem dX4_strideOf_19 : decode cX4_strideOf 19 = .ok (.invokevirtual 38, 3) := by decide +kernel
theorem dX4_strideOf_22 : decode cX4_strideOf 22 = .ok (.invokevirtual 44, 3) := by decide +kernel
theorem dX4_strideOf_25 : decode cX4_strideOf 25 = .ok (.iconst 3, 1) := by decide +kernel
theorem dX4_strideOf_26 : decode cX4_strideOf 26 = .ok (.if_icmp .ne 7, 3) := by decide +kernel
theorem dX4_strideOf_29 : decode cX4_strideOf 29 = .ok (.iconst 1, 1) := by decide +kernel
theorem dX4_strideOf_30 : decode cX4_strideOf 30 = .ok (.goto 4, 3) := by decide +kernel
theorem dX4_strideOf_33 : decode cX4_strideOf 33 = .ok (.iconst 0, 1) := by decide +kernel
theorem dX4_strideOf_34 : decode cX4_strideOf 34 = .ok (.istore 4, 2) := by decide +kernel
theorem dX4_strideOf_36 : decode cX4_strideOf 36 = .ok (.iload 4, 2) := by decide +kernel
theorem dX4_strideOf_38 : decode cX4_strideOf 38 = .ok (.ifCond .eq 13, 3) := by decide +kernel
theorem dX4_strideOf_41 : decode cX4_strideOf 41 = .ok (.iconst 0, 1) := by decide +kernel
theorem dX4_strideOf_42 : decode cX4_strideOf 42 = .ok (.iload_n 3, 1) := by decide +kernel
theorem dX4_strideOf_43 : decode cX4_strideOf 43 = .ok (.iconst 1, 1) := by decide +kernel
theorem dX4_strideOf_44 : decode cX4_strideOf 44 = .ok (.isub, 1) := by decide +kernel
theorem dX4_strideOf_45 : decode cX4_strideOf 45 = .ok (.invokestatic 48, 3) := by decide +kernel
theorem dX4_strideOf_48 : decode cX4_strideOf 48 = .ok (.goto 4, 3) := by decide +kernel
theorem dX4_strideOf_51 : decode cX4_strideOf 51 = .ok (.iload_n 3, 1) := by decide +kernel
theorem dX4_strideOf_52 : decode cX4_strideOf 52 = .ok (.ireturn, 1) := by decide +kernel
theorem dX4_strideOf_53 : decode cX4_strideOf 53 = .ok (.aload_n 0, 1) := by decide +kernel
theorem dX4_strideOf_54 : decode cX4_strideOf 54 = .ok (.aload_n 1, 1) := by decide +kernel
theorem dX4_strideOf_55 : decode cX4_strideOf 55 = .ok (.iload_n 2, 1) := by decide +kernel
theorem dX4_strideOf_56 : decode cX4_strideOf 56 = .ok (.invokevirtual 53, 3) := by decide +kernel
theorem dX4_strideOf_59 : decode cX4_strideOf 59 = .ok (.iconst 0, 1) := by decide +kernel
theorem dX4_strideOf_60 : decode cX4_strideOf 60 = .ok (.istore 4, 2) := by decide +kernel
theorem dX4_strideOf_62 : decode cX4_strideOf 62 = .ok (.iconst 0, 1) := by decide +kernel
theorem dX4_strideOf_63 : decode cX4_strideOf 63 = .ok (.istore 5, 2) := by decide +kernel
theorem dX4_strideOf_65 : decode cX4_strideOf 65 = .ok (.iload 5, 2) := by decide +kernel
theorem dX4_strideOf_67 : decode cX4_strideOf 67 = .ok (.aload_n 0, 1) := by decide +kernel
theorem dX4_strideOf_68 : decode cX4_strideOf 68 = .ok (.getfield 27, 3) := by decide +kernel
theorem dX4_strideOf_71 : decode cX4_strideOf 71 = .ok (.if_icmp .ge 86, 3) := by decide +kernel
theorem dX4_strideOf_74 : decode cX4_strideOf 74 = .ok (.iload 5, 2) := by decide +kernel
theorem dX4_strideOf_76 : decode cX4_strideOf 76 = .ok (.bipush 12, 2) := by decide +kernel
theorem dX4_strideOf_78 : decode cX4_strideOf 78 = .ok (.if_icmp .ge 79, 3) := by decide +kernel
theorem dX4_strideOf_81 : decode cX4_strideOf 81 = .ok (.aload_n 0, 1) := by decide +kernel
theorem dX4_strideOf_82 : decode cX4_strideOf 82 = .ok (.iload 4, 2) := by decide +kernel
theorem dX4_strideOf_84 : decode cX4_strideOf 84 = .ok (.aload_n 0, 1) := by decide +kernel
theorem dX4_strideOf_85 : decode cX4_strideOf 85 = .ok (.getfield 18, 3) := by decide +kernel
theorem dX4_strideOf_88 : decode cX4_strideOf 88 = .ok (.iload 5, 2) := by decide +kernel
theorem dX4_strideOf_90 : decode cX4_strideOf 90 = .ok (.iaload, 1) := by decide +kernel
theorem dX4_strideOf_91 : decode cX4_strideOf 91 = .ok (.invokevirtual 57, 3) := by decide +kernel
theorem dX4_strideOf_94 : decode cX4_strideOf 94 = .ok (.ifCond .eq 48, 3) := by decide +kernel
theorem dX4_strideOf_97 : decode cX4_strideOf 97 = .ok (.aload_n 0, 1) := by decide +kernel
theorem dX4_strideOf_98 : decode cX4_strideOf 98 = .ok (.getfield 11, 3) := by decide +kernel
theorem dX4_strideOf_101 : decode cX4_strideOf 101 = .ok (.iload 5, 2) := by decide +kernel
theorem dX4_strideOf_103 : decode cX4_strideOf 103 = .ok (.iaload, 1) := by decide +kernel
theorem dX4_strideOf_104 : decode cX4_strideOf 104 = .ok (.iconst 2, 1) := by decide +kernel
theorem dX4_strideOf_105 : decode cX4_strideOf 105 = .ok (.if_icmp .ne 5, 3) := by decide +kernel
theorem dX4_strideOf_108 : decode cX4_strideOf 108 = .ok (.iconst 0, 1) := by decide +kernel
theorem dX4_strideOf_109 : decode cX4_strideOf 109 = .ok (.ireturn, 1) := by decide +kernel
theorem dX4_strideOf_110 : decode cX4_strideOf 110 = .ok (.iload_n 3, 1) := by decide +kernel
theorem dX4_strideOf_111 : decode cX4_strideOf 111 = .ok (.aload_n 0, 1) := by decide +kernel
theorem dX4_strideOf_112 : decode cX4_strideOf 112 = .ok (.getfield 11, 3) := by decide +kernel
theorem dX4_strideOf_115 : decode cX4_strideOf 115 = .ok (.iload 5, 2) := by decide +kernel
theorem dX4_strideOf_117 : decode cX4_strideOf 117 = .ok (.iaload, 1) := by decide +kernel
theorem dX4_strideOf_118 : decode cX4_strideOf 118 = .ok (.iconst 1, 1) := by decide +kernel
theorem dX4_strideOf_119 : decode cX4_strideOf 119 = .ok (.if_icmp .ne 13, 3) := by decide +kernel
theorem dX4_strideOf_122 : decode cX4_strideOf 122 = .ok (.aload_n 0, 1) := by decide +kernel
theorem dX4_strideOf_123 : decode cX4_strideOf 123 = .ok (.getfield 15, 3) := by decide +kernel
theorem dX4_strideOf_126 : decode cX4_strideOf 126 = .ok (.iload 5, 2) := by decide +kernel
theorem dX4_strideOf_128 : decode cX4_strideOf 128 = .ok (.iaload, 1) := by decide +kernel
theorem dX4_strideOf_129 : decode cX4_strideOf 129 = .ok (.goto 11, 3) := by decide +kernel
theorem dX4_strideOf_132 : decode cX4_strideOf 132 = .ok (.aload_n 0, 1) := by decide +kernel
theorem dX4_strideOf_133 : decode cX4_strideOf 133 = .ok (.getfield 15, 3) := by decide +kernel
theorem dX4_strideOf_136 : decode cX4_strideOf 136 = .ok (.iload 5, 2) := by decide +kernel
theorem dX4_strideOf_138 : decode cX4_strideOf 138 = .ok (.iaload, 1) := by decide +kernel
theorem dX4_strideOf_139 : decode cX4_strideOf 139 = .ok (.ineg, 1) := by decide +kernel
theorem dX4_strideOf_140 : decode cX4_strideOf 140 = .ok (.iadd, 1) := by decide +kernel
theorem dX4_strideOf_141 : decode cX4_strideOf 141 = .ok (.istore_n 3, 1) := by decide +kernel
theorem dX4_strideOf_142 : decode cX4_strideOf 142 = .ok (.aload_n 0, 1) := by decide +kernel
theorem dX4_strideOf_143 : decode cX4_strideOf 143 = .ok (.getfield 18, 3) := by decide +kernel
theorem dX4_strideOf_146 : decode cX4_strideOf 146 = .ok (.iload 5, 2) := by decide +kernel
theorem dX4_strideOf_148 : decode cX4_strideOf 148 = .ok (.iaload, 1) := by decide +kernel
theorem dX4_strideOf_149 : decode cX4_strideOf 149 = .ok (.istore 4, 2) := by decide +kernel
theorem dX4_strideOf_151 : decode cX4_strideOf 151 = .ok (.iinc 5 1, 3) := by decide +kernel
theorem dX4_strideOf_154 : decode cX4_strideOf 154 = .ok (.goto (-89), 3) := by decide +kernel
theorem dX4_strideOf_157 : decode cX4_strideOf 157 = .ok (.bipush 15, 2) := by decide +kernel
theorem dX4_strideOf_159 : decode cX4_strideOf 159 = .ok (.iconst 0, 1) := by decide +kernel
theorem dX4_strideOf_160 : decode cX4_strideOf 160 = .ok (.iload_n 3, 1) := by decide +kernel
theorem dX4_strideOf_161 : decode cX4_strideOf 161 = .ok (.invokestatic 48, 3) := by decide +kernel
theorem dX4_strideOf_164 : decode cX4_strideOf 164 = .ok (.invokestatic 61, 3) := by decide +kernel
theorem dX4_strideOf_167 : decode cX4_strideOf 167 = .ok (.ireturn, 1) := by decide +kernel
theorem dX4_lookAt_0 : decode cX4_lookAt 0 = .ok (.aload_n 0, 1) := by decide +kernel
theorem dX4_lookAt_1 : decode cX4_lookAt 1 = .ok (.getfield 24, 3) := by decide +kernel
theorem dX4_lookAt_4 : decode cX4_lookAt 4 = .ok (.iconst 0, 1) := by decide +kernel
theorem dX4_lookAt_5 : decode cX4_lookAt 5 = .ok (.iload_n 2, 1) := by decide +kernel
theorem dX4_lookAt_6 : decode cX4_lookAt 6 = .ok (.iastore, 1) := by decide +kernel
theorem dX4_lookAt_7 : decode cX4_lookAt 7 = .ok (.aload_n 0, 1) := by decide +kernel
theorem dX4_lookAt_8 : decode cX4_lookAt 8 = .ok (.getfield 24, 3) := by decide +kernel
theorem dX4_lookAt_11 : decode cX4_lookAt 11 = .ok (.iconst 1, 1) := by decide +kernel
theorem dX4_lookAt_12 : decode cX4_lookAt 12 = .ok (.aload_n 1, 1) := by decide +kernel
theorem dX4_lookAt_13 : decode cX4_lookAt 13 = .ok (.iconst 0, 1) := by decide +kernel
theorem dX4_lookAt_14 : decode cX4_lookAt 14 = .ok (.iload_n 2, 1) := by decide +kernel
theorem dX4_lookAt_15 : decode cX4_lookAt 15 = .ok (.invokevirtual 38, 3) := by decide +kernel
theorem dX4_lookAt_18 : decode cX4_lookAt 18 = .ok (.iastore, 1) := by decide +kernel
theorem dX4_lookAt_19 : decode cX4_lookAt 19 = .ok (.aload_n 0, 1) := by decide +kernel
theorem dX4_lookAt_20 : decode cX4_lookAt 20 = .ok (.getfield 24, 3) := by decide +kernel
theorem dX4_lookAt_23 : decode cX4_lookAt 23 = .ok (.iconst 2, 1) := by decide +kernel
theorem dX4_lookAt_24 : decode cX4_lookAt 24 = .ok (.aload_n 1, 1) := by decide +kernel
theorem dX4_lookAt_25 : decode cX4_lookAt 25 = .ok (.iconst 1, 1) := by decide +kernel
theorem dX4_lookAt_26 : decode cX4_lookAt 26 = .ok (.iload_n 2, 1) := by decide +kernel
theorem dX4_lookAt_27 : decode cX4_lookAt 27 = .ok (.invokevirtual 38, 3) := by decide +kernel
theorem dX4_lookAt_30 : decode cX4_lookAt 30 = .ok (.iastore, 1) := by decide +kernel
theorem dX4_lookAt_31 : decode cX4_lookAt 31 = .ok (.aload_n 0, 1) := by decide +kernel
theorem dX4_lookAt_32 : decode cX4_lookAt 32 = .ok (.getfield 24, 3) := by decide +kernel
theorem dX4_lookAt_35 : decode cX4_lookAt 35 = .ok (.iconst 3, 1) := by decide +kernel
theorem dX4_lookAt_36 : decode cX4_lookAt 36 = .ok (.aload_n 1, 1) := by decide +kernel
theorem dX4_lookAt_37 : decode cX4_lookAt 37 = .ok (.aload_n 1, 1) := by decide +kernel
theorem dX4_lookAt_38 : decode cX4_lookAt 38 = .ok (.iconst 0, 1) := by decide +kernel
theorem dX4_lookAt_39 : decode cX4_lookAt 39 = .ok (.iload_n 2, 1) := by decide +kernel
theorem dX4_lookAt_40 : decode cX4_lookAt 40 = .ok (.invokevirtual 38, 3) := by decide +kernel
theorem dX4_lookAt_43 : decode cX4_lookAt 43 = .ok (.invokevirtual 44, 3) := by decide +kernel
theorem dX4_lookAt_46 : decode cX4_lookAt 46 = .ok (.iastore, 1) := by decide +kernel
theorem dX4_lookAt_47 : decode cX4_lookAt 47 = .ok (.aload_n 0, 1) := by decide +kernel
theorem dX4_lookAt_48 : decode cX4_lookAt 48 = .ok (.getfield 24, 3) := by decide +kernel
theorem dX4_lookAt_51 : decode cX4_lookAt 51 = .ok (.iconst 4, 1) := by decide +kernel
theorem dX4_lookAt_52 : decode cX4_lookAt 52 = .ok (.aload_n 1, 1) := by decide +kernel
theorem dX4_lookAt_53 : decode cX4_lookAt 53 = .ok (.iconst 5, 1) := by decide +kernel
theorem dX4_lookAt_54 : decode cX4_lookAt 54 = .ok (.iload_n 2, 1) := by decide +kernel
theorem dX4_lookAt_55 : decode cX4_lookAt 55 = .ok (.invokevirtual 38, 3) := by decide +kernel
theorem dX4_lookAt_58 : decode cX4_lookAt 58 = .ok (.iastore, 1) := by decide +kernel
theorem dX4_lookAt_59 : decode cX4_lookAt 59 = .ok (.aload_n 0, 1) := by decide +kernel
theorem dX4_lookAt_60 : decode cX4_lookAt 60 = .ok (.getfield 24, 3) := by decide +kernel
theorem dX4_lookAt_63 : decode cX4_lookAt 63 = .ok (.iconst 5, 1) := by decide +kernel
theorem dX4_lookAt_64 : decode cX4_lookAt 64 = .ok (.aload_n 1, 1) := by decide +kernel
theorem dX4_lookAt_65 : decode cX4_lookAt 65 = .ok (.getfield 64, 3) := by decide +kernel
theorem dX4_lookAt_68 : decode cX4_lookAt 68 = .ok (.iastore, 1) := by decide +kernel
theorem dX4_lookAt_69 : decode cX4_lookAt 69 = .ok (.aload_n 0, 1) := by decide +kernel
theorem dX4_lookAt_70 : decode cX4_lookAt 70 = .ok (.getfield 24, 3) := by decide +kernel
theorem dX4_lookAt_73 : decode cX4_lookAt 73 = .ok (.bipush 6, 2) := by decide +kernel
theorem dX4_lookAt_75 : decode cX4_lookAt 75 = .ok (.aload_n 1, 1) := by decide +kernel
theorem dX4_lookAt_76 : decode cX4_lookAt 76 = .ok (.iconst 2, 1) := by decide +kernel
theorem dX4_lookAt_77 : decode cX4_lookAt 77 = .ok (.iload_n 2, 1) := by decide +kernel
theorem dX4_lookAt_78 : decode cX4_lookAt 78 = .ok (.invokevirtual 38, 3) := by decide +kernel
theorem dX4_lookAt_81 : decode cX4_lookAt 81 = .ok (.iastore, 1) := by decide +kernel
theorem dX4_lookAt_82 : decode cX4_lookAt 82 = .ok (.aload_n 0, 1) := by decide +kernel
theorem dX4_lookAt_83 : decode cX4_lookAt 83 = .ok (.getfield 24, 3) := by decide +kernel
theorem dX4_lookAt_86 : decode cX4_lookAt 86 = .ok (.bipush 7, 2) := by decide +kernel
theorem dX4_lookAt_88 : decode cX4_lookAt 88 = .ok (.aload_n 1, 1) := by decide +kernel
theorem dX4_lookAt_89 : decode cX4_lookAt 89 = .ok (.bipush 6, 2) := by decide +kernel
theorem dX4_lookAt_91 : decode cX4_lookAt 91 = .ok (.iload_n 2, 1) := by decide +kernel
theorem dX4_lookAt_92 : decode cX4_lookAt 92 = .ok (.invokevirtual 38, 3) := by decide +kernel
theorem dX4_lookAt_95 : decode cX4_lookAt 95 = .ok (.iastore, 1) := by decide +kernel
theorem dX4_lookAt_96 : decode cX4_lookAt 96 = .ok (.return_, 1) := by decide +kernel
theorem dX4_holds_0 : decode cX4_holds 0 = .ok (.iconst 1, 1) := by decide +kernel
theorem dX4_holds_1 : decode cX4_holds 1 = .ok (.istore_n 3, 1) := by decide +kernel
theorem dX4_holds_2 : decode cX4_holds 2 = .ok (.iconst 0, 1) := by decide +kernel
theorem dX4_holds_3 : decode cX4_holds 3 = .ok (.istore 4, 2) := by decide +kernel
theorem dX4_holds_5 : decode cX4_holds 5 = .ok (.iconst 0, 1) := by decide +kernel
theorem dX4_holds_6 : decode cX4_holds 6 = .ok (.istore 5, 2) := by decide +kernel
theorem dX4_holds_8 : decode cX4_holds 8 = .ok (.iload_n 1, 1) := by decide +kernel
theorem dX4_holds_9 : decode cX4_holds 9 = .ok (.istore 6, 2) := by decide +kernel
theorem dX4_holds_11 : decode cX4_holds 11 = .ok (.iload 6, 2) := by decide +kernel
theorem dX4_holds_13 : decode cX4_holds 13 = .ok (.ifCond .lt 268, 3) := by decide +kernel
theorem dX4_holds_16 : decode cX4_holds 16 = .ok (.iload 6, 2) := by decide +kernel
theorem dX4_holds_18 : decode cX4_holds 18 = .ok (.iload_n 2, 1) := by decide +kernel
theorem dX4_holds_19 : decode cX4_holds 19 = .ok (.if_icmp .ge 262, 3) := by decide +kernel
theorem dX4_holds_22 : decode cX4_holds 22 = .ok (.iload 6, 2) := by decide +kernel
theorem dX4_holds_24 : decode cX4_holds 24 = .ok (.aload_n 0, 1) := by decide +kernel
theorem dX4_holds_25 : decode cX4_holds 25 = .ok (.getfield 21, 3) := by decide +kernel
theorem dX4_holds_28 : decode cX4_holds 28 = .ok (.arraylength, 1) := by decide +kernel
theorem dX4_holds_29 : decode cX4_holds 29 = .ok (.if_icmp .ge 252, 3) := by decide +kernel
theorem dX4_holds_32 : decode cX4_holds 32 = .ok (.aload_n 0, 1) := by decide +kernel
theorem dX4_holds_33 : decode cX4_holds 33 = .ok (.getfield 21, 3) := by decide +kernel
theorem dX4_holds_36 : decode cX4_holds 36 = .ok (.iload 6, 2) := by decide +kernel
theorem dX4_holds_38 : decode cX4_holds 38 = .ok (.iaload, 1) := by decide +kernel
theorem dX4_holds_39 : decode cX4_holds 39 = .ok (.iconst 4, 1) := by decide +kernel
theorem dX4_holds_40 : decode cX4_holds 40 = .ok (.ishr, 1) := by decide +kernel
theorem dX4_holds_41 : decode cX4_holds 41 = .ok (.istore 7, 2) := by decide +kernel
theorem dX4_holds_43 : decode cX4_holds 43 = .ok (.aload_n 0, 1) := by decide +kernel
theorem dX4_holds_44 : decode cX4_holds 44 = .ok (.getfield 21, 3) := by decide +kernel
theorem dX4_holds_47 : decode cX4_holds 47 = .ok (.iload 6, 2) := by decide +kernel
theorem dX4_holds_49 : decode cX4_holds 49 = .ok (.iaload, 1) := by decide +kernel
theorem dX4_holds_50 : decode cX4_holds 50 = .ok (.bipush 15, 2) := by decide +kernel
theorem dX4_holds_52 : decode cX4_holds 52 = .ok (.iand, 1) := by decide +kernel
theorem dX4_holds_53 : decode cX4_holds 53 = .ok (.tableswitch 214 0 8 #[51, 61, 92, 102, 125, 148, 172, 195, 202], 51) := by decide +kernel
theorem dX4_holds_104 : decode cX4_holds 104 = .ok (.iload 4, 2) := by decide +kernel
theorem dX4_holds_106 : decode cX4_holds 106 = .ok (.iload 7, 2) := by decide +kernel
theorem dX4_holds_108 : decode cX4_holds 108 = .ok (.iadd, 1) := by decide +kernel
theorem dX4_holds_109 : decode cX4_holds 109 = .ok (.istore 4, 2) := by decide +kernel
theorem dX4_holds_111 : decode cX4_holds 111 = .ok (.goto 164, 3) := by decide +kernel
theorem dX4_holds_114 : decode cX4_holds 114 = .ok (.iload 4, 2) := by decide +kernel
theorem dX4_holds_116 : decode cX4_holds 116 = .ok (.iload 7, 2) := by decide +kernel
theorem dX4_holds_118 : decode cX4_holds 118 = .ok (.ifCond .lt 20, 3) := by decide +kernel
theorem dX4_holds_121 : decode cX4_holds 121 = .ok (.iload 7, 2) := by decide +kernel
theorem dX4_holds_123 : decode cX4_holds 123 = .ok (.bipush 8, 2) := by decide +kernel
theorem dX4_holds_125 : decode cX4_holds 125 = .ok (.if_icmp .ge 13, 3) := by decide +kernel
theorem dX4_holds_128 : decode cX4_holds 128 = .ok (.aload_n 0, 1) := by decide +kernel
theorem dX4_holds_129 : decode cX4_holds 129 = .ok (.getfield 24, 3) := by decide +kernel
theorem dX4_holds_132 : decode cX4_holds 132 = .ok (.iload 7, 2) := by decide +kernel
theorem dX4_holds_134 : decode cX4_holds 134 = .ok (.iaload, 1) := by decide +kernel
theorem dX4_holds_135 : decode cX4_holds 135 = .ok (.goto 4, 3) := by decide +kernel
theorem dX4_holds_138 : decode cX4_holds 138 = .ok (.iconst 0, 1) := by decide +kernel
theorem dX4_holds_139 : decode cX4_holds 139 = .ok (.iadd, 1) := by decide +kernel
theorem dX4_holds_140 : decode cX4_holds 140 = .ok (.istore 4, 2) := by decide +kernel
theorem dX4_holds_142 : decode cX4_holds 142 = .ok (.goto 133, 3) := by decide +kernel
theorem dX4_holds_145 : decode cX4_holds 145 = .ok (.iload 4, 2) := by decide +kernel
theorem dX4_holds_147 : decode cX4_holds 147 = .ok (.istore 5, 2) := by decide +kernel
theorem dX4_holds_149 : decode cX4_holds 149 = .ok (.iconst 0, 1) := by decide +kernel
theorem dX4_holds_150 : decode cX4_holds 150 = .ok (.istore 4, 2) := by decide +kernel
theorem dX4_holds_152 : decode cX4_holds 152 = .ok (.goto 123, 3) := by decide +kernel
theorem dX4_holds_155 : decode cX4_holds 155 = .ok (.iload_n 3, 1) := by decide +kernel
theorem dX4_holds_156 : decode cX4_holds 156 = .ok (.iconst 1, 1) := by decide +kernel
theorem dX4_holds_157 : decode cX4_holds 157 = .ok (.ishl, 1) := by decide +kernel
theorem dX4_holds_158 : decode cX4_holds 158 = .ok (.iload 5, 2) := by decide +kernel
theorem dX4_holds_160 : decode cX4_holds 160 = .ok (.iload 4, 2) := by decide +kernel
theorem dX4_holds_162 : decode cX4_holds 162 = .ok (.if_icmp .ge 7, 3) := by decide +kernel
theorem dX4_holds_165 : decode cX4_holds 165 = .ok (.iconst 1, 1) := by decide +kernel
theorem dX4_holds_166 : decode cX4_holds 166 = .ok (.goto 4, 3) := by decide +kernel
theorem dX4_holds_169 : decode cX4_holds 169 = .ok (.iconst 0, 1) := by decide +kernel
theorem dX4_holds_170 : decode cX4_holds 170 = .ok (.ior, 1) := by decide +kernel
theorem dX4_holds_171 : decode cX4_holds 171 = .ok (.istore_n 3, 1) := by decide +kernel
theorem dX4_holds_172 : decode cX4_holds 172 = .ok (.iconst 0, 1) := by decide +kernel
theorem dX4_holds_173 : decode cX4_holds 173 = .ok (.istore 4, 2) := by decide +kernel
theorem dX4_holds_175 : decode cX4_holds 175 = .ok (.goto 100, 3) := by decide +kernel
theorem dX4_holds_178 : decode cX4_holds 178 = .ok (.iload_n 3, 1) := by decide +kernel
theorem dX4_holds_179 : decode cX4_holds 179 = .ok (.iconst 1, 1) := by decide +kernel
theorem dX4_holds_180 : decode cX4_holds 180 = .ok (.ishl, 1) := by decide +kernel
theorem dX4_holds_181 : decode cX4_holds 181 = .ok (.iload 5, 2) := by decide +kernel
theorem dX4_holds_183 : decode cX4_holds 183 = .ok (.iload 4, 2) := by decide +kernel
theorem dX4_holds_185 : decode cX4_holds 185 = .ok (.if_icmp .le 7, 3) := by decide +kernel
theorem dX4_holds_188 : decode cX4_holds 188 = .ok (.iconst 1, 1) := by decide +kernel
theorem dX4_holds_189 : decode cX4_holds 189 = .ok (.goto 4, 3) := by decide +kernel
theorem dX4_holds_192 : decode cX4_holds 192 = .ok (.iconst 0, 1) := by decide +kernel
theorem dX4_holds_193 : decode cX4_holds 193 = .ok (.ior, 1) := by decide +kernel
theorem dX4_holds_194 : decode cX4_holds 194 = .ok (.istore_n 3, 1) := by decide +kernel
theorem dX4_holds_195 : decode cX4_holds 195 = .ok (.iconst 0, 1) := by decide +kernel
theorem dX4_holds_196 : decode cX4_holds 196 = .ok (.istore 4, 2) := by decide +kernel
theorem dX4_holds_198 : decode cX4_holds 198 = .ok (.goto 77, 3) := by decide +kernel
theorem dX4_holds_201 : decode cX4_holds 201 = .ok (.iload_n 3, 1) := by decide +kernel
theorem dX4_holds_202 : decode cX4_holds 202 = .ok (.iconst 1, 1) := by decide +kernel
theorem dX4_holds_203 : decode cX4_holds 203 = .ok (.ishl, 1) := by decide +kernel
theorem dX4_holds_204 : decode cX4_holds 204 = .ok (.aload_n 0, 1) := by decide +kernel
theorem dX4_holds_205 : decode cX4_holds 205 = .ok (.getfield 24, 3) := by decide +kernel
theorem dX4_holds_208 : decode cX4_holds 208 = .ok (.iconst 1, 1) := by decide +kernel
theorem dX4_holds_209 : decode cX4_holds 209 = .ok (.iaload, 1) := by decide +kernel
theorem dX4_holds_210 : decode cX4_holds 210 = .ok (.iconst 4, 1) := by decide +kernel
theorem dX4_holds_211 : decode cX4_holds 211 = .ok (.irem, 1) := by decide +kernel
theorem dX4_holds_212 : decode cX4_holds 212 = .ok (.ifCond .ne 7, 3) := by decide +kernel
theorem dX4_holds_215 : decode cX4_holds 215 = .ok (.iconst 1, 1) := by decide +kernel
theorem dX4_holds_216 : decode cX4_holds 216 = .ok (.goto 4, 3) := by decide +kernel
theorem dX4_holds_219 : decode cX4_holds 219 = .ok (.iconst 0, 1) := by decide +kernel
theorem dX4_holds_220 : decode cX4_holds 220 = .ok (.ior, 1) := by decide +kernel
theorem dX4_holds_221 : decode cX4_holds 221 = .ok (.istore_n 3, 1) := by decide +kernel
theorem dX4_holds_222 : decode cX4_holds 222 = .ok (.goto 53, 3) := by decide +kernel
theorem dX4_holds_225 : decode cX4_holds 225 = .ok (.iload_n 3, 1) := by decide +kernel
theorem dX4_holds_226 : decode cX4_holds 226 = .ok (.iconst 1, 1) := by decide +kernel
theorem dX4_holds_227 : decode cX4_holds 227 = .ok (.ishl, 1) := by decide +kernel
theorem dX4_holds_228 : decode cX4_holds 228 = .ok (.aload_n 0, 1) := by decide +kernel
theorem dX4_holds_229 : decode cX4_holds 229 = .ok (.getfield 24, 3) := by decide +kernel
theorem dX4_holds_232 : decode cX4_holds 232 = .ok (.bipush 7, 2) := by decide +kernel
theorem dX4_holds_234 : decode cX4_holds 234 = .ok (.iaload, 1) := by decide +kernel
theorem dX4_holds_235 : decode cX4_holds 235 = .ok (.ifCond .le 7, 3) := by decide +kernel
theorem dX4_holds_238 : decode cX4_holds 238 = .ok (.iconst 1, 1) := by decide +kernel
theorem dX4_holds_239 : decode cX4_holds 239 = .ok (.goto 4, 3) := by decide +kernel
theorem dX4_holds_242 : decode cX4_holds 242 = .ok (.iconst 0, 1) := by decide +kernel
theorem dX4_holds_243 : decode cX4_holds 243 = .ok (.ior, 1) := by decide +kernel
theorem dX4_holds_244 : decode cX4_holds 244 = .ok (.istore_n 3, 1) := by decide +kernel
theorem dX4_holds_245 : decode cX4_holds 245 = .ok (.goto 30, 3) := by decide +kernel
theorem dX4_holds_248 : decode cX4_holds 248 = .ok (.iload_n 3, 1) := by decide +kernel
theorem dX4_holds_249 : decode cX4_holds 249 = .ok (.iconst 1, 1) := by decide +kernel
theorem dX4_holds_250 : decode cX4_holds 250 = .ok (.ixor, 1) := by decide +kernel
theorem dX4_holds_251 : decode cX4_holds 251 = .ok (.istore_n 3, 1) := by decide +kernel
theorem dX4_holds_252 : decode cX4_holds 252 = .ok (.goto 23, 3) := by decide +kernel
theorem dX4_holds_255 : decode cX4_holds 255 = .ok (.iload_n 3, 1) := by decide +kernel
theorem dX4_holds_256 : decode cX4_holds 256 = .ok (.iconst 1, 1) := by decide +kernel
theorem dX4_holds_257 : decode cX4_holds 257 = .ok (.ishr, 1) := by decide +kernel
theorem dX4_holds_258 : decode cX4_holds 258 = .ok (.iload_n 3, 1) := by decide +kernel
theorem dX4_holds_259 : decode cX4_holds 259 = .ok (.bipush (-2), 2) := by decide +kernel
theorem dX4_holds_261 : decode cX4_holds 261 = .ok (.ior, 1) := by decide +kernel
theorem dX4_holds_262 : decode cX4_holds 262 = .ok (.iand, 1) := by decide +kernel
theorem dX4_holds_263 : decode cX4_holds 263 = .ok (.istore_n 3, 1) := by decide +kernel
theorem dX4_holds_264 : decode cX4_holds 264 = .ok (.goto 11, 3) := by decide +kernel
theorem dX4_holds_267 : decode cX4_holds 267 = .ok (.iload_n 3, 1) := by decide +kernel
theorem dX4_holds_268 : decode cX4_holds 268 = .ok (.iconst 1, 1) := by decide +kernel
theorem dX4_holds_269 : decode cX4_holds 269 = .ok (.ishr, 1) := by decide +kernel
theorem dX4_holds_270 : decode cX4_holds 270 = .ok (.iload_n 3, 1) := by decide +kernel
theorem dX4_holds_271 : decode cX4_holds 271 = .ok (.iconst 1, 1) := by decide +kernel
theorem dX4_holds_272 : decode cX4_holds 272 = .ok (.iand, 1) := by decide +kernel
theorem dX4_holds_273 : decode cX4_holds 273 = .ok (.ior, 1) := by decide +kernel
theorem dX4_holds_274 : decode cX4_holds 274 = .ok (.istore_n 3, 1) := by decide +kernel
theorem dX4_holds_275 : decode cX4_holds 275 = .ok (.iinc 6 1, 3) := by decide +kernel
theorem dX4_holds_278 : decode cX4_holds 278 = .ok (.goto (-267), 3) := by decide +kernel
theorem dX4_holds_281 : decode cX4_holds 281 = .ok (.iload_n 3, 1) := by decide +kernel
theorem dX4_holds_282 : decode cX4_holds 282 = .ok (.iconst 1, 1) := by decide +kernel
theorem dX4_holds_283 : decode cX4_holds 283 = .ok (.iand, 1) := by decide +kernel
theorem dX4_holds_284 : decode cX4_holds 284 = .ok (.ifCond .eq 7, 3) := by decide +kernel
theorem dX4_holds_287 : decode cX4_holds 287 = .ok (.iconst 1, 1) := by decide +kernel
theorem dX4_holds_288 : decode cX4_holds 288 = .ok (.goto 4, 3) := by decide +kernel
theorem dX4_holds_291 : decode cX4_holds 291 = .ok (.iconst 0, 1) := by decide +kernel
theorem dX4_holds_292 : decode cX4_holds 292 = .ok (.ireturn, 1) := by decide +kernel
theorem dX5_readInto_0 : decode cX5_readInto 0 = .ok (.aload_n 1, 1) := by decide +kernel
theorem dX5_readInto_1 : decode cX5_readInto 1 = .ok (.invokevirtual 9, 3) := by decide +kernel
theorem dX5_readInto_4 : decode cX5_readInto 4 = .ok (.iconst 0, 1) := by decide +kernel
theorem dX5_readInto_5 : decode cX5_readInto 5 = .ok (.istore_n 2, 1) := by decide +kernel
theorem dX5_readInto_6 : decode cX5_readInto 6 = .ok (.iload_n 2, 1) := by decide +kernel
theorem dX5_readInto_7 : decode cX5_readInto 7 = .ok (.bipush 12, 2) := by decide +kernel
theorem dX5_readInto_9 : decode cX5_readInto 9 = .ok (.if_icmp .gt 24, 3) := by decide +kernel
theorem dX5_readInto_12 : decode cX5_readInto 12 = .ok (.aload_n 0, 1) := by decide +kernel
theorem dX5_readInto_13 : decode cX5_readInto 13 = .ok (.iload_n 2, 1) := by decide +kernel
theorem dX5_readInto_14 : decode cX5_readInto 14 = .ok (.bipush 12, 2) := by decide +kernel
theorem dX5_readInto_16 : decode cX5_readInto 16 = .ok (.invokevirtual 14, 3) := by decide +kernel
theorem dX5_readInto_19 : decode cX5_readInto 19 = .ok (.ifCond .eq 14, 3) := by decide +kernel
theorem dX5_readInto_22 : decode cX5_readInto 22 = .ok (.aload_n 0, 1) := by decide +kernel
theorem dX5_readInto_23 : decode cX5_readInto 23 = .ok (.aload_n 1, 1) := by decide +kernel
theorem dX5_readInto_24 : decode cX5_readInto 24 = .ok (.invokestatic 20, 3) := by decide +kernel
theorem dX5_readInto_27 : decode cX5_readInto 27 = .ok (.iinc 2 1, 3) := by decide +kernel
theorem dX5_readInto_30 : decode cX5_readInto 30 = .ok (.goto (-24), 3) := by decide +kernel
theorem dX5_readInto_33 : decode cX5_readInto 33 = .ok (.aload_n 0, 1) := by decide +kernel
theorem dX5_readInto_34 : decode cX5_readInto 34 = .ok (.getfield 26, 3) := by decide +kernel
theorem dX5_readInto_37 : decode cX5_readInto 37 = .ok (.ireturn, 1) := by decide +kernel
theorem dX5_readLine_0 : decode cX5_readLine 0 = .ok (.iconst 2, 1) := by decide +kernel
theorem dX5_readLine_1 : decode cX5_readLine 1 = .ok (.istore_n 2, 1) := by decide +kernel
theorem dX5_readLine_2 : decode cX5_readLine 2 = .ok (.iconst 0, 1) := by decide +kernel
theorem dX5_readLine_3 : decode cX5_readLine 3 = .ok (.istore_n 3, 1) := by decide +kernel
theorem dX5_readLine_4 : decode cX5_readLine 4 = .ok (.aload_n 0, 1) := by decide +kernel
theorem dX5_readLine_5 : decode cX5_readLine 5 = .ok (.ldc 30, 2) := by decide +kernel
theorem dX5_readLine_7 : decode cX5_readLine 7 = .ok (.invokevirtual 32, 3) := by decide +kernel
theorem dX5_readLine_10 : decode cX5_readLine 10 = .ok (.ifCond .eq 15, 3) := by decide +kernel
theorem dX5_readLine_13 : decode cX5_readLine 13 = .ok (.iconst 0, 1) := by decide +kernel
theorem dX5_readLine_14 : decode cX5_readLine 14 = .ok (.istore_n 2, 1) := by decide +kernel
theorem dX5_readLine_15 : decode cX5_readLine 15 = .ok (.aload_n 0, 1) := by decide +kernel
theorem dX5_readLine_16 : decode cX5_readLine 16 = .ok (.bipush 20, 2) := by decide +kernel
theorem dX5_readLine_18 : decode cX5_readLine 18 = .ok (.invokevirtual 36, 3) := by decide +kernel
theorem dX5_readLine_21 : decode cX5_readLine 21 = .ok (.istore_n 3, 1) := by decide +kernel
theorem dX5_readLine_22 : decode cX5_readLine 22 = .ok (.goto 30, 3) := by decide +kernel
theorem dX5_readLine_25 : decode cX5_readLine 25 = .ok (.aload_n 0, 1) := by decide +kernel
theorem dX5_readLine_26 : decode cX5_readLine 26 = .ok (.ldc 40, 2) := by decide +kernel
theorem dX5_readLine_28 : decode cX5_readLine 28 = .ok (.invokevirtual 32, 3) := by decide +kernel
theorem dX5_readLine_31 : decode cX5_readLine 31 = .ok (.ifCond .eq 15, 3) := by decide +kernel
theorem dX5_readLine_34 : decode cX5_readLine 34 = .ok (.iconst 1, 1) := by decide +kernel
theorem dX5_readLine_35 : decode cX5_readLine 35 = .ok (.istore_n 2, 1) := by decide +kernel
theorem dX5_readLine_36 : decode cX5_readLine 36 = .ok (.aload_n 0, 1) := by decide +kernel
theorem dX5_readLine_37 : decode cX5_readLine 37 = .ok (.bipush 20, 2) := by decide +kernel
theorem dX5_readLine_39 : decode cX5_readLine 39 = .ok (.invokevirtual 36, 3) := by decide +kernel
theorem dX5_readLine_42 : decode cX5_readLine 42 = .ok (.istore_n 3, 1) := by decide +kernel
theorem dX5_readLine_43 : decode cX5_readLine 43 = .ok (.goto 9, 3) := by decide +kernel
theorem dX5_readLine_46 : decode cX5_readLine 46 = .ok (.aload_n 0, 1) := by decide +kernel
theorem dX5_readLine_47 : decode cX5_readLine 47 = .ok (.ldc 42, 2) := by decide +kernel
theorem dX5_readLine_49 : decode cX5_readLine 49 = .ok (.invokevirtual 44, 3) := by decide +kernel
theorem dX5_readLine_52 : decode cX5_readLine 52 = .ok (.aload_n 0, 1) := by decide +kernel
theorem dX5_readLine_53 : decode cX5_readLine 53 = .ok (.invokevirtual 48, 3) := by decide +kernel
theorem dX5_readLine_56 : decode cX5_readLine 56 = .ok (.ifCond .eq 18, 3) := by decide +kernel
theorem dX5_readLine_59 : decode cX5_readLine 59 = .ok (.aload_n 0, 1) := by decide +kernel
theorem dX5_readLine_60 : decode cX5_readLine 60 = .ok (.ldc 52, 2) := by decide +kernel
theorem dX5_readLine_62 : decode cX5_readLine 62 = .ok (.invokevirtual 32, 3) := by decide +kernel
theorem dX5_readLine_65 : decode cX5_readLine 65 = .ok (.ifCond .eq 9, 3) := by decide +kernel
theorem dX5_readLine_68 : decode cX5_readLine 68 = .ok (.aload_n 0, 1) := by decide +kernel
theorem dX5_readLine_69 : decode cX5_readLine 69 = .ok (.aload_n 1, 1) := by decide +kernel
theorem dX5_readLine_70 : decode cX5_readLine 70 = .ok (.iconst 0, 1) := by decide +kernel
theorem dX5_readLine_71 : decode cX5_readLine 71 = .ok (.invokestatic 54, 3) := by decide +kernel
theorem dX5_readLine_74 : decode cX5_readLine 74 = .ok (.aload_n 1, 1) := by decide +kernel
theorem dX5_readLine_75 : decode cX5_readLine 75 = .ok (.iload_n 2, 1) := by decide +kernel
theorem dX5_readLine_76 : decode cX5_readLine 76 = .ok (.iload_n 3, 1) := by decide +kernel
theorem dX5_readLine_77 : decode cX5_readLine 77 = .ok (.invokevirtual 58, 3) := by decide +kernel
theorem dX5_readLine_80 : decode cX5_readLine 80 = .ok (.return_, 1) := by decide +kernel
theorem dX5_readAny_0 : decode cX5_readAny 0 = .ok (.iconst 0, 1) := by decide +kernel
theorem dX5_readAny_1 : decode cX5_readAny 1 = .ok (.istore_n 3, 1) := by decide +kernel
theorem dX5_readAny_2 : decode cX5_readAny 2 = .ok (.iload_n 3, 1) := by decide +kernel
theorem dX5_readAny_3 : decode cX5_readAny 3 = .ok (.sipush 400, 3) := by decide +kernel
theorem dX5_readAny_6 : decode cX5_readAny 6 = .ok (.if_icmp .ge 96, 3) := by decide +kernel
theorem dX5_readAny_9 : decode cX5_readAny 9 = .ok (.aload_n 0, 1) := by decide +kernel
theorem dX5_readAny_10 : decode cX5_readAny 10 = .ok (.invokevirtual 48, 3) := by decide +kernel
theorem dX5_readAny_13 : decode cX5_readAny 13 = .ok (.ifCond .eq 89, 3) := by decide +kernel
theorem dX5_readAny_16 : decode cX5_readAny 16 = .ok (.iload_n 3, 1) := by decide +kernel
theorem dX5_readAny_17 : decode cX5_readAny 17 = .ok (.ifCond .eq 12, 3) := by decide +kernel
theorem dX5_readAny_20 : decode cX5_readAny 20 = .ok (.aload_n 0, 1) := by decide +kernel
theorem dX5_readAny_21 : decode cX5_readAny 21 = .ok (.ldc 62, 2) := by decide +kernel
theorem dX5_readAny_23 : decode cX5_readAny 23 = .ok (.invokevirtual 32, 3) := by decide +kernel
theorem dX5_readAny_26 : decode cX5_readAny 26 = .ok (.ifCond .eq 76, 3) := by decide +kernel
theorem dX5_readAny_29 : decode cX5_readAny 29 = .ok (.iconst 0, 1) := by decide +kernel
theorem dX5_readAny_30 : decode cX5_readAny 30 = .ok (.istore 4, 2) := by decide +kernel
theorem dX5_readAny_32 : decode cX5_readAny 32 = .ok (.iload 4, 2) := by decide +kernel
theorem dX5_readAny_34 : decode cX5_readAny 34 = .ok (.sipush 400, 3) := by decide +kernel
theorem dX5_readAny_37 : decode cX5_readAny 37 = .ok (.if_icmp .ge 48, 3) := by decide +kernel
theorem dX5_readAny_40 : decode cX5_readAny 40 = .ok (.aload_n 0, 1) := by decide +kernel
theorem dX5_readAny_41 : decode cX5_readAny 41 = .ok (.invokevirtual 48, 3) := by decide +kernel
theorem dX5_readAny_44 : decode cX5_readAny 44 = .ok (.ifCond .eq 41, 3) := by decide +kernel
theorem dX5_readAny_47 : decode cX5_readAny 47 = .ok (.iload 4, 2) := by decide +kernel
theorem dX5_readAny_49 : decode cX5_readAny 49 = .ok (.ifCond .eq 12, 3) := by decide +kernel
theorem dX5_readAny_52 : decode cX5_readAny 52 = .ok (.aload_n 0, 1) := by decide +kernel
theorem dX5_readAny_53 : decode cX5_readAny 53 = .ok (.ldc 64, 2) := by decide +kernel
theorem dX5_readAny_55 : decode cX5_readAny 55 = .ok (.invokevirtual 32, 3) := by decide +kernel
theorem dX5_readAny_58 : decode cX5_readAny 58 = .ok (.ifCond .eq 27, 3) := by decide +kernel
theorem dX5_readAny_61 : decode cX5_readAny 61 = .ok (.aload_n 0, 1) := by decide +kernel
theorem dX5_readAny_62 : decode cX5_readAny 62 = .ok (.aload_n 1, 1) := by decide +kernel
theorem dX5_readAny_63 : decode cX5_readAny 63 = .ok (.iload_n 2, 1) := by decide +kernel
theorem dX5_readAny_64 : decode cX5_readAny 64 = .ok (.invokestatic 66, 3) := by decide +kernel
theorem dX5_readAny_67 : decode cX5_readAny 67 = .ok (.iload 4, 2) := by decide +kernel
theorem dX5_readAny_69 : decode cX5_readAny 69 = .ok (.ifCond .le 10, 3) := by decide +kernel
theorem dX5_readAny_72 : decode cX5_readAny 72 = .ok (.aload_n 1, 1) := by decide +kernel
theorem dX5_readAny_73 : decode cX5_readAny 73 = .ok (.bipush 8, 2) := by decide +kernel
theorem dX5_readAny_75 : decode cX5_readAny 75 = .ok (.iconst 0, 1) := by decide +kernel
theorem dX5_readAny_76 : decode cX5_readAny 76 = .ok (.invokevirtual 69, 3) := by decide +kernel
theorem dX5_readAny_79 : decode cX5_readAny 79 = .ok (.iinc 4 1, 3) := by decide +kernel
theorem dX5_readAny_82 : decode cX5_readAny 82 = .ok (.goto (-50), 3) := by decide +kernel
theorem dX5_readAny_85 : decode cX5_readAny 85 = .ok (.iload_n 3, 1) := by decide +kernel
theorem dX5_readAny_86 : decode cX5_readAny 86 = .ok (.ifCond .le 10, 3) := by decide +kernel
theorem dX5_readAny_89 : decode cX5_readAny 89 = .ok (.aload_n 1, 1) := by decide +kernel
theorem dX5_readAny_90 : decode cX5_readAny 90 = .ok (.bipush 9, 2) := by decide +kernel
theorem dX5_readAny_92 : decode cX5_readAny 92 = .ok (.iconst 0, 1) := by decide +kernel
theorem dX5_readAny_93 : decode cX5_readAny 93 = .ok (.invokevirtual 69, 3) := by decide +kernel
theorem dX5_readAny_96 : decode cX5_readAny 96 = .ok (.iinc 3 1, 3) := by decide +kernel
theorem dX5_readAny_99 : decode cX5_readAny 99 = .ok (.goto (-97), 3) := by decide +kernel
theorem dX5_readAny_102 : decode cX5_readAny 102 = .ok (.return_, 1) := by decide +kernel
theorem dX5_readAtom_0 : decode cX5_readAtom 0 = .ok (.aload_n 0, 1) := by decide +kernel
theorem dX5_readAtom_1 : decode cX5_readAtom 1 = .ok (.bipush 40, 2) := by decide +kernel
theorem dX5_readAtom_3 : decode cX5_readAtom 3 = .ok (.invokevirtual 72, 3) := by decide +kernel
theorem dX5_readAtom_6 : decode cX5_readAtom 6 = .ok (.istore_n 3, 1) := by decide +kernel
theorem dX5_readAtom_7 : decode cX5_readAtom 7 = .ok (.iload_n 3, 1) := by decide +kernel
theorem dX5_readAtom_8 : decode cX5_readAtom 8 = .ok (.ifCond .ne 12, 3) := by decide +kernel
theorem dX5_readAtom_11 : decode cX5_readAtom 11 = .ok (.aload_n 0, 1) := by decide +kernel
theorem dX5_readAtom_12 : decode cX5_readAtom 12 = .ok (.ldc 76, 2) := by decide +kernel
theorem dX5_readAtom_14 : decode cX5_readAtom 14 = .ok (.invokevirtual 78, 3) := by decide +kernel
theorem dX5_readAtom_17 : decode cX5_readAtom 17 = .ok (.ifCond .eq 57, 3) := by decide +kernel
theorem dX5_readAtom_20 : decode cX5_readAtom 20 = .ok (.iload_n 2, 1) := by decide +kernel
theorem dX5_readAtom_21 : decode cX5_readAtom 21 = .ok (.bipush 6, 2) := by decide +kernel
theorem dX5_readAtom_23 : decode cX5_readAtom 23 = .ok (.if_icmp .lt 8, 3) := by decide +kernel
theorem dX5_readAtom_26 : decode cX5_readAtom 26 = .ok (.aload_n 0, 1) := by decide +kernel
theorem dX5_readAtom_27 : decode cX5_readAtom 27 = .ok (.invokevirtual 81, 3) := by decide +kernel
theorem dX5_readAtom_30 : decode cX5_readAtom 30 = .ok (.return_, 1) := by decide +kernel
theorem dX5_readAtom_31 : decode cX5_readAtom 31 = .ok (.aload_n 0, 1) := by decide +kernel
theorem dX5_readAtom_32 : decode cX5_readAtom 32 = .ok (.invokevirtual 84, 3) := by decide +kernel
theorem dX5_readAtom_35 : decode cX5_readAtom 35 = .ok (.iload_n 3, 1) := by decide +kernel
theorem dX5_readAtom_36 : decode cX5_readAtom 36 = .ok (.ifCond .eq 20, 3) := by decide +kernel
theorem dX5_readAtom_39 : decode cX5_readAtom 39 = .ok (.aload_n 0, 1) := by decide +kernel
theorem dX5_readAtom_40 : decode cX5_readAtom 40 = .ok (.aload_n 1, 1) := by decide +kernel
theorem dX5_readAtom_41 : decode cX5_readAtom 41 = .ok (.iload_n 2, 1) := by decide +kernel
theorem dX5_readAtom_42 : decode cX5_readAtom 42 = .ok (.iconst 1, 1) := by decide +kernel
theorem dX5_readAtom_43 : decode cX5_readAtom 43 = .ok (.iadd, 1) := by decide +kernel
theorem dX5_readAtom_44 : decode cX5_readAtom 44 = .ok (.invokestatic 54, 3) := by decide +kernel
theorem dX5_readAtom_47 : decode cX5_readAtom 47 = .ok (.aload_n 0, 1) := by decide +kernel
theorem dX5_readAtom_48 : decode cX5_readAtom 48 = .ok (.bipush 41, 2) := by decide +kernel
theorem dX5_readAtom_50 : decode cX5_readAtom 50 = .ok (.invokevirtual 87, 3) := by decide +kernel
theorem dX5_readAtom_53 : decode cX5_readAtom 53 = .ok (.goto 113, 3) := by decide +kernel
theorem dX5_readAtom_56 : decode cX5_readAtom 56 = .ok (.aload_n 0, 1) := by decide +kernel
theorem dX5_readAtom_57 : decode cX5_readAtom 57 = .ok (.aload_n 1, 1) := by decide +kernel
theorem dX5_readAtom_58 : decode cX5_readAtom 58 = .ok (.iload_n 2, 1) := by decide +kernel
theorem dX5_readAtom_59 : decode cX5_readAtom 59 = .ok (.iconst 1, 1) := by decide +kernel
theorem dX5_readAtom_60 : decode cX5_readAtom 60 = .ok (.iadd, 1) := by decide +kernel
theorem dX5_readAtom_61 : decode cX5_readAtom 61 = .ok (.invokestatic 66, 3) := by decide +kernel
theorem dX5_readAtom_64 : decode cX5_readAtom 64 = .ok (.aload_n 1, 1) := by decide +kernel
theorem dX5_readAtom_65 : decode cX5_readAtom 65 = .ok (.bipush 7, 2) := by decide +kernel
theorem dX5_readAtom_67 : decode cX5_readAtom 67 = .ok (.iconst 0, 1) := by decide +kernel
theorem dX5_readAtom_68 : decode cX5_readAtom 68 = .ok (.invokevirtual 69, 3) := by decide +kernel
theorem dX5_readAtom_71 : decode cX5_readAtom 71 = .ok (.goto 95, 3) := by decide +kernel
theorem dX5_readAtom_74 : decode cX5_readAtom 74 = .ok (.aload_n 0, 1) := by decide +kernel
theorem dX5_readAtom_75 : decode cX5_readAtom 75 = .ok (.ldc 91, 2) := by decide +kernel
theorem dX5_readAtom_77 : decode cX5_readAtom 77 = .ok (.invokevirtual 32, 3) := by decide +kernel
theorem dX5_readAtom_80 : decode cX5_readAtom 80 = .ok (.ifCond .eq 12, 3) := by decide +kernel
theorem dX5_readAtom_83 : decode cX5_readAtom 83 = .ok (.aload_n 1, 1) := by decide +kernel
theorem dX5_readAtom_84 : decode cX5_readAtom 84 = .ok (.iconst 5, 1) := by decide +kernel
theorem dX5_readAtom_85 : decode cX5_readAtom 85 = .ok (.iconst 0, 1) := by decide +kernel
theorem dX5_readAtom_86 : decode cX5_readAtom 86 = .ok (.invokevirtual 69, 3) := by decide +kernel
theorem dX5_readAtom_89 : decode cX5_readAtom 89 = .ok (.goto 77, 3) := by decide +kernel
theorem dX5_readAtom_92 : decode cX5_readAtom 92 = .ok (.aload_n 0, 1) := by decide +kernel
theorem dX5_readAtom_93 : decode cX5_readAtom 93 = .ok (.ldc 93, 2) := by decide +kernel
theorem dX5_readAtom_95 : decode cX5_readAtom 95 = .ok (.invokevirtual 32, 3) := by decide +kernel
theorem dX5_readAtom_98 : decode cX5_readAtom 98 = .ok (.ifCond .eq 13, 3) := by decide +kernel
theorem dX5_readAtom_101 : decode cX5_readAtom 101 = .ok (.aload_n 1, 1) := by decide +kernel
theorem dX5_readAtom_102 : decode cX5_readAtom 102 = .ok (.bipush 6, 2) := by decide +kernel
theorem dX5_readAtom_104 : decode cX5_readAtom 104 = .ok (.iconst 0, 1) := by decide +kernel
theorem dX5_readAtom_105 : decode cX5_readAtom 105 = .ok (.invokevirtual 69, 3) := by decide +kernel
theorem dX5_readAtom_108 : decode cX5_readAtom 108 = .ok (.goto 58, 3) := by decide +kernel
theorem dX5_readAtom_111 : decode cX5_readAtom 111 = .ok (.aload_n 0, 1) := by decide +kernel
theorem dX5_readAtom_112 : decode cX5_readAtom 112 = .ok (.aload_n 1, 1) := by decide +kernel
theorem dX5_readAtom_113 : decode cX5_readAtom 113 = .ok (.invokestatic 95, 3) := by decide +kernel
theorem dX5_readAtom_116 : decode cX5_readAtom 116 = .ok (.aload_n 0, 1) := by decide +kernel
theorem dX5_readAtom_117 : decode cX5_readAtom 117 = .ok (.bipush 60, 2) := by decide +kernel
theorem dX5_readAtom_119 : decode cX5_readAtom 119 = .ok (.invokevirtual 72, 3) := by decide +kernel
theorem dX5_readAtom_122 : decode cX5_readAtom 122 = .ok (.istore 4, 2) := by decide +kernel
theorem dX5_readAtom_124 : decode cX5_readAtom 124 = .ok (.aload_n 0, 1) := by decide +kernel
theorem dX5_readAtom_125 : decode cX5_readAtom 125 = .ok (.iload 4, 2) := by decide +kernel
theorem dX5_readAtom_127 : decode cX5_readAtom 127 = .ok (.ifCond .eq 8, 3) := by decide +kernel
theorem dX5_readAtom_130 : decode cX5_readAtom 130 = .ok (.bipush 60, 2) := by decide +kernel
theorem dX5_readAtom_132 : decode cX5_readAtom 132 = .ok (.goto 5, 3) := by decide +kernel
theorem dX5_readAtom_135 : decode cX5_readAtom 135 = .ok (.bipush 62, 2) := by decide +kernel
theorem dX5_readAtom_137 : decode cX5_readAtom 137 = .ok (.invokevirtual 87, 3) := by decide +kernel
theorem dX5_readAtom_140 : decode cX5_readAtom 140 = .ok (.aload_n 1, 1) := by decide +kernel
theorem dX5_readAtom_141 : decode cX5_readAtom 141 = .ok (.iconst 2, 1) := by decide +kernel
theorem dX5_readAtom_142 : decode cX5_readAtom 142 = .ok (.iconst 0, 1) := by decide +kernel
theorem dX5_readAtom_143 : decode cX5_readAtom 143 = .ok (.invokevirtual 69, 3) := by decide +kernel
theorem dX5_readAtom_146 : decode cX5_readAtom 146 = .ok (.aload_n 0, 1) := by decide +kernel
theorem dX5_readAtom_147 : decode cX5_readAtom 147 = .ok (.aload_n 1, 1) := by decide +kernel
theorem dX5_readAtom_148 : decode cX5_readAtom 148 = .ok (.invokestatic 95, 3) := by decide +kernel
theorem dX5_readAtom_151 : decode cX5_readAtom 151 = .ok (.aload_n 1, 1) := by decide +kernel
theorem dX5_readAtom_152 : decode cX5_readAtom 152 = .ok (.iload 4, 2) := by decide +kernel
theorem dX5_readAtom_154 : decode cX5_readAtom 154 = .ok (.ifCond .eq 7, 3) := by decide +kernel
theorem dX5_readAtom_157 : decode cX5_readAtom 157 = .ok (.iconst 3, 1) := by decide +kernel
theorem dX5_readAtom_158 : decode cX5_readAtom 158 = .ok (.goto 4, 3) := by decide +kernel
theorem dX5_readAtom_161 : decode cX5_readAtom 161 = .ok (.iconst 4, 1) := by decide +kernel
theorem dX5_readAtom_162 : decode cX5_readAtom 162 = .ok (.iconst 0, 1) := by decide +kernel
theorem dX5_readAtom_163 : decode cX5_readAtom 163 = .ok (.invokevirtual 69, 3) := by decide +kernel
theorem dX5_readAtom_166 : decode cX5_readAtom 166 = .ok (.return_, 1) := by decide +kernel
theorem dX5_readSum_0 : decode cX5_readSum 0 = .ok (.iconst 0, 1) := by decide +kernel
theorem dX5_readSum_1 : decode cX5_readSum 1 = .ok (.istore_n 2, 1) := by decide +kernel
theorem dX5_readSum_2 : decode cX5_readSum 2 = .ok (.iload_n 2, 1) := by decide +kernel
theorem dX5_readSum_3 : decode cX5_readSum 3 = .ok (.sipush 400, 3) := by decide +kernel
theorem dX5_readSum_6 : decode cX5_readSum 6 = .ok (.if_icmp .ge 78, 3) := by decide +kernel
theorem dX5_readSum_9 : decode cX5_readSum 9 = .ok (.aload_n 0, 1) := by decide +kernel
theorem dX5_readSum_10 : decode cX5_readSum 10 = .ok (.invokevirtual 48, 3) := by decide +kernel
theorem dX5_readSum_13 : decode cX5_readSum 13 = .ok (.ifCond .eq 71, 3) := by decide +kernel
theorem dX5_readSum_16 : decode cX5_readSum 16 = .ok (.iload_n 2, 1) := by decide +kernel
theorem dX5_readSum_17 : decode cX5_readSum 17 = .ok (.ifCond .eq 12, 3) := by decide +kernel
theorem dX5_readSum_20 : decode cX5_readSum 20 = .ok (.aload_n 0, 1) := by decide +kernel
theorem dX5_readSum_21 : decode cX5_readSum 21 = .ok (.bipush 43, 2) := by decide +kernel
theorem dX5_readSum_23 : decode cX5_readSum 23 = .ok (.invokevirtual 98, 3) := by decide +kernel
theorem dX5_readSum_26 : decode cX5_readSum 26 = .ok (.ifCond .eq 58, 3) := by decide +kernel
theorem dX5_readSum_29 : decode cX5_readSum 29 = .ok (.aload_n 0, 1) := by decide +kernel
theorem dX5_readSum_30 : decode cX5_readSum 30 = .ok (.invokestatic 101, 3) := by decide +kernel
theorem dX5_readSum_33 : decode cX5_readSum 33 = .ok (.istore_n 3, 1) := by decide +kernel
theorem dX5_readSum_34 : decode cX5_readSum 34 = .ok (.aload_n 0, 1) := by decide +kernel
theorem dX5_readSum_35 : decode cX5_readSum 35 = .ok (.invokevirtual 105, 3) := by decide +kernel
theorem dX5_readSum_38 : decode cX5_readSum 38 = .ok (.ifCond .eq 18, 3) := by decide +kernel
theorem dX5_readSum_41 : decode cX5_readSum 41 = .ok (.aload_n 1, 1) := by decide +kernel
theorem dX5_readSum_42 : decode cX5_readSum 42 = .ok (.iconst 0, 1) := by decide +kernel
theorem dX5_readSum_43 : decode cX5_readSum 43 = .ok (.aload_n 0, 1) := by decide +kernel
theorem dX5_readSum_44 : decode cX5_readSum 44 = .ok (.sipush 999, 3) := by decide +kernel
theorem dX5_readSum_47 : decode cX5_readSum 47 = .ok (.invokevirtual 36, 3) := by decide +kernel
theorem dX5_readSum_50 : decode cX5_readSum 50 = .ok (.invokevirtual 69, 3) := by decide +kernel
theorem dX5_readSum_53 : decode cX5_readSum 53 = .ok (.goto 25, 3) := by decide +kernel
theorem dX5_readSum_56 : decode cX5_readSum 56 = .ok (.iload_n 3, 1) := by decide +kernel
theorem dX5_readSum_57 : decode cX5_readSum 57 = .ok (.iconst (-1), 1) := by decide +kernel
theorem dX5_readSum_58 : decode cX5_readSum 58 = .ok (.if_icmp .eq 16, 3) := by decide +kernel
theorem dX5_readSum_61 : decode cX5_readSum 61 = .ok (.aload_n 1, 1) := by decide +kernel
theorem dX5_readSum_62 : decode cX5_readSum 62 = .ok (.iconst 1, 1) := by decide +kernel
theorem dX5_readSum_63 : decode cX5_readSum 63 = .ok (.iload_n 3, 1) := by decide +kernel
theorem dX5_readSum_64 : decode cX5_readSum 64 = .ok (.invokevirtual 69, 3) := by decide +kernel
theorem dX5_readSum_67 : decode cX5_readSum 67 = .ok (.aload_n 0, 1) := by decide +kernel
theorem dX5_readSum_68 : decode cX5_readSum 68 = .ok (.invokevirtual 84, 3) := by decide +kernel
theorem dX5_readSum_71 : decode cX5_readSum 71 = .ok (.goto 7, 3) := by decide +kernel
theorem dX5_readSum_74 : decode cX5_readSum 74 = .ok (.aload_n 0, 1) := by decide +kernel
theorem dX5_readSum_75 : decode cX5_readSum 75 = .ok (.invokevirtual 81, 3) := by decide +kernel
theorem dX5_readSum_78 : decode cX5_readSum 78 = .ok (.iinc 2 1, 3) := by decide +kernel
theorem dX5_readSum_81 : decode cX5_readSum 81 = .ok (.goto (-79), 3) := by decide +kernel
theorem dX5_readSum_84 : decode cX5_readSum 84 = .ok (.return_, 1) := by decide +kernel
theorem dX5_partHere_0 : decode cX5_partHere 0 = .ok (.aload_n 0, 1) := by decide +kernel
theorem dX5_partHere_1 : decode cX5_partHere 1 = .ok (.ldc 108, 2) := by decide +kernel
theorem dX5_partHere_3 : decode cX5_partHere 3 = .ok (.invokevirtual 78, 3) := by decide +kernel
theorem dX5_partHere_6 : decode cX5_partHere 6 = .ok (.ifCond .eq 5, 3) := by decide +kernel
theorem dX5_partHere_9 : decode cX5_partHere 9 = .ok (.iconst 0, 1) := by decide +kernel
theorem dX5_partHere_10 : decode cX5_partHere 10 = .ok (.ireturn, 1) := by decide +kernel
theorem dX5_partHere_11 : decode cX5_partHere 11 = .ok (.aload_n 0, 1) := by decide +kernel
theorem dX5_partHere_12 : decode cX5_partHere 12 = .ok (.ldc 110, 2) := by decide +kernel
theorem dX5_partHere_14 : decode cX5_partHere 14 = .ok (.invokevirtual 78, 3) := by decide +kernel
theorem dX5_partHere_17 : decode cX5_partHere 17 = .ok (.ifCond .eq 5, 3) := by decide +kernel
theorem dX5_partHere_20 : decode cX5_partHere 20 = .ok (.iconst 1, 1) := by decide +kernel
theorem dX5_partHere_21 : decode cX5_partHere 21 = .ok (.ireturn, 1) := by decide +kernel
theorem dX5_partHere_22 : decode cX5_partHere 22 = .ok (.aload_n 0, 1) := by decide +kernel
theorem dX5_partHere_23 : decode cX5_partHere 23 = .ok (.ldc 112, 2) := by decide +kernel
theorem dX5_partHere_25 : decode cX5_partHere 25 = .ok (.invokevirtual 78, 3) := by decide +kernel
theorem dX5_partHere_28 : decode cX5_partHere 28 = .ok (.ifCond .eq 5, 3) := by decide +kernel
theorem dX5_partHere_31 : decode cX5_partHere 31 = .ok (.iconst 2, 1) := by decide +kernel
theorem dX5_partHere_32 : decode cX5_partHere 32 = .ok (.ireturn, 1) := by decide +kernel
theorem dX5_partHere_33 : decode cX5_partHere 33 = .ok (.aload_n 0, 1) := by decide +kernel
theorem dX5_partHere_34 : decode cX5_partHere 34 = .ok (.ldc 114, 2) := by decide +kernel
theorem dX5_partHere_36 : decode cX5_partHere 36 = .ok (.invokevirtual 78, 3) := by decide +kernel
theorem dX5_partHere_39 : decode cX5_partHere 39 = .ok (.ifCond .eq 5, 3) := by decide +kernel
theorem dX5_partHere_42 : decode cX5_partHere 42 = .ok (.iconst 3, 1) := by decide +kernel
theorem dX5_partHere_43 : decode cX5_partHere 43 = .ok (.ireturn, 1) := by decide +kernel
theorem dX5_partHere_44 : decode cX5_partHere 44 = .ok (.aload_n 0, 1) := by decide +kernel
theorem dX5_partHere_45 : decode cX5_partHere 45 = .ok (.ldc 116, 2) := by decide +kernel
theorem dX5_partHere_47 : decode cX5_partHere 47 = .ok (.invokevirtual 78, 3) := by decide +kernel
theorem dX5_partHere_50 : decode cX5_partHere 50 = .ok (.ifCond .eq 5, 3) := by decide +kernel
theorem dX5_partHere_53 : decode cX5_partHere 53 = .ok (.iconst 4, 1) := by decide +kernel
theorem dX5_partHere_54 : decode cX5_partHere 54 = .ok (.ireturn, 1) := by decide +kernel
theorem dX5_partHere_55 : decode cX5_partHere 55 = .ok (.aload_n 0, 1) := by decide +kernel
theorem dX5_partHere_56 : decode cX5_partHere 56 = .ok (.ldc 118, 2) := by decide +kernel
theorem dX5_partHere_58 : decode cX5_partHere 58 = .ok (.invokevirtual 78, 3) := by decide +kernel
theorem dX5_partHere_61 : decode cX5_partHere 61 = .ok (.ifCond .eq 5, 3) := by decide +kernel
theorem dX5_partHere_64 : decode cX5_partHere 64 = .ok (.iconst 5, 1) := by decide +kernel
theorem dX5_partHere_65 : decode cX5_partHere 65 = .ok (.ireturn, 1) := by decide +kernel
theorem dX5_partHere_66 : decode cX5_partHere 66 = .ok (.aload_n 0, 1) := by decide +kernel
theorem dX5_partHere_67 : decode cX5_partHere 67 = .ok (.ldc 120, 2) := by decide +kernel
theorem dX5_partHere_69 : decode cX5_partHere 69 = .ok (.invokevirtual 78, 3) := by decide +kernel
theorem dX5_partHere_72 : decode cX5_partHere 72 = .ok (.ifCond .eq 8, 3) := by decide +kernel
theorem dX5_partHere_75 : decode cX5_partHere 75 = .ok (.bipush 6, 2) := by decide +kernel
theorem dX5_partHere_77 : decode cX5_partHere 77 = .ok (.goto 4, 3) := by decide +kernel
theorem dX5_partHere_80 : decode cX5_partHere 80 = .ok (.iconst (-1), 1) := by decide +kernel
theorem dX5_partHere_81 : decode cX5_partHere 81 = .ok (.ireturn, 1) := by decide +kernel
theorem dX6_init_0 : decode cX6_init 0 = .ok (.aload_n 0, 1) := by decide +kernel
theorem dX6_init_1 : decode cX6_init 1 = .ok (.invokespecial 3, 3) := by decide +kernel
theorem dX6_init_4 : decode cX6_init 4 = .ok (.aload_n 0, 1) := by decide +kernel
theorem dX6_init_5 : decode cX6_init 5 = .ok (.bipush 60, 2) := by decide +kernel
theorem dX6_init_7 : decode cX6_init 7 = .ok (.newarray .int, 2) := by decide +kernel
theorem dX6_init_9 : decode cX6_init 9 = .ok (.putfield 11, 3) := by decide +kernel
theorem dX6_init_12 : decode cX6_init 12 = .ok (.return_, 1) := by decide +kernel
theorem dX6_copyFrom_0 : decode cX6_copyFrom 0 = .ok (.aload_n 1, 1) := by decide +kernel
theorem dX6_copyFrom_1 : decode cX6_copyFrom 1 = .ok (.getfield 11, 3) := by decide +kernel
theorem dX6_copyFrom_4 : decode cX6_copyFrom 4 = .ok (.aload_n 0, 1) := by decide +kernel
theorem dX6_copyFrom_5 : decode cX6_copyFrom 5 = .ok (.getfield 11, 3) := by decide +kernel
theorem dX6_copyFrom_8 : decode cX6_copyFrom 8 = .ok (.invokestatic 15, 3) := by decide +kernel
theorem dX6_copyFrom_11 : decode cX6_copyFrom 11 = .ok (.aload_n 0, 1) := by decide +kernel
theorem dX6_copyFrom_12 : decode cX6_copyFrom 12 = .ok (.aload_n 1, 1) := by decide +kernel
theorem dX6_copyFrom_13 : decode cX6_copyFrom 13 = .ok (.getfield 19, 3) := by decide +kernel
theorem dX6_copyFrom_16 : decode cX6_copyFrom 16 = .ok (.putfield 19, 3) := by decide +kernel
theorem dX6_copyFrom_19 : decode cX6_copyFrom 19 = .ok (.aload_n 0, 1) := by decide +kernel
theorem dX6_copyFrom_20 : decode cX6_copyFrom 20 = .ok (.aload_n 1, 1) := by decide +kernel
theorem dX6_copyFrom_21 : decode cX6_copyFrom 21 = .ok (.getfield 23, 3) := by decide +kernel
theorem dX6_copyFrom_24 : decode cX6_copyFrom 24 = .ok (.putfield 23, 3) := by decide +kernel
theorem dX6_copyFrom_27 : decode cX6_copyFrom 27 = .ok (.return_, 1) := by decide +kernel
theorem dX6_add_0 : decode cX6_add 0 = .ok (.aload_n 0, 1) := by decide +kernel
theorem dX6_add_1 : decode cX6_add 1 = .ok (.getfield 23, 3) := by decide +kernel
theorem dX6_add_4 : decode cX6_add 4 = .ok (.ifCond .lt 71, 3) := by decide +kernel
theorem dX6_add_7 : decode cX6_add 7 = .ok (.aload_n 0, 1) := by decide +kernel
theorem dX6_add_8 : decode cX6_add 8 = .ok (.getfield 23, 3) := by decide +kernel
theorem dX6_add_11 : decode cX6_add 11 = .ok (.bipush 60, 2) := by decide +kernel
theorem dX6_add_13 : decode cX6_add 13 = .ok (.if_icmp .ge 62, 3) := by decide +kernel
theorem dX6_add_16 : decode cX6_add 16 = .ok (.aload_n 0, 1) := by decide +kernel
theorem dX6_add_17 : decode cX6_add 17 = .ok (.getfield 11, 3) := by decide +kernel
theorem dX6_add_20 : decode cX6_add 20 = .ok (.aload_n 0, 1) := by decide +kernel
theorem dX6_add_21 : decode cX6_add 21 = .ok (.getfield 23, 3) := by decide +kernel
theorem dX6_add_24 : decode cX6_add 24 = .ok (.iload_n 1, 1) := by decide +kernel
theorem dX6_add_25 : decode cX6_add 25 = .ok (.bipush 13, 2) := by decide +kernel
theorem dX6_add_27 : decode cX6_add 27 = .ok (.ishl, 1) := by decide +kernel
theorem dX6_add_28 : decode cX6_add 28 = .ok (.iload_n 2, 1) := by decide +kernel
theorem dX6_add_29 : decode cX6_add 29 = .ok (.bipush 8, 2) := by decide +kernel
theorem dX6_add_31 : decode cX6_add 31 = .ok (.ishl, 1) := by decide +kernel
theorem dX6_add_32 : decode cX6_add 32 = .ok (.ior, 1) := by decide +kernel
theorem dX6_add_33 : decode cX6_add 33 = .ok (.iload_n 3, 1) := by decide +kernel
theorem dX6_add_34 : decode cX6_add 34 = .ok (.bipush 7, 2) := by decide +kernel
theorem dX6_add_36 : decode cX6_add 36 = .ok (.ishl, 1) := by decide +kernel
theorem dX6_add_37 : decode cX6_add 37 = .ok (.ior, 1) := by decide +kernel
theorem dX6_add_38 : decode cX6_add 38 = .ok (.iload 4, 2) := by decide +kernel
theorem dX6_add_40 : decode cX6_add 40 = .ok (.iconst 4, 1) := by decide +kernel
theorem dX6_add_41 : decode cX6_add 41 = .ok (.ishl, 1) := by decide +kernel
theorem dX6_add_42 : decode cX6_add 42 = .ok (.ior, 1) := by decide +kernel
theorem dX6_add_43 : decode cX6_add 43 = .ok (.iload 5, 2) := by decide +kernel
theorem dX6_add_45 : decode cX6_add 45 = .ok (.ior, 1) := by decide +kernel
theorem dX6_add_46 : decode cX6_add 46 = .ok (.iastore, 1) := by decide +kernel
theorem dX6_add_47 : decode cX6_add 47 = .ok (.aload_n 0, 1) := by decide +kernel
theorem dX6_add_48 : decode cX6_add 48 = .ok (.aload_n 0, 1) := by decide +kernel
theorem dX6_add_49 : decode cX6_add 49 = .ok (.getfield 23, 3) := by decide +kernel
theorem dX6_add_52 : decode cX6_add 52 = .ok (.iconst 1, 1) := by decide +kernel
theorem dX6_add_53 : decode cX6_add 53 = .ok (.iadd, 1) := by decide +kernel
theorem dX6_add_54 : decode cX6_add 54 = .ok (.bipush 60, 2) := by decide +kernel
theorem dX6_add_56 : decode cX6_add 56 = .ok (.irem, 1) := by decide +kernel
theorem dX6_add_57 : decode cX6_add 57 = .ok (.putfield 23, 3) := by decide +kernel
theorem dX6_add_60 : decode cX6_add 60 = .ok (.aload_n 0, 1) := by decide +kernel
theorem dX6_add_61 : decode cX6_add 61 = .ok (.bipush 60, 2) := by decide +kernel
theorem dX6_add_63 : decode cX6_add 63 = .ok (.aload_n 0, 1) := by decide +kernel
theorem dX6_add_64 : decode cX6_add 64 = .ok (.getfield 19, 3) := by decide +kernel
theorem dX6_add_67 : decode cX6_add 67 = .ok (.iconst 1, 1) := by decide +kernel
theorem dX6_add_68 : decode cX6_add 68 = .ok (.iadd, 1) := by decide +kernel
theorem dX6_add_69 : decode cX6_add 69 = .ok (.invokestatic 26, 3) := by decide +kernel
theorem dX6_add_72 : decode cX6_add 72 = .ok (.putfield 19, 3) := by decide +kernel
theorem dX6_add_75 : decode cX6_add 75 = .ok (.return_, 1) := by decide +kernel
theorem dX6_told_0 : decode cX6_told 0 = .ok (.iload_n 1, 1) := by decide +kernel
theorem dX6_told_1 : decode cX6_told 1 = .ok (.ifCond .lt 11, 3) := by decide +kernel
theorem dX6_told_4 : decode cX6_told 4 = .ok (.iload_n 1, 1) := by decide +kernel
theorem dX6_told_5 : decode cX6_told 5 = .ok (.aload_n 0, 1) := by decide +kernel
theorem dX6_told_6 : decode cX6_told 6 = .ok (.getfield 19, 3) := by decide +kernel
theorem dX6_told_9 : decode cX6_told 9 = .ok (.if_icmp .lt 5, 3) := by decide +kernel
theorem dX6_told_12 : decode cX6_told 12 = .ok (.iconst (-1), 1) := by decide +kernel
theorem dX6_told_13 : decode cX6_told 13 = .ok (.ireturn, 1) := by decide +kernel
theorem dX6_told_14 : decode cX6_told 14 = .ok (.aload_n 0, 1) := by decide +kernel
theorem dX6_told_15 : decode cX6_told 15 = .ok (.getfield 11, 3) := by decide +kernel
theorem dX6_told_18 : decode cX6_told 18 = .ok (.aload_n 0, 1) := by decide +kernel
theorem dX6_told_19 : decode cX6_told 19 = .ok (.getfield 23, 3) := by decide +kernel
theorem dX6_told_22 : decode cX6_told 22 = .ok (.iconst 1, 1) := by decide +kernel
theorem dX6_told_23 : decode cX6_told 23 = .ok (.isub, 1) := by decide +kernel
theorem dX6_told_24 : decode cX6_told 24 = .ok (.iload_n 1, 1) := by decide +kernel
theorem dX6_told_25 : decode cX6_told 25 = .ok (.isub, 1) := by decide +kernel
theorem dX6_told_26 : decode cX6_told 26 = .ok (.bipush 60, 2) := by decide +kernel
theorem dX6_told_28 : decode cX6_told 28 = .ok (.invokestatic 32, 3) := by decide +kernel
theorem dX6_told_31 : decode cX6_told 31 = .ok (.iaload, 1) := by decide +kernel
theorem dX6_told_32 : decode cX6_told 32 = .ok (.istore_n 3, 1) := by decide +kernel
theorem dX6_told_33 : decode cX6_told 33 = .ok (.iload_n 2, 1) := by decide +kernel
theorem dX6_told_34 : decode cX6_told 34 = .ok (.tableswitch 57 0 3 #[30, 35, 43, 50], 30) := by decide +kernel
theorem dX6_told_64 : decode cX6_told 64 = .ok (.iload_n 3, 1) := by decide +kernel
theorem dX6_told_65 : decode cX6_told 65 = .ok (.bipush 13, 2) := by decide +kernel
theorem dX6_told_67 : decode cX6_told 67 = .ok (.ishr, 1) := by decide +kernel
theorem dX6_told_68 : decode cX6_told 68 = .ok (.ireturn, 1) := by decide +kernel
theorem dX6_told_69 : decode cX6_told 69 = .ok (.iload_n 3, 1) := by decide +kernel
theorem dX6_told_70 : decode cX6_told 70 = .ok (.bipush 8, 2) := by decide +kernel
theorem dX6_told_72 : decode cX6_told 72 = .ok (.ishr, 1) := by decide +kernel
theorem dX6_told_73 : decode cX6_told 73 = .ok (.bipush 31, 2) := by decide +kernel
theorem dX6_told_75 : decode cX6_told 75 = .ok (.iand, 1) := by decide +kernel
theorem dX6_told_76 : decode cX6_told 76 = .ok (.ireturn, 1) := by decide +kernel
theorem dX6_told_77 : decode cX6_told 77 = .ok (.iload_n 3, 1) := by decide +kernel
theorem dX6_told_78 : decode cX6_told 78 = .ok (.bipush 7, 2) := by decide +kernel
theorem dX6_told_80 : decode cX6_told 80 = .ok (.ishr, 1) := by decide +kernel
theorem dX6_told_81 : decode cX6_told 81 = .ok (.iconst 1, 1) := by decide +kernel
theorem dX6_told_82 : decode cX6_told 82 = .ok (.iand, 1) := by decide +kernel
theorem dX6_told_83 : decode cX6_told 83 = .ok (.ireturn, 1) := by decide +kernel
theorem dX6_told_84 : decode cX6_told 84 = .ok (.iload_n 3, 1) := by decide +kernel
theorem dX6_told_85 : decode cX6_told 85 = .ok (.iconst 4, 1) := by decide +kernel
theorem dX6_told_86 : decode cX6_told 86 = .ok (.ishr, 1) := by decide +kernel
theorem dX6_told_87 : decode cX6_told 87 = .ok (.bipush 7, 2) := by decide +kernel
theorem dX6_told_89 : decode cX6_told 89 = .ok (.iand, 1) := by decide +kernel
theorem dX6_told_90 : decode cX6_told 90 = .ok (.ireturn, 1) := by decide +kernel
theorem dX6_told_91 : decode cX6_told 91 = .ok (.iload_n 3, 1) := by decide +kernel
theorem dX6_told_92 : decode cX6_told 92 = .ok (.bipush 15, 2) := by decide +kernel
theorem dX6_told_94 : decode cX6_told 94 = .ok (.iand, 1) := by decide +kernel
theorem dX6_told_95 : decode cX6_told 95 = .ok (.ireturn, 1) := by decide +kernel
theorem dX6_rowsOf_0 : decode cX6_rowsOf 0 = .ok (.iconst 0, 1) := by decide +kernel
theorem dX6_rowsOf_1 : decode cX6_rowsOf 1 = .ok (.istore_n 2, 1) := by decide +kernel
theorem dX6_rowsOf_2 : decode cX6_rowsOf 2 = .ok (.iconst 0, 1) := by decide +kernel
theorem dX6_rowsOf_3 : decode cX6_rowsOf 3 = .ok (.istore_n 3, 1) := by decide +kernel
theorem dX6_rowsOf_4 : decode cX6_rowsOf 4 = .ok (.iload_n 3, 1) := by decide +kernel
theorem dX6_rowsOf_5 : decode cX6_rowsOf 5 = .ok (.aload_n 0, 1) := by decide +kernel
theorem dX6_rowsOf_6 : decode cX6_rowsOf 6 = .ok (.getfield 19, 3) := by decide +kernel
theorem dX6_rowsOf_9 : decode cX6_rowsOf 9 = .ok (.if_icmp .ge 22, 3) := by decide +kernel
theorem dX6_rowsOf_12 : decode cX6_rowsOf 12 = .ok (.aload_n 0, 1) := by decide +kernel
theorem dX6_rowsOf_13 : decode cX6_rowsOf 13 = .ok (.iload_n 3, 1) := by decide +kernel
theorem dX6_rowsOf_14 : decode cX6_rowsOf 14 = .ok (.iconst 3, 1) := by decide +kernel
theorem dX6_rowsOf_15 : decode cX6_rowsOf 15 = .ok (.invokevirtual 35, 3) := by decide +kernel
theorem dX6_rowsOf_18 : decode cX6_rowsOf 18 = .ok (.iload_n 1, 1) := by decide +kernel
theorem dX6_rowsOf_19 : decode cX6_rowsOf 19 = .ok (.if_icmp .ne 6, 3) := by decide +kernel
theorem dX6_rowsOf_22 : decode cX6_rowsOf 22 = .ok (.iinc 2 1, 3) := by decide +kernel
theorem dX6_rowsOf_25 : decode cX6_rowsOf 25 = .ok (.iinc 3 1, 3) := by decide +kernel
theorem dX6_rowsOf_28 : decode cX6_rowsOf 28 = .ok (.goto (-24), 3) := by decide +kernel
theorem dX6_rowsOf_31 : decode cX6_rowsOf 31 = .ok (.iload_n 2, 1) := by decide +kernel
theorem dX6_rowsOf_32 : decode cX6_rowsOf 32 = .ok (.ireturn, 1) := by decide +kernel
theorem dX6_latestFlagOf_0 : decode cX6_latestFlagOf 0 = .ok (.iconst 0, 1) := by decide +kernel
theorem dX6_latestFlagOf_1 : decode cX6_latestFlagOf 1 = .ok (.istore_n 2, 1) := by decide +kernel
theorem dX6_latestFlagOf_2 : decode cX6_latestFlagOf 2 = .ok (.iload_n 2, 1) := by decide +kernel
theorem dX6_latestFlagOf_3 : decode cX6_latestFlagOf 3 = .ok (.aload_n 0, 1) := by decide +kernel
theorem dX6_latestFlagOf_4 : decode cX6_latestFlagOf 4 = .ok (.getfield 19, 3) := by decide +kernel
theorem dX6_latestFlagOf_7 : decode cX6_latestFlagOf 7 = .ok (.if_icmp .ge 26, 3) := by decide +kernel
theorem dX6_latestFlagOf_10 : decode cX6_latestFlagOf 10 = .ok (.aload_n 0, 1) := by decide +kernel
theorem dX6_latestFlagOf_11 : decode cX6_latestFlagOf 11 = .ok (.iload_n 2, 1) := by decide +kernel
theorem dX6_latestFlagOf_12 : decode cX6_latestFlagOf 12 = .ok (.iconst 3, 1) := by decide +kernel
theorem dX6_latestFlagOf_13 : decode cX6_latestFlagOf 13 = .ok (.invokevirtual 35, 3) := by decide +kernel
theorem dX6_latestFlagOf_16 : decode cX6_latestFlagOf 16 = .ok (.iload_n 1, 1) := by decide +kernel
theorem dX6_latestFlagOf_17 : decode cX6_latestFlagOf 17 = .ok (.if_icmp .ne 10, 3) := by decide +kernel
theorem dX6_latestFlagOf_20 : decode cX6_latestFlagOf 20 = .ok (.aload_n 0, 1) := by decide +kernel
theorem dX6_latestFlagOf_21 : decode cX6_latestFlagOf 21 = .ok (.iload_n 2, 1) := by decide +kernel
theorem dX6_latestFlagOf_22 : decode cX6_latestFlagOf 22 = .ok (.iconst 4, 1) := by decide +kernel
theorem dX6_latestFlagOf_23 : decode cX6_latestFlagOf 23 = .ok (.invokevirtual 35, 3) := by decide +kernel
theorem dX6_latestFlagOf_26 : decode cX6_latestFlagOf 26 = .ok (.ireturn, 1) := by decide +kernel
theorem dX6_latestFlagOf_27 : decode cX6_latestFlagOf 27 = .ok (.iinc 2 1, 3) := by decide +kernel
theorem dX6_latestFlagOf_30 : decode cX6_latestFlagOf 30 = .ok (.goto (-28), 3) := by decide +kernel
theorem dX6_latestFlagOf_33 : decode cX6_latestFlagOf 33 = .ok (.iconst (-1), 1) := by decide +kernel
theorem dX6_latestFlagOf_34 : decode cX6_latestFlagOf 34 = .ok (.ireturn, 1) := by decide +kernel
theorem dX7_init_0 : decode cX7_init 0 = .ok (.aload_n 0, 1) := by decide +kernel
theorem dX7_init_1 : decode cX7_init 1 = .ok (.invokespecial 3, 3) := by decide +kernel
theorem dX7_init_4 : decode cX7_init 4 = .ok (.aload_n 0, 1) := by decide +kernel
theorem dX7_init_5 : decode cX7_init 5 = .ok (.bipush 40, 2) := by decide +kernel
theorem dX7_init_7 : decode cX7_init 7 = .ok (.newarray .int, 2) := by decide +kernel
theorem dX7_init_9 : decode cX7_init 9 = .ok (.putfield 11, 3) := by decide +kernel
theorem dX7_init_12 : decode cX7_init 12 = .ok (.aload_n 0, 1) := by decide +kernel
theorem dX7_init_13 : decode cX7_init 13 = .ok (.sipush 144, 3) := by decide +kernel
theorem dX7_init_16 : decode cX7_init 16 = .ok (.newarray .boolean, 2) := by decide +kernel
theorem dX7_init_18 : decode cX7_init 18 = .ok (.putfield 15, 3) := by decide +kernel
theorem dX7_init_21 : decode cX7_init 21 = .ok (.aload_n 0, 1) := by decide +kernel
theorem dX7_init_22 : decode cX7_init 22 = .ok (.iconst 5, 1) := by decide +kernel
theorem dX7_init_23 : decode cX7_init 23 = .ok (.newarray .int, 2) := by decide +kernel
theorem dX7_init_25 : decode cX7_init 25 = .ok (.putfield 19, 3) := by decide +kernel
theorem dX7_init_28 : decode cX7_init 28 = .ok (.return_, 1) := by decide +kernel
theorem dX7_readWalk_0 : decode cX7_readWalk 0 = .ok (.aload_n 0, 1) := by decide +kernel
theorem dX7_readWalk_1 : decode cX7_readWalk 1 = .ok (.iconst 1, 1) := by decide +kernel
theorem dX7_readWalk_2 : decode cX7_readWalk 2 = .ok (.putfield 22, 3) := by decide +kernel
theorem dX7_readWalk_5 : decode cX7_readWalk 5 = .ok (.aload_n 0, 1) := by decide +kernel
theorem dX7_readWalk_6 : decode cX7_readWalk 6 = .ok (.iload_n 2, 1) := by decide +kernel
theorem dX7_readWalk_7 : decode cX7_readWalk 7 = .ok (.putfield 26, 3) := by decide +kernel
theorem dX7_readWalk_10 : decode cX7_readWalk 10 = .ok (.aload_n 0, 1) := by decide +kernel
theorem dX7_readWalk_11 : decode cX7_readWalk 11 = .ok (.sipush 144, 3) := by decide +kernel
theorem dX7_readWalk_14 : decode cX7_readWalk 14 = .ok (.putfield 30, 3) := by decide +kernel
theorem dX7_readWalk_17 : decode cX7_readWalk 17 = .ok (.aload_n 0, 1) := by decide +kernel
theorem dX7_readWalk_18 : decode cX7_readWalk 18 = .ok (.aload_n 1, 1) := by decide +kernel
theorem dX7_readWalk_19 : decode cX7_readWalk 19 = .ok (.iconst 1, 1) := by decide +kernel
theorem dX7_readWalk_20 : decode cX7_readWalk 20 = .ok (.invokevirtual 33, 3) := by decide +kernel
theorem dX7_readWalk_23 : decode cX7_readWalk 23 = .ok (.ireturn, 1) := by decide +kernel
theorem dX7_readRule_0 : decode cX7_readRule 0 = .ok (.aload_n 0, 1) := by decide +kernel
theorem dX7_readRule_1 : decode cX7_readRule 1 = .ok (.iconst 0, 1) := by decide +kernel
theorem dX7_readRule_2 : decode cX7_readRule 2 = .ok (.putfield 22, 3) := by decide +kernel
theorem dX7_readRule_5 : decode cX7_readRule 5 = .ok (.aload_n 0, 1) := by decide +kernel
theorem dX7_readRule_6 : decode cX7_readRule 6 = .ok (.bipush 25, 2) := by decide +kernel
theorem dX7_readRule_8 : decode cX7_readRule 8 = .ok (.putfield 30, 3) := by decide +kernel
theorem dX7_readRule_11 : decode cX7_readRule 11 = .ok (.aload_n 0, 1) := by decide +kernel
theorem dX7_readRule_12 : decode cX7_readRule 12 = .ok (.aload_n 1, 1) := by decide +kernel
theorem dX7_readRule_13 : decode cX7_readRule 13 = .ok (.iconst 4, 1) := by decide +kernel
theorem dX7_readRule_14 : decode cX7_readRule 14 = .ok (.invokevirtual 33, 3) := by decide +kernel
theorem dX7_readRule_17 : decode cX7_readRule 17 = .ok (.ireturn, 1) := by decide +kernel
theorem dX7_readRows_0 : decode cX7_readRows 0 = .ok (.aload_n 0, 1) := by decide +kernel
theorem dX7_readRows_1 : decode cX7_readRows 1 = .ok (.iconst 0, 1) := by decide +kernel
theorem dX7_readRows_2 : decode cX7_readRows 2 = .ok (.putfield 37, 3) := by decide +kernel
theorem dX7_readRows_5 : decode cX7_readRows 5 = .ok (.aload_n 1, 1) := by decide +kernel
theorem dX7_readRows_6 : decode cX7_readRows 6 = .ok (.getfield 40, 3) := by decide +kernel
theorem dX7_readRows_9 : decode cX7_readRows 9 = .ok (.bipush 40, 2) := by decide +kernel
theorem dX7_readRows_11 : decode cX7_readRows 11 = .ok (.if_icmp .gt 12, 3) := by decide +kernel
theorem dX7_readRows_14 : decode cX7_readRows 14 = .ok (.aload_n 1, 1) := by decide +kernel
theorem dX7_readRows_15 : decode cX7_readRows 15 = .ok (.getfield 40, 3) := by decide +kernel
theorem dX7_readRows_18 : decode cX7_readRows 18 = .ok (.iconst 2, 1) := by decide +kernel
theorem dX7_readRows_19 : decode cX7_readRows 19 = .ok (.irem, 1) := by decide +kernel
theorem dX7_readRows_20 : decode cX7_readRows 20 = .ok (.ifCond .eq 5, 3) := by decide +kernel
theorem dX7_readRows_23 : decode cX7_readRows 23 = .ok (.iconst 0, 1) := by decide +kernel
theorem dX7_readRows_24 : decode cX7_readRows 24 = .ok (.ireturn, 1) := by decide +kernel
theorem dX7_readRows_25 : decode cX7_readRows 25 = .ok (.iconst 0, 1) := by decide +kernel
theorem dX7_readRows_26 : decode cX7_readRows 26 = .ok (.istore_n 3, 1) := by decide +kernel
theorem dX7_readRows_27 : decode cX7_readRows 27 = .ok (.iload_n 3, 1) := by decide +kernel
theorem dX7_readRows_28 : decode cX7_readRows 28 = .ok (.aload_n 1, 1) := by decide +kernel
theorem dX7_readRows_29 : decode cX7_readRows 29 = .ok (.getfield 40, 3) := by decide +kernel
theorem dX7_readRows_32 : decode cX7_readRows 32 = .ok (.if_icmp .ge 68, 3) := by decide +kernel
theorem dX7_readRows_35 : decode cX7_readRows 35 = .ok (.iload_n 3, 1) := by decide +kernel
theorem dX7_readRows_36 : decode cX7_readRows 36 = .ok (.bipush 40, 2) := by decide +kernel
theorem dX7_readRows_38 : decode cX7_readRows 38 = .ok (.if_icmp .ge 62, 3) := by decide +kernel
theorem dX7_readRows_41 : decode cX7_readRows 41 = .ok (.aload_n 0, 1) := by decide +kernel
theorem dX7_readRows_42 : decode cX7_readRows 42 = .ok (.getfield 11, 3) := by decide +kernel
theorem dX7_readRows_45 : decode cX7_readRows 45 = .ok (.iload_n 3, 1) := by decide +kernel
theorem dX7_readRows_46 : decode cX7_readRows 46 = .ok (.aload_n 1, 1) := by decide +kernel
theorem dX7_readRows_47 : decode cX7_readRows 47 = .ok (.iload_n 3, 1) := by decide +kernel
theorem dX7_readRows_48 : decode cX7_readRows 48 = .ok (.invokevirtual 43, 3) := by decide +kernel
theorem dX7_readRows_51 : decode cX7_readRows 51 = .ok (.iastore, 1) := by decide +kernel
theorem dX7_readRows_52 : decode cX7_readRows 52 = .ok (.aload_n 0, 1) := by decide +kernel
theorem dX7_readRows_53 : decode cX7_readRows 53 = .ok (.getfield 11, 3) := by decide +kernel
theorem dX7_readRows_56 : decode cX7_readRows 56 = .ok (.iload_n 3, 1) := by decide +kernel
theorem dX7_readRows_57 : decode cX7_readRows 57 = .ok (.iaload, 1) := by decide +kernel
theorem dX7_readRows_58 : decode cX7_readRows 58 = .ok (.ifCond .lt 24, 3) := by decide +kernel
theorem dX7_readRows_61 : decode cX7_readRows 61 = .ok (.aload_n 0, 1) := by decide +kernel
theorem dX7_readRows_62 : decode cX7_readRows 62 = .ok (.getfield 11, 3) := by decide +kernel
theorem dX7_readRows_65 : decode cX7_readRows 65 = .ok (.iload_n 3, 1) := by decide +kernel
theorem dX7_readRows_66 : decode cX7_readRows 66 = .ok (.iaload, 1) := by decide +kernel
theorem dX7_readRows_67 : decode cX7_readRows 67 = .ok (.iload_n 3, 1) := by decide +kernel
theorem dX7_readRows_68 : decode cX7_readRows 68 = .ok (.iconst 2, 1) := by decide +kernel
theorem dX7_readRows_69 : decode cX7_readRows 69 = .ok (.irem, 1) := by decide +kernel
theorem dX7_readRows_70 : decode cX7_readRows 70 = .ok (.ifCond .ne 8, 3) := by decide +kernel
theorem dX7_readRows_73 : decode cX7_readRows 73 = .ok (.bipush 23, 2) := by decide +kernel
theorem dX7_readRows_75 : decode cX7_readRows 75 = .ok (.goto 4, 3) := by decide +kernel
theorem dX7_readRows_78 : decode cX7_readRows 78 = .ok (.iload_n 2, 1) := by decide +kernel
theorem dX7_readRows_79 : decode cX7_readRows 79 = .ok (.if_icmp .le 5, 3) := by decide +kernel
theorem dX7_readRows_82 : decode cX7_readRows 82 = .ok (.iconst 0, 1) := by decide +kernel
theorem dX7_readRows_83 : decode cX7_readRows 83 = .ok (.ireturn, 1) := by decide +kernel
theorem dX7_readRows_84 : decode cX7_readRows 84 = .ok (.aload_n 0, 1) := by decide +kernel
theorem dX7_readRows_85 : decode cX7_readRows 85 = .ok (.dup, 1) := by decide +kernel
theorem dX7_readRows_86 : decode cX7_readRows 86 = .ok (.getfield 37, 3) := by decide +kernel
theorem dX7_readRows_89 : decode cX7_readRows 89 = .ok (.iconst 1, 1) := by decide +kernel
theorem dX7_readRows_90 : decode cX7_readRows 90 = .ok (.iadd, 1) := by decide +kernel
theorem dX7_readRows_91 : decode cX7_readRows 91 = .ok (.putfield 37, 3) := by decide +kernel
theorem dX7_readRows_94 : decode cX7_readRows 94 = .ok (.iinc 3 1, 3) := by decide +kernel
theorem dX7_readRows_97 : decode cX7_readRows 97 = .ok (.goto (-70), 3) := by decide +kernel
theorem dX7_readRows_100 : decode cX7_readRows 100 = .ok (.aload_n 0, 1) := by decide +kernel
theorem dX7_readRows_101 : decode cX7_readRows 101 = .ok (.invokevirtual 47, 3) := by decide +kernel
theorem dX7_readRows_104 : decode cX7_readRows 104 = .ok (.iconst 1, 1) := by decide +kernel
theorem dX7_readRows_105 : decode cX7_readRows 105 = .ok (.ireturn, 1) := by decide +kernel
theorem dX7_findFitting_0 : decode cX7_findFitting 0 = .ok (.aload_n 0, 1) := by decide +kernel
theorem dX7_findFitting_1 : decode cX7_findFitting 1 = .ok (.iconst 0, 1) := by decide +kernel
theorem dX7_findFitting_2 : decode cX7_findFitting 2 = .ok (.putfield 50, 3) := by decide +kernel
theorem dX7_findFitting_5 : decode cX7_findFitting 5 = .ok (.iconst 0, 1) := by decide +kernel
theorem dX7_findFitting_6 : decode cX7_findFitting 6 = .ok (.istore_n 1, 1) := by decide +kernel
theorem dX7_findFitting_7 : decode cX7_findFitting 7 = .ok (.iload_n 1, 1) := by decide +kernel
theorem dX7_findFitting_8 : decode cX7_findFitting 8 = .ok (.aload_n 0, 1) := by decide +kernel
theorem dX7_findFitting_9 : decode cX7_findFitting 9 = .ok (.getfield 30, 3) := by decide +kernel
theorem dX7_findFitting_12 : decode cX7_findFitting 12 = .ok (.if_icmp .ge 46, 3) := by decide +kernel
theorem dX7_findFitting_15 : decode cX7_findFitting 15 = .ok (.iload_n 1, 1) := by decide +kernel
theorem dX7_findFitting_16 : decode cX7_findFitting 16 = .ok (.sipush 144, 3) := by decide +kernel
theorem dX7_findFitting_19 : decode cX7_findFitting 19 = .ok (.if_icmp .ge 39, 3) := by decide +kernel
theorem dX7_findFitting_22 : decode cX7_findFitting 22 = .ok (.aload_n 0, 1) := by decide +kernel
theorem dX7_findFitting_23 : decode cX7_findFitting 23 = .ok (.getfield 15, 3) := by decide +kernel
theorem dX7_findFitting_26 : decode cX7_findFitting 26 = .ok (.iload_n 1, 1) := by decide +kernel
theorem dX7_findFitting_27 : decode cX7_findFitting 27 = .ok (.aload_n 0, 1) := by decide +kernel
theorem dX7_findFitting_28 : decode cX7_findFitting 28 = .ok (.iload_n 1, 1) := by decide +kernel
theorem dX7_findFitting_29 : decode cX7_findFitting 29 = .ok (.invokevirtual 53, 3) := by decide +kernel
theorem dX7_findFitting_32 : decode cX7_findFitting 32 = .ok (.bastore, 1) := by decide +kernel
theorem dX7_findFitting_33 : decode cX7_findFitting 33 = .ok (.aload_n 0, 1) := by decide +kernel
theorem dX7_findFitting_34 : decode cX7_findFitting 34 = .ok (.getfield 15, 3) := by decide +kernel
theorem dX7_findFitting_37 : decode cX7_findFitting 37 = .ok (.iload_n 1, 1) := by decide +kernel
theorem dX7_findFitting_38 : decode cX7_findFitting 38 = .ok (.baload, 1) := by decide +kernel
theorem dX7_findFitting_39 : decode cX7_findFitting 39 = .ok (.ifCond .eq 13, 3) := by decide +kernel
theorem dX7_findFitting_42 : decode cX7_findFitting 42 = .ok (.aload_n 0, 1) := by decide +kernel
theorem dX7_findFitting_43 : decode cX7_findFitting 43 = .ok (.dup, 1) := by decide +kernel
theorem dX7_findFitting_44 : decode cX7_findFitting 44 = .ok (.getfield 50, 3) := by decide +kernel
theorem dX7_findFitting_47 : decode cX7_findFitting 47 = .ok (.iconst 1, 1) := by decide +kernel
theorem dX7_findFitting_48 : decode cX7_findFitting 48 = .ok (.iadd, 1) := by decide +kernel
theorem dX7_findFitting_49 : decode cX7_findFitting 49 = .ok (.putfield 50, 3) := by decide +kernel
theorem dX7_findFitting_52 : decode cX7_findFitting 52 = .ok (.iinc 1 1, 3) := by decide +kernel
theorem dX7_findFitting_55 : decode cX7_findFitting 55 = .ok (.goto (-48), 3) := by decide +kernel
theorem dX7_findFitting_58 : decode cX7_findFitting 58 = .ok (.return_, 1) := by decide +kernel
theorem dX7_doesFit_0 : decode cX7_doesFit 0 = .ok (.iconst 0, 1) := by decide +kernel
theorem dX7_doesFit_1 : decode cX7_doesFit 1 = .ok (.istore_n 2, 1) := by decide +kernel
theorem dX7_doesFit_2 : decode cX7_doesFit 2 = .ok (.iload_n 2, 1) := by decide +kernel
theorem dX7_doesFit_3 : decode cX7_doesFit 3 = .ok (.iconst 1, 1) := by decide +kernel
theorem dX7_doesFit_4 : decode cX7_doesFit 4 = .ok (.iadd, 1) := by decide +kernel
theorem dX7_doesFit_5 : decode cX7_doesFit 5 = .ok (.aload_n 0, 1) := by decide +kernel
theorem dX7_doesFit_6 : decode cX7_doesFit 6 = .ok (.getfield 37, 3) := by decide +kernel
theorem dX7_doesFit_9 : decode cX7_doesFit 9 = .ok (.if_icmp .ge 41, 3) := by decide +kernel
theorem dX7_doesFit_12 : decode cX7_doesFit 12 = .ok (.iload_n 2, 1) := by decide +kernel
theorem dX7_doesFit_13 : decode cX7_doesFit 13 = .ok (.iconst 1, 1) := by decide +kernel
theorem dX7_doesFit_14 : decode cX7_doesFit 14 = .ok (.iadd, 1) := by decide +kernel
theorem dX7_doesFit_15 : decode cX7_doesFit 15 = .ok (.bipush 40, 2) := by decide +kernel
theorem dX7_doesFit_17 : decode cX7_doesFit 17 = .ok (.if_icmp .ge 33, 3) := by decide +kernel
theorem dX7_doesFit_20 : decode cX7_doesFit 20 = .ok (.aload_n 0, 1) := by decide +kernel
theorem dX7_doesFit_21 : decode cX7_doesFit 21 = .ok (.iload_n 1, 1) := by decide +kernel
theorem dX7_doesFit_22 : decode cX7_doesFit 22 = .ok (.aload_n 0, 1) := by decide +kernel
theorem dX7_doesFit_23 : decode cX7_doesFit 23 = .ok (.getfield 11, 3) := by decide +kernel
theorem dX7_doesFit_26 : decode cX7_doesFit 26 = .ok (.iload_n 2, 1) := by decide +kernel
theorem dX7_doesFit_27 : decode cX7_doesFit 27 = .ok (.iaload, 1) := by decide +kernel
theorem dX7_doesFit_28 : decode cX7_doesFit 28 = .ok (.invokevirtual 57, 3) := by decide +kernel
theorem dX7_doesFit_31 : decode cX7_doesFit 31 = .ok (.aload_n 0, 1) := by decide +kernel
theorem dX7_doesFit_32 : decode cX7_doesFit 32 = .ok (.getfield 11, 3) := by decide +kernel
theorem dX7_doesFit_35 : decode cX7_doesFit 35 = .ok (.iload_n 2, 1) := by decide +kernel
theorem dX7_doesFit_36 : decode cX7_doesFit 36 = .ok (.iconst 1, 1) := by decide +kernel
theorem dX7_doesFit_37 : decode cX7_doesFit 37 = .ok (.iadd, 1) := by decide +kernel
theorem dX7_doesFit_38 : decode cX7_doesFit 38 = .ok (.iaload, 1) := by decide +kernel
theorem dX7_doesFit_39 : decode cX7_doesFit 39 = .ok (.if_icmp .eq 5, 3) := by decide +kernel
theorem dX7_doesFit_42 : decode cX7_doesFit 42 = .ok (.iconst 0, 1) := by decide +kernel
theorem dX7_doesFit_43 : decode cX7_doesFit 43 = .ok (.ireturn, 1) := by decide +kernel
theorem dX7_doesFit_44 : decode cX7_doesFit 44 = .ok (.iinc 2 2, 3) := by decide +kernel
theorem dX7_doesFit_47 : decode cX7_doesFit 47 = .ok (.goto (-45), 3) := by decide +kernel
theorem dX7_doesFit_50 : decode cX7_doesFit 50 = .ok (.iconst 1, 1) := by decide +kernel
theorem dX7_doesFit_51 : decode cX7_doesFit 51 = .ok (.ireturn, 1) := by decide +kernel
theorem dX7_answerOf_0 : decode cX7_answerOf 0 = .ok (.aload_n 0, 1) := by decide +kernel
theorem dX7_answerOf_1 : decode cX7_answerOf 1 = .ok (.getfield 22, 3) := by decide +kernel
theorem dX7_answerOf_4 : decode cX7_answerOf 4 = .ok (.ifCond .eq 30, 3) := by decide +kernel
theorem dX7_answerOf_7 : decode cX7_answerOf 7 = .ok (.iload_n 1, 1) := by decide +kernel
theorem dX7_answerOf_8 : decode cX7_answerOf 8 = .ok (.bipush 9, 2) := by decide +kernel
theorem dX7_answerOf_10 : decode cX7_answerOf 10 = .ok (.idiv, 1) := by decide +kernel
theorem dX7_answerOf_11 : decode cX7_answerOf 11 = .ok (.iload_n 2, 1) := by decide +kernel
theorem dX7_answerOf_12 : decode cX7_answerOf 12 = .ok (.iload_n 1, 1) := by decide +kernel
theorem dX7_answerOf_13 : decode cX7_answerOf 13 = .ok (.bipush 9, 2) := by decide +kernel
theorem dX7_answerOf_15 : decode cX7_answerOf 15 = .ok (.irem, 1) := by decide +kernel
theorem dX7_answerOf_16 : decode cX7_answerOf 16 = .ok (.imul, 1) := by decide +kernel
theorem dX7_answerOf_17 : decode cX7_answerOf 17 = .ok (.iadd, 1) := by decide +kernel
theorem dX7_answerOf_18 : decode cX7_answerOf 18 = .ok (.bipush 16, 2) := by decide +kernel
theorem dX7_answerOf_20 : decode cX7_answerOf 20 = .ok (.irem, 1) := by decide +kernel
theorem dX7_answerOf_21 : decode cX7_answerOf 21 = .ok (.aload_n 0, 1) := by decide +kernel
theorem dX7_answerOf_22 : decode cX7_answerOf 22 = .ok (.getfield 26, 3) := by decide +kernel
theorem dX7_answerOf_25 : decode cX7_answerOf 25 = .ok (.if_icmp .ne 7, 3) := by decide +kernel
theorem dX7_answerOf_28 : decode cX7_answerOf 28 = .ok (.iconst 1, 1) := by decide +kernel
theorem dX7_answerOf_29 : decode cX7_answerOf 29 = .ok (.goto 4, 3) := by decide +kernel
theorem dX7_answerOf_32 : decode cX7_answerOf 32 = .ok (.iconst 0, 1) := by decide +kernel
theorem dX7_answerOf_33 : decode cX7_answerOf 33 = .ok (.ireturn, 1) := by decide +kernel
theorem dX7_answerOf_34 : decode cX7_answerOf 34 = .ok (.iload_n 1, 1) := by decide +kernel
theorem dX7_answerOf_35 : decode cX7_answerOf 35 = .ok (.iconst 5, 1) := by decide +kernel
theorem dX7_answerOf_36 : decode cX7_answerOf 36 = .ok (.idiv, 1) := by decide +kernel
theorem dX7_answerOf_37 : decode cX7_answerOf 37 = .ok (.iload_n 2, 1) := by decide +kernel
theorem dX7_answerOf_38 : decode cX7_answerOf 38 = .ok (.imul, 1) := by decide +kernel
theorem dX7_answerOf_39 : decode cX7_answerOf 39 = .ok (.iload_n 1, 1) := by decide +kernel
theorem dX7_answerOf_40 : decode cX7_answerOf 40 = .ok (.iconst 5, 1) := by decide +kernel
theorem dX7_answerOf_41 : decode cX7_answerOf 41 = .ok (.irem, 1) := by decide +kernel
theorem dX7_answerOf_42 : decode cX7_answerOf 42 = .ok (.iadd, 1) := by decide +kernel
theorem dX7_answerOf_43 : decode cX7_answerOf 43 = .ok (.iconst 5, 1) := by decide +kernel
theorem dX7_answerOf_44 : decode cX7_answerOf 44 = .ok (.irem, 1) := by decide +kernel
theorem dX7_answerOf_45 : decode cX7_answerOf 45 = .ok (.ireturn, 1) := by decide +kernel
theorem dX7_beginnings_0 : decode cX7_beginnings 0 = .ok (.iconst 0, 1) := by decide +kernel
theorem dX7_beginnings_1 : decode cX7_beginnings 1 = .ok (.istore_n 1, 1) := by decide +kernel
theorem dX7_beginnings_2 : decode cX7_beginnings 2 = .ok (.iconst 0, 1) := by decide +kernel
theorem dX7_beginnings_3 : decode cX7_beginnings 3 = .ok (.istore_n 2, 1) := by decide +kernel
theorem dX7_beginnings_4 : decode cX7_beginnings 4 = .ok (.iload_n 2, 1) := by decide +kernel
theorem dX7_beginnings_5 : decode cX7_beginnings 5 = .ok (.sipush 144, 3) := by decide +kernel
theorem dX7_beginnings_8 : decode cX7_beginnings 8 = .ok (.if_icmp .ge 27, 3) := by decide +kernel
theorem dX7_beginnings_11 : decode cX7_beginnings 11 = .ok (.aload_n 0, 1) := by decide +kernel
theorem dX7_beginnings_12 : decode cX7_beginnings 12 = .ok (.getfield 15, 3) := by decide +kernel
theorem dX7_beginnings_15 : decode cX7_beginnings 15 = .ok (.iload_n 2, 1) := by decide +kernel
theorem dX7_beginnings_16 : decode cX7_beginnings 16 = .ok (.baload, 1) := by decide +kernel
theorem dX7_beginnings_17 : decode cX7_beginnings 17 = .ok (.ifCond .eq 12, 3) := by decide +kernel
theorem dX7_beginnings_20 : decode cX7_beginnings 20 = .ok (.iload_n 1, 1) := by decide +kernel
theorem dX7_beginnings_21 : decode cX7_beginnings 21 = .ok (.iconst 1, 1) := by decide +kernel
theorem dX7_beginnings_22 : decode cX7_beginnings 22 = .ok (.iload_n 2, 1) := by decide +kernel
theorem dX7_beginnings_23 : decode cX7_beginnings 23 = .ok (.bipush 9, 2) := by decide +kernel
theorem dX7_beginnings_25 : decode cX7_beginnings 25 = .ok (.idiv, 1) := by decide +kernel
theorem dX7_beginnings_26 : decode cX7_beginnings 26 = .ok (.ishl, 1) := by decide +kernel
theorem dX7_beginnings_27 : decode cX7_beginnings 27 = .ok (.ior, 1) := by decide +kernel
theorem dX7_beginnings_28 : decode cX7_beginnings 28 = .ok (.istore_n 1, 1) := by decide +kernel
theorem dX7_beginnings_29 : decode cX7_beginnings 29 = .ok (.iinc 2 1, 3) := by decide +kernel
theorem dX7_beginnings_32 : decode cX7_beginnings 32 = .ok (.goto (-28), 3) := by decide +kernel
theorem dX7_beginnings_35 : decode cX7_beginnings 35 = .ok (.iload_n 1, 1) := by decide +kernel
theorem dX7_beginnings_36 : decode cX7_beginnings 36 = .ok (.ireturn, 1) := by decide +kernel
theorem dX7_firstFitting_0 : decode cX7_firstFitting 0 = .ok (.iconst 0, 1) := by decide +kernel
theorem dX7_firstFitting_1 : decode cX7_firstFitting 1 = .ok (.istore_n 1, 1) := by decide +kernel
theorem dX7_firstFitting_2 : decode cX7_firstFitting 2 = .ok (.iload_n 1, 1) := by decide +kernel
theorem dX7_firstFitting_3 : decode cX7_firstFitting 3 = .ok (.aload_n 0, 1) := by decide +kernel
theorem dX7_firstFitting_4 : decode cX7_firstFitting 4 = .ok (.getfield 30, 3) := by decide +kernel
theorem dX7_firstFitting_7 : decode cX7_firstFitting 7 = .ok (.if_icmp .ge 27, 3) := by decide +kernel
theorem dX7_firstFitting_10 : decode cX7_firstFitting 10 = .ok (.iload_n 1, 1) := by decide +kernel
theorem dX7_firstFitting_11 : decode cX7_firstFitting 11 = .ok (.sipush 144, 3) := by decide +kernel
theorem dX7_firstFitting_14 : decode cX7_firstFitting 14 = .ok (.if_icmp .ge 20, 3) := by decide +kernel
theorem dX7_firstFitting_17 : decode cX7_firstFitting 17 = .ok (.aload_n 0, 1) := by decide +kernel
theorem dX7_firstFitting_18 : decode cX7_firstFitting 18 = .ok (.getfield 15, 3) := by decide +kernel
theorem dX7_firstFitting_21 : decode cX7_firstFitting 21 = .ok (.iload_n 1, 1) := by decide +kernel
theorem dX7_firstFitting_22 : decode cX7_firstFitting 22 = .ok (.baload, 1) := by decide +kernel
theorem dX7_firstFitting_23 : decode cX7_firstFitting 23 = .ok (.ifCond .eq 5, 3) := by decide +kernel
theorem dX7_firstFitting_26 : decode cX7_firstFitting 26 = .ok (.iload_n 1, 1) := by decide +kernel
theorem dX7_firstFitting_27 : decode cX7_firstFitting 27 = .ok (.ireturn, 1) := by decide +kernel
theorem dX7_firstFitting_28 : decode cX7_firstFitting 28 = .ok (.iinc 1 1, 3) := by decide +kernel
theorem dX7_firstFitting_31 : decode cX7_firstFitting 31 = .ok (.goto (-29), 3) := by decide +kernel
theorem dX7_firstFitting_34 : decode cX7_firstFitting 34 = .ok (.iconst (-1), 1) := by decide +kernel
theorem dX7_firstFitting_35 : decode cX7_firstFitting 35 = .ok (.ireturn, 1) := by decide +kernel
theorem dX7_bestHour_0 : decode cX7_bestHour 0 = .ok (.aload_n 0, 1) := by decide +kernel
theorem dX7_bestHour_1 : decode cX7_bestHour 1 = .ok (.getfield 50, 3) := by decide +kernel
theorem dX7_bestHour_4 : decode cX7_bestHour 4 = .ok (.iconst 2, 1) := by decide +kernel
theorem dX7_bestHour_5 : decode cX7_bestHour 5 = .ok (.if_icmp .ge 5, 3) := by decide +kernel
theorem dX7_bestHour_8 : decode cX7_bestHour 8 = .ok (.iconst (-1), 1) := by decide +kernel
theorem dX7_bestHour_9 : decode cX7_bestHour 9 = .ok (.ireturn, 1) := by decide +kernel
theorem dX7_bestHour_10 : decode cX7_bestHour 10 = .ok (.iconst 0, 1) := by decide +kernel
theorem dX7_bestHour_11 : decode cX7_bestHour 11 = .ok (.istore_n 1, 1) := by decide +kernel
theorem dX7_bestHour_12 : decode cX7_bestHour 12 = .ok (.ldc 61, 2) := by decide +kernel
theorem dX7_bestHour_14 : decode cX7_bestHour 14 = .ok (.istore_n 2, 1) := by decide +kernel
theorem dX7_bestHour_15 : decode cX7_bestHour 15 = .ok (.iconst 0, 1) := by decide +kernel
theorem dX7_bestHour_16 : decode cX7_bestHour 16 = .ok (.istore_n 3, 1) := by decide +kernel
theorem dX7_bestHour_17 : decode cX7_bestHour 17 = .ok (.iload_n 3, 1) := by decide +kernel
theorem dX7_bestHour_18 : decode cX7_bestHour 18 = .ok (.bipush 24, 2) := by decide +kernel
theorem dX7_bestHour_20 : decode cX7_bestHour 20 = .ok (.if_icmp .ge 27, 3) := by decide +kernel
theorem dX7_bestHour_23 : decode cX7_bestHour 23 = .ok (.aload_n 0, 1) := by decide +kernel
theorem dX7_bestHour_24 : decode cX7_bestHour 24 = .ok (.iload_n 3, 1) := by decide +kernel
theorem dX7_bestHour_25 : decode cX7_bestHour 25 = .ok (.invokevirtual 62, 3) := by decide +kernel
theorem dX7_bestHour_28 : decode cX7_bestHour 28 = .ok (.istore 4, 2) := by decide +kernel
theorem dX7_bestHour_30 : decode cX7_bestHour 30 = .ok (.iload 4, 2) := by decide +kernel
theorem dX7_bestHour_32 : decode cX7_bestHour 32 = .ok (.iload_n 2, 1) := by decide +kernel
theorem dX7_bestHour_33 : decode cX7_bestHour 33 = .ok (.if_icmp .ge 8, 3) := by decide +kernel
theorem dX7_bestHour_36 : decode cX7_bestHour 36 = .ok (.iload 4, 2) := by decide +kernel
theorem dX7_bestHour_38 : decode cX7_bestHour 38 = .ok (.istore_n 2, 1) := by decide +kernel
theorem dX7_bestHour_39 : decode cX7_bestHour 39 = .ok (.iload_n 3, 1) := by decide +kernel
theorem dX7_bestHour_40 : decode cX7_bestHour 40 = .ok (.istore_n 1, 1) := by decide +kernel
theorem dX7_bestHour_41 : decode cX7_bestHour 41 = .ok (.iinc 3 1, 3) := by decide +kernel
theorem dX7_bestHour_44 : decode cX7_bestHour 44 = .ok (.goto (-27), 3) := by decide +kernel
theorem dX7_bestHour_47 : decode cX7_bestHour 47 = .ok (.iload_n 1, 1) := by decide +kernel
theorem dX7_bestHour_48 : decode cX7_bestHour 48 = .ok (.ireturn, 1) := by decide +kernel
theorem dX7_greatestPart_0 : decode cX7_greatestPart 0 = .ok (.iconst 0, 1) := by decide +kernel
theorem dX7_greatestPart_1 : decode cX7_greatestPart 1 = .ok (.istore_n 2, 1) := by decide +kernel
theorem dX7_greatestPart_2 : decode cX7_greatestPart 2 = .ok (.iload_n 2, 1) := by decide +kernel
theorem dX7_greatestPart_3 : decode cX7_greatestPart 3 = .ok (.iconst 5, 1) := by decide +kernel
theorem dX7_greatestPart_4 : decode cX7_greatestPart 4 = .ok (.if_icmp .ge 16, 3) := by decide +kernel
theorem dX7_greatestPart_7 : decode cX7_greatestPart 7 = .ok (.aload_n 0, 1) := by decide +kernel
theorem dX7_greatestPart_8 : decode cX7_greatestPart 8 = .ok (.getfield 19, 3) := by decide +kernel
theorem dX7_greatestPart_11 : decode cX7_greatestPart 11 = .ok (.iload_n 2, 1) := by decide +kernel
theorem dX7_greatestPart_12 : decode cX7_greatestPart 12 = .ok (.iconst 0, 1) := by decide +kernel
theorem dX7_greatestPart_13 : decode cX7_greatestPart 13 = .ok (.iastore, 1) := by decide +kernel
theorem dX7_greatestPart_14 : decode cX7_greatestPart 14 = .ok (.iinc 2 1, 3) := by decide +kernel
theorem dX7_greatestPart_17 : decode cX7_greatestPart 17 = .ok (.goto (-15), 3) := by decide +kernel
theorem dX7_greatestPart_20 : decode cX7_greatestPart 20 = .ok (.iconst 0, 1) := by decide +kernel
theorem dX7_greatestPart_21 : decode cX7_greatestPart 21 = .ok (.istore_n 2, 1) := by decide +kernel
theorem dX7_greatestPart_22 : decode cX7_greatestPart 22 = .ok (.iconst 0, 1) := by decide +kernel
theorem dX7_greatestPart_23 : decode cX7_greatestPart 23 = .ok (.istore_n 3, 1) := by decide +kernel
theorem dX7_greatestPart_24 : decode cX7_greatestPart 24 = .ok (.iload_n 3, 1) := by decide +kernel
theorem dX7_greatestPart_25 : decode cX7_greatestPart 25 = .ok (.aload_n 0, 1) := by decide +kernel
theorem dX7_greatestPart_26 : decode cX7_greatestPart 26 = .ok (.getfield 30, 3) := by decide +kernel
theorem dX7_greatestPart_29 : decode cX7_greatestPart 29 = .ok (.if_icmp .ge 67, 3) := by decide +kernel
theorem dX7_greatestPart_32 : decode cX7_greatestPart 32 = .ok (.iload_n 3, 1) := by decide +kernel
theorem dX7_greatestPart_33 : decode cX7_greatestPart 33 = .ok (.sipush 144, 3) := by decide +kernel
theorem dX7_greatestPart_36 : decode cX7_greatestPart 36 = .ok (.if_icmp .ge 60, 3) := by decide +kernel
theorem dX7_greatestPart_39 : decode cX7_greatestPart 39 = .ok (.aload_n 0, 1) := by decide +kernel
theorem dX7_greatestPart_40 : decode cX7_greatestPart 40 = .ok (.iload_n 3, 1) := by decide +kernel
theorem dX7_greatestPart_41 : decode cX7_greatestPart 41 = .ok (.iload_n 1, 1) := by decide +kernel
theorem dX7_greatestPart_42 : decode cX7_greatestPart 42 = .ok (.invokevirtual 57, 3) := by decide +kernel
theorem dX7_greatestPart_45 : decode cX7_greatestPart 45 = .ok (.istore 4, 2) := by decide +kernel
theorem dX7_greatestPart_47 : decode cX7_greatestPart 47 = .ok (.aload_n 0, 1) := by decide +kernel
theorem dX7_greatestPart_48 : decode cX7_greatestPart 48 = .ok (.getfield 15, 3) := by decide +kernel
theorem dX7_greatestPart_51 : decode cX7_greatestPart 51 = .ok (.iload_n 3, 1) := by decide +kernel
theorem dX7_greatestPart_52 : decode cX7_greatestPart 52 = .ok (.baload, 1) := by decide +kernel
theorem dX7_greatestPart_53 : decode cX7_greatestPart 53 = .ok (.ifCond .eq 37, 3) := by decide +kernel
theorem dX7_greatestPart_56 : decode cX7_greatestPart 56 = .ok (.iload 4, 2) := by decide +kernel
theorem dX7_greatestPart_58 : decode cX7_greatestPart 58 = .ok (.ifCond .lt 32, 3) := by decide +kernel
theorem dX7_greatestPart_61 : decode cX7_greatestPart 61 = .ok (.iload 4, 2) := by decide +kernel
theorem dX7_greatestPart_63 : decode cX7_greatestPart 63 = .ok (.iconst 5, 1) := by decide +kernel
theorem dX7_greatestPart_64 : decode cX7_greatestPart 64 = .ok (.if_icmp .ge 26, 3) := by decide +kernel
theorem dX7_greatestPart_67 : decode cX7_greatestPart 67 = .ok (.aload_n 0, 1) := by decide +kernel
theorem dX7_greatestPart_68 : decode cX7_greatestPart 68 = .ok (.getfield 19, 3) := by decide +kernel
theorem dX7_greatestPart_71 : decode cX7_greatestPart 71 = .ok (.iload 4, 2) := by decide +kernel
theorem dX7_greatestPart_73 : decode cX7_greatestPart 73 = .ok (.dup2, 1) := by decide +kernel
theorem dX7_greatestPart_74 : decode cX7_greatestPart 74 = .ok (.iaload, 1) := by decide +kernel
theorem dX7_greatestPart_75 : decode cX7_greatestPart 75 = .ok (.iconst 1, 1) := by decide +kernel
theorem dX7_greatestPart_76 : decode cX7_greatestPart 76 = .ok (.iadd, 1) := by decide +kernel
theorem dX7_greatestPart_77 : decode cX7_greatestPart 77 = .ok (.iastore, 1) := by decide +kernel
theorem dX7_greatestPart_78 : decode cX7_greatestPart 78 = .ok (.iload_n 2, 1) := by decide +kernel
theorem dX7_greatestPart_79 : decode cX7_greatestPart 79 = .ok (.aload_n 0, 1) := by decide +kernel
theorem dX7_greatestPart_80 : decode cX7_greatestPart 80 = .ok (.getfield 19, 3) := by decide +kernel
theorem dX7_greatestPart_83 : decode cX7_greatestPart 83 = .ok (.iload 4, 2) := by decide +kernel
theorem dX7_greatestPart_85 : decode cX7_greatestPart 85 = .ok (.iaload, 1) := by decide +kernel
theorem dX7_greatestPart_86 : decode cX7_greatestPart 86 = .ok (.invokestatic 65, 3) := by decide +kernel
theorem dX7_greatestPart_89 : decode cX7_greatestPart 89 = .ok (.istore_n 2, 1) := by decide +kernel
theorem dX7_greatestPart_90 : decode cX7_greatestPart 90 = .ok (.iinc 3 1, 3) := by decide +kernel
theorem dX7_greatestPart_93 : decode cX7_greatestPart 93 = .ok (.goto (-69), 3) := by decide +kernel
theorem dX7_greatestPart_96 : decode cX7_greatestPart 96 = .ok (.iload_n 2, 1) := by decide +kernel
theorem dX7_greatestPart_97 : decode cX7_greatestPart 97 = .ok (.ireturn, 1) := by decide +kernel
theorem dX8_init_0 : decode cX8_init 0 = .ok (.aload_n 0, 1) := by decide +kernel
theorem dX8_init_1 : decode cX8_init 1 = .ok (.invokespecial 3, 3) := by decide +kernel
theorem dX8_init_4 : decode cX8_init 4 = .ok (.aload_n 0, 1) := by decide +kernel
theorem dX8_init_5 : decode cX8_init 5 = .ok (.bipush 7, 2) := by decide +kernel
theorem dX8_init_7 : decode cX8_init 7 = .ok (.newarray .int, 2) := by decide +kernel
theorem dX8_init_9 : decode cX8_init 9 = .ok (.putfield 11, 3) := by decide +kernel
theorem dX8_init_12 : decode cX8_init 12 = .ok (.aload_n 0, 1) := by decide +kernel
theorem dX8_init_13 : decode cX8_init 13 = .ok (.sipush 896, 3) := by decide +kernel
theorem dX8_init_16 : decode cX8_init 16 = .ok (.newarray .int, 2) := by decide +kernel
theorem dX8_init_18 : decode cX8_init 18 = .ok (.putfield 15, 3) := by decide +kernel
theorem dX8_init_21 : decode cX8_init 21 = .ok (.return_, 1) := by decide +kernel
theorem dX8_readFlags_0 : decode cX8_readFlags 0 = .ok (.aload_n 0, 1) := by decide +kernel
theorem dX8_readFlags_1 : decode cX8_readFlags 1 = .ok (.iconst 0, 1) := by decide +kernel
theorem dX8_readFlags_2 : decode cX8_readFlags 2 = .ok (.putfield 18, 3) := by decide +kernel
theorem dX8_readFlags_5 : decode cX8_readFlags 5 = .ok (.aload_n 1, 1) := by decide +kernel
theorem dX8_readFlags_6 : decode cX8_readFlags 6 = .ok (.getfield 22, 3) := by decide +kernel
theorem dX8_readFlags_9 : decode cX8_readFlags 9 = .ok (.bipush 7, 2) := by decide +kernel
theorem dX8_readFlags_11 : decode cX8_readFlags 11 = .ok (.if_icmp .le 5, 3) := by decide +kernel
theorem dX8_readFlags_14 : decode cX8_readFlags 14 = .ok (.iconst 0, 1) := by decide +kernel
theorem dX8_readFlags_15 : decode cX8_readFlags 15 = .ok (.ireturn, 1) := by decide +kernel
theorem dX8_readFlags_16 : decode cX8_readFlags 16 = .ok (.iconst 0, 1) := by decide +kernel
theorem dX8_readFlags_17 : decode cX8_readFlags 17 = .ok (.istore_n 2, 1) := by decide +kernel
theorem dX8_readFlags_18 : decode cX8_readFlags 18 = .ok (.iconst 0, 1) := by decide +kernel
theorem dX8_readFlags_19 : decode cX8_readFlags 19 = .ok (.istore_n 3, 1) := by decide +kernel
theorem dX8_readFlags_20 : decode cX8_readFlags 20 = .ok (.iload_n 3, 1) := by decide +kernel
theorem dX8_readFlags_21 : decode cX8_readFlags 21 = .ok (.aload_n 1, 1) := by decide +kernel
theorem dX8_readFlags_22 : decode cX8_readFlags 22 = .ok (.getfield 22, 3) := by decide +kernel
theorem dX8_readFlags_25 : decode cX8_readFlags 25 = .ok (.if_icmp .ge 70, 3) := by decide +kernel
theorem dX8_readFlags_28 : decode cX8_readFlags 28 = .ok (.iload_n 3, 1) := by decide +kernel
theorem dX8_readFlags_29 : decode cX8_readFlags 29 = .ok (.bipush 7, 2) := by decide +kernel
theorem dX8_readFlags_31 : decode cX8_readFlags 31 = .ok (.if_icmp .ge 64, 3) := by decide +kernel
theorem dX8_readFlags_34 : decode cX8_readFlags 34 = .ok (.aload_n 1, 1) := by decide +kernel
theorem dX8_readFlags_35 : decode cX8_readFlags 35 = .ok (.iload_n 3, 1) := by decide +kernel
theorem dX8_readFlags_36 : decode cX8_readFlags 36 = .ok (.invokevirtual 25, 3) := by decide +kernel
theorem dX8_readFlags_39 : decode cX8_readFlags 39 = .ok (.istore 4, 2) := by decide +kernel
theorem dX8_readFlags_41 : decode cX8_readFlags 41 = .ok (.iload 4, 2) := by decide +kernel
theorem dX8_readFlags_43 : decode cX8_readFlags 43 = .ok (.ifCond .lt 19, 3) := by decide +kernel
theorem dX8_readFlags_46 : decode cX8_readFlags 46 = .ok (.iload 4, 2) := by decide +kernel
theorem dX8_readFlags_48 : decode cX8_readFlags 48 = .ok (.bipush 16, 2) := by decide +kernel
theorem dX8_readFlags_50 : decode cX8_readFlags 50 = .ok (.if_icmp .ge 12, 3) := by decide +kernel
theorem dX8_readFlags_53 : decode cX8_readFlags 53 = .ok (.iload_n 2, 1) := by decide +kernel
theorem dX8_readFlags_54 : decode cX8_readFlags 54 = .ok (.iload 4, 2) := by decide +kernel
theorem dX8_readFlags_56 : decode cX8_readFlags 56 = .ok (.invokestatic 29, 3) := by decide +kernel
theorem dX8_readFlags_59 : decode cX8_readFlags 59 = .ok (.ifCond .eq 5, 3) := by decide +kernel
theorem dX8_readFlags_62 : decode cX8_readFlags 62 = .ok (.iconst 0, 1) := by decide +kernel
theorem dX8_readFlags_63 : decode cX8_readFlags 63 = .ok (.ireturn, 1) := by decide +kernel
theorem dX8_readFlags_64 : decode cX8_readFlags 64 = .ok (.iload_n 2, 1) := by decide +kernel
theorem dX8_readFlags_65 : decode cX8_readFlags 65 = .ok (.iconst 1, 1) := by decide +kernel
theorem dX8_readFlags_66 : decode cX8_readFlags 66 = .ok (.iload 4, 2) := by decide +kernel
theorem dX8_readFlags_68 : decode cX8_readFlags 68 = .ok (.ishl, 1) := by decide +kernel
theorem dX8_readFlags_69 : decode cX8_readFlags 69 = .ok (.ior, 1) := by decide +kernel
theorem dX8_readFlags_70 : decode cX8_readFlags 70 = .ok (.istore_n 2, 1) := by decide +kernel
theorem dX8_readFlags_71 : decode cX8_readFlags 71 = .ok (.aload_n 0, 1) := by decide +kernel
theorem dX8_readFlags_72 : decode cX8_readFlags 72 = .ok (.getfield 11, 3) := by decide +kernel
theorem dX8_readFlags_75 : decode cX8_readFlags 75 = .ok (.iload_n 3, 1) := by decide +kernel
theorem dX8_readFlags_76 : decode cX8_readFlags 76 = .ok (.iload 4, 2) := by decide +kernel
theorem dX8_readFlags_78 : decode cX8_readFlags 78 = .ok (.iastore, 1) := by decide +kernel
theorem dX8_readFlags_79 : decode cX8_readFlags 79 = .ok (.aload_n 0, 1) := by decide +kernel
theorem dX8_readFlags_80 : decode cX8_readFlags 80 = .ok (.dup, 1) := by decide +kernel
theorem dX8_readFlags_81 : decode cX8_readFlags 81 = .ok (.getfield 18, 3) := by decide +kernel
theorem dX8_readFlags_84 : decode cX8_readFlags 84 = .ok (.iconst 1, 1) := by decide +kernel
theorem dX8_readFlags_85 : decode cX8_readFlags 85 = .ok (.iadd, 1) := by decide +kernel
theorem dX8_readFlags_86 : decode cX8_readFlags 86 = .ok (.putfield 18, 3) := by decide +kernel
theorem dX8_readFlags_89 : decode cX8_readFlags 89 = .ok (.iinc 3 1, 3) := by decide +kernel
theorem dX8_readFlags_92 : decode cX8_readFlags 92 = .ok (.goto (-72), 3) := by decide +kernel
theorem dX8_readFlags_95 : decode cX8_readFlags 95 = .ok (.iconst 1, 1) := by decide +kernel
theorem dX8_readFlags_96 : decode cX8_readFlags 96 = .ok (.ireturn, 1) := by decide +kernel
theorem dX8_leastWay_0 : decode cX8_leastWay 0 = .ok (.iconst 1, 1) := by decide +kernel
theorem dX8_leastWay_1 : decode cX8_leastWay 1 = .ok (.aload_n 0, 1) := by decide +kernel
theorem dX8_leastWay_2 : decode cX8_leastWay 2 = .ok (.getfield 18, 3) := by decide +kernel
theorem dX8_leastWay_5 : decode cX8_leastWay 5 = .ok (.ishl, 1) := by decide +kernel
theorem dX8_leastWay_6 : decode cX8_leastWay 6 = .ok (.iconst 1, 1) := by decide +kernel
theorem dX8_leastWay_7 : decode cX8_leastWay 7 = .ok (.isub, 1) := by decide +kernel
theorem dX8_leastWay_8 : decode cX8_leastWay 8 = .ok (.istore_n 3, 1) := by decide +kernel
theorem dX8_leastWay_9 : decode cX8_leastWay 9 = .ok (.iconst 0, 1) := by decide +kernel
theorem dX8_leastWay_10 : decode cX8_leastWay 10 = .ok (.istore 4, 2) := by decide +kernel
theorem dX8_leastWay_12 : decode cX8_leastWay 12 = .ok (.iload 4, 2) := by decide +kernel
theorem dX8_leastWay_14 : decode cX8_leastWay 14 = .ok (.iload_n 3, 1) := by decide +kernel
theorem dX8_leastWay_15 : decode cX8_leastWay 15 = .ok (.if_icmp .gt 69, 3) := by decide +kernel
theorem dX8_leastWay_18 : decode cX8_leastWay 18 = .ok (.iload 4, 2) := by decide +kernel
theorem dX8_leastWay_20 : decode cX8_leastWay 20 = .ok (.sipush 128, 3) := by decide +kernel
theorem dX8_leastWay_23 : decode cX8_leastWay 23 = .ok (.if_icmp .ge 61, 3) := by decide +kernel
theorem dX8_leastWay_26 : decode cX8_leastWay 26 = .ok (.iconst 0, 1) := by decide +kernel
theorem dX8_leastWay_27 : decode cX8_leastWay 27 = .ok (.istore 5, 2) := by decide +kernel
theorem dX8_leastWay_29 : decode cX8_leastWay 29 = .ok (.iload 5, 2) := by decide +kernel
theorem dX8_leastWay_31 : decode cX8_leastWay 31 = .ok (.aload_n 0, 1) := by decide +kernel
theorem dX8_leastWay_32 : decode cX8_leastWay 32 = .ok (.getfield 18, 3) := by decide +kernel
theorem dX8_leastWay_35 : decode cX8_leastWay 35 = .ok (.if_icmp .ge 43, 3) := by decide +kernel
theorem dX8_leastWay_38 : decode cX8_leastWay 38 = .ok (.iload 5, 2) := by decide +kernel
theorem dX8_leastWay_40 : decode cX8_leastWay 40 = .ok (.bipush 7, 2) := by decide +kernel
theorem dX8_leastWay_42 : decode cX8_leastWay 42 = .ok (.if_icmp .ge 36, 3) := by decide +kernel
theorem dX8_leastWay_45 : decode cX8_leastWay 45 = .ok (.aload_n 0, 1) := by decide +kernel
theorem dX8_leastWay_46 : decode cX8_leastWay 46 = .ok (.getfield 15, 3) := by decide +kernel
theorem dX8_leastWay_49 : decode cX8_leastWay 49 = .ok (.iload 4, 2) := by decide +kernel
theorem dX8_leastWay_51 : decode cX8_leastWay 51 = .ok (.bipush 7, 2) := by decide +kernel
theorem dX8_leastWay_53 : decode cX8_leastWay 53 = .ok (.imul, 1) := by decide +kernel
theorem dX8_leastWay_54 : decode cX8_leastWay 54 = .ok (.iload 5, 2) := by decide +kernel
theorem dX8_leastWay_56 : decode cX8_leastWay 56 = .ok (.iadd, 1) := by decide +kernel
theorem dX8_leastWay_57 : decode cX8_leastWay 57 = .ok (.aload_n 0, 1) := by decide +kernel
theorem dX8_leastWay_58 : decode cX8_leastWay 58 = .ok (.aload_n 1, 1) := by decide +kernel
theorem dX8_leastWay_59 : decode cX8_leastWay 59 = .ok (.aload_n 0, 1) := by decide +kernel
theorem dX8_leastWay_60 : decode cX8_leastWay 60 = .ok (.getfield 11, 3) := by decide +kernel
theorem dX8_leastWay_63 : decode cX8_leastWay 63 = .ok (.iload 5, 2) := by decide +kernel
theorem dX8_leastWay_65 : decode cX8_leastWay 65 = .ok (.iaload, 1) := by decide +kernel
theorem dX8_leastWay_66 : decode cX8_leastWay 66 = .ok (.iload 4, 2) := by decide +kernel
theorem dX8_leastWay_68 : decode cX8_leastWay 68 = .ok (.invokevirtual 33, 3) := by decide +kernel
theorem dX8_leastWay_71 : decode cX8_leastWay 71 = .ok (.iastore, 1) := by decide +kernel
theorem dX8_leastWay_72 : decode cX8_leastWay 72 = .ok (.iinc 5 1, 3) := by decide +kernel
theorem dX8_leastWay_75 : decode cX8_leastWay 75 = .ok (.goto (-46), 3) := by decide +kernel
theorem dX8_leastWay_78 : decode cX8_leastWay 78 = .ok (.iinc 4 1, 3) := by decide +kernel
theorem dX8_leastWay_81 : decode cX8_leastWay 81 = .ok (.goto (-69), 3) := by decide +kernel
theorem dX8_leastWay_84 : decode cX8_leastWay 84 = .ok (.aload_n 0, 1) := by decide +kernel
theorem dX8_leastWay_85 : decode cX8_leastWay 85 = .ok (.aload_n 1, 1) := by decide +kernel
theorem dX8_leastWay_86 : decode cX8_leastWay 86 = .ok (.iload_n 2, 1) := by decide +kernel
theorem dX8_leastWay_87 : decode cX8_leastWay 87 = .ok (.iload_n 3, 1) := by decide +kernel
theorem dX8_leastWay_88 : decode cX8_leastWay 88 = .ok (.invokevirtual 33, 3) := by decide +kernel
theorem dX8_leastWay_91 : decode cX8_leastWay 91 = .ok (.ireturn, 1) := by decide +kernel
theorem dX8_firstFlag_0 : decode cX8_firstFlag 0 = .ok (.aload_n 0, 1) := by decide +kernel
theorem dX8_firstFlag_1 : decode cX8_firstFlag 1 = .ok (.aload_n 1, 1) := by decide +kernel
theorem dX8_firstFlag_2 : decode cX8_firstFlag 2 = .ok (.iload_n 2, 1) := by decide +kernel
theorem dX8_firstFlag_3 : decode cX8_firstFlag 3 = .ok (.invokevirtual 37, 3) := by decide +kernel
theorem dX8_firstFlag_6 : decode cX8_firstFlag 6 = .ok (.istore_n 3, 1) := by decide +kernel
theorem dX8_firstFlag_7 : decode cX8_firstFlag 7 = .ok (.iconst 1, 1) := by decide +kernel
theorem dX8_firstFlag_8 : decode cX8_firstFlag 8 = .ok (.aload_n 0, 1) := by decide +kernel
theorem dX8_firstFlag_9 : decode cX8_firstFlag 9 = .ok (.getfield 18, 3) := by decide +kernel
theorem dX8_firstFlag_12 : decode cX8_firstFlag 12 = .ok (.ishl, 1) := by decide +kernel
theorem dX8_firstFlag_13 : decode cX8_firstFlag 13 = .ok (.iconst 1, 1) := by decide +kernel
theorem dX8_firstFlag_14 : decode cX8_firstFlag 14 = .ok (.isub, 1) := by decide +kernel
theorem dX8_firstFlag_15 : decode cX8_firstFlag 15 = .ok (.istore 4, 2) := by decide +kernel
theorem dX8_firstFlag_17 : decode cX8_firstFlag 17 = .ok (.iconst (-1), 1) := by decide +kernel
theorem dX8_firstFlag_18 : decode cX8_firstFlag 18 = .ok (.istore 5, 2) := by decide +kernel
theorem dX8_firstFlag_20 : decode cX8_firstFlag 20 = .ok (.iconst 0, 1) := by decide +kernel
theorem dX8_firstFlag_21 : decode cX8_firstFlag 21 = .ok (.istore 6, 2) := by decide +kernel
theorem dX8_firstFlag_23 : decode cX8_firstFlag 23 = .ok (.iload 6, 2) := by decide +kernel
theorem dX8_firstFlag_25 : decode cX8_firstFlag 25 = .ok (.aload_n 0, 1) := by decide +kernel
theorem dX8_firstFlag_26 : decode cX8_firstFlag 26 = .ok (.getfield 18, 3) := by decide +kernel
theorem dX8_firstFlag_29 : decode cX8_firstFlag 29 = .ok (.if_icmp .ge 57, 3) := by decide +kernel
theorem dX8_firstFlag_32 : decode cX8_firstFlag 32 = .ok (.iload 6, 2) := by decide +kernel
theorem dX8_firstFlag_34 : decode cX8_firstFlag 34 = .ok (.bipush 7, 2) := by decide +kernel
theorem dX8_firstFlag_36 : decode cX8_firstFlag 36 = .ok (.if_icmp .ge 50, 3) := by decide +kernel
theorem dX8_firstFlag_39 : decode cX8_firstFlag 39 = .ok (.aload_n 0, 1) := by decide +kernel
theorem dX8_firstFlag_40 : decode cX8_firstFlag 40 = .ok (.aload_n 1, 1) := by decide +kernel
theorem dX8_firstFlag_41 : decode cX8_firstFlag 41 = .ok (.iload_n 2, 1) := by decide +kernel
theorem dX8_firstFlag_42 : decode cX8_firstFlag 42 = .ok (.iload 6, 2) := by decide +kernel
theorem dX8_firstFlag_44 : decode cX8_firstFlag 44 = .ok (.iload 4, 2) := by decide +kernel
theorem dX8_firstFlag_46 : decode cX8_firstFlag 46 = .ok (.invokevirtual 41, 3) := by decide +kernel
theorem dX8_firstFlag_49 : decode cX8_firstFlag 49 = .ok (.iload_n 3, 1) := by decide +kernel
theorem dX8_firstFlag_50 : decode cX8_firstFlag 50 = .ok (.if_icmp .ne 30, 3) := by decide +kernel
theorem dX8_firstFlag_53 : decode cX8_firstFlag 53 = .ok (.iload 5, 2) := by decide +kernel
theorem dX8_firstFlag_55 : decode cX8_firstFlag 55 = .ok (.iconst (-1), 1) := by decide +kernel
theorem dX8_firstFlag_56 : decode cX8_firstFlag 56 = .ok (.if_icmp .eq 15, 3) := by decide +kernel
theorem dX8_firstFlag_59 : decode cX8_firstFlag 59 = .ok (.aload_n 0, 1) := by decide +kernel
theorem dX8_firstFlag_60 : decode cX8_firstFlag 60 = .ok (.getfield 11, 3) := by decide +kernel
theorem dX8_firstFlag_63 : decode cX8_firstFlag 63 = .ok (.iload 6, 2) := by decide +kernel
theorem dX8_firstFlag_65 : decode cX8_firstFlag 65 = .ok (.iaload, 1) := by decide +kernel
theorem dX8_firstFlag_66 : decode cX8_firstFlag 66 = .ok (.iload 5, 2) := by decide +kernel
theorem dX8_firstFlag_68 : decode cX8_firstFlag 68 = .ok (.if_icmp .ge 12, 3) := by decide +kernel
theorem dX8_firstFlag_71 : decode cX8_firstFlag 71 = .ok (.aload_n 0, 1) := by decide +kernel
theorem dX8_firstFlag_72 : decode cX8_firstFlag 72 = .ok (.getfield 11, 3) := by decide +kernel
theorem dX8_firstFlag_75 : decode cX8_firstFlag 75 = .ok (.iload 6, 2) := by decide +kernel
theorem dX8_firstFlag_77 : decode cX8_firstFlag 77 = .ok (.iaload, 1) := by decide +kernel
theorem dX8_firstFlag_78 : decode cX8_firstFlag 78 = .ok (.istore 5, 2) := by decide +kernel
theorem dX8_firstFlag_80 : decode cX8_firstFlag 80 = .ok (.iinc 6 1, 3) := by decide +kernel
theorem dX8_firstFlag_83 : decode cX8_firstFlag 83 = .ok (.goto (-60), 3) := by decide +kernel
theorem dX8_firstFlag_86 : decode cX8_firstFlag 86 = .ok (.iload 5, 2) := by decide +kernel
theorem dX8_firstFlag_88 : decode cX8_firstFlag 88 = .ok (.ireturn, 1) := by decide +kernel
theorem dX8_leastFrom_0 : decode cX8_leastFrom 0 = .ok (.iload_n 3, 1) := by decide +kernel
theorem dX8_leastFrom_1 : decode cX8_leastFrom 1 = .ok (.ifCond .ne 7, 3) := by decide +kernel
theorem dX8_leastFrom_4 : decode cX8_leastFrom 4 = .ok (.iconst 0, 1) := by decide +kernel
theorem dX8_leastFrom_5 : decode cX8_leastFrom 5 = .ok (.goto 5, 3) := by decide +kernel
theorem dX8_leastFrom_8 : decode cX8_leastFrom 8 = .ok (.ldc 45, 2) := by decide +kernel
theorem dX8_leastFrom_10 : decode cX8_leastFrom 10 = .ok (.istore 4, 2) := by decide +kernel
theorem dX8_leastFrom_12 : decode cX8_leastFrom 12 = .ok (.iconst 0, 1) := by decide +kernel
theorem dX8_leastFrom_13 : decode cX8_leastFrom 13 = .ok (.istore 5, 2) := by decide +kernel
theorem dX8_leastFrom_15 : decode cX8_leastFrom 15 = .ok (.iload 5, 2) := by decide +kernel
theorem dX8_leastFrom_17 : decode cX8_leastFrom 17 = .ok (.aload_n 0, 1) := by decide +kernel
theorem dX8_leastFrom_18 : decode cX8_leastFrom 18 = .ok (.getfield 18, 3) := by decide +kernel
theorem dX8_leastFrom_21 : decode cX8_leastFrom 21 = .ok (.if_icmp .ge 34, 3) := by decide +kernel
theorem dX8_leastFrom_24 : decode cX8_leastFrom 24 = .ok (.iload_n 3, 1) := by decide +kernel
theorem dX8_leastFrom_25 : decode cX8_leastFrom 25 = .ok (.iload 5, 2) := by decide +kernel
theorem dX8_leastFrom_27 : decode cX8_leastFrom 27 = .ok (.invokestatic 29, 3) := by decide +kernel
theorem dX8_leastFrom_30 : decode cX8_leastFrom 30 = .ok (.ifCond .eq 19, 3) := by decide +kernel
theorem dX8_leastFrom_33 : decode cX8_leastFrom 33 = .ok (.iload 4, 2) := by decide +kernel
theorem dX8_leastFrom_35 : decode cX8_leastFrom 35 = .ok (.aload_n 0, 1) := by decide +kernel
theorem dX8_leastFrom_36 : decode cX8_leastFrom 36 = .ok (.aload_n 1, 1) := by decide +kernel
theorem dX8_leastFrom_37 : decode cX8_leastFrom 37 = .ok (.iload_n 2, 1) := by decide +kernel
theorem dX8_leastFrom_38 : decode cX8_leastFrom 38 = .ok (.iload 5, 2) := by decide +kernel
theorem dX8_leastFrom_40 : decode cX8_leastFrom 40 = .ok (.iload_n 3, 1) := by decide +kernel
theorem dX8_leastFrom_41 : decode cX8_leastFrom 41 = .ok (.invokevirtual 41, 3) := by decide +kernel
theorem dX8_leastFrom_44 : decode cX8_leastFrom 44 = .ok (.invokestatic 46, 3) := by decide +kernel
theorem dX8_leastFrom_47 : decode cX8_leastFrom 47 = .ok (.istore 4, 2) := by decide +kernel
theorem dX8_leastFrom_49 : decode cX8_leastFrom 49 = .ok (.iinc 5 1, 3) := by decide +kernel
theorem dX8_leastFrom_52 : decode cX8_leastFrom 52 = .ok (.goto (-37), 3) := by decide +kernel
theorem dX8_leastFrom_55 : decode cX8_leastFrom 55 = .ok (.iload 4, 2) := by decide +kernel
theorem dX8_leastFrom_57 : decode cX8_leastFrom 57 = .ok (.ireturn, 1) := by decide +kernel
theorem dX8_wayBy_0 : decode cX8_wayBy 0 = .ok (.iload 4, 2) := by decide +kernel
theorem dX8_wayBy_2 : decode cX8_wayBy 2 = .ok (.iconst 1, 1) := by decide +kernel
theorem dX8_wayBy_3 : decode cX8_wayBy 3 = .ok (.iload_n 3, 1) := by decide +kernel
theorem dX8_wayBy_4 : decode cX8_wayBy 4 = .ok (.ishl, 1) := by decide +kernel
theorem dX8_wayBy_5 : decode cX8_wayBy 5 = .ok (.iconst (-1), 1) := by decide +kernel
theorem dX8_wayBy_6 : decode cX8_wayBy 6 = .ok (.ixor, 1) := by decide +kernel
theorem dX8_wayBy_7 : decode cX8_wayBy 7 = .ok (.iand, 1) := by decide +kernel
theorem dX8_wayBy_8 : decode cX8_wayBy 8 = .ok (.bipush 7, 2) := by decide +kernel
theorem dX8_wayBy_10 : decode cX8_wayBy 10 = .ok (.imul, 1) := by decide +kernel
theorem dX8_wayBy_11 : decode cX8_wayBy 11 = .ok (.iload_n 3, 1) := by decide +kernel
theorem dX8_wayBy_12 : decode cX8_wayBy 12 = .ok (.iadd, 1) := by decide +kernel
theorem dX8_wayBy_13 : decode cX8_wayBy 13 = .ok (.istore 5, 2) := by decide +kernel
theorem dX8_wayBy_15 : decode cX8_wayBy 15 = .ok (.iload_n 3, 1) := by decide +kernel
theorem dX8_wayBy_16 : decode cX8_wayBy 16 = .ok (.ifCond .lt 24, 3) := by decide +kernel
theorem dX8_wayBy_19 : decode cX8_wayBy 19 = .ok (.iload_n 3, 1) := by decide +kernel
theorem dX8_wayBy_20 : decode cX8_wayBy 20 = .ok (.bipush 7, 2) := by decide +kernel
theorem dX8_wayBy_22 : decode cX8_wayBy 22 = .ok (.if_icmp .ge 18, 3) := by decide +kernel
theorem dX8_wayBy_25 : decode cX8_wayBy 25 = .ok (.iload 5, 2) := by decide +kernel
theorem dX8_wayBy_27 : decode cX8_wayBy 27 = .ok (.ifCond .lt 13, 3) := by decide +kernel
theorem dX8_wayBy_30 : decode cX8_wayBy 30 = .ok (.iload 5, 2) := by decide +kernel
theorem dX8_wayBy_32 : decode cX8_wayBy 32 = .ok (.aload_n 0, 1) := by decide +kernel
theorem dX8_wayBy_33 : decode cX8_wayBy 33 = .ok (.getfield 15, 3) := by decide +kernel
theorem dX8_wayBy_36 : decode cX8_wayBy 36 = .ok (.arraylength, 1) := by decide +kernel
theorem dX8_wayBy_37 : decode cX8_wayBy 37 = .ok (.if_icmp .lt 5, 3) := by decide +kernel
theorem dX8_wayBy_40 : decode cX8_wayBy 40 = .ok (.iconst 0, 1) := by decide +kernel
theorem dX8_wayBy_41 : decode cX8_wayBy 41 = .ok (.ireturn, 1) := by decide +kernel
theorem dX8_wayBy_42 : decode cX8_wayBy 42 = .ok (.aload_n 1, 1) := by decide +kernel
theorem dX8_wayBy_43 : decode cX8_wayBy 43 = .ok (.iload_n 2, 1) := by decide +kernel
theorem dX8_wayBy_44 : decode cX8_wayBy 44 = .ok (.aload_n 0, 1) := by decide +kernel
theorem dX8_wayBy_45 : decode cX8_wayBy 45 = .ok (.getfield 11, 3) := by decide +kernel
theorem dX8_wayBy_48 : decode cX8_wayBy 48 = .ok (.iload_n 3, 1) := by decide +kernel
theorem dX8_wayBy_49 : decode cX8_wayBy 49 = .ok (.iaload, 1) := by decide +kernel
theorem dX8_wayBy_50 : decode cX8_wayBy 50 = .ok (.invokevirtual 52, 3) := by decide +kernel
theorem dX8_wayBy_53 : decode cX8_wayBy 53 = .ok (.aload_n 0, 1) := by decide +kernel
theorem dX8_wayBy_54 : decode cX8_wayBy 54 = .ok (.getfield 15, 3) := by decide +kernel
theorem dX8_wayBy_57 : decode cX8_wayBy 57 = .ok (.iload 5, 2) := by decide +kernel
theorem dX8_wayBy_59 : decode cX8_wayBy 59 = .ok (.iaload, 1) := by decide +kernel
theorem dX8_wayBy_60 : decode cX8_wayBy 60 = .ok (.iadd, 1) := by decide +kernel
theorem dX8_wayBy_61 : decode cX8_wayBy 61 = .ok (.ireturn, 1) := by decide +kernel
theorem dX9_init_0 : decode cX9_init 0 = .ok (.aload_n 0, 1) := by decide +kernel
theorem dX9_init_1 : decode cX9_init 1 = .ok (.invokespecial 3, 3) := by decide +kernel
theorem dX9_init_4 : decode cX9_init 4 = .ok (.aload_n 0, 1) := by decide +kernel
theorem dX9_init_5 : decode cX9_init 5 = .ok (.sipush 128, 3) := by decide +kernel
theorem dX9_init_8 : decode cX9_init 8 = .ok (.newarray .int, 2) := by decide +kernel
theorem dX9_init_10 : decode cX9_init 10 = .ok (.putfield 9, 3) := by decide +kernel
theorem dX9_init_13 : decode cX9_init 13 = .ok (.aload_n 0, 1) := by decide +kernel
theorem dX9_init_14 : decode cX9_init 14 = .ok (.bipush 7, 2) := by decide +kernel
theorem dX9_init_16 : decode cX9_init 16 = .ok (.newarray .int, 2) := by decide +kernel
theorem dX9_init_18 : decode cX9_init 18 = .ok (.putfield 15, 3) := by decide +kernel
theorem dX9_init_21 : decode cX9_init 21 = .ok (.aload_n 0, 1) := by decide +kernel
theorem dX9_init_22 : decode cX9_init 22 = .ok (.bipush 7, 2) := by decide +kernel
theorem dX9_init_24 : decode cX9_init 24 = .ok (.newarray .int, 2) := by decide +kernel
theorem dX9_init_26 : decode cX9_init 26 = .ok (.putfield 18, 3) := by decide +kernel
theorem dX9_init_29 : decode cX9_init 29 = .ok (.aload_n 0, 1) := by decide +kernel
theorem dX9_init_30 : decode cX9_init 30 = .ok (.bipush 7, 2) := by decide +kernel
theorem dX9_init_32 : decode cX9_init 32 = .ok (.newarray .int, 2) := by decide +kernel
theorem dX9_init_34 : decode cX9_init 34 = .ok (.putfield 21, 3) := by decide +kernel
theorem dX9_init_37 : decode cX9_init 37 = .ok (.return_, 1) := by decide +kernel
theorem dX9_gatherLikes_0 : decode cX9_gatherLikes 0 = .ok (.iconst 0, 1) := by decide +kernel
theorem dX9_gatherLikes_1 : decode cX9_gatherLikes 1 = .ok (.istore_n 2, 1) := by decide +kernel
theorem dX9_gatherLikes_2 : decode cX9_gatherLikes 2 = .ok (.iload_n 2, 1) := by decide +kernel
theorem dX9_gatherLikes_3 : decode cX9_gatherLikes 3 = .ok (.sipush 128, 3) := by decide +kernel
theorem dX9_gatherLikes_6 : decode cX9_gatherLikes 6 = .ok (.if_icmp .ge 55, 3) := by decide +kernel
theorem dX9_gatherLikes_9 : decode cX9_gatherLikes 9 = .ok (.aload_n 0, 1) := by decide +kernel
theorem dX9_gatherLikes_10 : decode cX9_gatherLikes 10 = .ok (.getfield 9, 3) := by decide +kernel
theorem dX9_gatherLikes_13 : decode cX9_gatherLikes 13 = .ok (.iload_n 2, 1) := by decide +kernel
theorem dX9_gatherLikes_14 : decode cX9_gatherLikes 14 = .ok (.iconst 0, 1) := by decide +kernel
theorem dX9_gatherLikes_15 : decode cX9_gatherLikes 15 = .ok (.iastore, 1) := by decide +kernel
theorem dX9_gatherLikes_16 : decode cX9_gatherLikes 16 = .ok (.iconst 0, 1) := by decide +kernel
theorem dX9_gatherLikes_17 : decode cX9_gatherLikes 17 = .ok (.istore_n 3, 1) := by decide +kernel
theorem dX9_gatherLikes_18 : decode cX9_gatherLikes 18 = .ok (.iload_n 3, 1) := by decide +kernel
theorem dX9_gatherLikes_19 : decode cX9_gatherLikes 19 = .ok (.aload_n 1, 1) := by decide +kernel
theorem dX9_gatherLikes_20 : decode cX9_gatherLikes 20 = .ok (.getfield 24, 3) := by decide +kernel
theorem dX9_gatherLikes_23 : decode cX9_gatherLikes 23 = .ok (.if_icmp .ge 32, 3) := by decide +kernel
theorem dX9_gatherLikes_26 : decode cX9_gatherLikes 26 = .ok (.iload_n 2, 1) := by decide +kernel
theorem dX9_gatherLikes_27 : decode cX9_gatherLikes 27 = .ok (.iload_n 3, 1) := by decide +kernel
theorem dX9_gatherLikes_28 : decode cX9_gatherLikes 28 = .ok (.invokestatic 30, 3) := by decide +kernel
theorem dX9_gatherLikes_31 : decode cX9_gatherLikes 31 = .ok (.ifCond .eq 18, 3) := by decide +kernel
theorem dX9_gatherLikes_34 : decode cX9_gatherLikes 34 = .ok (.aload_n 0, 1) := by decide +kernel
theorem dX9_gatherLikes_35 : decode cX9_gatherLikes 35 = .ok (.getfield 9, 3) := by decide +kernel
theorem dX9_gatherLikes_38 : decode cX9_gatherLikes 38 = .ok (.iload_n 2, 1) := by decide +kernel
theorem dX9_gatherLikes_39 : decode cX9_gatherLikes 39 = .ok (.dup2, 1) := by decide +kernel
theorem dX9_gatherLikes_40 : decode cX9_gatherLikes 40 = .ok (.iaload, 1) := by decide +kernel
theorem dX9_gatherLikes_41 : decode cX9_gatherLikes 41 = .ok (.aload_n 1, 1) := by decide +kernel
theorem dX9_gatherLikes_42 : decode cX9_gatherLikes 42 = .ok (.iconst 3, 1) := by decide +kernel
theorem dX9_gatherLikes_43 : decode cX9_gatherLikes 43 = .ok (.iload_n 3, 1) := by decide +kernel
theorem dX9_gatherLikes_44 : decode cX9_gatherLikes 44 = .ok (.invokevirtual 34, 3) := by decide +kernel
theorem dX9_gatherLikes_47 : decode cX9_gatherLikes 47 = .ok (.ior, 1) := by decide +kernel
theorem dX9_gatherLikes_48 : decode cX9_gatherLikes 48 = .ok (.iastore, 1) := by decide +kernel
theorem dX9_gatherLikes_49 : decode cX9_gatherLikes 49 = .ok (.iinc 3 1, 3) := by decide +kernel
theorem dX9_gatherLikes_52 : decode cX9_gatherLikes 52 = .ok (.goto (-34), 3) := by decide +kernel
theorem dX9_gatherLikes_55 : decode cX9_gatherLikes 55 = .ok (.iinc 2 1, 3) := by decide +kernel
theorem dX9_gatherLikes_58 : decode cX9_gatherLikes 58 = .ok (.goto (-56), 3) := by decide +kernel
theorem dX9_gatherLikes_61 : decode cX9_gatherLikes 61 = .ok (.return_, 1) := by decide +kernel
theorem dX9_seatable_0 : decode cX9_seatable 0 = .ok (.iload_n 1, 1) := by decide +kernel
theorem dX9_seatable_1 : decode cX9_seatable 1 = .ok (.invokestatic 38, 3) := by decide +kernel
theorem dX9_seatable_4 : decode cX9_seatable 4 = .ok (.istore_n 3, 1) := by decide +kernel
theorem dX9_seatable_5 : decode cX9_seatable 5 = .ok (.iconst 0, 1) := by decide +kernel
theorem dX9_seatable_6 : decode cX9_seatable 6 = .ok (.istore 4, 2) := by decide +kernel
theorem dX9_seatable_8 : decode cX9_seatable 8 = .ok (.iload 4, 2) := by decide +kernel
theorem dX9_seatable_10 : decode cX9_seatable 10 = .ok (.iload_n 1, 1) := by decide +kernel
theorem dX9_seatable_11 : decode cX9_seatable 11 = .ok (.if_icmp .gt 57, 3) := by decide +kernel
theorem dX9_seatable_14 : decode cX9_seatable 14 = .ok (.iload 4, 2) := by decide +kernel
theorem dX9_seatable_16 : decode cX9_seatable 16 = .ok (.sipush 128, 3) := by decide +kernel
theorem dX9_seatable_19 : decode cX9_seatable 19 = .ok (.if_icmp .ge 49, 3) := by decide +kernel
theorem dX9_seatable_22 : decode cX9_seatable 22 = .ok (.iload 4, 2) := by decide +kernel
theorem dX9_seatable_24 : decode cX9_seatable 24 = .ok (.iload_n 1, 1) := by decide +kernel
theorem dX9_seatable_25 : decode cX9_seatable 25 = .ok (.iconst (-1), 1) := by decide +kernel
theorem dX9_seatable_26 : decode cX9_seatable 26 = .ok (.ixor, 1) := by decide +kernel
theorem dX9_seatable_27 : decode cX9_seatable 27 = .ok (.iand, 1) := by decide +kernel
theorem dX9_seatable_28 : decode cX9_seatable 28 = .ok (.ifCond .ne 34, 3) := by decide +kernel
theorem dX9_seatable_31 : decode cX9_seatable 31 = .ok (.iload_n 1, 1) := by decide +kernel
theorem dX9_seatable_32 : decode cX9_seatable 32 = .ok (.iload 4, 2) := by decide +kernel
theorem dX9_seatable_34 : decode cX9_seatable 34 = .ok (.iconst (-1), 1) := by decide +kernel
theorem dX9_seatable_35 : decode cX9_seatable 35 = .ok (.ixor, 1) := by decide +kernel
theorem dX9_seatable_36 : decode cX9_seatable 36 = .ok (.iand, 1) := by decide +kernel
theorem dX9_seatable_37 : decode cX9_seatable 37 = .ok (.invokestatic 38, 3) := by decide +kernel
theorem dX9_seatable_40 : decode cX9_seatable 40 = .ok (.aload_n 0, 1) := by decide +kernel
theorem dX9_seatable_41 : decode cX9_seatable 41 = .ok (.getfield 9, 3) := by decide +kernel
theorem dX9_seatable_44 : decode cX9_seatable 44 = .ok (.iload 4, 2) := by decide +kernel
theorem dX9_seatable_46 : decode cX9_seatable 46 = .ok (.iaload, 1) := by decide +kernel
theorem dX9_seatable_47 : decode cX9_seatable 47 = .ok (.iload_n 2, 1) := by decide +kernel
theorem dX9_seatable_48 : decode cX9_seatable 48 = .ok (.iand, 1) := by decide +kernel
theorem dX9_seatable_49 : decode cX9_seatable 49 = .ok (.invokestatic 38, 3) := by decide +kernel
theorem dX9_seatable_52 : decode cX9_seatable 52 = .ok (.iadd, 1) := by decide +kernel
theorem dX9_seatable_53 : decode cX9_seatable 53 = .ok (.istore 5, 2) := by decide +kernel
theorem dX9_seatable_55 : decode cX9_seatable 55 = .ok (.iload_n 3, 1) := by decide +kernel
theorem dX9_seatable_56 : decode cX9_seatable 56 = .ok (.iload 5, 2) := by decide +kernel
theorem dX9_seatable_58 : decode cX9_seatable 58 = .ok (.invokestatic 44, 3) := by decide +kernel
theorem dX9_seatable_61 : decode cX9_seatable 61 = .ok (.istore_n 3, 1) := by decide +kernel
theorem dX9_seatable_62 : decode cX9_seatable 62 = .ok (.iinc 4 1, 3) := by decide +kernel
theorem dX9_seatable_65 : decode cX9_seatable 65 = .ok (.goto (-57), 3) := by decide +kernel
theorem dX9_seatable_68 : decode cX9_seatable 68 = .ok (.iload_n 3, 1) := by decide +kernel
theorem dX9_seatable_69 : decode cX9_seatable 69 = .ok (.ireturn, 1) := by decide +kernel
theorem dX9_mostSeated_0 : decode cX9_mostSeated 0 = .ok (.aload_n 0, 1) := by decide +kernel
theorem dX9_mostSeated_1 : decode cX9_mostSeated 1 = .ok (.aload_n 1, 1) := by decide +kernel
theorem dX9_mostSeated_2 : decode cX9_mostSeated 2 = .ok (.invokevirtual 49, 3) := by decide +kernel
theorem dX9_mostSeated_5 : decode cX9_mostSeated 5 = .ok (.aload_n 0, 1) := by decide +kernel
theorem dX9_mostSeated_6 : decode cX9_mostSeated 6 = .ok (.iconst 1, 1) := by decide +kernel
theorem dX9_mostSeated_7 : decode cX9_mostSeated 7 = .ok (.aload_n 1, 1) := by decide +kernel
theorem dX9_mostSeated_8 : decode cX9_mostSeated 8 = .ok (.getfield 24, 3) := by decide +kernel
theorem dX9_mostSeated_11 : decode cX9_mostSeated 11 = .ok (.ishl, 1) := by decide +kernel
theorem dX9_mostSeated_12 : decode cX9_mostSeated 12 = .ok (.iconst 1, 1) := by decide +kernel
theorem dX9_mostSeated_13 : decode cX9_mostSeated 13 = .ok (.isub, 1) := by decide +kernel
theorem dX9_mostSeated_14 : decode cX9_mostSeated 14 = .ok (.sipush 4095, 3) := by decide +kernel
theorem dX9_mostSeated_17 : decode cX9_mostSeated 17 = .ok (.invokevirtual 53, 3) := by decide +kernel
theorem dX9_mostSeated_20 : decode cX9_mostSeated 20 = .ok (.ireturn, 1) := by decide +kernel
theorem dX9_seatOf_0 : decode cX9_seatOf 0 = .ok (.sipush 4095, 3) := by decide +kernel
theorem dX9_seatOf_3 : decode cX9_seatOf 3 = .ok (.istore_n 3, 1) := by decide +kernel
theorem dX9_seatOf_4 : decode cX9_seatOf 4 = .ok (.aload_n 0, 1) := by decide +kernel
theorem dX9_seatOf_5 : decode cX9_seatOf 5 = .ok (.aload_n 1, 1) := by decide +kernel
theorem dX9_seatOf_6 : decode cX9_seatOf 6 = .ok (.invokevirtual 56, 3) := by decide +kernel
theorem dX9_seatOf_9 : decode cX9_seatOf 9 = .ok (.istore 4, 2) := by decide +kernel
theorem dX9_seatOf_11 : decode cX9_seatOf 11 = .ok (.iconst 1, 1) := by decide +kernel
theorem dX9_seatOf_12 : decode cX9_seatOf 12 = .ok (.aload_n 1, 1) := by decide +kernel
theorem dX9_seatOf_13 : decode cX9_seatOf 13 = .ok (.getfield 24, 3) := by decide +kernel
theorem dX9_seatOf_16 : decode cX9_seatOf 16 = .ok (.ishl, 1) := by decide +kernel
theorem dX9_seatOf_17 : decode cX9_seatOf 17 = .ok (.iconst 1, 1) := by decide +kernel
theorem dX9_seatOf_18 : decode cX9_seatOf 18 = .ok (.isub, 1) := by decide +kernel
theorem dX9_seatOf_19 : decode cX9_seatOf 19 = .ok (.istore 5, 2) := by decide +kernel
theorem dX9_seatOf_21 : decode cX9_seatOf 21 = .ok (.iconst (-1), 1) := by decide +kernel
theorem dX9_seatOf_22 : decode cX9_seatOf 22 = .ok (.istore 6, 2) := by decide +kernel
theorem dX9_seatOf_24 : decode cX9_seatOf 24 = .ok (.iconst 0, 1) := by decide +kernel
theorem dX9_seatOf_25 : decode cX9_seatOf 25 = .ok (.istore 7, 2) := by decide +kernel
theorem dX9_seatOf_27 : decode cX9_seatOf 27 = .ok (.iload 7, 2) := by decide +kernel
theorem dX9_seatOf_29 : decode cX9_seatOf 29 = .ok (.iload_n 2, 1) := by decide +kernel
theorem dX9_seatOf_30 : decode cX9_seatOf 30 = .ok (.if_icmp .gt 58, 3) := by decide +kernel
theorem dX9_seatOf_33 : decode cX9_seatOf 33 = .ok (.iload 5, 2) := by decide +kernel
theorem dX9_seatOf_35 : decode cX9_seatOf 35 = .ok (.iconst 1, 1) := by decide +kernel
theorem dX9_seatOf_36 : decode cX9_seatOf 36 = .ok (.iload 7, 2) := by decide +kernel
theorem dX9_seatOf_38 : decode cX9_seatOf 38 = .ok (.ishl, 1) := by decide +kernel
theorem dX9_seatOf_39 : decode cX9_seatOf 39 = .ok (.iconst (-1), 1) := by decide +kernel
theorem dX9_seatOf_40 : decode cX9_seatOf 40 = .ok (.ixor, 1) := by decide +kernel
theorem dX9_seatOf_41 : decode cX9_seatOf 41 = .ok (.iand, 1) := by decide +kernel
theorem dX9_seatOf_42 : decode cX9_seatOf 42 = .ok (.istore 5, 2) := by decide +kernel
theorem dX9_seatOf_44 : decode cX9_seatOf 44 = .ok (.aload_n 0, 1) := by decide +kernel
theorem dX9_seatOf_45 : decode cX9_seatOf 45 = .ok (.aload_n 1, 1) := by decide +kernel
theorem dX9_seatOf_46 : decode cX9_seatOf 46 = .ok (.iconst 3, 1) := by decide +kernel
theorem dX9_seatOf_47 : decode cX9_seatOf 47 = .ok (.iload 7, 2) := by decide +kernel
theorem dX9_seatOf_49 : decode cX9_seatOf 49 = .ok (.invokevirtual 34, 3) := by decide +kernel
theorem dX9_seatOf_52 : decode cX9_seatOf 52 = .ok (.iload_n 3, 1) := by decide +kernel
theorem dX9_seatOf_53 : decode cX9_seatOf 53 = .ok (.iand, 1) := by decide +kernel
theorem dX9_seatOf_54 : decode cX9_seatOf 54 = .ok (.iload 5, 2) := by decide +kernel
theorem dX9_seatOf_56 : decode cX9_seatOf 56 = .ok (.iload_n 3, 1) := by decide +kernel
theorem dX9_seatOf_57 : decode cX9_seatOf 57 = .ok (.iload 4, 2) := by decide +kernel
theorem dX9_seatOf_59 : decode cX9_seatOf 59 = .ok (.invokevirtual 60, 3) := by decide +kernel
theorem dX9_seatOf_62 : decode cX9_seatOf 62 = .ok (.istore 6, 2) := by decide +kernel
theorem dX9_seatOf_64 : decode cX9_seatOf 64 = .ok (.iload 6, 2) := by decide +kernel
theorem dX9_seatOf_66 : decode cX9_seatOf 66 = .ok (.iconst (-1), 1) := by decide +kernel
theorem dX9_seatOf_67 : decode cX9_seatOf 67 = .ok (.if_icmp .eq 15, 3) := by decide +kernel
theorem dX9_seatOf_70 : decode cX9_seatOf 70 = .ok (.iload_n 3, 1) := by decide +kernel
theorem dX9_seatOf_71 : decode cX9_seatOf 71 = .ok (.iconst 1, 1) := by decide +kernel
theorem dX9_seatOf_72 : decode cX9_seatOf 72 = .ok (.iload 6, 2) := by decide +kernel
theorem dX9_seatOf_74 : decode cX9_seatOf 74 = .ok (.ishl, 1) := by decide +kernel
theorem dX9_seatOf_75 : decode cX9_seatOf 75 = .ok (.iconst (-1), 1) := by decide +kernel
theorem dX9_seatOf_76 : decode cX9_seatOf 76 = .ok (.ixor, 1) := by decide +kernel
theorem dX9_seatOf_77 : decode cX9_seatOf 77 = .ok (.iand, 1) := by decide +kernel
theorem dX9_seatOf_78 : decode cX9_seatOf 78 = .ok (.istore_n 3, 1) := by decide +kernel
theorem dX9_seatOf_79 : decode cX9_seatOf 79 = .ok (.iinc 4 (-1), 3) := by decide +kernel
theorem dX9_seatOf_82 : decode cX9_seatOf 82 = .ok (.iinc 7 1, 3) := by decide +kernel
theorem dX9_seatOf_85 : decode cX9_seatOf 85 = .ok (.goto (-58), 3) := by decide +kernel
theorem dX9_seatOf_88 : decode cX9_seatOf 88 = .ok (.iload 6, 2) := by decide +kernel
theorem dX9_seatOf_90 : decode cX9_seatOf 90 = .ok (.ireturn, 1) := by decide +kernel
theorem dX9_firstSeat_0 : decode cX9_firstSeat 0 = .ok (.iconst 0, 1) := by decide +kernel
theorem dX9_firstSeat_1 : decode cX9_firstSeat 1 = .ok (.istore 5, 2) := by decide +kernel
theorem dX9_firstSeat_3 : decode cX9_firstSeat 3 = .ok (.iload 5, 2) := by decide +kernel
theorem dX9_firstSeat_5 : decode cX9_firstSeat 5 = .ok (.bipush 12, 2) := by decide +kernel
theorem dX9_firstSeat_7 : decode cX9_firstSeat 7 = .ok (.if_icmp .ge 41, 3) := by decide +kernel
theorem dX9_firstSeat_10 : decode cX9_firstSeat 10 = .ok (.iload_n 1, 1) := by decide +kernel
theorem dX9_firstSeat_11 : decode cX9_firstSeat 11 = .ok (.iload 5, 2) := by decide +kernel
theorem dX9_firstSeat_13 : decode cX9_firstSeat 13 = .ok (.invokestatic 30, 3) := by decide +kernel
theorem dX9_firstSeat_16 : decode cX9_firstSeat 16 = .ok (.ifCond .eq 26, 3) := by decide +kernel
theorem dX9_firstSeat_19 : decode cX9_firstSeat 19 = .ok (.iconst 1, 1) := by decide +kernel
theorem dX9_firstSeat_20 : decode cX9_firstSeat 20 = .ok (.aload_n 0, 1) := by decide +kernel
theorem dX9_firstSeat_21 : decode cX9_firstSeat 21 = .ok (.iload_n 2, 1) := by decide +kernel
theorem dX9_firstSeat_22 : decode cX9_firstSeat 22 = .ok (.iload_n 3, 1) := by decide +kernel
theorem dX9_firstSeat_23 : decode cX9_firstSeat 23 = .ok (.iconst 1, 1) := by decide +kernel
theorem dX9_firstSeat_24 : decode cX9_firstSeat 24 = .ok (.iload 5, 2) := by decide +kernel
theorem dX9_firstSeat_26 : decode cX9_firstSeat 26 = .ok (.ishl, 1) := by decide +kernel
theorem dX9_firstSeat_27 : decode cX9_firstSeat 27 = .ok (.iconst (-1), 1) := by decide +kernel
theorem dX9_firstSeat_28 : decode cX9_firstSeat 28 = .ok (.ixor, 1) := by decide +kernel
theorem dX9_firstSeat_29 : decode cX9_firstSeat 29 = .ok (.iand, 1) := by decide +kernel
theorem dX9_firstSeat_30 : decode cX9_firstSeat 30 = .ok (.invokevirtual 53, 3) := by decide +kernel
theorem dX9_firstSeat_33 : decode cX9_firstSeat 33 = .ok (.iadd, 1) := by decide +kernel
theorem dX9_firstSeat_34 : decode cX9_firstSeat 34 = .ok (.iload 4, 2) := by decide +kernel
theorem dX9_firstSeat_36 : decode cX9_firstSeat 36 = .ok (.if_icmp .ne 6, 3) := by decide +kernel
theorem dX9_firstSeat_39 : decode cX9_firstSeat 39 = .ok (.iload 5, 2) := by decide +kernel
theorem dX9_firstSeat_41 : decode cX9_firstSeat 41 = .ok (.ireturn, 1) := by decide +kernel
theorem dX9_firstSeat_42 : decode cX9_firstSeat 42 = .ok (.iinc 5 1, 3) := by decide +kernel
theorem dX9_firstSeat_45 : decode cX9_firstSeat 45 = .ok (.goto (-42), 3) := by decide +kernel
theorem dX9_firstSeat_48 : decode cX9_firstSeat 48 = .ok (.iconst (-1), 1) := by decide +kernel
theorem dX9_firstSeat_49 : decode cX9_firstSeat 49 = .ok (.ireturn, 1) := by decide +kernel
theorem dX9_fewestWithTooFew_0 : decode cX9_fewestWithTooFew 0 = .ok (.aload_n 0, 1) := by decide +kernel
theorem dX9_fewestWithTooFew_1 : decode cX9_fewestWithTooFew 1 = .ok (.aload_n 1, 1) := by decide +kernel
theorem dX9_fewestWithTooFew_2 : decode cX9_fewestWithTooFew 2 = .ok (.invokevirtual 49, 3) := by decide +kernel
theorem dX9_fewestWithTooFew_5 : decode cX9_fewestWithTooFew 5 = .ok (.iconst 0, 1) := by decide +kernel
theorem dX9_fewestWithTooFew_6 : decode cX9_fewestWithTooFew 6 = .ok (.istore_n 2, 1) := by decide +kernel
theorem dX9_fewestWithTooFew_7 : decode cX9_fewestWithTooFew 7 = .ok (.bipush 8, 2) := by decide +kernel
theorem dX9_fewestWithTooFew_9 : decode cX9_fewestWithTooFew 9 = .ok (.istore_n 3, 1) := by decide +kernel
theorem dX9_fewestWithTooFew_10 : decode cX9_fewestWithTooFew 10 = .ok (.iconst 1, 1) := by decide +kernel
theorem dX9_fewestWithTooFew_11 : decode cX9_fewestWithTooFew 11 = .ok (.istore 4, 2) := by decide +kernel
theorem dX9_fewestWithTooFew_13 : decode cX9_fewestWithTooFew 13 = .ok (.iload 4, 2) := by decide +kernel
theorem dX9_fewestWithTooFew_15 : decode cX9_fewestWithTooFew 15 = .ok (.iconst 1, 1) := by decide +kernel
theorem dX9_fewestWithTooFew_16 : decode cX9_fewestWithTooFew 16 = .ok (.aload_n 1, 1) := by decide +kernel
theorem dX9_fewestWithTooFew_17 : decode cX9_fewestWithTooFew 17 = .ok (.getfield 24, 3) := by decide +kernel
theorem dX9_fewestWithTooFew_20 : decode cX9_fewestWithTooFew 20 = .ok (.ishl, 1) := by decide +kernel
theorem dX9_fewestWithTooFew_21 : decode cX9_fewestWithTooFew 21 = .ok (.if_icmp .ge 51, 3) := by decide +kernel
theorem dX9_fewestWithTooFew_24 : decode cX9_fewestWithTooFew 24 = .ok (.iload 4, 2) := by decide +kernel
theorem dX9_fewestWithTooFew_26 : decode cX9_fewestWithTooFew 26 = .ok (.sipush 128, 3) := by decide +kernel
theorem dX9_fewestWithTooFew_29 : decode cX9_fewestWithTooFew 29 = .ok (.if_icmp .ge 43, 3) := by decide +kernel
theorem dX9_fewestWithTooFew_32 : decode cX9_fewestWithTooFew 32 = .ok (.iload 4, 2) := by decide +kernel
theorem dX9_fewestWithTooFew_34 : decode cX9_fewestWithTooFew 34 = .ok (.invokestatic 38, 3) := by decide +kernel
theorem dX9_fewestWithTooFew_37 : decode cX9_fewestWithTooFew 37 = .ok (.istore 5, 2) := by decide +kernel
theorem dX9_fewestWithTooFew_39 : decode cX9_fewestWithTooFew 39 = .ok (.iload 5, 2) := by decide +kernel
theorem dX9_fewestWithTooFew_41 : decode cX9_fewestWithTooFew 41 = .ok (.iload_n 3, 1) := by decide +kernel
theorem dX9_fewestWithTooFew_42 : decode cX9_fewestWithTooFew 42 = .ok (.if_icmp .ge 24, 3) := by decide +kernel
theorem dX9_fewestWithTooFew_45 : decode cX9_fewestWithTooFew 45 = .ok (.aload_n 0, 1) := by decide +kernel
theorem dX9_fewestWithTooFew_46 : decode cX9_fewestWithTooFew 46 = .ok (.getfield 9, 3) := by decide +kernel
theorem dX9_fewestWithTooFew_49 : decode cX9_fewestWithTooFew 49 = .ok (.iload 4, 2) := by decide +kernel
theorem dX9_fewestWithTooFew_51 : decode cX9_fewestWithTooFew 51 = .ok (.iaload, 1) := by decide +kernel
theorem dX9_fewestWithTooFew_52 : decode cX9_fewestWithTooFew 52 = .ok (.invokestatic 38, 3) := by decide +kernel
theorem dX9_fewestWithTooFew_55 : decode cX9_fewestWithTooFew 55 = .ok (.iload 5, 2) := by decide +kernel
theorem dX9_fewestWithTooFew_57 : decode cX9_fewestWithTooFew 57 = .ok (.if_icmp .ge 9, 3) := by decide +kernel
theorem dX9_fewestWithTooFew_60 : decode cX9_fewestWithTooFew 60 = .ok (.iload 5, 2) := by decide +kernel
theorem dX9_fewestWithTooFew_62 : decode cX9_fewestWithTooFew 62 = .ok (.istore_n 3, 1) := by decide +kernel
theorem dX9_fewestWithTooFew_63 : decode cX9_fewestWithTooFew 63 = .ok (.iload 4, 2) := by decide +kernel
theorem dX9_fewestWithTooFew_65 : decode cX9_fewestWithTooFew 65 = .ok (.istore_n 2, 1) := by decide +kernel
theorem dX9_fewestWithTooFew_66 : decode cX9_fewestWithTooFew 66 = .ok (.iinc 4 1, 3) := by decide +kernel
theorem dX9_fewestWithTooFew_69 : decode cX9_fewestWithTooFew 69 = .ok (.goto (-56), 3) := by decide +kernel
theorem dX9_fewestWithTooFew_72 : decode cX9_fewestWithTooFew 72 = .ok (.iload_n 2, 1) := by decide +kernel
theorem dX9_fewestWithTooFew_73 : decode cX9_fewestWithTooFew 73 = .ok (.ireturn, 1) := by decide +kernel
theorem dX9_tradeAll_0 : decode cX9_tradeAll 0 = .ok (.iconst 1, 1) := by decide +kernel
theorem dX9_tradeAll_1 : decode cX9_tradeAll 1 = .ok (.aload_n 1, 1) := by decide +kernel
theorem dX9_tradeAll_2 : decode cX9_tradeAll 2 = .ok (.getfield 24, 3) := by decide +kernel
theorem dX9_tradeAll_5 : decode cX9_tradeAll 5 = .ok (.ishl, 1) := by decide +kernel
theorem dX9_tradeAll_6 : decode cX9_tradeAll 6 = .ok (.iconst 1, 1) := by decide +kernel
theorem dX9_tradeAll_7 : decode cX9_tradeAll 7 = .ok (.isub, 1) := by decide +kernel
theorem dX9_tradeAll_8 : decode cX9_tradeAll 8 = .ok (.istore_n 2, 1) := by decide +kernel
theorem dX9_tradeAll_9 : decode cX9_tradeAll 9 = .ok (.iconst 0, 1) := by decide +kernel
theorem dX9_tradeAll_10 : decode cX9_tradeAll 10 = .ok (.istore_n 3, 1) := by decide +kernel
theorem dX9_tradeAll_11 : decode cX9_tradeAll 11 = .ok (.iload_n 3, 1) := by decide +kernel
theorem dX9_tradeAll_12 : decode cX9_tradeAll 12 = .ok (.bipush 7, 2) := by decide +kernel
theorem dX9_tradeAll_14 : decode cX9_tradeAll 14 = .ok (.if_icmp .ge 146, 3) := by decide +kernel
theorem dX9_tradeAll_17 : decode cX9_tradeAll 17 = .ok (.iload_n 2, 1) := by decide +kernel
theorem dX9_tradeAll_18 : decode cX9_tradeAll 18 = .ok (.ifCond .eq 142, 3) := by decide +kernel
theorem dX9_tradeAll_21 : decode cX9_tradeAll 21 = .ok (.iconst 0, 1) := by decide +kernel
theorem dX9_tradeAll_22 : decode cX9_tradeAll 22 = .ok (.istore 4, 2) := by decide +kernel
theorem dX9_tradeAll_24 : decode cX9_tradeAll 24 = .ok (.iload 4, 2) := by decide +kernel
theorem dX9_tradeAll_26 : decode cX9_tradeAll 26 = .ok (.aload_n 1, 1) := by decide +kernel
theorem dX9_tradeAll_27 : decode cX9_tradeAll 27 = .ok (.getfield 24, 3) := by decide +kernel
theorem dX9_tradeAll_30 : decode cX9_tradeAll 30 = .ok (.if_icmp .ge 31, 3) := by decide +kernel
theorem dX9_tradeAll_33 : decode cX9_tradeAll 33 = .ok (.iload 4, 2) := by decide +kernel
theorem dX9_tradeAll_35 : decode cX9_tradeAll 35 = .ok (.bipush 7, 2) := by decide +kernel
theorem dX9_tradeAll_37 : decode cX9_tradeAll 37 = .ok (.if_icmp .ge 24, 3) := by decide +kernel
theorem dX9_tradeAll_40 : decode cX9_tradeAll 40 = .ok (.aload_n 0, 1) := by decide +kernel
theorem dX9_tradeAll_41 : decode cX9_tradeAll 41 = .ok (.getfield 15, 3) := by decide +kernel
theorem dX9_tradeAll_44 : decode cX9_tradeAll 44 = .ok (.iload 4, 2) := by decide +kernel
theorem dX9_tradeAll_46 : decode cX9_tradeAll 46 = .ok (.aload_n 0, 1) := by decide +kernel
theorem dX9_tradeAll_47 : decode cX9_tradeAll 47 = .ok (.aload_n 1, 1) := by decide +kernel
theorem dX9_tradeAll_48 : decode cX9_tradeAll 48 = .ok (.iload 4, 2) := by decide +kernel
theorem dX9_tradeAll_50 : decode cX9_tradeAll 50 = .ok (.iload_n 2, 1) := by decide +kernel
theorem dX9_tradeAll_51 : decode cX9_tradeAll 51 = .ok (.invokevirtual 64, 3) := by decide +kernel
theorem dX9_tradeAll_54 : decode cX9_tradeAll 54 = .ok (.iastore, 1) := by decide +kernel
theorem dX9_tradeAll_55 : decode cX9_tradeAll 55 = .ok (.iinc 4 1, 3) := by decide +kernel
theorem dX9_tradeAll_58 : decode cX9_tradeAll 58 = .ok (.goto (-34), 3) := by decide +kernel
theorem dX9_tradeAll_61 : decode cX9_tradeAll 61 = .ok (.iconst 0, 1) := by decide +kernel
theorem dX9_tradeAll_62 : decode cX9_tradeAll 62 = .ok (.istore 4, 2) := by decide +kernel
theorem dX9_tradeAll_64 : decode cX9_tradeAll 64 = .ok (.iconst 0, 1) := by decide +kernel
theorem dX9_tradeAll_65 : decode cX9_tradeAll 65 = .ok (.istore 5, 2) := by decide +kernel
theorem dX9_tradeAll_67 : decode cX9_tradeAll 67 = .ok (.iload 5, 2) := by decide +kernel
theorem dX9_tradeAll_69 : decode cX9_tradeAll 69 = .ok (.aload_n 1, 1) := by decide +kernel
theorem dX9_tradeAll_70 : decode cX9_tradeAll 70 = .ok (.getfield 24, 3) := by decide +kernel
theorem dX9_tradeAll_73 : decode cX9_tradeAll 73 = .ok (.if_icmp .ge 74, 3) := by decide +kernel
theorem dX9_tradeAll_76 : decode cX9_tradeAll 76 = .ok (.iload 5, 2) := by decide +kernel
theorem dX9_tradeAll_78 : decode cX9_tradeAll 78 = .ok (.bipush 7, 2) := by decide +kernel
theorem dX9_tradeAll_80 : decode cX9_tradeAll 80 = .ok (.if_icmp .ge 67, 3) := by decide +kernel
theorem dX9_tradeAll_83 : decode cX9_tradeAll 83 = .ok (.iload_n 2, 1) := by decide +kernel
theorem dX9_tradeAll_84 : decode cX9_tradeAll 84 = .ok (.iload 5, 2) := by decide +kernel
theorem dX9_tradeAll_86 : decode cX9_tradeAll 86 = .ok (.invokestatic 30, 3) := by decide +kernel
theorem dX9_tradeAll_89 : decode cX9_tradeAll 89 = .ok (.ifCond .eq 12, 3) := by decide +kernel
theorem dX9_tradeAll_92 : decode cX9_tradeAll 92 = .ok (.aload_n 0, 1) := by decide +kernel
theorem dX9_tradeAll_93 : decode cX9_tradeAll 93 = .ok (.iload 5, 2) := by decide +kernel
theorem dX9_tradeAll_95 : decode cX9_tradeAll 95 = .ok (.invokevirtual 68, 3) := by decide +kernel
theorem dX9_tradeAll_98 : decode cX9_tradeAll 98 = .ok (.goto 4, 3) := by decide +kernel
theorem dX9_tradeAll_101 : decode cX9_tradeAll 101 = .ok (.iconst 0, 1) := by decide +kernel
theorem dX9_tradeAll_102 : decode cX9_tradeAll 102 = .ok (.istore 6, 2) := by decide +kernel
theorem dX9_tradeAll_104 : decode cX9_tradeAll 104 = .ok (.iload 6, 2) := by decide +kernel
theorem dX9_tradeAll_106 : decode cX9_tradeAll 106 = .ok (.ifCond .le 35, 3) := by decide +kernel
theorem dX9_tradeAll_109 : decode cX9_tradeAll 109 = .ok (.aload_n 0, 1) := by decide +kernel
theorem dX9_tradeAll_110 : decode cX9_tradeAll 110 = .ok (.getfield 18, 3) := by decide +kernel
theorem dX9_tradeAll_113 : decode cX9_tradeAll 113 = .ok (.iload 5, 2) := by decide +kernel
theorem dX9_tradeAll_115 : decode cX9_tradeAll 115 = .ok (.aload_n 0, 1) := by decide +kernel
theorem dX9_tradeAll_116 : decode cX9_tradeAll 116 = .ok (.getfield 15, 3) := by decide +kernel
theorem dX9_tradeAll_119 : decode cX9_tradeAll 119 = .ok (.iload 5, 2) := by decide +kernel
theorem dX9_tradeAll_121 : decode cX9_tradeAll 121 = .ok (.iaload, 1) := by decide +kernel
theorem dX9_tradeAll_122 : decode cX9_tradeAll 122 = .ok (.iastore, 1) := by decide +kernel
theorem dX9_tradeAll_123 : decode cX9_tradeAll 123 = .ok (.aload_n 0, 1) := by decide +kernel
theorem dX9_tradeAll_124 : decode cX9_tradeAll 124 = .ok (.getfield 21, 3) := by decide +kernel
theorem dX9_tradeAll_127 : decode cX9_tradeAll 127 = .ok (.iload 5, 2) := by decide +kernel
theorem dX9_tradeAll_129 : decode cX9_tradeAll 129 = .ok (.iload 6, 2) := by decide +kernel
theorem dX9_tradeAll_131 : decode cX9_tradeAll 131 = .ok (.iastore, 1) := by decide +kernel
theorem dX9_tradeAll_132 : decode cX9_tradeAll 132 = .ok (.iload 4, 2) := by decide +kernel
theorem dX9_tradeAll_134 : decode cX9_tradeAll 134 = .ok (.iconst 1, 1) := by decide +kernel
theorem dX9_tradeAll_135 : decode cX9_tradeAll 135 = .ok (.iload 5, 2) := by decide +kernel
theorem dX9_tradeAll_137 : decode cX9_tradeAll 137 = .ok (.ishl, 1) := by decide +kernel
theorem dX9_tradeAll_138 : decode cX9_tradeAll 138 = .ok (.ior, 1) := by decide +kernel
theorem dX9_tradeAll_139 : decode cX9_tradeAll 139 = .ok (.istore 4, 2) := by decide +kernel
theorem dX9_tradeAll_141 : decode cX9_tradeAll 141 = .ok (.iinc 5 1, 3) := by decide +kernel
theorem dX9_tradeAll_144 : decode cX9_tradeAll 144 = .ok (.goto (-77), 3) := by decide +kernel
theorem dX9_tradeAll_147 : decode cX9_tradeAll 147 = .ok (.iload_n 2, 1) := by decide +kernel
theorem dX9_tradeAll_148 : decode cX9_tradeAll 148 = .ok (.iload 4, 2) := by decide +kernel
theorem dX9_tradeAll_150 : decode cX9_tradeAll 150 = .ok (.iconst (-1), 1) := by decide +kernel
theorem dX9_tradeAll_151 : decode cX9_tradeAll 151 = .ok (.ixor, 1) := by decide +kernel
theorem dX9_tradeAll_152 : decode cX9_tradeAll 152 = .ok (.iand, 1) := by decide +kernel
theorem dX9_tradeAll_153 : decode cX9_tradeAll 153 = .ok (.istore_n 2, 1) := by decide +kernel
theorem dX9_tradeAll_154 : decode cX9_tradeAll 154 = .ok (.iinc 3 1, 3) := by decide +kernel
theorem dX9_tradeAll_157 : decode cX9_tradeAll 157 = .ok (.goto (-146), 3) := by decide +kernel
theorem dX9_tradeAll_160 : decode cX9_tradeAll 160 = .ok (.return_, 1) := by decide +kernel
theorem dX9_pointerOf_0 : decode cX9_pointerOf 0 = .ok (.iload_n 2, 1) := by decide +kernel
theorem dX9_pointerOf_1 : decode cX9_pointerOf 1 = .ok (.istore 4, 2) := by decide +kernel
theorem dX9_pointerOf_3 : decode cX9_pointerOf 3 = .ok (.ldc 71, 2) := by decide +kernel
theorem dX9_pointerOf_5 : decode cX9_pointerOf 5 = .ok (.istore 5, 2) := by decide +kernel
theorem dX9_pointerOf_7 : decode cX9_pointerOf 7 = .ok (.iconst 0, 1) := by decide +kernel
theorem dX9_pointerOf_8 : decode cX9_pointerOf 8 = .ok (.istore 6, 2) := by decide +kernel
theorem dX9_pointerOf_10 : decode cX9_pointerOf 10 = .ok (.iload 6, 2) := by decide +kernel
theorem dX9_pointerOf_12 : decode cX9_pointerOf 12 = .ok (.aload_n 1, 1) := by decide +kernel
theorem dX9_pointerOf_13 : decode cX9_pointerOf 13 = .ok (.getfield 24, 3) := by decide +kernel
theorem dX9_pointerOf_16 : decode cX9_pointerOf 16 = .ok (.if_icmp .ge 42, 3) := by decide +kernel
theorem dX9_pointerOf_19 : decode cX9_pointerOf 19 = .ok (.aload_n 1, 1) := by decide +kernel
theorem dX9_pointerOf_20 : decode cX9_pointerOf 20 = .ok (.iload_n 2, 1) := by decide +kernel
theorem dX9_pointerOf_21 : decode cX9_pointerOf 21 = .ok (.iload 6, 2) := by decide +kernel
theorem dX9_pointerOf_23 : decode cX9_pointerOf 23 = .ok (.invokestatic 72, 3) := by decide +kernel
theorem dX9_pointerOf_26 : decode cX9_pointerOf 26 = .ok (.istore 7, 2) := by decide +kernel
theorem dX9_pointerOf_28 : decode cX9_pointerOf 28 = .ok (.iload_n 3, 1) := by decide +kernel
theorem dX9_pointerOf_29 : decode cX9_pointerOf 29 = .ok (.iload 6, 2) := by decide +kernel
theorem dX9_pointerOf_31 : decode cX9_pointerOf 31 = .ok (.invokestatic 30, 3) := by decide +kernel
theorem dX9_pointerOf_34 : decode cX9_pointerOf 34 = .ok (.ifCond .eq 18, 3) := by decide +kernel
theorem dX9_pointerOf_37 : decode cX9_pointerOf 37 = .ok (.iload 7, 2) := by decide +kernel
theorem dX9_pointerOf_39 : decode cX9_pointerOf 39 = .ok (.iload 5, 2) := by decide +kernel
theorem dX9_pointerOf_41 : decode cX9_pointerOf 41 = .ok (.if_icmp .ge 11, 3) := by decide +kernel
theorem dX9_pointerOf_44 : decode cX9_pointerOf 44 = .ok (.iload 7, 2) := by decide +kernel
theorem dX9_pointerOf_46 : decode cX9_pointerOf 46 = .ok (.istore 5, 2) := by decide +kernel
theorem dX9_pointerOf_48 : decode cX9_pointerOf 48 = .ok (.iload 6, 2) := by decide +kernel
theorem dX9_pointerOf_50 : decode cX9_pointerOf 50 = .ok (.istore 4, 2) := by decide +kernel
theorem dX9_pointerOf_52 : decode cX9_pointerOf 52 = .ok (.iinc 6 1, 3) := by decide +kernel
theorem dX9_pointerOf_55 : decode cX9_pointerOf 55 = .ok (.goto (-45), 3) := by decide +kernel
theorem dX9_pointerOf_58 : decode cX9_pointerOf 58 = .ok (.iload 4, 2) := by decide +kernel
theorem dX9_pointerOf_60 : decode cX9_pointerOf 60 = .ok (.ireturn, 1) := by decide +kernel
theorem dX9_rankOf_0 : decode cX9_rankOf 0 = .ok (.aload_n 0, 1) := by decide +kernel
theorem dX9_rankOf_1 : decode cX9_rankOf 1 = .ok (.iconst 2, 1) := by decide +kernel
theorem dX9_rankOf_2 : decode cX9_rankOf 2 = .ok (.iload_n 2, 1) := by decide +kernel
theorem dX9_rankOf_3 : decode cX9_rankOf 3 = .ok (.invokevirtual 34, 3) := by decide +kernel
theorem dX9_rankOf_6 : decode cX9_rankOf 6 = .ok (.istore_n 3, 1) := by decide +kernel
theorem dX9_rankOf_7 : decode cX9_rankOf 7 = .ok (.iload_n 3, 1) := by decide +kernel
theorem dX9_rankOf_8 : decode cX9_rankOf 8 = .ok (.aload_n 0, 1) := by decide +kernel
theorem dX9_rankOf_9 : decode cX9_rankOf 9 = .ok (.iconst 2, 1) := by decide +kernel
theorem dX9_rankOf_10 : decode cX9_rankOf 10 = .ok (.iload_n 1, 1) := by decide +kernel
theorem dX9_rankOf_11 : decode cX9_rankOf 11 = .ok (.invokevirtual 34, 3) := by decide +kernel
theorem dX9_rankOf_14 : decode cX9_rankOf 14 = .ok (.isub, 1) := by decide +kernel
theorem dX9_rankOf_15 : decode cX9_rankOf 15 = .ok (.bipush 12, 2) := by decide +kernel
theorem dX9_rankOf_17 : decode cX9_rankOf 17 = .ok (.invokestatic 75, 3) := by decide +kernel
theorem dX9_rankOf_20 : decode cX9_rankOf 20 = .ok (.istore 4, 2) := by decide +kernel
theorem dX9_rankOf_22 : decode cX9_rankOf 22 = .ok (.aload_n 0, 1) := by decide +kernel
theorem dX9_rankOf_23 : decode cX9_rankOf 23 = .ok (.iload_n 1, 1) := by decide +kernel
theorem dX9_rankOf_24 : decode cX9_rankOf 24 = .ok (.iload_n 3, 1) := by decide +kernel
theorem dX9_rankOf_25 : decode cX9_rankOf 25 = .ok (.invokevirtual 78, 3) := by decide +kernel
theorem dX9_rankOf_28 : decode cX9_rankOf 28 = .ok (.ifCond .eq 7, 3) := by decide +kernel
theorem dX9_rankOf_31 : decode cX9_rankOf 31 = .ok (.iconst 0, 1) := by decide +kernel
theorem dX9_rankOf_32 : decode cX9_rankOf 32 = .ok (.goto 5, 3) := by decide +kernel
theorem dX9_rankOf_35 : decode cX9_rankOf 35 = .ok (.bipush 12, 2) := by decide +kernel
theorem dX9_rankOf_37 : decode cX9_rankOf 37 = .ok (.iload 4, 2) := by decide +kernel
theorem dX9_rankOf_39 : decode cX9_rankOf 39 = .ok (.bipush 12, 2) := by decide +kernel
theorem dX9_rankOf_41 : decode cX9_rankOf 41 = .ok (.iload 4, 2) := by decide +kernel
theorem dX9_rankOf_43 : decode cX9_rankOf 43 = .ok (.isub, 1) := by decide +kernel
theorem dX9_rankOf_44 : decode cX9_rankOf 44 = .ok (.invokestatic 44, 3) := by decide +kernel
theorem dX9_rankOf_47 : decode cX9_rankOf 47 = .ok (.iadd, 1) := by decide +kernel
theorem dX9_rankOf_48 : decode cX9_rankOf 48 = .ok (.ireturn, 1) := by decide +kernel
theorem dX9_ringOf_0 : decode cX9_ringOf 0 = .ok (.iload_n 1, 1) := by decide +kernel
theorem dX9_ringOf_1 : decode cX9_ringOf 1 = .ok (.istore_n 2, 1) := by decide +kernel
theorem dX9_ringOf_2 : decode cX9_ringOf 2 = .ok (.iconst 1, 1) := by decide +kernel
theorem dX9_ringOf_3 : decode cX9_ringOf 3 = .ok (.istore_n 3, 1) := by decide +kernel
theorem dX9_ringOf_4 : decode cX9_ringOf 4 = .ok (.iload_n 3, 1) := by decide +kernel
theorem dX9_ringOf_5 : decode cX9_ringOf 5 = .ok (.bipush 7, 2) := by decide +kernel
theorem dX9_ringOf_7 : decode cX9_ringOf 7 = .ok (.if_icmp .gt 37, 3) := by decide +kernel
theorem dX9_ringOf_10 : decode cX9_ringOf 10 = .ok (.iload_n 2, 1) := by decide +kernel
theorem dX9_ringOf_11 : decode cX9_ringOf 11 = .ok (.ifCond .lt 18, 3) := by decide +kernel
theorem dX9_ringOf_14 : decode cX9_ringOf 14 = .ok (.iload_n 2, 1) := by decide +kernel
theorem dX9_ringOf_15 : decode cX9_ringOf 15 = .ok (.bipush 7, 2) := by decide +kernel
theorem dX9_ringOf_17 : decode cX9_ringOf 17 = .ok (.if_icmp .ge 12, 3) := by decide +kernel
theorem dX9_ringOf_20 : decode cX9_ringOf 20 = .ok (.aload_n 0, 1) := by decide +kernel
theorem dX9_ringOf_21 : decode cX9_ringOf 21 = .ok (.getfield 15, 3) := by decide +kernel
theorem dX9_ringOf_24 : decode cX9_ringOf 24 = .ok (.iload_n 2, 1) := by decide +kernel
theorem dX9_ringOf_25 : decode cX9_ringOf 25 = .ok (.iaload, 1) := by decide +kernel
theorem dX9_ringOf_26 : decode cX9_ringOf 26 = .ok (.goto 4, 3) := by decide +kernel
theorem dX9_ringOf_29 : decode cX9_ringOf 29 = .ok (.iload_n 1, 1) := by decide +kernel
theorem dX9_ringOf_30 : decode cX9_ringOf 30 = .ok (.istore_n 2, 1) := by decide +kernel
theorem dX9_ringOf_31 : decode cX9_ringOf 31 = .ok (.iload_n 2, 1) := by decide +kernel
theorem dX9_ringOf_32 : decode cX9_ringOf 32 = .ok (.iload_n 1, 1) := by decide +kernel
theorem dX9_ringOf_33 : decode cX9_ringOf 33 = .ok (.if_icmp .ne 5, 3) := by decide +kernel
theorem dX9_ringOf_36 : decode cX9_ringOf 36 = .ok (.iload_n 3, 1) := by decide +kernel
theorem dX9_ringOf_37 : decode cX9_ringOf 37 = .ok (.ireturn, 1) := by decide +kernel
theorem dX9_ringOf_38 : decode cX9_ringOf 38 = .ok (.iinc 3 1, 3) := by decide +kernel
theorem dX9_ringOf_41 : decode cX9_ringOf 41 = .ok (.goto (-37), 3) := by decide +kernel
theorem dX9_ringOf_44 : decode cX9_ringOf 44 = .ok (.iconst 0, 1) := by decide +kernel
theorem dX9_ringOf_45 : decode cX9_ringOf 45 = .ok (.ireturn, 1) := by decide +kernel
theorem dX9_giverOf_0 : decode cX9_giverOf 0 = .ok (.iload_n 1, 1) := by decide +kernel
theorem dX9_giverOf_1 : decode cX9_giverOf 1 = .ok (.ifCond .lt 18, 3) := by decide +kernel
theorem dX9_giverOf_4 : decode cX9_giverOf 4 = .ok (.iload_n 1, 1) := by decide +kernel
theorem dX9_giverOf_5 : decode cX9_giverOf 5 = .ok (.bipush 7, 2) := by decide +kernel
theorem dX9_giverOf_7 : decode cX9_giverOf 7 = .ok (.if_icmp .ge 12, 3) := by decide +kernel
theorem dX9_giverOf_10 : decode cX9_giverOf 10 = .ok (.aload_n 0, 1) := by decide +kernel
theorem dX9_giverOf_11 : decode cX9_giverOf 11 = .ok (.getfield 18, 3) := by decide +kernel
theorem dX9_giverOf_14 : decode cX9_giverOf 14 = .ok (.iload_n 1, 1) := by decide +kernel
theorem dX9_giverOf_15 : decode cX9_giverOf 15 = .ok (.iaload, 1) := by decide +kernel
theorem dX9_giverOf_16 : decode cX9_giverOf 16 = .ok (.goto 4, 3) := by decide +kernel
theorem dX9_giverOf_19 : decode cX9_giverOf 19 = .ok (.iconst (-1), 1) := by decide +kernel
theorem dX9_giverOf_20 : decode cX9_giverOf 20 = .ok (.ireturn, 1) := by decide +kernel
theorem dX9_ringSizeOf_0 : decode cX9_ringSizeOf 0 = .ok (.iload_n 1, 1) := by decide +kernel
theorem dX9_ringSizeOf_1 : decode cX9_ringSizeOf 1 = .ok (.ifCond .lt 18, 3) := by decide +kernel
theorem dX9_ringSizeOf_4 : decode cX9_ringSizeOf 4 = .ok (.iload_n 1, 1) := by decide +kernel
theorem dX9_ringSizeOf_5 : decode cX9_ringSizeOf 5 = .ok (.bipush 7, 2) := by decide +kernel
theorem dX9_ringSizeOf_7 : decode cX9_ringSizeOf 7 = .ok (.if_icmp .ge 12, 3) := by decide +kernel
theorem dX9_ringSizeOf_10 : decode cX9_ringSizeOf 10 = .ok (.aload_n 0, 1) := by decide +kernel
theorem dX9_ringSizeOf_11 : decode cX9_ringSizeOf 11 = .ok (.getfield 21, 3) := by decide +kernel
theorem dX9_ringSizeOf_14 : decode cX9_ringSizeOf 14 = .ok (.iload_n 1, 1) := by decide +kernel
theorem dX9_ringSizeOf_15 : decode cX9_ringSizeOf 15 = .ok (.iaload, 1) := by decide +kernel
theorem dX9_ringSizeOf_16 : decode cX9_ringSizeOf 16 = .ok (.goto 4, 3) := by decide +kernel
theorem dX9_ringSizeOf_19 : decode cX9_ringSizeOf 19 = .ok (.iconst (-1), 1) := by decide +kernel
theorem dX9_ringSizeOf_20 : decode cX9_ringSizeOf 20 = .ok (.ireturn, 1) := by decide +kernel
theorem dX10_init_0 : decode cX10_init 0 = .ok (.aload_n 0, 1) := by decide +kernel
theorem dX10_init_1 : decode cX10_init 1 = .ok (.invokespecial 3, 3) := by decide +kernel
theorem dX10_init_4 : decode cX10_init 4 = .ok (.aload_n 0, 1) := by decide +kernel
theorem dX10_init_5 : decode cX10_init 5 = .ok (.sipush 400, 3) := by decide +kernel
theorem dX10_init_8 : decode cX10_init 8 = .ok (.newarray .int, 2) := by decide +kernel
theorem dX10_init_10 : decode cX10_init 10 = .ok (.putfield 9, 3) := by decide +kernel
theorem dX10_init_13 : decode cX10_init 13 = .ok (.aload_n 0, 1) := by decide +kernel
theorem dX10_init_14 : decode cX10_init 14 = .ok (.sipush 400, 3) := by decide +kernel
theorem dX10_init_17 : decode cX10_init 17 = .ok (.newarray .int, 2) := by decide +kernel
theorem dX10_init_19 : decode cX10_init 19 = .ok (.putfield 15, 3) := by decide +kernel
theorem dX10_init_22 : decode cX10_init 22 = .ok (.aload_n 0, 1) := by decide +kernel
theorem dX10_init_23 : decode cX10_init 23 = .ok (.iconst (-1), 1) := by decide +kernel
theorem dX10_init_24 : decode cX10_init 24 = .ok (.putfield 18, 3) := by decide +kernel
theorem dX10_init_27 : decode cX10_init 27 = .ok (.return_, 1) := by decide +kernel
theorem dX10_addNumber_0 : decode cX10_addNumber 0 = .ok (.bipush 24, 2) := by decide +kernel
theorem dX10_addNumber_2 : decode cX10_addNumber 2 = .ok (.istore_n 2, 1) := by decide +kernel
theorem dX10_addNumber_3 : decode cX10_addNumber 3 = .ok (.iload_n 2, 1) := by decide +kernel
theorem dX10_addNumber_4 : decode cX10_addNumber 4 = .ok (.ifCond .lt 73, 3) := by decide +kernel
theorem dX10_addNumber_7 : decode cX10_addNumber 7 = .ok (.aload_n 0, 1) := by decide +kernel
theorem dX10_addNumber_8 : decode cX10_addNumber 8 = .ok (.getfield 22, 3) := by decide +kernel
theorem dX10_addNumber_11 : decode cX10_addNumber 11 = .ok (.ifCond .lt 60, 3) := by decide +kernel
theorem dX10_addNumber_14 : decode cX10_addNumber 14 = .ok (.aload_n 0, 1) := by decide +kernel
theorem dX10_addNumber_15 : decode cX10_addNumber 15 = .ok (.getfield 22, 3) := by decide +kernel
theorem dX10_addNumber_18 : decode cX10_addNumber 18 = .ok (.sipush 400, 3) := by decide +kernel
theorem dX10_addNumber_21 : decode cX10_addNumber 21 = .ok (.if_icmp .ge 50, 3) := by decide +kernel
theorem dX10_addNumber_24 : decode cX10_addNumber 24 = .ok (.aload_n 0, 1) := by decide +kernel
theorem dX10_addNumber_25 : decode cX10_addNumber 25 = .ok (.getfield 9, 3) := by decide +kernel
theorem dX10_addNumber_28 : decode cX10_addNumber 28 = .ok (.aload_n 0, 1) := by decide +kernel
theorem dX10_addNumber_29 : decode cX10_addNumber 29 = .ok (.getfield 22, 3) := by decide +kernel
theorem dX10_addNumber_32 : decode cX10_addNumber 32 = .ok (.iload_n 1, 1) := by decide +kernel
theorem dX10_addNumber_33 : decode cX10_addNumber 33 = .ok (.iload_n 2, 1) := by decide +kernel
theorem dX10_addNumber_34 : decode cX10_addNumber 34 = .ok (.ishr, 1) := by decide +kernel
theorem dX10_addNumber_35 : decode cX10_addNumber 35 = .ok (.sipush 255, 3) := by decide +kernel
theorem dX10_addNumber_38 : decode cX10_addNumber 38 = .ok (.iand, 1) := by decide +kernel
theorem dX10_addNumber_39 : decode cX10_addNumber 39 = .ok (.iastore, 1) := by decide +kernel
theorem dX10_addNumber_40 : decode cX10_addNumber 40 = .ok (.aload_n 0, 1) := by decide +kernel
theorem dX10_addNumber_41 : decode cX10_addNumber 41 = .ok (.getfield 15, 3) := by decide +kernel
theorem dX10_addNumber_44 : decode cX10_addNumber 44 = .ok (.aload_n 0, 1) := by decide +kernel
theorem dX10_addNumber_45 : decode cX10_addNumber 45 = .ok (.getfield 22, 3) := by decide +kernel
theorem dX10_addNumber_48 : decode cX10_addNumber 48 = .ok (.aload_n 0, 1) := by decide +kernel
theorem dX10_addNumber_49 : decode cX10_addNumber 49 = .ok (.getfield 9, 3) := by decide +kernel
theorem dX10_addNumber_52 : decode cX10_addNumber 52 = .ok (.aload_n 0, 1) := by decide +kernel
theorem dX10_addNumber_53 : decode cX10_addNumber 53 = .ok (.getfield 22, 3) := by decide +kernel
theorem dX10_addNumber_56 : decode cX10_addNumber 56 = .ok (.iaload, 1) := by decide +kernel
theorem dX10_addNumber_57 : decode cX10_addNumber 57 = .ok (.invokestatic 25, 3) := by decide +kernel
theorem dX10_addNumber_60 : decode cX10_addNumber 60 = .ok (.iastore, 1) := by decide +kernel
theorem dX10_addNumber_61 : decode cX10_addNumber 61 = .ok (.aload_n 0, 1) := by decide +kernel
theorem dX10_addNumber_62 : decode cX10_addNumber 62 = .ok (.dup, 1) := by decide +kernel
theorem dX10_addNumber_63 : decode cX10_addNumber 63 = .ok (.getfield 22, 3) := by decide +kernel
theorem dX10_addNumber_66 : decode cX10_addNumber 66 = .ok (.iconst 1, 1) := by decide +kernel
theorem dX10_addNumber_67 : decode cX10_addNumber 67 = .ok (.iadd, 1) := by decide +kernel
theorem dX10_addNumber_68 : decode cX10_addNumber 68 = .ok (.putfield 22, 3) := by decide +kernel
theorem dX10_addNumber_71 : decode cX10_addNumber 71 = .ok (.iinc 2 (-8), 3) := by decide +kernel
theorem dX10_addNumber_74 : decode cX10_addNumber 74 = .ok (.goto (-71), 3) := by decide +kernel
theorem dX10_addNumber_77 : decode cX10_addNumber 77 = .ok (.return_, 1) := by decide +kernel
theorem dX10_kindOf_0 : decode cX10_kindOf 0 = .ok (.iload_n 0, 1) := by decide +kernel
theorem dX10_kindOf_1 : decode cX10_kindOf 1 = .ok (.bipush 97, 2) := by decide +kernel
theorem dX10_kindOf_3 : decode cX10_kindOf 3 = .ok (.if_icmp .lt 11, 3) := by decide +kernel
theorem dX10_kindOf_6 : decode cX10_kindOf 6 = .ok (.iload_n 0, 1) := by decide +kernel
theorem dX10_kindOf_7 : decode cX10_kindOf 7 = .ok (.bipush 122, 2) := by decide +kernel
theorem dX10_kindOf_9 : decode cX10_kindOf 9 = .ok (.if_icmp .gt 5, 3) := by decide +kernel
theorem dX10_kindOf_12 : decode cX10_kindOf 12 = .ok (.iconst 2, 1) := by decide +kernel
theorem dX10_kindOf_13 : decode cX10_kindOf 13 = .ok (.ireturn, 1) := by decide +kernel
theorem dX10_kindOf_14 : decode cX10_kindOf 14 = .ok (.iload_n 0, 1) := by decide +kernel
theorem dX10_kindOf_15 : decode cX10_kindOf 15 = .ok (.bipush 48, 2) := by decide +kernel
theorem dX10_kindOf_17 : decode cX10_kindOf 17 = .ok (.if_icmp .lt 11, 3) := by decide +kernel
theorem dX10_kindOf_20 : decode cX10_kindOf 20 = .ok (.iload_n 0, 1) := by decide +kernel
theorem dX10_kindOf_21 : decode cX10_kindOf 21 = .ok (.bipush 57, 2) := by decide +kernel
theorem dX10_kindOf_23 : decode cX10_kindOf 23 = .ok (.if_icmp .gt 5, 3) := by decide +kernel
theorem dX10_kindOf_26 : decode cX10_kindOf 26 = .ok (.iconst 3, 1) := by decide +kernel
theorem dX10_kindOf_27 : decode cX10_kindOf 27 = .ok (.ireturn, 1) := by decide +kernel
theorem dX10_kindOf_28 : decode cX10_kindOf 28 = .ok (.iload_n 0, 1) := by decide +kernel
theorem dX10_kindOf_29 : decode cX10_kindOf 29 = .ok (.bipush 32, 2) := by decide +kernel
theorem dX10_kindOf_31 : decode cX10_kindOf 31 = .ok (.if_icmp .ne 7, 3) := by decide +kernel
theorem dX10_kindOf_34 : decode cX10_kindOf 34 = .ok (.iconst 1, 1) := by decide +kernel
theorem dX10_kindOf_35 : decode cX10_kindOf 35 = .ok (.goto 4, 3) := by decide +kernel
theorem dX10_kindOf_38 : decode cX10_kindOf 38 = .ok (.iconst 4, 1) := by decide +kernel
theorem dX10_kindOf_39 : decode cX10_kindOf 39 = .ok (.ireturn, 1) := by decide +kernel
theorem dX10_useUp_0 : decode cX10_useUp 0 = .ok (.aload_n 0, 1) := by decide +kernel
theorem dX10_useUp_1 : decode cX10_useUp 1 = .ok (.iconst 0, 1) := by decide +kernel
theorem dX10_useUp_2 : decode cX10_useUp 2 = .ok (.putfield 22, 3) := by decide +kernel
theorem dX10_useUp_5 : decode cX10_useUp 5 = .ok (.return_, 1) := by decide +kernel
theorem dX10_byteAt_0 : decode cX10_byteAt 0 = .ok (.iload_n 1, 1) := by decide +kernel
theorem dX10_byteAt_1 : decode cX10_byteAt 1 = .ok (.ifCond .lt 27, 3) := by decide +kernel
theorem dX10_byteAt_4 : decode cX10_byteAt 4 = .ok (.iload_n 1, 1) := by decide +kernel
theorem dX10_byteAt_5 : decode cX10_byteAt 5 = .ok (.aload_n 0, 1) := by decide +kernel
theorem dX10_byteAt_6 : decode cX10_byteAt 6 = .ok (.getfield 22, 3) := by decide +kernel
theorem dX10_byteAt_9 : decode cX10_byteAt 9 = .ok (.if_icmp .ge 19, 3) := by decide +kernel
theorem dX10_byteAt_12 : decode cX10_byteAt 12 = .ok (.iload_n 1, 1) := by decide +kernel
theorem dX10_byteAt_13 : decode cX10_byteAt 13 = .ok (.sipush 400, 3) := by decide +kernel
theorem dX10_byteAt_16 : decode cX10_byteAt 16 = .ok (.if_icmp .ge 12, 3) := by decide +kernel
theorem dX10_byteAt_19 : decode cX10_byteAt 19 = .ok (.aload_n 0, 1) := by decide +kernel
theorem dX10_byteAt_20 : decode cX10_byteAt 20 = .ok (.getfield 9, 3) := by decide +kernel
theorem dX10_byteAt_23 : decode cX10_byteAt 23 = .ok (.iload_n 1, 1) := by decide +kernel
theorem dX10_byteAt_24 : decode cX10_byteAt 24 = .ok (.iaload, 1) := by decide +kernel
theorem dX10_byteAt_25 : decode cX10_byteAt 25 = .ok (.goto 4, 3) := by decide +kernel
theorem dX10_byteAt_28 : decode cX10_byteAt 28 = .ok (.iconst (-1), 1) := by decide +kernel
theorem dX10_byteAt_29 : decode cX10_byteAt 29 = .ok (.ireturn, 1) := by decide +kernel
theorem dX10_startsLine_0 : decode cX10_startsLine 0 = .ok (.iload_n 1, 1) := by decide +kernel
theorem dX10_startsLine_1 : decode cX10_startsLine 1 = .ok (.ifCond .ne 30, 3) := by decide +kernel
theorem dX10_startsLine_4 : decode cX10_startsLine 4 = .ok (.aload_n 0, 1) := by decide +kernel
theorem dX10_startsLine_5 : decode cX10_startsLine 5 = .ok (.iconst 0, 1) := by decide +kernel
theorem dX10_startsLine_6 : decode cX10_startsLine 6 = .ok (.putfield 29, 3) := by decide +kernel
theorem dX10_startsLine_9 : decode cX10_startsLine 9 = .ok (.aload_n 0, 1) := by decide +kernel
theorem dX10_startsLine_10 : decode cX10_startsLine 10 = .ok (.iconst (-1), 1) := by decide +kernel
theorem dX10_startsLine_11 : decode cX10_startsLine 11 = .ok (.putfield 18, 3) := by decide +kernel
theorem dX10_startsLine_14 : decode cX10_startsLine 14 = .ok (.aload_n 0, 1) := by decide +kernel
theorem dX10_startsLine_15 : decode cX10_startsLine 15 = .ok (.invokevirtual 32, 3) := by decide +kernel
theorem dX10_startsLine_18 : decode cX10_startsLine 18 = .ok (.aload_n 0, 1) := by decide +kernel
theorem dX10_startsLine_19 : decode cX10_startsLine 19 = .ok (.invokevirtual 35, 3) := by decide +kernel
theorem dX10_startsLine_22 : decode cX10_startsLine 22 = .ok (.ifCond .ne 7, 3) := by decide +kernel
theorem dX10_startsLine_25 : decode cX10_startsLine 25 = .ok (.iconst 1, 1) := by decide +kernel
theorem dX10_startsLine_26 : decode cX10_startsLine 26 = .ok (.goto 4, 3) := by decide +kernel
theorem dX10_startsLine_29 : decode cX10_startsLine 29 = .ok (.iconst 0, 1) := by decide +kernel
theorem dX10_startsLine_30 : decode cX10_startsLine 30 = .ok (.ireturn, 1) := by decide +kernel
theorem dX10_startsLine_31 : decode cX10_startsLine 31 = .ok (.aload_n 0, 1) := by decide +kernel
theorem dX10_startsLine_32 : decode cX10_startsLine 32 = .ok (.invokevirtual 35, 3) := by decide +kernel
theorem dX10_startsLine_35 : decode cX10_startsLine 35 = .ok (.ifCond .eq 5, 3) := by decide +kernel
theorem dX10_startsLine_38 : decode cX10_startsLine 38 = .ok (.iconst 0, 1) := by decide +kernel
theorem dX10_startsLine_39 : decode cX10_startsLine 39 = .ok (.ireturn, 1) := by decide +kernel
theorem dX10_startsLine_40 : decode cX10_startsLine 40 = .ok (.aload_n 0, 1) := by decide +kernel
theorem dX10_startsLine_41 : decode cX10_startsLine 41 = .ok (.bipush 59, 2) := by decide +kernel
theorem dX10_startsLine_43 : decode cX10_startsLine 43 = .ok (.invokevirtual 39, 3) := by decide +kernel
theorem dX10_startsLine_46 : decode cX10_startsLine 46 = .ok (.iload_n 1, 1) := by decide +kernel
theorem dX10_startsLine_47 : decode cX10_startsLine 47 = .ok (.iload_n 2, 1) := by decide +kernel
theorem dX10_startsLine_48 : decode cX10_startsLine 48 = .ok (.if_icmp .lt 7, 3) := by decide +kernel
theorem dX10_startsLine_51 : decode cX10_startsLine 51 = .ok (.aload_n 0, 1) := by decide +kernel
theorem dX10_startsLine_52 : decode cX10_startsLine 52 = .ok (.invokevirtual 43, 3) := by decide +kernel
theorem dX10_startsLine_55 : decode cX10_startsLine 55 = .ok (.aload_n 0, 1) := by decide +kernel
theorem dX10_startsLine_56 : decode cX10_startsLine 56 = .ok (.invokevirtual 46, 3) := by decide +kernel
theorem dX10_startsLine_59 : decode cX10_startsLine 59 = .ok (.ireturn, 1) := by decide +kernel
theorem dX10_readNext_0 : decode cX10_readNext 0 = .ok (.aload_n 0, 1) := by decide +kernel
theorem dX10_readNext_1 : decode cX10_readNext 1 = .ok (.aload_n 0, 1) := by decide +kernel
theorem dX10_readNext_2 : decode cX10_readNext 2 = .ok (.getfield 29, 3) := by decide +kernel
theorem dX10_readNext_5 : decode cX10_readNext 5 = .ok (.putfield 49, 3) := by decide +kernel
theorem dX10_readNext_8 : decode cX10_readNext 8 = .ok (.aload_n 0, 1) := by decide +kernel
theorem dX10_readNext_9 : decode cX10_readNext 9 = .ok (.getfield 49, 3) := by decide +kernel
theorem dX10_readNext_12 : decode cX10_readNext 12 = .ok (.ifCond .lt 50, 3) := by decide +kernel
theorem dX10_readNext_15 : decode cX10_readNext 15 = .ok (.aload_n 0, 1) := by decide +kernel
theorem dX10_readNext_16 : decode cX10_readNext 16 = .ok (.getfield 49, 3) := by decide +kernel
theorem dX10_readNext_19 : decode cX10_readNext 19 = .ok (.aload_n 0, 1) := by decide +kernel
theorem dX10_readNext_20 : decode cX10_readNext 20 = .ok (.getfield 22, 3) := by decide +kernel
theorem dX10_readNext_23 : decode cX10_readNext 23 = .ok (.if_icmp .ge 39, 3) := by decide +kernel
theorem dX10_readNext_26 : decode cX10_readNext 26 = .ok (.aload_n 0, 1) := by decide +kernel
theorem dX10_readNext_27 : decode cX10_readNext 27 = .ok (.getfield 49, 3) := by decide +kernel
theorem dX10_readNext_30 : decode cX10_readNext 30 = .ok (.sipush 400, 3) := by decide +kernel
theorem dX10_readNext_33 : decode cX10_readNext 33 = .ok (.if_icmp .ge 29, 3) := by decide +kernel
theorem dX10_readNext_36 : decode cX10_readNext 36 = .ok (.aload_n 0, 1) := by decide +kernel
theorem dX10_readNext_37 : decode cX10_readNext 37 = .ok (.getfield 15, 3) := by decide +kernel
theorem dX10_readNext_40 : decode cX10_readNext 40 = .ok (.aload_n 0, 1) := by decide +kernel
theorem dX10_readNext_41 : decode cX10_readNext 41 = .ok (.getfield 49, 3) := by decide +kernel
theorem dX10_readNext_44 : decode cX10_readNext 44 = .ok (.iaload, 1) := by decide +kernel
theorem dX10_readNext_45 : decode cX10_readNext 45 = .ok (.iconst 1, 1) := by decide +kernel
theorem dX10_readNext_46 : decode cX10_readNext 46 = .ok (.if_icmp .ne 16, 3) := by decide +kernel
theorem dX10_readNext_49 : decode cX10_readNext 49 = .ok (.aload_n 0, 1) := by decide +kernel
theorem dX10_readNext_50 : decode cX10_readNext 50 = .ok (.dup, 1) := by decide +kernel
theorem dX10_readNext_51 : decode cX10_readNext 51 = .ok (.getfield 49, 3) := by decide +kernel
theorem dX10_readNext_54 : decode cX10_readNext 54 = .ok (.iconst 1, 1) := by decide +kernel
theorem dX10_readNext_55 : decode cX10_readNext 55 = .ok (.iadd, 1) := by decide +kernel
theorem dX10_readNext_56 : decode cX10_readNext 56 = .ok (.putfield 49, 3) := by decide +kernel
theorem dX10_readNext_59 : decode cX10_readNext 59 = .ok (.goto (-51), 3) := by decide +kernel
theorem dX10_readNext_62 : decode cX10_readNext 62 = .ok (.aload_n 0, 1) := by decide +kernel
theorem dX10_readNext_63 : decode cX10_readNext 63 = .ok (.aload_n 0, 1) := by decide +kernel
theorem dX10_readNext_64 : decode cX10_readNext 64 = .ok (.getfield 49, 3) := by decide +kernel
theorem dX10_readNext_67 : decode cX10_readNext 67 = .ok (.putfield 29, 3) := by decide +kernel
theorem dX10_readNext_70 : decode cX10_readNext 70 = .ok (.aload_n 0, 1) := by decide +kernel
theorem dX10_readNext_71 : decode cX10_readNext 71 = .ok (.iconst 0, 1) := by decide +kernel
theorem dX10_readNext_72 : decode cX10_readNext 72 = .ok (.putfield 52, 3) := by decide +kernel
theorem dX10_readNext_75 : decode cX10_readNext 75 = .ok (.aload_n 0, 1) := by decide +kernel
theorem dX10_readNext_76 : decode cX10_readNext 76 = .ok (.iconst (-1), 1) := by decide +kernel
theorem dX10_readNext_77 : decode cX10_readNext 77 = .ok (.putfield 55, 3) := by decide +kernel
theorem dX10_readNext_80 : decode cX10_readNext 80 = .ok (.aload_n 0, 1) := by decide +kernel
theorem dX10_readNext_81 : decode cX10_readNext 81 = .ok (.getfield 49, 3) := by decide +kernel
theorem dX10_readNext_84 : decode cX10_readNext 84 = .ok (.ifCond .lt 62, 3) := by decide +kernel
theorem dX10_readNext_87 : decode cX10_readNext 87 = .ok (.aload_n 0, 1) := by decide +kernel
theorem dX10_readNext_88 : decode cX10_readNext 88 = .ok (.getfield 49, 3) := by decide +kernel
theorem dX10_readNext_91 : decode cX10_readNext 91 = .ok (.aload_n 0, 1) := by decide +kernel
theorem dX10_readNext_92 : decode cX10_readNext 92 = .ok (.getfield 22, 3) := by decide +kernel
theorem dX10_readNext_95 : decode cX10_readNext 95 = .ok (.if_icmp .ge 51, 3) := by decide +kernel
theorem dX10_readNext_98 : decode cX10_readNext 98 = .ok (.aload_n 0, 1) := by decide +kernel
theorem dX10_readNext_99 : decode cX10_readNext 99 = .ok (.getfield 49, 3) := by decide +kernel
theorem dX10_readNext_102 : decode cX10_readNext 102 = .ok (.sipush 400, 3) := by decide +kernel
theorem dX10_readNext_105 : decode cX10_readNext 105 = .ok (.if_icmp .ge 41, 3) := by decide +kernel
theorem dX10_readNext_108 : decode cX10_readNext 108 = .ok (.aload_n 0, 1) := by decide +kernel
theorem dX10_readNext_109 : decode cX10_readNext 109 = .ok (.aload_n 0, 1) := by decide +kernel
theorem dX10_readNext_110 : decode cX10_readNext 110 = .ok (.getfield 15, 3) := by decide +kernel
theorem dX10_readNext_113 : decode cX10_readNext 113 = .ok (.aload_n 0, 1) := by decide +kernel
theorem dX10_readNext_114 : decode cX10_readNext 114 = .ok (.getfield 49, 3) := by decide +kernel
theorem dX10_readNext_117 : decode cX10_readNext 117 = .ok (.iaload, 1) := by decide +kernel
theorem dX10_readNext_118 : decode cX10_readNext 118 = .ok (.putfield 52, 3) := by decide +kernel
theorem dX10_readNext_121 : decode cX10_readNext 121 = .ok (.aload_n 0, 1) := by decide +kernel
theorem dX10_readNext_122 : decode cX10_readNext 122 = .ok (.aload_n 0, 1) := by decide +kernel
theorem dX10_readNext_123 : decode cX10_readNext 123 = .ok (.getfield 52, 3) := by decide +kernel
theorem dX10_readNext_126 : decode cX10_readNext 126 = .ok (.iconst 4, 1) := by decide +kernel
theorem dX10_readNext_127 : decode cX10_readNext 127 = .ok (.if_icmp .ne 15, 3) := by decide +kernel
theorem dX10_readNext_130 : decode cX10_readNext 130 = .ok (.aload_n 0, 1) := by decide +kernel
theorem dX10_readNext_131 : decode cX10_readNext 131 = .ok (.getfield 9, 3) := by decide +kernel
theorem dX10_readNext_134 : decode cX10_readNext 134 = .ok (.aload_n 0, 1) := by decide +kernel
theorem dX10_readNext_135 : decode cX10_readNext 135 = .ok (.getfield 49, 3) := by decide +kernel
theorem dX10_readNext_138 : decode cX10_readNext 138 = .ok (.iaload, 1) := by decide +kernel
theorem dX10_readNext_139 : decode cX10_readNext 139 = .ok (.goto 4, 3) := by decide +kernel
theorem dX10_readNext_142 : decode cX10_readNext 142 = .ok (.iconst (-1), 1) := by decide +kernel
theorem dX10_readNext_143 : decode cX10_readNext 143 = .ok (.putfield 55, 3) := by decide +kernel
theorem dX10_readNext_146 : decode cX10_readNext 146 = .ok (.aload_n 0, 1) := by decide +kernel
theorem dX10_readNext_147 : decode cX10_readNext 147 = .ok (.getfield 52, 3) := by decide +kernel
theorem dX10_readNext_150 : decode cX10_readNext 150 = .ok (.iconst 4, 1) := by decide +kernel
theorem dX10_readNext_151 : decode cX10_readNext 151 = .ok (.if_icmp .ne 16, 3) := by decide +kernel
theorem dX10_readNext_154 : decode cX10_readNext 154 = .ok (.aload_n 0, 1) := by decide +kernel
theorem dX10_readNext_155 : decode cX10_readNext 155 = .ok (.dup, 1) := by decide +kernel
theorem dX10_readNext_156 : decode cX10_readNext 156 = .ok (.getfield 29, 3) := by decide +kernel
theorem dX10_readNext_159 : decode cX10_readNext 159 = .ok (.iconst 1, 1) := by decide +kernel
theorem dX10_readNext_160 : decode cX10_readNext 160 = .ok (.iadd, 1) := by decide +kernel
theorem dX10_readNext_161 : decode cX10_readNext 161 = .ok (.putfield 29, 3) := by decide +kernel
theorem dX10_readNext_164 : decode cX10_readNext 164 = .ok (.goto 60, 3) := by decide +kernel
theorem dX10_readNext_167 : decode cX10_readNext 167 = .ok (.aload_n 0, 1) := by decide +kernel
theorem dX10_readNext_168 : decode cX10_readNext 168 = .ok (.getfield 52, 3) := by decide +kernel
theorem dX10_readNext_171 : decode cX10_readNext 171 = .ok (.ifCond .eq 53, 3) := by decide +kernel
theorem dX10_readNext_174 : decode cX10_readNext 174 = .ok (.aload_n 0, 1) := by decide +kernel
theorem dX10_readNext_175 : decode cX10_readNext 175 = .ok (.getfield 29, 3) := by decide +kernel
theorem dX10_readNext_178 : decode cX10_readNext 178 = .ok (.aload_n 0, 1) := by decide +kernel
theorem dX10_readNext_179 : decode cX10_readNext 179 = .ok (.getfield 22, 3) := by decide +kernel
theorem dX10_readNext_182 : decode cX10_readNext 182 = .ok (.if_icmp .ge 42, 3) := by decide +kernel
theorem dX10_readNext_185 : decode cX10_readNext 185 = .ok (.aload_n 0, 1) := by decide +kernel
theorem dX10_readNext_186 : decode cX10_readNext 186 = .ok (.getfield 29, 3) := by decide +kernel
theorem dX10_readNext_189 : decode cX10_readNext 189 = .ok (.sipush 400, 3) := by decide +kernel
theorem dX10_readNext_192 : decode cX10_readNext 192 = .ok (.if_icmp .ge 32, 3) := by decide +kernel
theorem dX10_readNext_195 : decode cX10_readNext 195 = .ok (.aload_n 0, 1) := by decide +kernel
theorem dX10_readNext_196 : decode cX10_readNext 196 = .ok (.getfield 15, 3) := by decide +kernel
theorem dX10_readNext_199 : decode cX10_readNext 199 = .ok (.aload_n 0, 1) := by decide +kernel
theorem dX10_readNext_200 : decode cX10_readNext 200 = .ok (.getfield 29, 3) := by decide +kernel
theorem dX10_readNext_203 : decode cX10_readNext 203 = .ok (.iaload, 1) := by decide +kernel
theorem dX10_readNext_204 : decode cX10_readNext 204 = .ok (.aload_n 0, 1) := by decide +kernel
theorem dX10_readNext_205 : decode cX10_readNext 205 = .ok (.getfield 52, 3) := by decide +kernel
theorem dX10_readNext_208 : decode cX10_readNext 208 = .ok (.if_icmp .ne 16, 3) := by decide +kernel
theorem dX10_readNext_211 : decode cX10_readNext 211 = .ok (.aload_n 0, 1) := by decide +kernel
theorem dX10_readNext_212 : decode cX10_readNext 212 = .ok (.dup, 1) := by decide +kernel
theorem dX10_readNext_213 : decode cX10_readNext 213 = .ok (.getfield 29, 3) := by decide +kernel
theorem dX10_readNext_216 : decode cX10_readNext 216 = .ok (.iconst 1, 1) := by decide +kernel
theorem dX10_readNext_217 : decode cX10_readNext 217 = .ok (.iadd, 1) := by decide +kernel
theorem dX10_readNext_218 : decode cX10_readNext 218 = .ok (.putfield 29, 3) := by decide +kernel
theorem dX10_readNext_221 : decode cX10_readNext 221 = .ok (.goto (-47), 3) := by decide +kernel
theorem dX10_readNext_224 : decode cX10_readNext 224 = .ok (.return_, 1) := by decide +kernel
theorem dX10_isEnd_0 : decode cX10_isEnd 0 = .ok (.aload_n 0, 1) := by decide +kernel
theorem dX10_isEnd_1 : decode cX10_isEnd 1 = .ok (.getfield 52, 3) := by decide +kernel
theorem dX10_isEnd_4 : decode cX10_isEnd 4 = .ok (.ifCond .ne 7, 3) := by decide +kernel
theorem dX10_isEnd_7 : decode cX10_isEnd 7 = .ok (.iconst 1, 1) := by decide +kernel
theorem dX10_isEnd_8 : decode cX10_isEnd 8 = .ok (.goto 4, 3) := by decide +kernel
theorem dX10_isEnd_11 : decode cX10_isEnd 11 = .ok (.iconst 0, 1) := by decide +kernel
theorem dX10_isEnd_12 : decode cX10_isEnd 12 = .ok (.ireturn, 1) := by decide +kernel
theorem dX10_isRight_0 : decode cX10_isRight 0 = .ok (.aload_n 0, 1) := by decide +kernel
theorem dX10_isRight_1 : decode cX10_isRight 1 = .ok (.getfield 18, 3) := by decide +kernel
theorem dX10_isRight_4 : decode cX10_isRight 4 = .ok (.iconst (-1), 1) := by decide +kernel
theorem dX10_isRight_5 : decode cX10_isRight 5 = .ok (.if_icmp .ne 7, 3) := by decide +kernel
theorem dX10_isRight_8 : decode cX10_isRight 8 = .ok (.iconst 1, 1) := by decide +kernel
theorem dX10_isRight_9 : decode cX10_isRight 9 = .ok (.goto 4, 3) := by decide +kernel
theorem dX10_isRight_12 : decode cX10_isRight 12 = .ok (.iconst 0, 1) := by decide +kernel
theorem dX10_isRight_13 : decode cX10_isRight 13 = .ok (.ireturn, 1) := by decide +kernel
theorem dX10_refuse_0 : decode cX10_refuse 0 = .ok (.aload_n 0, 1) := by decide +kernel
theorem dX10_refuse_1 : decode cX10_refuse 1 = .ok (.getfield 18, 3) := by decide +kernel
theorem dX10_refuse_4 : decode cX10_refuse 4 = .ok (.iconst (-1), 1) := by decide +kernel
theorem dX10_refuse_5 : decode cX10_refuse 5 = .ok (.if_icmp .ne 11, 3) := by decide +kernel
theorem dX10_refuse_8 : decode cX10_refuse 8 = .ok (.aload_n 0, 1) := by decide +kernel
theorem dX10_refuse_9 : decode cX10_refuse 9 = .ok (.aload_n 0, 1) := by decide +kernel
theorem dX10_refuse_10 : decode cX10_refuse 10 = .ok (.getfield 49, 3) := by decide +kernel
theorem dX10_refuse_13 : decode cX10_refuse 13 = .ok (.putfield 18, 3) := by decide +kernel
theorem dX10_refuse_16 : decode cX10_refuse 16 = .ok (.return_, 1) := by decide +kernel
theorem dX10_isWord_0 : decode cX10_isWord 0 = .ok (.aload_n 0, 1) := by decide +kernel
theorem dX10_isWord_1 : decode cX10_isWord 1 = .ok (.getfield 52, 3) := by decide +kernel
theorem dX10_isWord_4 : decode cX10_isWord 4 = .ok (.iconst 2, 1) := by decide +kernel
theorem dX10_isWord_5 : decode cX10_isWord 5 = .ok (.if_icmp .ne 19, 3) := by decide +kernel
theorem dX10_isWord_8 : decode cX10_isWord 8 = .ok (.aload_n 1, 1) := by decide +kernel
theorem dX10_isWord_9 : decode cX10_isWord 9 = .ok (.invokevirtual 58, 3) := by decide +kernel
theorem dX10_isWord_12 : decode cX10_isWord 12 = .ok (.aload_n 0, 1) := by decide +kernel
theorem dX10_isWord_13 : decode cX10_isWord 13 = .ok (.getfield 29, 3) := by decide +kernel
theorem dX10_isWord_16 : decode cX10_isWord 16 = .ok (.aload_n 0, 1) := by decide +kernel
theorem dX10_isWord_17 : decode cX10_isWord 17 = .ok (.getfield 49, 3) := by decide +kernel
theorem dX10_isWord_20 : decode cX10_isWord 20 = .ok (.isub, 1) := by decide +kernel
theorem dX10_isWord_21 : decode cX10_isWord 21 = .ok (.if_icmp .eq 5, 3) := by decide +kernel
theorem dX10_isWord_24 : decode cX10_isWord 24 = .ok (.iconst 0, 1) := by decide +kernel
theorem dX10_isWord_25 : decode cX10_isWord 25 = .ok (.ireturn, 1) := by decide +kernel
theorem dX10_isWord_26 : decode cX10_isWord 26 = .ok (.iconst 0, 1) := by decide +kernel
theorem dX10_isWord_27 : decode cX10_isWord 27 = .ok (.istore_n 2, 1) := by decide +kernel
theorem dX10_isWord_28 : decode cX10_isWord 28 = .ok (.iload_n 2, 1) := by decide +kernel
theorem dX10_isWord_29 : decode cX10_isWord 29 = .ok (.aload_n 1, 1) := by decide +kernel
theorem dX10_isWord_30 : decode cX10_isWord 30 = .ok (.invokevirtual 58, 3) := by decide +kernel
theorem dX10_isWord_33 : decode cX10_isWord 33 = .ok (.if_icmp .ge 43, 3) := by decide +kernel
theorem dX10_isWord_36 : decode cX10_isWord 36 = .ok (.aload_n 0, 1) := by decide +kernel
theorem dX10_isWord_37 : decode cX10_isWord 37 = .ok (.getfield 49, 3) := by decide +kernel
theorem dX10_isWord_40 : decode cX10_isWord 40 = .ok (.iload_n 2, 1) := by decide +kernel
theorem dX10_isWord_41 : decode cX10_isWord 41 = .ok (.iadd, 1) := by decide +kernel
theorem dX10_isWord_42 : decode cX10_isWord 42 = .ok (.istore_n 3, 1) := by decide +kernel
theorem dX10_isWord_43 : decode cX10_isWord 43 = .ok (.iload_n 3, 1) := by decide +kernel
theorem dX10_isWord_44 : decode cX10_isWord 44 = .ok (.ifCond .lt 24, 3) := by decide +kernel
theorem dX10_isWord_47 : decode cX10_isWord 47 = .ok (.iload_n 3, 1) := by decide +kernel
theorem dX10_isWord_48 : decode cX10_isWord 48 = .ok (.sipush 400, 3) := by decide +kernel
theorem dX10_isWord_51 : decode cX10_isWord 51 = .ok (.if_icmp .ge 17, 3) := by decide +kernel
theorem dX10_isWord_54 : decode cX10_isWord 54 = .ok (.aload_n 1, 1) := by decide +kernel
theorem dX10_isWord_55 : decode cX10_isWord 55 = .ok (.iload_n 2, 1) := by decide +kernel
theorem dX10_isWord_56 : decode cX10_isWord 56 = .ok (.invokevirtual 64, 3) := by decide +kernel
theorem dX10_isWord_59 : decode cX10_isWord 59 = .ok (.aload_n 0, 1) := by decide +kernel
theorem dX10_isWord_60 : decode cX10_isWord 60 = .ok (.getfield 9, 3) := by decide +kernel
theorem dX10_isWord_63 : decode cX10_isWord 63 = .ok (.iload_n 3, 1) := by decide +kernel
theorem dX10_isWord_64 : decode cX10_isWord 64 = .ok (.iaload, 1) := by decide +kernel
theorem dX10_isWord_65 : decode cX10_isWord 65 = .ok (.if_icmp .eq 5, 3) := by decide +kernel
theorem dX10_isWord_68 : decode cX10_isWord 68 = .ok (.iconst 0, 1) := by decide +kernel
theorem dX10_isWord_69 : decode cX10_isWord 69 = .ok (.ireturn, 1) := by decide +kernel
theorem dX10_isWord_70 : decode cX10_isWord 70 = .ok (.iinc 2 1, 3) := by decide +kernel
theorem dX10_isWord_73 : decode cX10_isWord 73 = .ok (.goto (-45), 3) := by decide +kernel
theorem dX10_isWord_76 : decode cX10_isWord 76 = .ok (.iconst 1, 1) := by decide +kernel
theorem dX10_isWord_77 : decode cX10_isWord 77 = .ok (.ireturn, 1) := by decide +kernel
theorem dX10_takeWord_0 : decode cX10_takeWord 0 = .ok (.aload_n 0, 1) := by decide +kernel
theorem dX10_takeWord_1 : decode cX10_takeWord 1 = .ok (.aload_n 1, 1) := by decide +kernel
theorem dX10_takeWord_2 : decode cX10_takeWord 2 = .ok (.invokevirtual 68, 3) := by decide +kernel
theorem dX10_takeWord_5 : decode cX10_takeWord 5 = .ok (.istore_n 2, 1) := by decide +kernel
theorem dX10_takeWord_6 : decode cX10_takeWord 6 = .ok (.iload_n 2, 1) := by decide +kernel
theorem dX10_takeWord_7 : decode cX10_takeWord 7 = .ok (.ifCond .eq 7, 3) := by decide +kernel
theorem dX10_takeWord_10 : decode cX10_takeWord 10 = .ok (.aload_n 0, 1) := by decide +kernel
theorem dX10_takeWord_11 : decode cX10_takeWord 11 = .ok (.invokevirtual 32, 3) := by decide +kernel
theorem dX10_takeWord_14 : decode cX10_takeWord 14 = .ok (.iload_n 2, 1) := by decide +kernel
theorem dX10_takeWord_15 : decode cX10_takeWord 15 = .ok (.ireturn, 1) := by decide +kernel
theorem dX10_expectWord_0 : decode cX10_expectWord 0 = .ok (.aload_n 0, 1) := by decide +kernel
theorem dX10_expectWord_1 : decode cX10_expectWord 1 = .ok (.aload_n 1, 1) := by decide +kernel
theorem dX10_expectWord_2 : decode cX10_expectWord 2 = .ok (.invokevirtual 72, 3) := by decide +kernel
theorem dX10_expectWord_5 : decode cX10_expectWord 5 = .ok (.ifCond .ne 7, 3) := by decide +kernel
theorem dX10_expectWord_8 : decode cX10_expectWord 8 = .ok (.aload_n 0, 1) := by decide +kernel
theorem dX10_expectWord_9 : decode cX10_expectWord 9 = .ok (.invokevirtual 43, 3) := by decide +kernel
theorem dX10_expectWord_12 : decode cX10_expectWord 12 = .ok (.return_, 1) := by decide +kernel
theorem dX10_isSign_0 : decode cX10_isSign 0 = .ok (.aload_n 0, 1) := by decide +kernel
theorem dX10_isSign_1 : decode cX10_isSign 1 = .ok (.getfield 55, 3) := by decide +kernel
theorem dX10_isSign_4 : decode cX10_isSign 4 = .ok (.iload_n 1, 1) := by decide +kernel
theorem dX10_isSign_5 : decode cX10_isSign 5 = .ok (.if_icmp .ne 7, 3) := by decide +kernel
theorem dX10_isSign_8 : decode cX10_isSign 8 = .ok (.iconst 1, 1) := by decide +kernel
theorem dX10_isSign_9 : decode cX10_isSign 9 = .ok (.goto 4, 3) := by decide +kernel
theorem dX10_isSign_12 : decode cX10_isSign 12 = .ok (.iconst 0, 1) := by decide +kernel
theorem dX10_isSign_13 : decode cX10_isSign 13 = .ok (.ireturn, 1) := by decide +kernel
theorem dX10_takeSign_0 : decode cX10_takeSign 0 = .ok (.aload_n 0, 1) := by decide +kernel
theorem dX10_takeSign_1 : decode cX10_takeSign 1 = .ok (.iload_n 1, 1) := by decide +kernel
theorem dX10_takeSign_2 : decode cX10_takeSign 2 = .ok (.invokevirtual 75, 3) := by decide +kernel
theorem dX10_takeSign_5 : decode cX10_takeSign 5 = .ok (.istore_n 2, 1) := by decide +kernel
theorem dX10_takeSign_6 : decode cX10_takeSign 6 = .ok (.iload_n 2, 1) := by decide +kernel
theorem dX10_takeSign_7 : decode cX10_takeSign 7 = .ok (.ifCond .eq 7, 3) := by decide +kernel
theorem dX10_takeSign_10 : decode cX10_takeSign 10 = .ok (.aload_n 0, 1) := by decide +kernel
theorem dX10_takeSign_11 : decode cX10_takeSign 11 = .ok (.invokevirtual 32, 3) := by decide +kernel
theorem dX10_takeSign_14 : decode cX10_takeSign 14 = .ok (.iload_n 2, 1) := by decide +kernel
theorem dX10_takeSign_15 : decode cX10_takeSign 15 = .ok (.ireturn, 1) := by decide +kernel
theorem dX10_expectSign_0 : decode cX10_expectSign 0 = .ok (.aload_n 0, 1) := by decide +kernel
theorem dX10_expectSign_1 : decode cX10_expectSign 1 = .ok (.iload_n 1, 1) := by decide +kernel
theorem dX10_expectSign_2 : decode cX10_expectSign 2 = .ok (.invokevirtual 79, 3) := by decide +kernel
theorem dX10_expectSign_5 : decode cX10_expectSign 5 = .ok (.ifCond .ne 7, 3) := by decide +kernel
theorem dX10_expectSign_8 : decode cX10_expectSign 8 = .ok (.aload_n 0, 1) := by decide +kernel
theorem dX10_expectSign_9 : decode cX10_expectSign 9 = .ok (.invokevirtual 43, 3) := by decide +kernel
theorem dX10_expectSign_12 : decode cX10_expectSign 12 = .ok (.return_, 1) := by decide +kernel
theorem dX10_isNumber_0 : decode cX10_isNumber 0 = .ok (.aload_n 0, 1) := by decide +kernel
theorem dX10_isNumber_1 : decode cX10_isNumber 1 = .ok (.getfield 52, 3) := by decide +kernel
theorem dX10_isNumber_4 : decode cX10_isNumber 4 = .ok (.iconst 3, 1) := by decide +kernel
theorem dX10_isNumber_5 : decode cX10_isNumber 5 = .ok (.if_icmp .ne 7, 3) := by decide +kernel
theorem dX10_isNumber_8 : decode cX10_isNumber 8 = .ok (.iconst 1, 1) := by decide +kernel
theorem dX10_isNumber_9 : decode cX10_isNumber 9 = .ok (.goto 4, 3) := by decide +kernel
theorem dX10_isNumber_12 : decode cX10_isNumber 12 = .ok (.iconst 0, 1) := by decide +kernel
theorem dX10_isNumber_13 : decode cX10_isNumber 13 = .ok (.ireturn, 1) := by decide +kernel
theorem dX10_numberHere_0 : decode cX10_numberHere 0 = .ok (.aload_n 0, 1) := by decide +kernel
theorem dX10_numberHere_1 : decode cX10_numberHere 1 = .ok (.getfield 52, 3) := by decide +kernel
theorem dX10_numberHere_4 : decode cX10_numberHere 4 = .ok (.iconst 3, 1) := by decide +kernel
theorem dX10_numberHere_5 : decode cX10_numberHere 5 = .ok (.if_icmp .ne 16, 3) := by decide +kernel
theorem dX10_numberHere_8 : decode cX10_numberHere 8 = .ok (.aload_n 0, 1) := by decide +kernel
theorem dX10_numberHere_9 : decode cX10_numberHere 9 = .ok (.getfield 29, 3) := by decide +kernel
theorem dX10_numberHere_12 : decode cX10_numberHere 12 = .ok (.aload_n 0, 1) := by decide +kernel
theorem dX10_numberHere_13 : decode cX10_numberHere 13 = .ok (.getfield 49, 3) := by decide +kernel
theorem dX10_numberHere_16 : decode cX10_numberHere 16 = .ok (.isub, 1) := by decide +kernel
theorem dX10_numberHere_17 : decode cX10_numberHere 17 = .ok (.iconst 3, 1) := by decide +kernel
theorem dX10_numberHere_18 : decode cX10_numberHere 18 = .ok (.if_icmp .le 5, 3) := by decide +kernel
theorem dX10_numberHere_21 : decode cX10_numberHere 21 = .ok (.iconst (-1), 1) := by decide +kernel
theorem dX10_numberHere_22 : decode cX10_numberHere 22 = .ok (.ireturn, 1) := by decide +kernel
theorem dX10_numberHere_23 : decode cX10_numberHere 23 = .ok (.iconst 0, 1) := by decide +kernel
theorem dX10_numberHere_24 : decode cX10_numberHere 24 = .ok (.istore_n 1, 1) := by decide +kernel
theorem dX10_numberHere_25 : decode cX10_numberHere 25 = .ok (.aload_n 0, 1) := by decide +kernel
theorem dX10_numberHere_26 : decode cX10_numberHere 26 = .ok (.getfield 49, 3) := by decide +kernel
theorem dX10_numberHere_29 : decode cX10_numberHere 29 = .ok (.istore_n 2, 1) := by decide +kernel
theorem dX10_numberHere_30 : decode cX10_numberHere 30 = .ok (.iload_n 2, 1) := by decide +kernel
theorem dX10_numberHere_31 : decode cX10_numberHere 31 = .ok (.ifCond .lt 39, 3) := by decide +kernel
theorem dX10_numberHere_34 : decode cX10_numberHere 34 = .ok (.iload_n 2, 1) := by decide +kernel
theorem dX10_numberHere_35 : decode cX10_numberHere 35 = .ok (.aload_n 0, 1) := by decide +kernel
theorem dX10_numberHere_36 : decode cX10_numberHere 36 = .ok (.getfield 29, 3) := by decide +kernel
theorem dX10_numberHere_39 : decode cX10_numberHere 39 = .ok (.if_icmp .ge 31, 3) := by decide +kernel
theorem dX10_numberHere_42 : decode cX10_numberHere 42 = .ok (.iload_n 2, 1) := by decide +kernel
theorem dX10_numberHere_43 : decode cX10_numberHere 43 = .ok (.sipush 400, 3) := by decide +kernel
theorem dX10_numberHere_46 : decode cX10_numberHere 46 = .ok (.if_icmp .ge 24, 3) := by decide +kernel
theorem dX10_numberHere_49 : decode cX10_numberHere 49 = .ok (.bipush 10, 2) := by decide +kernel
theorem dX10_numberHere_51 : decode cX10_numberHere 51 = .ok (.iload_n 1, 1) := by decide +kernel
theorem dX10_numberHere_52 : decode cX10_numberHere 52 = .ok (.imul, 1) := by decide +kernel
theorem dX10_numberHere_53 : decode cX10_numberHere 53 = .ok (.aload_n 0, 1) := by decide +kernel
theorem dX10_numberHere_54 : decode cX10_numberHere 54 = .ok (.getfield 9, 3) := by decide +kernel
theorem dX10_numberHere_57 : decode cX10_numberHere 57 = .ok (.iload_n 2, 1) := by decide +kernel
theorem dX10_numberHere_58 : decode cX10_numberHere 58 = .ok (.iaload, 1) := by decide +kernel
theorem dX10_numberHere_59 : decode cX10_numberHere 59 = .ok (.iadd, 1) := by decide +kernel
theorem dX10_numberHere_60 : decode cX10_numberHere 60 = .ok (.bipush 48, 2) := by decide +kernel
theorem dX10_numberHere_62 : decode cX10_numberHere 62 = .ok (.isub, 1) := by decide +kernel
theorem dX10_numberHere_63 : decode cX10_numberHere 63 = .ok (.istore_n 1, 1) := by decide +kernel
theorem dX10_numberHere_64 : decode cX10_numberHere 64 = .ok (.iinc 2 1, 3) := by decide +kernel
theorem dX10_numberHere_67 : decode cX10_numberHere 67 = .ok (.goto (-37), 3) := by decide +kernel
theorem dX10_numberHere_70 : decode cX10_numberHere 70 = .ok (.iload_n 1, 1) := by decide +kernel
theorem dX10_numberHere_71 : decode cX10_numberHere 71 = .ok (.ireturn, 1) := by decide +kernel
theorem dX10_takeNumber_0 : decode cX10_takeNumber 0 = .ok (.aload_n 0, 1) := by decide +kernel
theorem dX10_takeNumber_1 : decode cX10_takeNumber 1 = .ok (.invokevirtual 82, 3) := by decide +kernel
theorem dX10_takeNumber_4 : decode cX10_takeNumber 4 = .ok (.istore_n 2, 1) := by decide +kernel
theorem dX10_takeNumber_5 : decode cX10_takeNumber 5 = .ok (.iload_n 2, 1) := by decide +kernel
theorem dX10_takeNumber_6 : decode cX10_takeNumber 6 = .ok (.iconst (-1), 1) := by decide +kernel
theorem dX10_takeNumber_7 : decode cX10_takeNumber 7 = .ok (.if_icmp .eq 8, 3) := by decide +kernel
theorem dX10_takeNumber_10 : decode cX10_takeNumber 10 = .ok (.iload_n 2, 1) := by decide +kernel
theorem dX10_takeNumber_11 : decode cX10_takeNumber 11 = .ok (.iload_n 1, 1) := by decide +kernel
theorem dX10_takeNumber_12 : decode cX10_takeNumber 12 = .ok (.if_icmp .le 9, 3) := by decide +kernel
theorem dX10_takeNumber_15 : decode cX10_takeNumber 15 = .ok (.aload_n 0, 1) := by decide +kernel
theorem dX10_takeNumber_16 : decode cX10_takeNumber 16 = .ok (.invokevirtual 43, 3) := by decide +kernel
theorem dX10_takeNumber_19 : decode cX10_takeNumber 19 = .ok (.iconst (-1), 1) := by decide +kernel
theorem dX10_takeNumber_20 : decode cX10_takeNumber 20 = .ok (.ireturn, 1) := by decide +kernel
theorem dX10_takeNumber_21 : decode cX10_takeNumber 21 = .ok (.aload_n 0, 1) := by decide +kernel
theorem dX10_takeNumber_22 : decode cX10_takeNumber 22 = .ok (.invokevirtual 32, 3) := by decide +kernel
theorem dX10_takeNumber_25 : decode cX10_takeNumber 25 = .ok (.iload_n 2, 1) := by decide +kernel
theorem dX10_takeNumber_26 : decode cX10_takeNumber 26 = .ok (.ireturn, 1) := by decide +kernel
theorem dX10_takeMonths_0 : decode cX10_takeMonths 0 = .ok (.iconst 0, 1) := by decide +kernel
theorem dX10_takeMonths_1 : decode cX10_takeMonths 1 = .ok (.istore_n 1, 1) := by decide +kernel
theorem dX10_takeMonths_2 : decode cX10_takeMonths 2 = .ok (.aload_n 0, 1) := by decide +kernel
theorem dX10_takeMonths_3 : decode cX10_takeMonths 3 = .ok (.getfield 52, 3) := by decide +kernel
theorem dX10_takeMonths_6 : decode cX10_takeMonths 6 = .ok (.iconst 2, 1) := by decide +kernel
theorem dX10_takeMonths_7 : decode cX10_takeMonths 7 = .ok (.if_icmp .eq 7, 3) := by decide +kernel
theorem dX10_takeMonths_10 : decode cX10_takeMonths 10 = .ok (.aload_n 0, 1) := by decide +kernel
theorem dX10_takeMonths_11 : decode cX10_takeMonths 11 = .ok (.invokevirtual 43, 3) := by decide +kernel
theorem dX10_takeMonths_14 : decode cX10_takeMonths 14 = .ok (.aload_n 0, 1) := by decide +kernel
theorem dX10_takeMonths_15 : decode cX10_takeMonths 15 = .ok (.getfield 49, 3) := by decide +kernel
theorem dX10_takeMonths_18 : decode cX10_takeMonths 18 = .ok (.istore_n 2, 1) := by decide +kernel
theorem dX10_takeMonths_19 : decode cX10_takeMonths 19 = .ok (.iload_n 2, 1) := by decide +kernel
theorem dX10_takeMonths_20 : decode cX10_takeMonths 20 = .ok (.aload_n 0, 1) := by decide +kernel
theorem dX10_takeMonths_21 : decode cX10_takeMonths 21 = .ok (.getfield 29, 3) := by decide +kernel
theorem dX10_takeMonths_24 : decode cX10_takeMonths 24 = .ok (.if_icmp .ge 48, 3) := by decide +kernel
theorem dX10_takeMonths_27 : decode cX10_takeMonths 27 = .ok (.aload_n 0, 1) := by decide +kernel
theorem dX10_takeMonths_28 : decode cX10_takeMonths 28 = .ok (.iload_n 2, 1) := by decide +kernel
theorem dX10_takeMonths_29 : decode cX10_takeMonths 29 = .ok (.invokevirtual 85, 3) := by decide +kernel
theorem dX10_takeMonths_32 : decode cX10_takeMonths 32 = .ok (.bipush 97, 2) := by decide +kernel
theorem dX10_takeMonths_34 : decode cX10_takeMonths 34 = .ok (.isub, 1) := by decide +kernel
theorem dX10_takeMonths_35 : decode cX10_takeMonths 35 = .ok (.istore_n 3, 1) := by decide +kernel
theorem dX10_takeMonths_36 : decode cX10_takeMonths 36 = .ok (.iload_n 3, 1) := by decide +kernel
theorem dX10_takeMonths_37 : decode cX10_takeMonths 37 = .ok (.ifCond .lt 17, 3) := by decide +kernel
theorem dX10_takeMonths_40 : decode cX10_takeMonths 40 = .ok (.iload_n 3, 1) := by decide +kernel
theorem dX10_takeMonths_41 : decode cX10_takeMonths 41 = .ok (.bipush 12, 2) := by decide +kernel
theorem dX10_takeMonths_43 : decode cX10_takeMonths 43 = .ok (.if_icmp .ge 11, 3) := by decide +kernel
theorem dX10_takeMonths_46 : decode cX10_takeMonths 46 = .ok (.iload_n 1, 1) := by decide +kernel
theorem dX10_takeMonths_47 : decode cX10_takeMonths 47 = .ok (.iload_n 3, 1) := by decide +kernel
theorem dX10_takeMonths_48 : decode cX10_takeMonths 48 = .ok (.invokestatic 88, 3) := by decide +kernel
theorem dX10_takeMonths_51 : decode cX10_takeMonths 51 = .ok (.ifCond .eq 9, 3) := by decide +kernel
theorem dX10_takeMonths_54 : decode cX10_takeMonths 54 = .ok (.aload_n 0, 1) := by decide +kernel
theorem dX10_takeMonths_55 : decode cX10_takeMonths 55 = .ok (.invokevirtual 43, 3) := by decide +kernel
theorem dX10_takeMonths_58 : decode cX10_takeMonths 58 = .ok (.iconst 0, 1) := by decide +kernel
theorem dX10_takeMonths_59 : decode cX10_takeMonths 59 = .ok (.ireturn, 1) := by decide +kernel
theorem dX10_takeMonths_60 : decode cX10_takeMonths 60 = .ok (.iload_n 1, 1) := by decide +kernel
theorem dX10_takeMonths_61 : decode cX10_takeMonths 61 = .ok (.iconst 1, 1) := by decide +kernel
theorem dX10_takeMonths_62 : decode cX10_takeMonths 62 = .ok (.iload_n 3, 1) := by decide +kernel
theorem dX10_takeMonths_63 : decode cX10_takeMonths 63 = .ok (.ishl, 1) := by decide +kernel
theorem dX10_takeMonths_64 : decode cX10_takeMonths 64 = .ok (.ior, 1) := by decide +kernel
theorem dX10_takeMonths_65 : decode cX10_takeMonths 65 = .ok (.istore_n 1, 1) := by decide +kernel
theorem dX10_takeMonths_66 : decode cX10_takeMonths 66 = .ok (.iinc 2 1, 3) := by decide +kernel
theorem dX10_takeMonths_69 : decode cX10_takeMonths 69 = .ok (.goto (-50), 3) := by decide +kernel
theorem dX10_takeMonths_72 : decode cX10_takeMonths 72 = .ok (.aload_n 0, 1) := by decide +kernel
theorem dX10_takeMonths_73 : decode cX10_takeMonths 73 = .ok (.invokevirtual 32, 3) := by decide +kernel
theorem dX10_takeMonths_76 : decode cX10_takeMonths 76 = .ok (.iload_n 1, 1) := by decide +kernel
theorem dX10_takeMonths_77 : decode cX10_takeMonths 77 = .ok (.ireturn, 1) := by decide +kernel
theorem dX10_takeSeason_0 : decode cX10_takeSeason 0 = .ok (.iconst (-1), 1) := by decide +kernel
theorem dX10_takeSeason_1 : decode cX10_takeSeason 1 = .ok (.istore_n 1, 1) := by decide +kernel
theorem dX10_takeSeason_2 : decode cX10_takeSeason 2 = .ok (.aload_n 0, 1) := by decide +kernel
theorem dX10_takeSeason_3 : decode cX10_takeSeason 3 = .ok (.ldc 92, 2) := by decide +kernel
theorem dX10_takeSeason_5 : decode cX10_takeSeason 5 = .ok (.invokevirtual 68, 3) := by decide +kernel
theorem dX10_takeSeason_8 : decode cX10_takeSeason 8 = .ok (.ifCond .eq 8, 3) := by decide +kernel
theorem dX10_takeSeason_11 : decode cX10_takeSeason 11 = .ok (.iconst 0, 1) := by decide +kernel
theorem dX10_takeSeason_12 : decode cX10_takeSeason 12 = .ok (.istore_n 1, 1) := by decide +kernel
theorem dX10_takeSeason_13 : decode cX10_takeSeason 13 = .ok (.goto 42, 3) := by decide +kernel
theorem dX10_takeSeason_16 : decode cX10_takeSeason 16 = .ok (.aload_n 0, 1) := by decide +kernel
theorem dX10_takeSeason_17 : decode cX10_takeSeason 17 = .ok (.ldc 94, 2) := by decide +kernel
theorem dX10_takeSeason_19 : decode cX10_takeSeason 19 = .ok (.invokevirtual 68, 3) := by decide +kernel
theorem dX10_takeSeason_22 : decode cX10_takeSeason 22 = .ok (.ifCond .eq 8, 3) := by decide +kernel
theorem dX10_takeSeason_25 : decode cX10_takeSeason 25 = .ok (.iconst 1, 1) := by decide +kernel
theorem dX10_takeSeason_26 : decode cX10_takeSeason 26 = .ok (.istore_n 1, 1) := by decide +kernel
theorem dX10_takeSeason_27 : decode cX10_takeSeason 27 = .ok (.goto 28, 3) := by decide +kernel
theorem dX10_takeSeason_30 : decode cX10_takeSeason 30 = .ok (.aload_n 0, 1) := by decide +kernel
theorem dX10_takeSeason_31 : decode cX10_takeSeason 31 = .ok (.ldc 96, 2) := by decide +kernel
theorem dX10_takeSeason_33 : decode cX10_takeSeason 33 = .ok (.invokevirtual 68, 3) := by decide +kernel
theorem dX10_takeSeason_36 : decode cX10_takeSeason 36 = .ok (.ifCond .eq 8, 3) := by decide +kernel
theorem dX10_takeSeason_39 : decode cX10_takeSeason 39 = .ok (.iconst 2, 1) := by decide +kernel
theorem dX10_takeSeason_40 : decode cX10_takeSeason 40 = .ok (.istore_n 1, 1) := by decide +kernel
theorem dX10_takeSeason_41 : decode cX10_takeSeason 41 = .ok (.goto 14, 3) := by decide +kernel
theorem dX10_takeSeason_44 : decode cX10_takeSeason 44 = .ok (.aload_n 0, 1) := by decide +kernel
theorem dX10_takeSeason_45 : decode cX10_takeSeason 45 = .ok (.ldc 98, 2) := by decide +kernel
theorem dX10_takeSeason_47 : decode cX10_takeSeason 47 = .ok (.invokevirtual 68, 3) := by decide +kernel
theorem dX10_takeSeason_50 : decode cX10_takeSeason 50 = .ok (.ifCond .eq 5, 3) := by decide +kernel
theorem dX10_takeSeason_53 : decode cX10_takeSeason 53 = .ok (.iconst 3, 1) := by decide +kernel
theorem dX10_takeSeason_54 : decode cX10_takeSeason 54 = .ok (.istore_n 1, 1) := by decide +kernel
theorem dX10_takeSeason_55 : decode cX10_takeSeason 55 = .ok (.iload_n 1, 1) := by decide +kernel
theorem dX10_takeSeason_56 : decode cX10_takeSeason 56 = .ok (.iconst (-1), 1) := by decide +kernel
theorem dX10_takeSeason_57 : decode cX10_takeSeason 57 = .ok (.if_icmp .ne 10, 3) := by decide +kernel
theorem dX10_takeSeason_60 : decode cX10_takeSeason 60 = .ok (.aload_n 0, 1) := by decide +kernel
theorem dX10_takeSeason_61 : decode cX10_takeSeason 61 = .ok (.invokevirtual 43, 3) := by decide +kernel
theorem dX10_takeSeason_64 : decode cX10_takeSeason 64 = .ok (.goto 7, 3) := by decide +kernel
theorem dX10_takeSeason_67 : decode cX10_takeSeason 67 = .ok (.aload_n 0, 1) := by decide +kernel
theorem dX10_takeSeason_68 : decode cX10_takeSeason 68 = .ok (.invokevirtual 32, 3) := by decide +kernel
theorem dX10_takeSeason_71 : decode cX10_takeSeason 71 = .ok (.iload_n 1, 1) := by decide +kernel
theorem dX10_takeSeason_72 : decode cX10_takeSeason 72 = .ok (.ireturn, 1) := by decide +kernel
theorem dX10_takeMood_0 : decode cX10_takeMood 0 = .ok (.aload_n 0, 1) := by decide +kernel
theorem dX10_takeMood_1 : decode cX10_takeMood 1 = .ok (.ldc 100, 2) := by decide +kernel
theorem dX10_takeMood_3 : decode cX10_takeMood 3 = .ok (.invokevirtual 72, 3) := by decide +kernel
theorem dX10_takeMood_6 : decode cX10_takeMood 6 = .ok (.ifCond .eq 7, 3) := by decide +kernel
theorem dX10_takeMood_9 : decode cX10_takeMood 9 = .ok (.iconst 4, 1) := by decide +kernel
theorem dX10_takeMood_10 : decode cX10_takeMood 10 = .ok (.goto 7, 3) := by decide +kernel
theorem dX10_takeMood_13 : decode cX10_takeMood 13 = .ok (.aload_n 0, 1) := by decide +kernel
theorem dX10_takeMood_14 : decode cX10_takeMood 14 = .ok (.invokevirtual 102, 3) := by decide +kernel
theorem dX10_takeMood_17 : decode cX10_takeMood 17 = .ok (.ireturn, 1) := by decide +kernel
theorem dX11_init_0 : decode cX11_init 0 = .ok (.aload_n 0, 1) := by decide +kernel
theorem dX11_init_1 : decode cX11_init 1 = .ok (.invokespecial 1, 3) := by decide +kernel
theorem dX11_init_4 : decode cX11_init 4 = .ok (.aload_n 0, 1) := by decide +kernel
theorem dX11_init_5 : decode cX11_init 5 = .ok (.new 7, 3) := by decide +kernel
theorem dX11_init_8 : decode cX11_init 8 = .ok (.dup, 1) := by decide +kernel
theorem dX11_init_9 : decode cX11_init 9 = .ok (.invokespecial 9, 3) := by decide +kernel
theorem dX11_init_12 : decode cX11_init 12 = .ok (.putfield 10, 3) := by decide +kernel
theorem dX11_init_15 : decode cX11_init 15 = .ok (.aload_n 0, 1) := by decide +kernel
theorem dX11_init_16 : decode cX11_init 16 = .ok (.new 16, 3) := by decide +kernel
theorem dX11_init_19 : decode cX11_init 19 = .ok (.dup, 1) := by decide +kernel
theorem dX11_init_20 : decode cX11_init 20 = .ok (.invokespecial 18, 3) := by decide +kernel
theorem dX11_init_23 : decode cX11_init 23 = .ok (.putfield 19, 3) := by decide +kernel
theorem dX11_init_26 : decode cX11_init 26 = .ok (.aload_n 0, 1) := by decide +kernel
theorem dX11_init_27 : decode cX11_init 27 = .ok (.new 16, 3) := by decide +kernel
theorem dX11_init_30 : decode cX11_init 30 = .ok (.dup, 1) := by decide +kernel
theorem dX11_init_31 : decode cX11_init 31 = .ok (.invokespecial 18, 3) := by decide +kernel
theorem dX11_init_34 : decode cX11_init 34 = .ok (.putfield 23, 3) := by decide +kernel
theorem dX11_init_37 : decode cX11_init 37 = .ok (.aload_n 0, 1) := by decide +kernel
theorem dX11_init_38 : decode cX11_init 38 = .ok (.new 16, 3) := by decide +kernel
theorem dX11_init_41 : decode cX11_init 41 = .ok (.dup, 1) := by decide +kernel
theorem dX11_init_42 : decode cX11_init 42 = .ok (.invokespecial 18, 3) := by decide +kernel
theorem dX11_init_45 : decode cX11_init 45 = .ok (.putfield 26, 3) := by decide +kernel
theorem dX11_init_48 : decode cX11_init 48 = .ok (.aload_n 0, 1) := by decide +kernel
theorem dX11_init_49 : decode cX11_init 49 = .ok (.new 29, 3) := by decide +kernel
theorem dX11_init_52 : decode cX11_init 52 = .ok (.dup, 1) := by decide +kernel
theorem dX11_init_53 : decode cX11_init 53 = .ok (.invokespecial 31, 3) := by decide +kernel
theorem dX11_init_56 : decode cX11_init 56 = .ok (.putfield 32, 3) := by decide +kernel
theorem dX11_init_59 : decode cX11_init 59 = .ok (.aload_n 0, 1) := by decide +kernel
theorem dX11_init_60 : decode cX11_init 60 = .ok (.new 29, 3) := by decide +kernel
theorem dX11_init_63 : decode cX11_init 63 = .ok (.dup, 1) := by decide +kernel
theorem dX11_init_64 : decode cX11_init 64 = .ok (.invokespecial 31, 3) := by decide +kernel
theorem dX11_init_67 : decode cX11_init 67 = .ok (.putfield 36, 3) := by decide +kernel
theorem dX11_init_70 : decode cX11_init 70 = .ok (.aload_n 0, 1) := by decide +kernel
theorem dX11_init_71 : decode cX11_init 71 = .ok (.new 29, 3) := by decide +kernel
theorem dX11_init_74 : decode cX11_init 74 = .ok (.dup, 1) := by decide +kernel
theorem dX11_init_75 : decode cX11_init 75 = .ok (.invokespecial 31, 3) := by decide +kernel
theorem dX11_init_78 : decode cX11_init 78 = .ok (.putfield 39, 3) := by decide +kernel
theorem dX11_init_81 : decode cX11_init 81 = .ok (.aload_n 0, 1) := by decide +kernel
theorem dX11_init_82 : decode cX11_init 82 = .ok (.bipush 12, 2) := by decide +kernel
theorem dX11_init_84 : decode cX11_init 84 = .ok (.anewarray 16, 3) := by decide +kernel
theorem dX11_init_87 : decode cX11_init 87 = .ok (.putfield 42, 3) := by decide +kernel
theorem dX11_init_90 : decode cX11_init 90 = .ok (.aload_n 0, 1) := by decide +kernel
theorem dX11_init_91 : decode cX11_init 91 = .ok (.new 46, 3) := by decide +kernel
theorem dX11_init_94 : decode cX11_init 94 = .ok (.dup, 1) := by decide +kernel
theorem dX11_init_95 : decode cX11_init 95 = .ok (.invokespecial 48, 3) := by decide +kernel
theorem dX11_init_98 : decode cX11_init 98 = .ok (.putfield 49, 3) := by decide +kernel
theorem dX11_init_101 : decode cX11_init 101 = .ok (.aload_n 0, 1) := by decide +kernel
theorem dX11_init_102 : decode cX11_init 102 = .ok (.new 53, 3) := by decide +kernel
theorem dX11_init_105 : decode cX11_init 105 = .ok (.dup, 1) := by decide +kernel
theorem dX11_init_106 : decode cX11_init 106 = .ok (.invokespecial 55, 3) := by decide +kernel
theorem dX11_init_109 : decode cX11_init 109 = .ok (.putfield 56, 3) := by decide +kernel
theorem dX11_init_112 : decode cX11_init 112 = .ok (.aload_n 0, 1) := by decide +kernel
theorem dX11_init_113 : decode cX11_init 113 = .ok (.new 60, 3) := by decide +kernel
theorem dX11_init_116 : decode cX11_init 116 = .ok (.dup, 1) := by decide +kernel
theorem dX11_init_117 : decode cX11_init 117 = .ok (.invokespecial 62, 3) := by decide +kernel
theorem dX11_init_120 : decode cX11_init 120 = .ok (.putfield 63, 3) := by decide +kernel
theorem dX11_init_123 : decode cX11_init 123 = .ok (.aload_n 0, 1) := by decide +kernel
theorem dX11_init_124 : decode cX11_init 124 = .ok (.new 67, 3) := by decide +kernel
theorem dX11_init_127 : decode cX11_init 127 = .ok (.dup, 1) := by decide +kernel
theorem dX11_init_128 : decode cX11_init 128 = .ok (.invokespecial 69, 3) := by decide +kernel
theorem dX11_init_131 : decode cX11_init 131 = .ok (.putfield 70, 3) := by decide +kernel
theorem dX11_init_134 : decode cX11_init 134 = .ok (.aload_n 0, 1) := by decide +kernel
theorem dX11_init_135 : decode cX11_init 135 = .ok (.new 74, 3) := by decide +kernel
theorem dX11_init_138 : decode cX11_init 138 = .ok (.dup, 1) := by decide +kernel
theorem dX11_init_139 : decode cX11_init 139 = .ok (.invokespecial 76, 3) := by decide +kernel
theorem dX11_init_142 : decode cX11_init 142 = .ok (.putfield 77, 3) := by decide +kernel
theorem dX11_init_145 : decode cX11_init 145 = .ok (.aload_n 0, 1) := by decide +kernel
theorem dX11_init_146 : decode cX11_init 146 = .ok (.iconst (-1), 1) := by decide +kernel
theorem dX11_init_147 : decode cX11_init 147 = .ok (.putfield 81, 3) := by decide +kernel
theorem dX11_init_150 : decode cX11_init 150 = .ok (.iconst 0, 1) := by decide +kernel
theorem dX11_init_151 : decode cX11_init 151 = .ok (.istore_n 1, 1) := by decide +kernel
theorem dX11_init_152 : decode cX11_init 152 = .ok (.iload_n 1, 1) := by decide +kernel
theorem dX11_init_153 : decode cX11_init 153 = .ok (.aload_n 0, 1) := by decide +kernel
theorem dX11_init_154 : decode cX11_init 154 = .ok (.getfield 42, 3) := by decide +kernel
theorem dX11_init_157 : decode cX11_init 157 = .ok (.arraylength, 1) := by decide +kernel
theorem dX11_init_158 : decode cX11_init 158 = .ok (.if_icmp .ge 22, 3) := by decide +kernel
theorem dX11_init_161 : decode cX11_init 161 = .ok (.aload_n 0, 1) := by decide +kernel
theorem dX11_init_162 : decode cX11_init 162 = .ok (.getfield 42, 3) := by decide +kernel
theorem dX11_init_165 : decode cX11_init 165 = .ok (.iload_n 1, 1) := by decide +kernel
theorem dX11_init_166 : decode cX11_init 166 = .ok (.new 16, 3) := by decide +kernel
theorem dX11_init_169 : decode cX11_init 169 = .ok (.dup, 1) := by decide +kernel
theorem dX11_init_170 : decode cX11_init 170 = .ok (.invokespecial 18, 3) := by decide +kernel
theorem dX11_init_173 : decode cX11_init 173 = .ok (.aastore, 1) := by decide +kernel
theorem dX11_init_174 : decode cX11_init 174 = .ok (.iinc 1 1, 3) := by decide +kernel
theorem dX11_init_177 : decode cX11_init 177 = .ok (.goto (-25), 3) := by decide +kernel
theorem dX11_init_180 : decode cX11_init 180 = .ok (.return_, 1) := by decide +kernel
theorem dX11_feed_0 : decode cX11_feed 0 = .ok (.aload_n 0, 1) := by decide +kernel
theorem dX11_feed_1 : decode cX11_feed 1 = .ok (.getfield 10, 3) := by decide +kernel
theorem dX11_feed_4 : decode cX11_feed 4 = .ok (.getfield 85, 3) := by decide +kernel
theorem dX11_feed_7 : decode cX11_feed 7 = .ok (.bipush 20, 2) := by decide +kernel
theorem dX11_feed_9 : decode cX11_feed 9 = .ok (.iadd, 1) := by decide +kernel
theorem dX11_feed_10 : decode cX11_feed 10 = .ok (.sipush 400, 3) := by decide +kernel
theorem dX11_feed_13 : decode cX11_feed 13 = .ok (.if_icmp .le 5, 3) := by decide +kernel
theorem dX11_feed_16 : decode cX11_feed 16 = .ok (.iconst (-1), 1) := by decide +kernel
theorem dX11_feed_17 : decode cX11_feed 17 = .ok (.ireturn, 1) := by decide +kernel
theorem dX11_feed_18 : decode cX11_feed 18 = .ok (.aload_n 0, 1) := by decide +kernel
theorem dX11_feed_19 : decode cX11_feed 19 = .ok (.getfield 10, 3) := by decide +kernel
theorem dX11_feed_22 : decode cX11_feed 22 = .ok (.iload_n 1, 1) := by decide +kernel
theorem dX11_feed_23 : decode cX11_feed 23 = .ok (.invokevirtual 88, 3) := by decide +kernel
theorem dX11_feed_26 : decode cX11_feed 26 = .ok (.aload_n 0, 1) := by decide +kernel
theorem dX11_feed_27 : decode cX11_feed 27 = .ok (.getfield 10, 3) := by decide +kernel
theorem dX11_feed_30 : decode cX11_feed 30 = .ok (.iload_n 2, 1) := by decide +kernel
theorem dX11_feed_31 : decode cX11_feed 31 = .ok (.invokevirtual 88, 3) := by decide +kernel
theorem dX11_feed_34 : decode cX11_feed 34 = .ok (.aload_n 0, 1) := by decide +kernel
theorem dX11_feed_35 : decode cX11_feed 35 = .ok (.getfield 10, 3) := by decide +kernel
theorem dX11_feed_38 : decode cX11_feed 38 = .ok (.iload_n 3, 1) := by decide +kernel
theorem dX11_feed_39 : decode cX11_feed 39 = .ok (.invokevirtual 88, 3) := by decide +kernel
theorem dX11_feed_42 : decode cX11_feed 42 = .ok (.aload_n 0, 1) := by decide +kernel
theorem dX11_feed_43 : decode cX11_feed 43 = .ok (.getfield 10, 3) := by decide +kernel
theorem dX11_feed_46 : decode cX11_feed 46 = .ok (.iload 4, 2) := by decide +kernel
theorem dX11_feed_48 : decode cX11_feed 48 = .ok (.invokevirtual 88, 3) := by decide +kernel
theorem dX11_feed_51 : decode cX11_feed 51 = .ok (.aload_n 0, 1) := by decide +kernel
theorem dX11_feed_52 : decode cX11_feed 52 = .ok (.getfield 10, 3) := by decide +kernel
theorem dX11_feed_55 : decode cX11_feed 55 = .ok (.iload 5, 2) := by decide +kernel
theorem dX11_feed_57 : decode cX11_feed 57 = .ok (.invokevirtual 88, 3) := by decide +kernel
theorem dX11_feed_60 : decode cX11_feed 60 = .ok (.aload_n 0, 1) := by decide +kernel
theorem dX11_feed_61 : decode cX11_feed 61 = .ok (.getfield 10, 3) := by decide +kernel
theorem dX11_feed_64 : decode cX11_feed 64 = .ok (.getfield 85, 3) := by decide +kernel
theorem dX11_feed_67 : decode cX11_feed 67 = .ok (.ireturn, 1) := by decide +kernel
theorem dX11_end_0 : decode cX11_end 0 = .ok (.iload_n 1, 1) := by decide +kernel
theorem dX11_end_1 : decode cX11_end 1 = .ok (.ifCond .lt 14, 3) := by decide +kernel
theorem dX11_end_4 : decode cX11_end 4 = .ok (.iload_n 1, 1) := by decide +kernel
theorem dX11_end_5 : decode cX11_end 5 = .ok (.aload_n 0, 1) := by decide +kernel
theorem dX11_end_6 : decode cX11_end 6 = .ok (.getfield 10, 3) := by decide +kernel
theorem dX11_end_9 : decode cX11_end 9 = .ok (.getfield 85, 3) := by decide +kernel
theorem dX11_end_12 : decode cX11_end 12 = .ok (.if_icmp .le 5, 3) := by decide +kernel
theorem dX11_end_15 : decode cX11_end 15 = .ok (.iconst 0, 1) := by decide +kernel
theorem dX11_end_16 : decode cX11_end 16 = .ok (.ireturn, 1) := by decide +kernel
theorem dX11_end_17 : decode cX11_end 17 = .ok (.aload_n 0, 1) := by decide +kernel
theorem dX11_end_18 : decode cX11_end 18 = .ok (.getfield 10, 3) := by decide +kernel
theorem dX11_end_21 : decode cX11_end 21 = .ok (.iload_n 1, 1) := by decide +kernel
theorem dX11_end_22 : decode cX11_end 22 = .ok (.putfield 85, 3) := by decide +kernel
theorem dX11_end_25 : decode cX11_end 25 = .ok (.iconst 1, 1) := by decide +kernel
theorem dX11_end_26 : decode cX11_end 26 = .ok (.ireturn, 1) := by decide +kernel
theorem dX11_cloister_0 : decode cX11_cloister 0 = .ok (.aload_n 0, 1) := by decide +kernel
theorem dX11_cloister_1 : decode cX11_cloister 1 = .ok (.getfield 23, 3) := by decide +kernel
theorem dX11_cloister_4 : decode cX11_cloister 4 = .ok (.aload_n 0, 1) := by decide +kernel
theorem dX11_cloister_5 : decode cX11_cloister 5 = .ok (.getfield 19, 3) := by decide +kernel
theorem dX11_cloister_8 : decode cX11_cloister 8 = .ok (.invokevirtual 92, 3) := by decide +kernel
theorem dX11_cloister_11 : decode cX11_cloister 11 = .ok (.aload_n 0, 1) := by decide +kernel
theorem dX11_cloister_12 : decode cX11_cloister 12 = .ok (.aload_n 0, 1) := by decide +kernel
theorem dX11_cloister_13 : decode cX11_cloister 13 = .ok (.getfield 10, 3) := by decide +kernel
theorem dX11_cloister_16 : decode cX11_cloister 16 = .ok (.aload_n 0, 1) := by decide +kernel
theorem dX11_cloister_17 : decode cX11_cloister 17 = .ok (.getfield 23, 3) := by decide +kernel
theorem dX11_cloister_20 : decode cX11_cloister 20 = .ok (.invokestatic 96, 3) := by decide +kernel
theorem dX11_cloister_23 : decode cX11_cloister 23 = .ok (.putfield 81, 3) := by decide +kernel
theorem dX11_cloister_26 : decode cX11_cloister 26 = .ok (.aload_n 0, 1) := by decide +kernel
theorem dX11_cloister_27 : decode cX11_cloister 27 = .ok (.getfield 10, 3) := by decide +kernel
theorem dX11_cloister_30 : decode cX11_cloister 30 = .ok (.invokevirtual 102, 3) := by decide +kernel
theorem dX11_cloister_33 : decode cX11_cloister 33 = .ok (.aload_n 0, 1) := by decide +kernel
theorem dX11_cloister_34 : decode cX11_cloister 34 = .ok (.getfield 81, 3) := by decide +kernel
theorem dX11_cloister_37 : decode cX11_cloister 37 = .ok (.iconst (-1), 1) := by decide +kernel
theorem dX11_cloister_38 : decode cX11_cloister 38 = .ok (.if_icmp .eq 11, 3) := by decide +kernel
theorem dX11_cloister_41 : decode cX11_cloister 41 = .ok (.new 105, 3) := by decide +kernel
theorem dX11_cloister_44 : decode cX11_cloister 44 = .ok (.dup, 1) := by decide +kernel
theorem dX11_cloister_45 : decode cX11_cloister 45 = .ok (.invokespecial 107, 3) := by decide +kernel
theorem dX11_cloister_48 : decode cX11_cloister 48 = .ok (.athrow, 1) := by decide +kernel
theorem dX11_cloister_49 : decode cX11_cloister 49 = .ok (.aload_n 0, 1) := by decide +kernel
theorem dX11_cloister_50 : decode cX11_cloister 50 = .ok (.getfield 19, 3) := by decide +kernel
theorem dX11_cloister_53 : decode cX11_cloister 53 = .ok (.getfield 108, 3) := by decide +kernel
theorem dX11_cloister_56 : decode cX11_cloister 56 = .ok (.bipush 12, 2) := by decide +kernel
theorem dX11_cloister_58 : decode cX11_cloister 58 = .ok (.if_icmp .lt 11, 3) := by decide +kernel
theorem dX11_cloister_61 : decode cX11_cloister 61 = .ok (.new 111, 3) := by decide +kernel
theorem dX11_cloister_64 : decode cX11_cloister 64 = .ok (.dup, 1) := by decide +kernel
theorem dX11_cloister_65 : decode cX11_cloister 65 = .ok (.invokespecial 113, 3) := by decide +kernel
theorem dX11_cloister_68 : decode cX11_cloister 68 = .ok (.athrow, 1) := by decide +kernel
theorem dX11_cloister_69 : decode cX11_cloister 69 = .ok (.aload_n 0, 1) := by decide +kernel
theorem dX11_cloister_70 : decode cX11_cloister 70 = .ok (.getfield 23, 3) := by decide +kernel
theorem dX11_cloister_73 : decode cX11_cloister 73 = .ok (.dup, 1) := by decide +kernel
theorem dX11_cloister_74 : decode cX11_cloister 74 = .ok (.getfield 108, 3) := by decide +kernel
theorem dX11_cloister_77 : decode cX11_cloister 77 = .ok (.iconst 1, 1) := by decide +kernel
theorem dX11_cloister_78 : decode cX11_cloister 78 = .ok (.iadd, 1) := by decide +kernel
theorem dX11_cloister_79 : decode cX11_cloister 79 = .ok (.putfield 108, 3) := by decide +kernel
theorem dX11_cloister_82 : decode cX11_cloister 82 = .ok (.aload_n 0, 1) := by decide +kernel
theorem dX11_cloister_83 : decode cX11_cloister 83 = .ok (.getfield 19, 3) := by decide +kernel
theorem dX11_cloister_86 : decode cX11_cloister 86 = .ok (.aload_n 0, 1) := by decide +kernel
theorem dX11_cloister_87 : decode cX11_cloister 87 = .ok (.getfield 23, 3) := by decide +kernel
theorem dX11_cloister_90 : decode cX11_cloister 90 = .ok (.invokevirtual 92, 3) := by decide +kernel
theorem dX11_cloister_93 : decode cX11_cloister 93 = .ok (.aload_n 0, 1) := by decide +kernel
theorem dX11_cloister_94 : decode cX11_cloister 94 = .ok (.iconst 0, 1) := by decide +kernel
theorem dX11_cloister_95 : decode cX11_cloister 95 = .ok (.putfield 114, 3) := by decide +kernel
theorem dX11_cloister_98 : decode cX11_cloister 98 = .ok (.aload_n 0, 1) := by decide +kernel
theorem dX11_cloister_99 : decode cX11_cloister 99 = .ok (.getfield 19, 3) := by decide +kernel
theorem dX11_cloister_102 : decode cX11_cloister 102 = .ok (.getfield 108, 3) := by decide +kernel
theorem dX11_cloister_105 : decode cX11_cloister 105 = .ok (.ireturn, 1) := by decide +kernel
theorem dX11_law_0 : decode cX11_law 0 = .ok (.aload_n 0, 1) := by decide +kernel
theorem dX11_law_1 : decode cX11_law 1 = .ok (.aload_n 0, 1) := by decide +kernel
theorem dX11_law_2 : decode cX11_law 2 = .ok (.getfield 10, 3) := by decide +kernel
theorem dX11_law_5 : decode cX11_law 5 = .ok (.aload_n 0, 1) := by decide +kernel
theorem dX11_law_6 : decode cX11_law 6 = .ok (.getfield 36, 3) := by decide +kernel
theorem dX11_law_9 : decode cX11_law 9 = .ok (.invokestatic 117, 3) := by decide +kernel
theorem dX11_law_12 : decode cX11_law 12 = .ok (.putfield 81, 3) := by decide +kernel
theorem dX11_law_15 : decode cX11_law 15 = .ok (.aload_n 0, 1) := by decide +kernel
theorem dX11_law_16 : decode cX11_law 16 = .ok (.getfield 10, 3) := by decide +kernel
theorem dX11_law_19 : decode cX11_law 19 = .ok (.invokevirtual 102, 3) := by decide +kernel
theorem dX11_law_22 : decode cX11_law 22 = .ok (.aload_n 0, 1) := by decide +kernel
theorem dX11_law_23 : decode cX11_law 23 = .ok (.getfield 81, 3) := by decide +kernel
theorem dX11_law_26 : decode cX11_law 26 = .ok (.iconst (-1), 1) := by decide +kernel
theorem dX11_law_27 : decode cX11_law 27 = .ok (.if_icmp .eq 11, 3) := by decide +kernel
theorem dX11_law_30 : decode cX11_law 30 = .ok (.new 105, 3) := by decide +kernel
theorem dX11_law_33 : decode cX11_law 33 = .ok (.dup, 1) := by decide +kernel
theorem dX11_law_34 : decode cX11_law 34 = .ok (.invokespecial 107, 3) := by decide +kernel
theorem dX11_law_37 : decode cX11_law 37 = .ok (.athrow, 1) := by decide +kernel
theorem dX11_law_38 : decode cX11_law 38 = .ok (.aload_n 0, 1) := by decide +kernel
theorem dX11_law_39 : decode cX11_law 39 = .ok (.getfield 32, 3) := by decide +kernel
theorem dX11_law_42 : decode cX11_law 42 = .ok (.aload_n 0, 1) := by decide +kernel
theorem dX11_law_43 : decode cX11_law 43 = .ok (.getfield 36, 3) := by decide +kernel
theorem dX11_law_46 : decode cX11_law 46 = .ok (.invokevirtual 122, 3) := by decide +kernel
theorem dX11_law_49 : decode cX11_law 49 = .ok (.aload_n 0, 1) := by decide +kernel
theorem dX11_law_50 : decode cX11_law 50 = .ok (.iconst 0, 1) := by decide +kernel
theorem dX11_law_51 : decode cX11_law 51 = .ok (.putfield 114, 3) := by decide +kernel
theorem dX11_law_54 : decode cX11_law 54 = .ok (.aload_n 0, 1) := by decide +kernel
theorem dX11_law_55 : decode cX11_law 55 = .ok (.getfield 32, 3) := by decide +kernel
theorem dX11_law_58 : decode cX11_law 58 = .ok (.getfield 125, 3) := by decide +kernel
theorem dX11_law_61 : decode cX11_law 61 = .ok (.ireturn, 1) := by decide +kernel
theorem dX11_fault_0 : decode cX11_fault 0 = .ok (.aload_n 0, 1) := by decide +kernel
theorem dX11_fault_1 : decode cX11_fault 1 = .ok (.getfield 81, 3) := by decide +kernel
theorem dX11_fault_4 : decode cX11_fault 4 = .ok (.ireturn, 1) := by decide +kernel
theorem dX11_monk_0 : decode cX11_monk 0 = .ok (.aload_n 0, 1) := by decide +kernel
theorem dX11_monk_1 : decode cX11_monk 1 = .ok (.iload_n 1, 1) := by decide +kernel
theorem dX11_monk_2 : decode cX11_monk 2 = .ok (.invokevirtual 128, 3) := by decide +kernel
theorem dX11_monk_5 : decode cX11_monk 5 = .ok (.iload_n 2, 1) := by decide +kernel
theorem dX11_monk_6 : decode cX11_monk 6 = .ok (.ifCond .lt 9, 3) := by decide +kernel
theorem dX11_monk_9 : decode cX11_monk 9 = .ok (.iload_n 2, 1) := by decide +kernel
theorem dX11_monk_10 : decode cX11_monk 10 = .ok (.bipush 9, 2) := by decide +kernel
theorem dX11_monk_12 : decode cX11_monk 12 = .ok (.if_icmp .le 11, 3) := by decide +kernel
theorem dX11_monk_15 : decode cX11_monk 15 = .ok (.new 131, 3) := by decide +kernel
theorem dX11_monk_18 : decode cX11_monk 18 = .ok (.dup, 1) := by decide +kernel
theorem dX11_monk_19 : decode cX11_monk 19 = .ok (.invokespecial 133, 3) := by decide +kernel
theorem dX11_monk_22 : decode cX11_monk 22 = .ok (.athrow, 1) := by decide +kernel
theorem dX11_monk_23 : decode cX11_monk 23 = .ok (.iload_n 2, 1) := by decide +kernel
theorem dX11_monk_24 : decode cX11_monk 24 = .ok (.bipush 8, 2) := by decide +kernel
theorem dX11_monk_26 : decode cX11_monk 26 = .ok (.if_icmp .ne 16, 3) := by decide +kernel
theorem dX11_monk_29 : decode cX11_monk 29 = .ok (.aload_n 0, 1) := by decide +kernel
theorem dX11_monk_30 : decode cX11_monk 30 = .ok (.getfield 32, 3) := by decide +kernel
theorem dX11_monk_33 : decode cX11_monk 33 = .ok (.aload_n 0, 1) := by decide +kernel
theorem dX11_monk_34 : decode cX11_monk 34 = .ok (.getfield 19, 3) := by decide +kernel
theorem dX11_monk_37 : decode cX11_monk 37 = .ok (.iload_n 1, 1) := by decide +kernel
theorem dX11_monk_38 : decode cX11_monk 38 = .ok (.invokevirtual 134, 3) := by decide +kernel
theorem dX11_monk_41 : decode cX11_monk 41 = .ok (.ireturn, 1) := by decide +kernel
theorem dX11_monk_42 : decode cX11_monk 42 = .ok (.iload_n 2, 1) := by decide +kernel
theorem dX11_monk_43 : decode cX11_monk 43 = .ok (.bipush 8, 2) := by decide +kernel
theorem dX11_monk_45 : decode cX11_monk 45 = .ok (.if_icmp .ge 15, 3) := by decide +kernel
theorem dX11_monk_48 : decode cX11_monk 48 = .ok (.aload_n 0, 1) := by decide +kernel
theorem dX11_monk_49 : decode cX11_monk 49 = .ok (.getfield 19, 3) := by decide +kernel
theorem dX11_monk_52 : decode cX11_monk 52 = .ok (.iload_n 2, 1) := by decide +kernel
theorem dX11_monk_53 : decode cX11_monk 53 = .ok (.iload_n 1, 1) := by decide +kernel
theorem dX11_monk_54 : decode cX11_monk 54 = .ok (.invokevirtual 138, 3) := by decide +kernel
theorem dX11_monk_57 : decode cX11_monk 57 = .ok (.goto 11, 3) := by decide +kernel
theorem dX11_monk_60 : decode cX11_monk 60 = .ok (.aload_n 0, 1) := by decide +kernel
theorem dX11_monk_61 : decode cX11_monk 61 = .ok (.getfield 19, 3) := by decide +kernel
theorem dX11_monk_64 : decode cX11_monk 64 = .ok (.iload_n 1, 1) := by decide +kernel
theorem dX11_monk_65 : decode cX11_monk 65 = .ok (.invokevirtual 142, 3) := by decide +kernel
theorem dX11_monk_68 : decode cX11_monk 68 = .ok (.ireturn, 1) := by decide +kernel
theorem dX11_store_0 : decode cX11_store 0 = .ok (.iload_n 1, 1) := by decide +kernel
theorem dX11_store_1 : decode cX11_store 1 = .ok (.invokestatic 146, 3) := by decide +kernel
theorem dX11_store_4 : decode cX11_store 4 = .ok (.aload_n 0, 1) := by decide +kernel
theorem dX11_store_5 : decode cX11_store 5 = .ok (.getfield 19, 3) := by decide +kernel
theorem dX11_store_8 : decode cX11_store 8 = .ok (.iload_n 1, 1) := by decide +kernel
theorem dX11_store_9 : decode cX11_store 9 = .ok (.invokevirtual 149, 3) := by decide +kernel
theorem dX11_store_12 : decode cX11_store 12 = .ok (.ireturn, 1) := by decide +kernel
theorem dX11_season_0 : decode cX11_season 0 = .ok (.iload_n 1, 1) := by decide +kernel
theorem dX11_season_1 : decode cX11_season 1 = .ok (.invokestatic 152, 3) := by decide +kernel
theorem dX11_season_4 : decode cX11_season 4 = .ok (.aload_n 0, 1) := by decide +kernel
theorem dX11_season_5 : decode cX11_season 5 = .ok (.getfield 19, 3) := by decide +kernel
theorem dX11_season_8 : decode cX11_season 8 = .ok (.iload_n 1, 1) := by decide +kernel
theorem dX11_season_9 : decode cX11_season 9 = .ok (.invokevirtual 155, 3) := by decide +kernel
theorem dX11_season_12 : decode cX11_season 12 = .ok (.ireturn, 1) := by decide +kernel
theorem dX11_hours_0 : decode cX11_hours 0 = .ok (.iload_n 1, 1) := by decide +kernel
theorem dX11_hours_1 : decode cX11_hours 1 = .ok (.iconst 1, 1) := by decide +kernel
theorem dX11_hours_2 : decode cX11_hours 2 = .ok (.if_icmp .lt 9, 3) := by decide +kernel
theorem dX11_hours_5 : decode cX11_hours 5 = .ok (.iload_n 1, 1) := by decide +kernel
theorem dX11_hours_6 : decode cX11_hours 6 = .ok (.bipush 72, 2) := by decide +kernel
theorem dX11_hours_8 : decode cX11_hours 8 = .ok (.if_icmp .le 11, 3) := by decide +kernel
theorem dX11_hours_11 : decode cX11_hours 11 = .ok (.new 105, 3) := by decide +kernel
theorem dX11_hours_14 : decode cX11_hours 14 = .ok (.dup, 1) := by decide +kernel
theorem dX11_hours_15 : decode cX11_hours 15 = .ok (.invokespecial 107, 3) := by decide +kernel
theorem dX11_hours_18 : decode cX11_hours 18 = .ok (.athrow, 1) := by decide +kernel
theorem dX11_hours_19 : decode cX11_hours 19 = .ok (.aload_n 0, 1) := by decide +kernel
theorem dX11_hours_20 : decode cX11_hours 20 = .ok (.invokevirtual 158, 3) := by decide +kernel
theorem dX11_hours_23 : decode cX11_hours 23 = .ok (.iconst 0, 1) := by decide +kernel
theorem dX11_hours_24 : decode cX11_hours 24 = .ok (.istore_n 2, 1) := by decide +kernel
theorem dX11_hours_25 : decode cX11_hours 25 = .ok (.iconst 0, 1) := by decide +kernel
theorem dX11_hours_26 : decode cX11_hours 26 = .ok (.istore_n 3, 1) := by decide +kernel
theorem dX11_hours_27 : decode cX11_hours 27 = .ok (.iload_n 3, 1) := by decide +kernel
theorem dX11_hours_28 : decode cX11_hours 28 = .ok (.iload_n 1, 1) := by decide +kernel
theorem dX11_hours_29 : decode cX11_hours 29 = .ok (.if_icmp .ge 27, 3) := by decide +kernel
theorem dX11_hours_32 : decode cX11_hours 32 = .ok (.iload_n 2, 1) := by decide +kernel
theorem dX11_hours_33 : decode cX11_hours 33 = .ok (.aload_n 0, 1) := by decide +kernel
theorem dX11_hours_34 : decode cX11_hours 34 = .ok (.getfield 19, 3) := by decide +kernel
theorem dX11_hours_37 : decode cX11_hours 37 = .ok (.aload_n 0, 1) := by decide +kernel
theorem dX11_hours_38 : decode cX11_hours 38 = .ok (.getfield 32, 3) := by decide +kernel
theorem dX11_hours_41 : decode cX11_hours 41 = .ok (.iconst 1, 1) := by decide +kernel
theorem dX11_hours_42 : decode cX11_hours 42 = .ok (.invokevirtual 161, 3) := by decide +kernel
theorem dX11_hours_45 : decode cX11_hours 45 = .ok (.invokestatic 165, 3) := by decide +kernel
theorem dX11_hours_48 : decode cX11_hours 48 = .ok (.iadd, 1) := by decide +kernel
theorem dX11_hours_49 : decode cX11_hours 49 = .ok (.istore_n 2, 1) := by decide +kernel
theorem dX11_hours_50 : decode cX11_hours 50 = .ok (.iinc 3 1, 3) := by decide +kernel
theorem dX11_hours_53 : decode cX11_hours 53 = .ok (.goto (-26), 3) := by decide +kernel
theorem dX11_hours_56 : decode cX11_hours 56 = .ok (.iload_n 2, 1) := by decide +kernel
theorem dX11_hours_57 : decode cX11_hours 57 = .ok (.ireturn, 1) := by decide +kernel
theorem dX11_cross_0 : decode cX11_cross 0 = .ok (.aload_n 0, 1) := by decide +kernel
theorem dX11_cross_1 : decode cX11_cross 1 = .ok (.iload_n 1, 1) := by decide +kernel
theorem dX11_cross_2 : decode cX11_cross 2 = .ok (.invokevirtual 128, 3) := by decide +kernel
theorem dX11_cross_5 : decode cX11_cross 5 = .ok (.aload_n 0, 1) := by decide +kernel
theorem dX11_cross_6 : decode cX11_cross 6 = .ok (.getfield 19, 3) := by decide +kernel
theorem dX11_cross_9 : decode cX11_cross 9 = .ok (.iload_n 1, 1) := by decide +kernel
theorem dX11_cross_10 : decode cX11_cross 10 = .ok (.invokevirtual 170, 3) := by decide +kernel
theorem dX11_cross_13 : decode cX11_cross 13 = .ok (.ifCond .eq 11, 3) := by decide +kernel
theorem dX11_cross_16 : decode cX11_cross 16 = .ok (.new 174, 3) := by decide +kernel
theorem dX11_cross_19 : decode cX11_cross 19 = .ok (.dup, 1) := by decide +kernel
theorem dX11_cross_20 : decode cX11_cross 20 = .ok (.invokespecial 176, 3) := by decide +kernel
theorem dX11_cross_23 : decode cX11_cross 23 = .ok (.athrow, 1) := by decide +kernel
theorem dX11_cross_24 : decode cX11_cross 24 = .ok (.aload_n 0, 1) := by decide +kernel
theorem dX11_cross_25 : decode cX11_cross 25 = .ok (.invokevirtual 158, 3) := by decide +kernel
theorem dX11_cross_28 : decode cX11_cross 28 = .ok (.aload_n 0, 1) := by decide +kernel
theorem dX11_cross_29 : decode cX11_cross 29 = .ok (.getfield 19, 3) := by decide +kernel
theorem dX11_cross_32 : decode cX11_cross 32 = .ok (.iconst 0, 1) := by decide +kernel
theorem dX11_cross_33 : decode cX11_cross 33 = .ok (.iload_n 1, 1) := by decide +kernel
theorem dX11_cross_34 : decode cX11_cross 34 = .ok (.aload_n 0, 1) := by decide +kernel
theorem dX11_cross_35 : decode cX11_cross 35 = .ok (.getfield 19, 3) := by decide +kernel
theorem dX11_cross_38 : decode cX11_cross 38 = .ok (.iconst 0, 1) := by decide +kernel
theorem dX11_cross_39 : decode cX11_cross 39 = .ok (.iload_n 1, 1) := by decide +kernel
theorem dX11_cross_40 : decode cX11_cross 40 = .ok (.invokevirtual 138, 3) := by decide +kernel
theorem dX11_cross_43 : decode cX11_cross 43 = .ok (.bipush 8, 2) := by decide +kernel
theorem dX11_cross_45 : decode cX11_cross 45 = .ok (.iadd, 1) := by decide +kernel
theorem dX11_cross_46 : decode cX11_cross 46 = .ok (.bipush 16, 2) := by decide +kernel
theorem dX11_cross_48 : decode cX11_cross 48 = .ok (.irem, 1) := by decide +kernel
theorem dX11_cross_49 : decode cX11_cross 49 = .ok (.invokevirtual 177, 3) := by decide +kernel
theorem dX11_cross_52 : decode cX11_cross 52 = .ok (.aload_n 0, 1) := by decide +kernel
theorem dX11_cross_53 : decode cX11_cross 53 = .ok (.getfield 19, 3) := by decide +kernel
theorem dX11_cross_56 : decode cX11_cross 56 = .ok (.iconst 4, 1) := by decide +kernel
theorem dX11_cross_57 : decode cX11_cross 57 = .ok (.iload_n 1, 1) := by decide +kernel
theorem dX11_cross_58 : decode cX11_cross 58 = .ok (.aload_n 0, 1) := by decide +kernel
theorem dX11_cross_59 : decode cX11_cross 59 = .ok (.getfield 19, 3) := by decide +kernel
theorem dX11_cross_62 : decode cX11_cross 62 = .ok (.getfield 181, 3) := by decide +kernel
theorem dX11_cross_65 : decode cX11_cross 65 = .ok (.invokevirtual 177, 3) := by decide +kernel
theorem dX11_cross_68 : decode cX11_cross 68 = .ok (.aload_n 0, 1) := by decide +kernel
theorem dX11_cross_69 : decode cX11_cross 69 = .ok (.getfield 19, 3) := by decide +kernel
theorem dX11_cross_72 : decode cX11_cross 72 = .ok (.iconst 0, 1) := by decide +kernel
theorem dX11_cross_73 : decode cX11_cross 73 = .ok (.iload_n 1, 1) := by decide +kernel
theorem dX11_cross_74 : decode cX11_cross 74 = .ok (.invokevirtual 138, 3) := by decide +kernel
theorem dX11_cross_77 : decode cX11_cross 77 = .ok (.ireturn, 1) := by decide +kernel
theorem dX11_bell_0 : decode cX11_bell 0 = .ok (.iload_n 1, 1) := by decide +kernel
theorem dX11_bell_1 : decode cX11_bell 1 = .ok (.invokestatic 152, 3) := by decide +kernel
theorem dX11_bell_4 : decode cX11_bell 4 = .ok (.aload_n 0, 1) := by decide +kernel
theorem dX11_bell_5 : decode cX11_bell 5 = .ok (.invokevirtual 158, 3) := by decide +kernel
theorem dX11_bell_8 : decode cX11_bell 8 = .ok (.aload_n 0, 1) := by decide +kernel
theorem dX11_bell_9 : decode cX11_bell 9 = .ok (.getfield 19, 3) := by decide +kernel
theorem dX11_bell_12 : decode cX11_bell 12 = .ok (.getfield 184, 3) := by decide +kernel
theorem dX11_bell_15 : decode cX11_bell 15 = .ok (.istore_n 2, 1) := by decide +kernel
theorem dX11_bell_16 : decode cX11_bell 16 = .ok (.aload_n 0, 1) := by decide +kernel
theorem dX11_bell_17 : decode cX11_bell 17 = .ok (.getfield 19, 3) := by decide +kernel
theorem dX11_bell_20 : decode cX11_bell 20 = .ok (.iload_n 1, 1) := by decide +kernel
theorem dX11_bell_21 : decode cX11_bell 21 = .ok (.putfield 184, 3) := by decide +kernel
theorem dX11_bell_24 : decode cX11_bell 24 = .ok (.iload_n 2, 1) := by decide +kernel
theorem dX11_bell_25 : decode cX11_bell 25 = .ok (.ireturn, 1) := by decide +kernel
theorem dX11_mood_0 : decode cX11_mood 0 = .ok (.iload_n 1, 1) := by decide +kernel
theorem dX11_mood_1 : decode cX11_mood 1 = .ok (.iconst 4, 1) := by decide +kernel
theorem dX11_mood_2 : decode cX11_mood 2 = .ok (.invokestatic 187, 3) := by decide +kernel
theorem dX11_mood_5 : decode cX11_mood 5 = .ok (.aload_n 0, 1) := by decide +kernel
theorem dX11_mood_6 : decode cX11_mood 6 = .ok (.invokevirtual 158, 3) := by decide +kernel
theorem dX11_mood_9 : decode cX11_mood 9 = .ok (.aload_n 0, 1) := by decide +kernel
theorem dX11_mood_10 : decode cX11_mood 10 = .ok (.getfield 19, 3) := by decide +kernel
theorem dX11_mood_13 : decode cX11_mood 13 = .ok (.getfield 191, 3) := by decide +kernel
theorem dX11_mood_16 : decode cX11_mood 16 = .ok (.istore_n 2, 1) := by decide +kernel
theorem dX11_mood_17 : decode cX11_mood 17 = .ok (.aload_n 0, 1) := by decide +kernel
theorem dX11_mood_18 : decode cX11_mood 18 = .ok (.getfield 19, 3) := by decide +kernel
theorem dX11_mood_21 : decode cX11_mood 21 = .ok (.iload_n 1, 1) := by decide +kernel
theorem dX11_mood_22 : decode cX11_mood 22 = .ok (.putfield 191, 3) := by decide +kernel
theorem dX11_mood_25 : decode cX11_mood 25 = .ok (.iload_n 2, 1) := by decide +kernel
theorem dX11_mood_26 : decode cX11_mood 26 = .ok (.ireturn, 1) := by decide +kernel
theorem dX11_change_0 : decode cX11_change 0 = .ok (.aload_n 0, 1) := by decide +kernel
theorem dX11_change_1 : decode cX11_change 1 = .ok (.iload_n 1, 1) := by decide +kernel
theorem dX11_change_2 : decode cX11_change 2 = .ok (.iload_n 2, 1) := by decide +kernel
theorem dX11_change_3 : decode cX11_change 3 = .ok (.invokevirtual 194, 3) := by decide +kernel
theorem dX11_change_6 : decode cX11_change 6 = .ok (.aload_n 0, 1) := by decide +kernel
theorem dX11_change_7 : decode cX11_change 7 = .ok (.invokevirtual 158, 3) := by decide +kernel
theorem dX11_change_10 : decode cX11_change 10 = .ok (.aload_n 0, 1) := by decide +kernel
theorem dX11_change_11 : decode cX11_change 11 = .ok (.getfield 19, 3) := by decide +kernel
theorem dX11_change_14 : decode cX11_change 14 = .ok (.iconst 2, 1) := by decide +kernel
theorem dX11_change_15 : decode cX11_change 15 = .ok (.iload_n 1, 1) := by decide +kernel
theorem dX11_change_16 : decode cX11_change 16 = .ok (.invokevirtual 138, 3) := by decide +kernel
theorem dX11_change_19 : decode cX11_change 19 = .ok (.istore_n 3, 1) := by decide +kernel
theorem dX11_change_20 : decode cX11_change 20 = .ok (.aload_n 0, 1) := by decide +kernel
theorem dX11_change_21 : decode cX11_change 21 = .ok (.getfield 19, 3) := by decide +kernel
theorem dX11_change_24 : decode cX11_change 24 = .ok (.iconst 2, 1) := by decide +kernel
theorem dX11_change_25 : decode cX11_change 25 = .ok (.iload_n 1, 1) := by decide +kernel
theorem dX11_change_26 : decode cX11_change 26 = .ok (.aload_n 0, 1) := by decide +kernel
theorem dX11_change_27 : decode cX11_change 27 = .ok (.getfield 19, 3) := by decide +kernel
theorem dX11_change_30 : decode cX11_change 30 = .ok (.iconst 2, 1) := by decide +kernel
theorem dX11_change_31 : decode cX11_change 31 = .ok (.iload_n 2, 1) := by decide +kernel
theorem dX11_change_32 : decode cX11_change 32 = .ok (.invokevirtual 138, 3) := by decide +kernel
theorem dX11_change_35 : decode cX11_change 35 = .ok (.invokevirtual 177, 3) := by decide +kernel
theorem dX11_change_38 : decode cX11_change 38 = .ok (.aload_n 0, 1) := by decide +kernel
theorem dX11_change_39 : decode cX11_change 39 = .ok (.getfield 19, 3) := by decide +kernel
theorem dX11_change_42 : decode cX11_change 42 = .ok (.iconst 2, 1) := by decide +kernel
theorem dX11_change_43 : decode cX11_change 43 = .ok (.iload_n 2, 1) := by decide +kernel
theorem dX11_change_44 : decode cX11_change 44 = .ok (.iload_n 3, 1) := by decide +kernel
theorem dX11_change_45 : decode cX11_change 45 = .ok (.invokevirtual 177, 3) := by decide +kernel
theorem dX11_change_48 : decode cX11_change 48 = .ok (.aload_n 0, 1) := by decide +kernel
theorem dX11_change_49 : decode cX11_change 49 = .ok (.getfield 19, 3) := by decide +kernel
theorem dX11_change_52 : decode cX11_change 52 = .ok (.iconst 2, 1) := by decide +kernel
theorem dX11_change_53 : decode cX11_change 53 = .ok (.iload_n 1, 1) := by decide +kernel
theorem dX11_change_54 : decode cX11_change 54 = .ok (.invokevirtual 138, 3) := by decide +kernel
theorem dX11_change_57 : decode cX11_change 57 = .ok (.ireturn, 1) := by decide +kernel
theorem dX11_pace_0 : decode cX11_pace 0 = .ok (.aload_n 0, 1) := by decide +kernel
theorem dX11_pace_1 : decode cX11_pace 1 = .ok (.iload_n 1, 1) := by decide +kernel
theorem dX11_pace_2 : decode cX11_pace 2 = .ok (.invokevirtual 128, 3) := by decide +kernel
theorem dX11_pace_5 : decode cX11_pace 5 = .ok (.iload_n 2, 1) := by decide +kernel
theorem dX11_pace_6 : decode cX11_pace 6 = .ok (.bipush 8, 2) := by decide +kernel
theorem dX11_pace_8 : decode cX11_pace 8 = .ok (.invokestatic 187, 3) := by decide +kernel
theorem dX11_pace_11 : decode cX11_pace 11 = .ok (.aload_n 0, 1) := by decide +kernel
theorem dX11_pace_12 : decode cX11_pace 12 = .ok (.invokevirtual 158, 3) := by decide +kernel
theorem dX11_pace_15 : decode cX11_pace 15 = .ok (.aload_n 0, 1) := by decide +kernel
theorem dX11_pace_16 : decode cX11_pace 16 = .ok (.getfield 19, 3) := by decide +kernel
theorem dX11_pace_19 : decode cX11_pace 19 = .ok (.iconst 1, 1) := by decide +kernel
theorem dX11_pace_20 : decode cX11_pace 20 = .ok (.iload_n 1, 1) := by decide +kernel
theorem dX11_pace_21 : decode cX11_pace 21 = .ok (.invokevirtual 138, 3) := by decide +kernel
theorem dX11_pace_24 : decode cX11_pace 24 = .ok (.istore_n 3, 1) := by decide +kernel
theorem dX11_pace_25 : decode cX11_pace 25 = .ok (.aload_n 0, 1) := by decide +kernel
theorem dX11_pace_26 : decode cX11_pace 26 = .ok (.getfield 19, 3) := by decide +kernel
theorem dX11_pace_29 : decode cX11_pace 29 = .ok (.iconst 1, 1) := by decide +kernel
theorem dX11_pace_30 : decode cX11_pace 30 = .ok (.iload_n 1, 1) := by decide +kernel
theorem dX11_pace_31 : decode cX11_pace 31 = .ok (.iload_n 2, 1) := by decide +kernel
theorem dX11_pace_32 : decode cX11_pace 32 = .ok (.invokevirtual 177, 3) := by decide +kernel
theorem dX11_pace_35 : decode cX11_pace 35 = .ok (.iload_n 3, 1) := by decide +kernel
theorem dX11_pace_36 : decode cX11_pace 36 = .ok (.ireturn, 1) := by decide +kernel
theorem dX11_fill_0 : decode cX11_fill 0 = .ok (.iload_n 1, 1) := by decide +kernel
theorem dX11_fill_1 : decode cX11_fill 1 = .ok (.invokestatic 146, 3) := by decide +kernel
theorem dX11_fill_4 : decode cX11_fill 4 = .ok (.iload_n 2, 1) := by decide +kernel
theorem dX11_fill_5 : decode cX11_fill 5 = .ok (.iconst 1, 1) := by decide +kernel
theorem dX11_fill_6 : decode cX11_fill 6 = .ok (.if_icmp .lt 9, 3) := by decide +kernel
theorem dX11_fill_9 : decode cX11_fill 9 = .ok (.iload_n 2, 1) := by decide +kernel
theorem dX11_fill_10 : decode cX11_fill 10 = .ok (.bipush 99, 2) := by decide +kernel
theorem dX11_fill_12 : decode cX11_fill 12 = .ok (.if_icmp .le 11, 3) := by decide +kernel
theorem dX11_fill_15 : decode cX11_fill 15 = .ok (.new 105, 3) := by decide +kernel
theorem dX11_fill_18 : decode cX11_fill 18 = .ok (.dup, 1) := by decide +kernel
theorem dX11_fill_19 : decode cX11_fill 19 = .ok (.invokespecial 107, 3) := by decide +kernel
theorem dX11_fill_22 : decode cX11_fill 22 = .ok (.athrow, 1) := by decide +kernel
theorem dX11_fill_23 : decode cX11_fill 23 = .ok (.aload_n 0, 1) := by decide +kernel
theorem dX11_fill_24 : decode cX11_fill 24 = .ok (.invokevirtual 158, 3) := by decide +kernel
theorem dX11_fill_27 : decode cX11_fill 27 = .ok (.aload_n 0, 1) := by decide +kernel
theorem dX11_fill_28 : decode cX11_fill 28 = .ok (.getfield 19, 3) := by decide +kernel
theorem dX11_fill_31 : decode cX11_fill 31 = .ok (.iload_n 1, 1) := by decide +kernel
theorem dX11_fill_32 : decode cX11_fill 32 = .ok (.iload_n 2, 1) := by decide +kernel
theorem dX11_fill_33 : decode cX11_fill 33 = .ok (.invokevirtual 197, 3) := by decide +kernel
theorem dX11_fill_36 : decode cX11_fill 36 = .ok (.aload_n 0, 1) := by decide +kernel
theorem dX11_fill_37 : decode cX11_fill 37 = .ok (.getfield 19, 3) := by decide +kernel
theorem dX11_fill_40 : decode cX11_fill 40 = .ok (.iload_n 1, 1) := by decide +kernel
theorem dX11_fill_41 : decode cX11_fill 41 = .ok (.invokevirtual 149, 3) := by decide +kernel
theorem dX11_fill_44 : decode cX11_fill 44 = .ok (.ireturn, 1) := by decide +kernel
theorem dX11_find_0 : decode cX11_find 0 = .ok (.aload_n 0, 1) := by decide +kernel
theorem dX11_find_1 : decode cX11_find 1 = .ok (.iload_n 1, 1) := by decide +kernel
theorem dX11_find_2 : decode cX11_find 2 = .ok (.invokevirtual 128, 3) := by decide +kernel
theorem dX11_find_5 : decode cX11_find 5 = .ok (.aload_n 0, 1) := by decide +kernel
theorem dX11_find_6 : decode cX11_find 6 = .ok (.getfield 19, 3) := by decide +kernel
theorem dX11_find_9 : decode cX11_find 9 = .ok (.iload_n 1, 1) := by decide +kernel
theorem dX11_find_10 : decode cX11_find 10 = .ok (.invokevirtual 170, 3) := by decide +kernel
theorem dX11_find_13 : decode cX11_find 13 = .ok (.ifCond .ne 11, 3) := by decide +kernel
theorem dX11_find_16 : decode cX11_find 16 = .ok (.new 174, 3) := by decide +kernel
theorem dX11_find_19 : decode cX11_find 19 = .ok (.dup, 1) := by decide +kernel
theorem dX11_find_20 : decode cX11_find 20 = .ok (.invokespecial 176, 3) := by decide +kernel
theorem dX11_find_23 : decode cX11_find 23 = .ok (.athrow, 1) := by decide +kernel
theorem dX11_find_24 : decode cX11_find 24 = .ok (.aload_n 0, 1) := by decide +kernel
theorem dX11_find_25 : decode cX11_find 25 = .ok (.invokevirtual 158, 3) := by decide +kernel
theorem dX11_find_28 : decode cX11_find 28 = .ok (.aload_n 0, 1) := by decide +kernel
theorem dX11_find_29 : decode cX11_find 29 = .ok (.getfield 19, 3) := by decide +kernel
theorem dX11_find_32 : decode cX11_find 32 = .ok (.iconst 4, 1) := by decide +kernel
theorem dX11_find_33 : decode cX11_find 33 = .ok (.iload_n 1, 1) := by decide +kernel
theorem dX11_find_34 : decode cX11_find 34 = .ok (.invokevirtual 138, 3) := by decide +kernel
theorem dX11_find_37 : decode cX11_find 37 = .ok (.istore_n 2, 1) := by decide +kernel
theorem dX11_find_38 : decode cX11_find 38 = .ok (.aload_n 0, 1) := by decide +kernel
theorem dX11_find_39 : decode cX11_find 39 = .ok (.getfield 19, 3) := by decide +kernel
theorem dX11_find_42 : decode cX11_find 42 = .ok (.iconst 4, 1) := by decide +kernel
theorem dX11_find_43 : decode cX11_find 43 = .ok (.iload_n 1, 1) := by decide +kernel
theorem dX11_find_44 : decode cX11_find 44 = .ok (.iconst 0, 1) := by decide +kernel
theorem dX11_find_45 : decode cX11_find 45 = .ok (.invokevirtual 177, 3) := by decide +kernel
theorem dX11_find_48 : decode cX11_find 48 = .ok (.iload_n 2, 1) := by decide +kernel
theorem dX11_find_49 : decode cX11_find 49 = .ok (.ireturn, 1) := by decide +kernel
theorem dX11_choir_0 : decode cX11_choir 0 = .ok (.iconst 0, 1) := by decide +kernel
theorem dX11_choir_1 : decode cX11_choir 1 = .ok (.istore_n 1, 1) := by decide +kernel
theorem dX11_choir_2 : decode cX11_choir 2 = .ok (.iconst 0, 1) := by decide +kernel
theorem dX11_choir_3 : decode cX11_choir 3 = .ok (.istore_n 2, 1) := by decide +kernel
theorem dX11_choir_4 : decode cX11_choir 4 = .ok (.iload_n 2, 1) := by decide +kernel
theorem dX11_choir_5 : decode cX11_choir 5 = .ok (.aload_n 0, 1) := by decide +kernel
theorem dX11_choir_6 : decode cX11_choir 6 = .ok (.getfield 19, 3) := by decide +kernel
theorem dX11_choir_9 : decode cX11_choir 9 = .ok (.getfield 200, 3) := by decide +kernel
theorem dX11_choir_12 : decode cX11_choir 12 = .ok (.if_icmp .ge 33, 3) := by decide +kernel
theorem dX11_choir_15 : decode cX11_choir 15 = .ok (.aload_n 0, 1) := by decide +kernel
theorem dX11_choir_16 : decode cX11_choir 16 = .ok (.getfield 19, 3) := by decide +kernel
theorem dX11_choir_19 : decode cX11_choir 19 = .ok (.iload_n 2, 1) := by decide +kernel
theorem dX11_choir_20 : decode cX11_choir 20 = .ok (.aload_n 0, 1) := by decide +kernel
theorem dX11_choir_21 : decode cX11_choir 21 = .ok (.getfield 19, 3) := by decide +kernel
theorem dX11_choir_24 : decode cX11_choir 24 = .ok (.getfield 184, 3) := by decide +kernel
theorem dX11_choir_27 : decode cX11_choir 27 = .ok (.invokevirtual 203, 3) := by decide +kernel
theorem dX11_choir_30 : decode cX11_choir 30 = .ok (.ifCond .eq 9, 3) := by decide +kernel
theorem dX11_choir_33 : decode cX11_choir 33 = .ok (.iload_n 1, 1) := by decide +kernel
theorem dX11_choir_34 : decode cX11_choir 34 = .ok (.iconst 1, 1) := by decide +kernel
theorem dX11_choir_35 : decode cX11_choir 35 = .ok (.iload_n 2, 1) := by decide +kernel
theorem dX11_choir_36 : decode cX11_choir 36 = .ok (.ishl, 1) := by decide +kernel
theorem dX11_choir_37 : decode cX11_choir 37 = .ok (.ior, 1) := by decide +kernel
theorem dX11_choir_38 : decode cX11_choir 38 = .ok (.istore_n 1, 1) := by decide +kernel
theorem dX11_choir_39 : decode cX11_choir 39 = .ok (.iinc 2 1, 3) := by decide +kernel
theorem dX11_choir_42 : decode cX11_choir 42 = .ok (.goto (-38), 3) := by decide +kernel
theorem dX11_choir_45 : decode cX11_choir 45 = .ok (.iload_n 1, 1) := by decide +kernel
theorem dX11_choir_46 : decode cX11_choir 46 = .ok (.ireturn, 1) := by decide +kernel
theorem dX11_when_0 : decode cX11_when 0 = .ok (.aload_n 0, 1) := by decide +kernel
theorem dX11_when_1 : decode cX11_when 1 = .ok (.iload_n 1, 1) := by decide +kernel
theorem dX11_when_2 : decode cX11_when 2 = .ok (.invokevirtual 128, 3) := by decide +kernel
theorem dX11_when_5 : decode cX11_when 5 = .ok (.iload_n 2, 1) := by decide +kernel
theorem dX11_when_6 : decode cX11_when 6 = .ok (.invokestatic 152, 3) := by decide +kernel
theorem dX11_when_9 : decode cX11_when 9 = .ok (.aload_n 0, 1) := by decide +kernel
theorem dX11_when_10 : decode cX11_when 10 = .ok (.getfield 49, 3) := by decide +kernel
theorem dX11_when_13 : decode cX11_when 13 = .ok (.aload_n 0, 1) := by decide +kernel
theorem dX11_when_14 : decode cX11_when 14 = .ok (.getfield 19, 3) := by decide +kernel
theorem dX11_when_17 : decode cX11_when 17 = .ok (.aload_n 0, 1) := by decide +kernel
theorem dX11_when_18 : decode cX11_when 18 = .ok (.getfield 32, 3) := by decide +kernel
theorem dX11_when_21 : decode cX11_when 21 = .ok (.iload_n 1, 1) := by decide +kernel
theorem dX11_when_22 : decode cX11_when 22 = .ok (.iload_n 2, 1) := by decide +kernel
theorem dX11_when_23 : decode cX11_when 23 = .ok (.invokevirtual 207, 3) := by decide +kernel
theorem dX11_when_26 : decode cX11_when 26 = .ok (.ireturn, 1) := by decide +kernel
theorem dX11_meet_0 : decode cX11_meet 0 = .ok (.aload_n 0, 1) := by decide +kernel
theorem dX11_meet_1 : decode cX11_meet 1 = .ok (.iload_n 1, 1) := by decide +kernel
theorem dX11_meet_2 : decode cX11_meet 2 = .ok (.iload_n 2, 1) := by decide +kernel
theorem dX11_meet_3 : decode cX11_meet 3 = .ok (.invokevirtual 194, 3) := by decide +kernel
theorem dX11_meet_6 : decode cX11_meet 6 = .ok (.aload_n 0, 1) := by decide +kernel
theorem dX11_meet_7 : decode cX11_meet 7 = .ok (.getfield 49, 3) := by decide +kernel
theorem dX11_meet_10 : decode cX11_meet 10 = .ok (.aload_n 0, 1) := by decide +kernel
theorem dX11_meet_11 : decode cX11_meet 11 = .ok (.getfield 19, 3) := by decide +kernel
theorem dX11_meet_14 : decode cX11_meet 14 = .ok (.aload_n 0, 1) := by decide +kernel
theorem dX11_meet_15 : decode cX11_meet 15 = .ok (.getfield 32, 3) := by decide +kernel
theorem dX11_meet_18 : decode cX11_meet 18 = .ok (.iload_n 1, 1) := by decide +kernel
theorem dX11_meet_19 : decode cX11_meet 19 = .ok (.iload_n 2, 1) := by decide +kernel
theorem dX11_meet_20 : decode cX11_meet 20 = .ok (.invokevirtual 211, 3) := by decide +kernel
theorem dX11_meet_23 : decode cX11_meet 23 = .ok (.ireturn, 1) := by decide +kernel
theorem dX11_lates_0 : decode cX11_lates 0 = .ok (.iload_n 1, 1) := by decide +kernel
theorem dX11_lates_1 : decode cX11_lates 1 = .ok (.bipush 9, 2) := by decide +kernel
theorem dX11_lates_3 : decode cX11_lates 3 = .ok (.invokestatic 187, 3) := by decide +kernel
theorem dX11_lates_6 : decode cX11_lates 6 = .ok (.aload_n 0, 1) := by decide +kernel
theorem dX11_lates_7 : decode cX11_lates 7 = .ok (.getfield 49, 3) := by decide +kernel
theorem dX11_lates_10 : decode cX11_lates 10 = .ok (.aload_n 0, 1) := by decide +kernel
theorem dX11_lates_11 : decode cX11_lates 11 = .ok (.getfield 19, 3) := by decide +kernel
theorem dX11_lates_14 : decode cX11_lates 14 = .ok (.invokevirtual 214, 3) := by decide +kernel
theorem dX11_lates_17 : decode cX11_lates 17 = .ok (.aload_n 0, 1) := by decide +kernel
theorem dX11_lates_18 : decode cX11_lates 18 = .ok (.getfield 49, 3) := by decide +kernel
theorem dX11_lates_21 : decode cX11_lates 21 = .ok (.aload_n 0, 1) := by decide +kernel
theorem dX11_lates_22 : decode cX11_lates 22 = .ok (.getfield 32, 3) := by decide +kernel
theorem dX11_lates_25 : decode cX11_lates 25 = .ok (.iload_n 1, 1) := by decide +kernel
theorem dX11_lates_26 : decode cX11_lates 26 = .ok (.invokevirtual 217, 3) := by decide +kernel
theorem dX11_lates_29 : decode cX11_lates 29 = .ok (.ireturn, 1) := by decide +kernel
theorem dX11_tardy_0 : decode cX11_tardy 0 = .ok (.aload_n 0, 1) := by decide +kernel
theorem dX11_tardy_1 : decode cX11_tardy 1 = .ok (.getfield 49, 3) := by decide +kernel
theorem dX11_tardy_4 : decode cX11_tardy 4 = .ok (.aload_n 0, 1) := by decide +kernel
theorem dX11_tardy_5 : decode cX11_tardy 5 = .ok (.getfield 19, 3) := by decide +kernel
theorem dX11_tardy_8 : decode cX11_tardy 8 = .ok (.invokevirtual 214, 3) := by decide +kernel
theorem dX11_tardy_11 : decode cX11_tardy 11 = .ok (.aload_n 0, 1) := by decide +kernel
theorem dX11_tardy_12 : decode cX11_tardy 12 = .ok (.getfield 49, 3) := by decide +kernel
theorem dX11_tardy_15 : decode cX11_tardy 15 = .ok (.aload_n 0, 1) := by decide +kernel
theorem dX11_tardy_16 : decode cX11_tardy 16 = .ok (.getfield 32, 3) := by decide +kernel
theorem dX11_tardy_19 : decode cX11_tardy 19 = .ok (.bipush 8, 2) := by decide +kernel
theorem dX11_tardy_21 : decode cX11_tardy 21 = .ok (.invokevirtual 217, 3) := by decide +kernel
theorem dX11_tardy_24 : decode cX11_tardy 24 = .ok (.pop, 1) := by decide +kernel
theorem dX11_tardy_25 : decode cX11_tardy 25 = .ok (.aload_n 0, 1) := by decide +kernel
theorem dX11_tardy_26 : decode cX11_tardy 26 = .ok (.getfield 49, 3) := by decide +kernel
theorem dX11_tardy_29 : decode cX11_tardy 29 = .ok (.invokevirtual 221, 3) := by decide +kernel
theorem dX11_tardy_32 : decode cX11_tardy 32 = .ok (.ireturn, 1) := by decide +kernel
theorem dX11_ring_0 : decode cX11_ring 0 = .ok (.aload_n 0, 1) := by decide +kernel
theorem dX11_ring_1 : decode cX11_ring 1 = .ok (.getfield 49, 3) := by decide +kernel
theorem dX11_ring_4 : decode cX11_ring 4 = .ok (.aload_n 0, 1) := by decide +kernel
theorem dX11_ring_5 : decode cX11_ring 5 = .ok (.getfield 19, 3) := by decide +kernel
theorem dX11_ring_8 : decode cX11_ring 8 = .ok (.aload_n 0, 1) := by decide +kernel
theorem dX11_ring_9 : decode cX11_ring 9 = .ok (.getfield 32, 3) := by decide +kernel
theorem dX11_ring_12 : decode cX11_ring 12 = .ok (.iconst 0, 1) := by decide +kernel
theorem dX11_ring_13 : decode cX11_ring 13 = .ok (.invokevirtual 225, 3) := by decide +kernel
theorem dX11_ring_16 : decode cX11_ring 16 = .ok (.ireturn, 1) := by decide +kernel
theorem dX11_humour_0 : decode cX11_humour 0 = .ok (.aload_n 0, 1) := by decide +kernel
theorem dX11_humour_1 : decode cX11_humour 1 = .ok (.getfield 49, 3) := by decide +kernel
theorem dX11_humour_4 : decode cX11_humour 4 = .ok (.aload_n 0, 1) := by decide +kernel
theorem dX11_humour_5 : decode cX11_humour 5 = .ok (.getfield 19, 3) := by decide +kernel
theorem dX11_humour_8 : decode cX11_humour 8 = .ok (.aload_n 0, 1) := by decide +kernel
theorem dX11_humour_9 : decode cX11_humour 9 = .ok (.getfield 32, 3) := by decide +kernel
theorem dX11_humour_12 : decode cX11_humour 12 = .ok (.iconst 1, 1) := by decide +kernel
theorem dX11_humour_13 : decode cX11_humour 13 = .ok (.invokevirtual 225, 3) := by decide +kernel
theorem dX11_humour_16 : decode cX11_humour 16 = .ok (.ireturn, 1) := by decide +kernel
theorem dX11_starves_0 : decode cX11_starves 0 = .ok (.aload_n 0, 1) := by decide +kernel
theorem dX11_starves_1 : decode cX11_starves 1 = .ok (.getfield 49, 3) := by decide +kernel
theorem dX11_starves_4 : decode cX11_starves 4 = .ok (.aload_n 0, 1) := by decide +kernel
theorem dX11_starves_5 : decode cX11_starves 5 = .ok (.getfield 19, 3) := by decide +kernel
theorem dX11_starves_8 : decode cX11_starves 8 = .ok (.aload_n 0, 1) := by decide +kernel
theorem dX11_starves_9 : decode cX11_starves 9 = .ok (.getfield 32, 3) := by decide +kernel
theorem dX11_starves_12 : decode cX11_starves 12 = .ok (.invokevirtual 229, 3) := by decide +kernel
theorem dX11_starves_15 : decode cX11_starves 15 = .ok (.ireturn, 1) := by decide +kernel
theorem dX11_far_0 : decode cX11_far 0 = .ok (.iload_n 1, 1) := by decide +kernel
theorem dX11_far_1 : decode cX11_far 1 = .ok (.invokestatic 152, 3) := by decide +kernel
theorem dX11_far_4 : decode cX11_far 4 = .ok (.iload_n 2, 1) := by decide +kernel
theorem dX11_far_5 : decode cX11_far 5 = .ok (.invokestatic 152, 3) := by decide +kernel
theorem dX11_far_8 : decode cX11_far 8 = .ok (.aload_n 0, 1) := by decide +kernel
theorem dX11_far_9 : decode cX11_far 9 = .ok (.getfield 19, 3) := by decide +kernel
theorem dX11_far_12 : decode cX11_far 12 = .ok (.iload_n 1, 1) := by decide +kernel
theorem dX11_far_13 : decode cX11_far 13 = .ok (.iload_n 2, 1) := by decide +kernel
theorem dX11_far_14 : decode cX11_far 14 = .ok (.invokevirtual 233, 3) := by decide +kernel
theorem dX11_far_17 : decode cX11_far 17 = .ok (.ireturn, 1) := by decide +kernel
theorem dX11_road_0 : decode cX11_road 0 = .ok (.aload_n 0, 1) := by decide +kernel
theorem dX11_road_1 : decode cX11_road 1 = .ok (.getfield 77, 3) := by decide +kernel
theorem dX11_road_4 : decode cX11_road 4 = .ok (.aload_n 0, 1) := by decide +kernel
theorem dX11_road_5 : decode cX11_road 5 = .ok (.getfield 10, 3) := by decide +kernel
theorem dX11_road_8 : decode cX11_road 8 = .ok (.invokevirtual 236, 3) := by decide +kernel
theorem dX11_road_11 : decode cX11_road 11 = .ok (.istore_n 3, 1) := by decide +kernel
theorem dX11_road_12 : decode cX11_road 12 = .ok (.aload_n 0, 1) := by decide +kernel
theorem dX11_road_13 : decode cX11_road 13 = .ok (.getfield 10, 3) := by decide +kernel
theorem dX11_road_16 : decode cX11_road 16 = .ok (.invokevirtual 102, 3) := by decide +kernel
theorem dX11_road_19 : decode cX11_road 19 = .ok (.iload_n 1, 1) := by decide +kernel
theorem dX11_road_20 : decode cX11_road 20 = .ok (.invokestatic 152, 3) := by decide +kernel
theorem dX11_road_23 : decode cX11_road 23 = .ok (.iload_n 3, 1) := by decide +kernel
theorem dX11_road_24 : decode cX11_road 24 = .ok (.ifCond .ne 11, 3) := by decide +kernel
theorem dX11_road_27 : decode cX11_road 27 = .ok (.new 105, 3) := by decide +kernel
theorem dX11_road_30 : decode cX11_road 30 = .ok (.dup, 1) := by decide +kernel
theorem dX11_road_31 : decode cX11_road 31 = .ok (.invokespecial 107, 3) := by decide +kernel
theorem dX11_road_34 : decode cX11_road 34 = .ok (.athrow, 1) := by decide +kernel
theorem dX11_road_35 : decode cX11_road 35 = .ok (.iload_n 2, 1) := by decide +kernel
theorem dX11_road_36 : decode cX11_road 36 = .ok (.ifCond .eq 18, 3) := by decide +kernel
theorem dX11_road_39 : decode cX11_road 39 = .ok (.aload_n 0, 1) := by decide +kernel
theorem dX11_road_40 : decode cX11_road 40 = .ok (.getfield 77, 3) := by decide +kernel
theorem dX11_road_43 : decode cX11_road 43 = .ok (.aload_n 0, 1) := by decide +kernel
theorem dX11_road_44 : decode cX11_road 44 = .ok (.getfield 19, 3) := by decide +kernel
theorem dX11_road_47 : decode cX11_road 47 = .ok (.iload_n 1, 1) := by decide +kernel
theorem dX11_road_48 : decode cX11_road 48 = .ok (.invokevirtual 240, 3) := by decide +kernel
theorem dX11_road_51 : decode cX11_road 51 = .ok (.goto 15, 3) := by decide +kernel
theorem dX11_road_54 : decode cX11_road 54 = .ok (.aload_n 0, 1) := by decide +kernel
theorem dX11_road_55 : decode cX11_road 55 = .ok (.getfield 77, 3) := by decide +kernel
theorem dX11_road_58 : decode cX11_road 58 = .ok (.aload_n 0, 1) := by decide +kernel
theorem dX11_road_59 : decode cX11_road 59 = .ok (.getfield 19, 3) := by decide +kernel
theorem dX11_road_62 : decode cX11_road 62 = .ok (.iload_n 1, 1) := by decide +kernel
theorem dX11_road_63 : decode cX11_road 63 = .ok (.invokevirtual 243, 3) := by decide +kernel
theorem dX11_road_66 : decode cX11_road 66 = .ok (.ireturn, 1) := by decide +kernel
theorem dX11_seats_0 : decode cX11_seats 0 = .ok (.iload_n 1, 1) := by decide +kernel
theorem dX11_seats_1 : decode cX11_seats 1 = .ok (.iconst (-1), 1) := by decide +kernel
theorem dX11_seats_2 : decode cX11_seats 2 = .ok (.if_icmp .ne 15, 3) := by decide +kernel
theorem dX11_seats_5 : decode cX11_seats 5 = .ok (.aload_n 0, 1) := by decide +kernel
theorem dX11_seats_6 : decode cX11_seats 6 = .ok (.getfield 56, 3) := by decide +kernel
theorem dX11_seats_9 : decode cX11_seats 9 = .ok (.aload_n 0, 1) := by decide +kernel
theorem dX11_seats_10 : decode cX11_seats 10 = .ok (.getfield 19, 3) := by decide +kernel
theorem dX11_seats_13 : decode cX11_seats 13 = .ok (.invokevirtual 246, 3) := by decide +kernel
theorem dX11_seats_16 : decode cX11_seats 16 = .ok (.ireturn, 1) := by decide +kernel
theorem dX11_seats_17 : decode cX11_seats 17 = .ok (.aload_n 0, 1) := by decide +kernel
theorem dX11_seats_18 : decode cX11_seats 18 = .ok (.iload_n 1, 1) := by decide +kernel
theorem dX11_seats_19 : decode cX11_seats 19 = .ok (.invokevirtual 128, 3) := by decide +kernel
theorem dX11_seats_22 : decode cX11_seats 22 = .ok (.aload_n 0, 1) := by decide +kernel
theorem dX11_seats_23 : decode cX11_seats 23 = .ok (.getfield 56, 3) := by decide +kernel
theorem dX11_seats_26 : decode cX11_seats 26 = .ok (.aload_n 0, 1) := by decide +kernel
theorem dX11_seats_27 : decode cX11_seats 27 = .ok (.getfield 19, 3) := by decide +kernel
theorem dX11_seats_30 : decode cX11_seats 30 = .ok (.iload_n 1, 1) := by decide +kernel
theorem dX11_seats_31 : decode cX11_seats 31 = .ok (.invokevirtual 250, 3) := by decide +kernel
theorem dX11_seats_34 : decode cX11_seats 34 = .ok (.ireturn, 1) := by decide +kernel
theorem dX11_shown_0 : decode cX11_shown 0 = .ok (.aload_n 0, 1) := by decide +kernel
theorem dX11_shown_1 : decode cX11_shown 1 = .ok (.getfield 56, 3) := by decide +kernel
theorem dX11_shown_4 : decode cX11_shown 4 = .ok (.aload_n 0, 1) := by decide +kernel
theorem dX11_shown_5 : decode cX11_shown 5 = .ok (.getfield 19, 3) := by decide +kernel
theorem dX11_shown_8 : decode cX11_shown 8 = .ok (.invokevirtual 253, 3) := by decide +kernel
theorem dX11_shown_11 : decode cX11_shown 11 = .ok (.ireturn, 1) := by decide +kernel
theorem dX11_serves_0 : decode cX11_serves 0 = .ok (.iload_n 1, 1) := by decide +kernel
theorem dX11_serves_1 : decode cX11_serves 1 = .ok (.ifCond .lt 9, 3) := by decide +kernel
theorem dX11_serves_4 : decode cX11_serves 4 = .ok (.iload_n 1, 1) := by decide +kernel
theorem dX11_serves_5 : decode cX11_serves 5 = .ok (.bipush 12, 2) := by decide +kernel
theorem dX11_serves_7 : decode cX11_serves 7 = .ok (.if_icmp .lt 11, 3) := by decide +kernel
theorem dX11_serves_10 : decode cX11_serves 10 = .ok (.new 256, 3) := by decide +kernel
theorem dX11_serves_13 : decode cX11_serves 13 = .ok (.dup, 1) := by decide +kernel
theorem dX11_serves_14 : decode cX11_serves 14 = .ok (.invokespecial 258, 3) := by decide +kernel
theorem dX11_serves_17 : decode cX11_serves 17 = .ok (.athrow, 1) := by decide +kernel
theorem dX11_serves_18 : decode cX11_serves 18 = .ok (.iconst 0, 1) := by decide +kernel
theorem dX11_serves_19 : decode cX11_serves 19 = .ok (.istore_n 2, 1) := by decide +kernel
theorem dX11_serves_20 : decode cX11_serves 20 = .ok (.iconst 0, 1) := by decide +kernel
theorem dX11_serves_21 : decode cX11_serves 21 = .ok (.istore_n 3, 1) := by decide +kernel
theorem dX11_serves_22 : decode cX11_serves 22 = .ok (.iload_n 3, 1) := by decide +kernel
theorem dX11_serves_23 : decode cX11_serves 23 = .ok (.aload_n 0, 1) := by decide +kernel
theorem dX11_serves_24 : decode cX11_serves 24 = .ok (.getfield 19, 3) := by decide +kernel
theorem dX11_serves_27 : decode cX11_serves 27 = .ok (.getfield 200, 3) := by decide +kernel
theorem dX11_serves_30 : decode cX11_serves 30 = .ok (.if_icmp .ge 27, 3) := by decide +kernel
theorem dX11_serves_33 : decode cX11_serves 33 = .ok (.aload_n 0, 1) := by decide +kernel
theorem dX11_serves_34 : decode cX11_serves 34 = .ok (.getfield 19, 3) := by decide +kernel
theorem dX11_serves_37 : decode cX11_serves 37 = .ok (.iload_n 3, 1) := by decide +kernel
theorem dX11_serves_38 : decode cX11_serves 38 = .ok (.iload_n 1, 1) := by decide +kernel
theorem dX11_serves_39 : decode cX11_serves 39 = .ok (.invokevirtual 259, 3) := by decide +kernel
theorem dX11_serves_42 : decode cX11_serves 42 = .ok (.ifCond .eq 9, 3) := by decide +kernel
theorem dX11_serves_45 : decode cX11_serves 45 = .ok (.iload_n 2, 1) := by decide +kernel
theorem dX11_serves_46 : decode cX11_serves 46 = .ok (.iconst 1, 1) := by decide +kernel
theorem dX11_serves_47 : decode cX11_serves 47 = .ok (.iload_n 3, 1) := by decide +kernel
theorem dX11_serves_48 : decode cX11_serves 48 = .ok (.ishl, 1) := by decide +kernel
theorem dX11_serves_49 : decode cX11_serves 49 = .ok (.ior, 1) := by decide +kernel
theorem dX11_serves_50 : decode cX11_serves 50 = .ok (.istore_n 2, 1) := by decide +kernel
theorem dX11_serves_51 : decode cX11_serves 51 = .ok (.iinc 3 1, 3) := by decide +kernel
theorem dX11_serves_54 : decode cX11_serves 54 = .ok (.goto (-32), 3) := by decide +kernel
theorem dX11_serves_57 : decode cX11_serves 57 = .ok (.iload_n 2, 1) := by decide +kernel
theorem dX11_serves_58 : decode cX11_serves 58 = .ok (.ireturn, 1) := by decide +kernel
theorem dX11_trade_0 : decode cX11_trade 0 = .ok (.aload_n 0, 1) := by decide +kernel
theorem dX11_trade_1 : decode cX11_trade 1 = .ok (.iload_n 1, 1) := by decide +kernel
theorem dX11_trade_2 : decode cX11_trade 2 = .ok (.invokevirtual 128, 3) := by decide +kernel
theorem dX11_trade_5 : decode cX11_trade 5 = .ok (.aload_n 0, 1) := by decide +kernel
theorem dX11_trade_6 : decode cX11_trade 6 = .ok (.getfield 56, 3) := by decide +kernel
theorem dX11_trade_9 : decode cX11_trade 9 = .ok (.aload_n 0, 1) := by decide +kernel
theorem dX11_trade_10 : decode cX11_trade 10 = .ok (.getfield 19, 3) := by decide +kernel
theorem dX11_trade_13 : decode cX11_trade 13 = .ok (.invokevirtual 262, 3) := by decide +kernel
theorem dX11_trade_16 : decode cX11_trade 16 = .ok (.iload_n 2, 1) := by decide +kernel
theorem dX11_trade_17 : decode cX11_trade 17 = .ok (.ifCond .eq 14, 3) := by decide +kernel
theorem dX11_trade_20 : decode cX11_trade 20 = .ok (.aload_n 0, 1) := by decide +kernel
theorem dX11_trade_21 : decode cX11_trade 21 = .ok (.getfield 56, 3) := by decide +kernel
theorem dX11_trade_24 : decode cX11_trade 24 = .ok (.iload_n 1, 1) := by decide +kernel
theorem dX11_trade_25 : decode cX11_trade 25 = .ok (.invokevirtual 265, 3) := by decide +kernel
theorem dX11_trade_28 : decode cX11_trade 28 = .ok (.goto 11, 3) := by decide +kernel
theorem dX11_trade_31 : decode cX11_trade 31 = .ok (.aload_n 0, 1) := by decide +kernel
theorem dX11_trade_32 : decode cX11_trade 32 = .ok (.getfield 56, 3) := by decide +kernel
theorem dX11_trade_35 : decode cX11_trade 35 = .ok (.iload_n 1, 1) := by decide +kernel
theorem dX11_trade_36 : decode cX11_trade 36 = .ok (.invokevirtual 268, 3) := by decide +kernel
theorem dX11_trade_39 : decode cX11_trade 39 = .ok (.ireturn, 1) := by decide +kernel
theorem dX11_content_0 : decode cX11_content 0 = .ok (.iconst 0, 1) := by decide +kernel
theorem dX11_content_1 : decode cX11_content 1 = .ok (.istore_n 1, 1) := by decide +kernel
theorem dX11_content_2 : decode cX11_content 2 = .ok (.iconst 0, 1) := by decide +kernel
theorem dX11_content_3 : decode cX11_content 3 = .ok (.istore_n 2, 1) := by decide +kernel
theorem dX11_content_4 : decode cX11_content 4 = .ok (.iload_n 2, 1) := by decide +kernel
theorem dX11_content_5 : decode cX11_content 5 = .ok (.aload_n 0, 1) := by decide +kernel
theorem dX11_content_6 : decode cX11_content 6 = .ok (.getfield 19, 3) := by decide +kernel
theorem dX11_content_9 : decode cX11_content 9 = .ok (.getfield 200, 3) := by decide +kernel
theorem dX11_content_12 : decode cX11_content 12 = .ok (.if_icmp .ge 35, 3) := by decide +kernel
theorem dX11_content_15 : decode cX11_content 15 = .ok (.aload_n 0, 1) := by decide +kernel
theorem dX11_content_16 : decode cX11_content 16 = .ok (.getfield 19, 3) := by decide +kernel
theorem dX11_content_19 : decode cX11_content 19 = .ok (.iload_n 2, 1) := by decide +kernel
theorem dX11_content_20 : decode cX11_content 20 = .ok (.aload_n 0, 1) := by decide +kernel
theorem dX11_content_21 : decode cX11_content 21 = .ok (.getfield 19, 3) := by decide +kernel
theorem dX11_content_24 : decode cX11_content 24 = .ok (.iconst 2, 1) := by decide +kernel
theorem dX11_content_25 : decode cX11_content 25 = .ok (.iload_n 2, 1) := by decide +kernel
theorem dX11_content_26 : decode cX11_content 26 = .ok (.invokevirtual 138, 3) := by decide +kernel
theorem dX11_content_29 : decode cX11_content 29 = .ok (.invokevirtual 259, 3) := by decide +kernel
theorem dX11_content_32 : decode cX11_content 32 = .ok (.ifCond .eq 9, 3) := by decide +kernel
theorem dX11_content_35 : decode cX11_content 35 = .ok (.iload_n 1, 1) := by decide +kernel
theorem dX11_content_36 : decode cX11_content 36 = .ok (.iconst 1, 1) := by decide +kernel
theorem dX11_content_37 : decode cX11_content 37 = .ok (.iload_n 2, 1) := by decide +kernel
theorem dX11_content_38 : decode cX11_content 38 = .ok (.ishl, 1) := by decide +kernel
theorem dX11_content_39 : decode cX11_content 39 = .ok (.ior, 1) := by decide +kernel
theorem dX11_content_40 : decode cX11_content 40 = .ok (.istore_n 1, 1) := by decide +kernel
theorem dX11_content_41 : decode cX11_content 41 = .ok (.iinc 2 1, 3) := by decide +kernel
theorem dX11_content_44 : decode cX11_content 44 = .ok (.goto (-40), 3) := by decide +kernel
theorem dX11_content_47 : decode cX11_content 47 = .ok (.iload_n 1, 1) := by decide +kernel
theorem dX11_content_48 : decode cX11_content 48 = .ok (.ireturn, 1) := by decide +kernel
theorem dX11_seen_0 : decode cX11_seen 0 = .ok (.aload_n 0, 1) := by decide +kernel
theorem dX11_seen_1 : decode cX11_seen 1 = .ok (.aload_n 0, 1) := by decide +kernel
theorem dX11_seen_2 : decode cX11_seen 2 = .ok (.getfield 63, 3) := by decide +kernel
theorem dX11_seen_5 : decode cX11_seen 5 = .ok (.aload_n 0, 1) := by decide +kernel
theorem dX11_seen_6 : decode cX11_seen 6 = .ok (.getfield 10, 3) := by decide +kernel
theorem dX11_seen_9 : decode cX11_seen 9 = .ok (.aload_n 0, 1) := by decide +kernel
theorem dX11_seen_10 : decode cX11_seen 10 = .ok (.getfield 19, 3) := by decide +kernel
theorem dX11_seen_13 : decode cX11_seen 13 = .ok (.getfield 184, 3) := by decide +kernel
theorem dX11_seen_16 : decode cX11_seen 16 = .ok (.invokevirtual 271, 3) := by decide +kernel
theorem dX11_seen_19 : decode cX11_seen 19 = .ok (.invokevirtual 275, 3) := by decide +kernel
theorem dX11_seen_22 : decode cX11_seen 22 = .ok (.iload_n 1, 1) := by decide +kernel
theorem dX11_seen_23 : decode cX11_seen 23 = .ok (.ifCond .eq 13, 3) := by decide +kernel
theorem dX11_seen_26 : decode cX11_seen 26 = .ok (.aload_n 0, 1) := by decide +kernel
theorem dX11_seen_27 : decode cX11_seen 27 = .ok (.getfield 63, 3) := by decide +kernel
theorem dX11_seen_30 : decode cX11_seen 30 = .ok (.invokevirtual 279, 3) := by decide +kernel
theorem dX11_seen_33 : decode cX11_seen 33 = .ok (.goto 10, 3) := by decide +kernel
theorem dX11_seen_36 : decode cX11_seen 36 = .ok (.aload_n 0, 1) := by decide +kernel
theorem dX11_seen_37 : decode cX11_seen 37 = .ok (.getfield 63, 3) := by decide +kernel
theorem dX11_seen_40 : decode cX11_seen 40 = .ok (.getfield 282, 3) := by decide +kernel
theorem dX11_seen_43 : decode cX11_seen 43 = .ok (.ireturn, 1) := by decide +kernel
theorem dX11_ask_0 : decode cX11_ask 0 = .ok (.aload_n 0, 1) := by decide +kernel
theorem dX11_ask_1 : decode cX11_ask 1 = .ok (.aload_n 0, 1) := by decide +kernel
theorem dX11_ask_2 : decode cX11_ask 2 = .ok (.getfield 63, 3) := by decide +kernel
theorem dX11_ask_5 : decode cX11_ask 5 = .ok (.aload_n 0, 1) := by decide +kernel
theorem dX11_ask_6 : decode cX11_ask 6 = .ok (.getfield 10, 3) := by decide +kernel
theorem dX11_ask_9 : decode cX11_ask 9 = .ok (.aload_n 0, 1) := by decide +kernel
theorem dX11_ask_10 : decode cX11_ask 10 = .ok (.getfield 19, 3) := by decide +kernel
theorem dX11_ask_13 : decode cX11_ask 13 = .ok (.getfield 184, 3) := by decide +kernel
theorem dX11_ask_16 : decode cX11_ask 16 = .ok (.invokevirtual 271, 3) := by decide +kernel
theorem dX11_ask_19 : decode cX11_ask 19 = .ok (.invokevirtual 275, 3) := by decide +kernel
theorem dX11_ask_22 : decode cX11_ask 22 = .ok (.aload_n 0, 1) := by decide +kernel
theorem dX11_ask_23 : decode cX11_ask 23 = .ok (.getfield 63, 3) := by decide +kernel
theorem dX11_ask_26 : decode cX11_ask 26 = .ok (.invokevirtual 285, 3) := by decide +kernel
theorem dX11_ask_29 : decode cX11_ask 29 = .ok (.ireturn, 1) := by decide +kernel
theorem dX11_rule_0 : decode cX11_rule 0 = .ok (.aload_n 0, 1) := by decide +kernel
theorem dX11_rule_1 : decode cX11_rule 1 = .ok (.aload_n 0, 1) := by decide +kernel
theorem dX11_rule_2 : decode cX11_rule 2 = .ok (.getfield 63, 3) := by decide +kernel
theorem dX11_rule_5 : decode cX11_rule 5 = .ok (.aload_n 0, 1) := by decide +kernel
theorem dX11_rule_6 : decode cX11_rule 6 = .ok (.getfield 10, 3) := by decide +kernel
theorem dX11_rule_9 : decode cX11_rule 9 = .ok (.invokevirtual 288, 3) := by decide +kernel
theorem dX11_rule_12 : decode cX11_rule 12 = .ok (.invokevirtual 275, 3) := by decide +kernel
theorem dX11_rule_15 : decode cX11_rule 15 = .ok (.iload_n 1, 1) := by decide +kernel
theorem dX11_rule_16 : decode cX11_rule 16 = .ok (.ifCond .eq 13, 3) := by decide +kernel
theorem dX11_rule_19 : decode cX11_rule 19 = .ok (.aload_n 0, 1) := by decide +kernel
theorem dX11_rule_20 : decode cX11_rule 20 = .ok (.getfield 63, 3) := by decide +kernel
theorem dX11_rule_23 : decode cX11_rule 23 = .ok (.invokevirtual 291, 3) := by decide +kernel
theorem dX11_rule_26 : decode cX11_rule 26 = .ok (.goto 10, 3) := by decide +kernel
theorem dX11_rule_29 : decode cX11_rule 29 = .ok (.aload_n 0, 1) := by decide +kernel
theorem dX11_rule_30 : decode cX11_rule 30 = .ok (.getfield 63, 3) := by decide +kernel
theorem dX11_rule_33 : decode cX11_rule 33 = .ok (.getfield 282, 3) := by decide +kernel
theorem dX11_rule_36 : decode cX11_rule 36 = .ok (.ireturn, 1) := by decide +kernel
theorem dX11_tells_0 : decode cX11_tells 0 = .ok (.aload_n 0, 1) := by decide +kernel
theorem dX11_tells_1 : decode cX11_tells 1 = .ok (.aload_n 0, 1) := by decide +kernel
theorem dX11_tells_2 : decode cX11_tells 2 = .ok (.getfield 63, 3) := by decide +kernel
theorem dX11_tells_5 : decode cX11_tells 5 = .ok (.aload_n 0, 1) := by decide +kernel
theorem dX11_tells_6 : decode cX11_tells 6 = .ok (.getfield 10, 3) := by decide +kernel
theorem dX11_tells_9 : decode cX11_tells 9 = .ok (.invokevirtual 288, 3) := by decide +kernel
theorem dX11_tells_12 : decode cX11_tells 12 = .ok (.invokevirtual 275, 3) := by decide +kernel
theorem dX11_tells_15 : decode cX11_tells 15 = .ok (.aload_n 0, 1) := by decide +kernel
theorem dX11_tells_16 : decode cX11_tells 16 = .ok (.getfield 63, 3) := by decide +kernel
theorem dX11_tells_19 : decode cX11_tells 19 = .ok (.invokevirtual 285, 3) := by decide +kernel
theorem dX11_tells_22 : decode cX11_tells 22 = .ok (.ireturn, 1) := by decide +kernel
theorem dX11_share_0 : decode cX11_share 0 = .ok (.iload_n 1, 1) := by decide +kernel
theorem dX11_share_1 : decode cX11_share 1 = .ok (.invokestatic 146, 3) := by decide +kernel
theorem dX11_share_4 : decode cX11_share 4 = .ok (.iload_n 2, 1) := by decide +kernel
theorem dX11_share_5 : decode cX11_share 5 = .ok (.sipush 999, 3) := by decide +kernel
theorem dX11_share_8 : decode cX11_share 8 = .ok (.invokestatic 187, 3) := by decide +kernel
theorem dX11_share_11 : decode cX11_share 11 = .ok (.aload_n 0, 1) := by decide +kernel
theorem dX11_share_12 : decode cX11_share 12 = .ok (.getfield 49, 3) := by decide +kernel
theorem dX11_share_15 : decode cX11_share 15 = .ok (.aload_n 0, 1) := by decide +kernel
theorem dX11_share_16 : decode cX11_share 16 = .ok (.getfield 19, 3) := by decide +kernel
theorem dX11_share_19 : decode cX11_share 19 = .ok (.invokevirtual 214, 3) := by decide +kernel
theorem dX11_share_22 : decode cX11_share 22 = .ok (.aload_n 0, 1) := by decide +kernel
theorem dX11_share_23 : decode cX11_share 23 = .ok (.getfield 49, 3) := by decide +kernel
theorem dX11_share_26 : decode cX11_share 26 = .ok (.getfield 294, 3) := by decide +kernel
theorem dX11_share_29 : decode cX11_share 29 = .ok (.iload_n 2, 1) := by decide +kernel
theorem dX11_share_30 : decode cX11_share 30 = .ok (.invokevirtual 297, 3) := by decide +kernel
theorem dX11_share_33 : decode cX11_share 33 = .ok (.aload_n 0, 1) := by decide +kernel
theorem dX11_share_34 : decode cX11_share 34 = .ok (.getfield 49, 3) := by decide +kernel
theorem dX11_share_37 : decode cX11_share 37 = .ok (.getfield 294, 3) := by decide +kernel
theorem dX11_share_40 : decode cX11_share 40 = .ok (.iload_n 1, 1) := by decide +kernel
theorem dX11_share_41 : decode cX11_share 41 = .ok (.invokevirtual 149, 3) := by decide +kernel
theorem dX11_share_44 : decode cX11_share 44 = .ok (.ireturn, 1) := by decide +kernel
theorem dX11_feeds_0 : decode cX11_feeds 0 = .ok (.iload_n 1, 1) := by decide +kernel
theorem dX11_feeds_1 : decode cX11_feeds 1 = .ok (.invokestatic 146, 3) := by decide +kernel
theorem dX11_feeds_4 : decode cX11_feeds 4 = .ok (.iconst 0, 1) := by decide +kernel
theorem dX11_feeds_5 : decode cX11_feeds 5 = .ok (.istore_n 2, 1) := by decide +kernel
theorem dX11_feeds_6 : decode cX11_feeds 6 = .ok (.iconst 0, 1) := by decide +kernel
theorem dX11_feeds_7 : decode cX11_feeds 7 = .ok (.istore_n 3, 1) := by decide +kernel
theorem dX11_feeds_8 : decode cX11_feeds 8 = .ok (.iload_n 3, 1) := by decide +kernel
theorem dX11_feeds_9 : decode cX11_feeds 9 = .ok (.aload_n 0, 1) := by decide +kernel
theorem dX11_feeds_10 : decode cX11_feeds 10 = .ok (.getfield 19, 3) := by decide +kernel
theorem dX11_feeds_13 : decode cX11_feeds 13 = .ok (.getfield 200, 3) := by decide +kernel
theorem dX11_feeds_16 : decode cX11_feeds 16 = .ok (.if_icmp .ge 35, 3) := by decide +kernel
theorem dX11_feeds_19 : decode cX11_feeds 19 = .ok (.aload_n 0, 1) := by decide +kernel
theorem dX11_feeds_20 : decode cX11_feeds 20 = .ok (.getfield 19, 3) := by decide +kernel
theorem dX11_feeds_23 : decode cX11_feeds 23 = .ok (.iload_n 3, 1) := by decide +kernel
theorem dX11_feeds_24 : decode cX11_feeds 24 = .ok (.invokevirtual 170, 3) := by decide +kernel
theorem dX11_feeds_27 : decode cX11_feeds 27 = .ok (.ifCond .ne 18, 3) := by decide +kernel
theorem dX11_feeds_30 : decode cX11_feeds 30 = .ok (.aload_n 0, 1) := by decide +kernel
theorem dX11_feeds_31 : decode cX11_feeds 31 = .ok (.getfield 19, 3) := by decide +kernel
theorem dX11_feeds_34 : decode cX11_feeds 34 = .ok (.iload_n 3, 1) := by decide +kernel
theorem dX11_feeds_35 : decode cX11_feeds 35 = .ok (.invokevirtual 300, 3) := by decide +kernel
theorem dX11_feeds_38 : decode cX11_feeds 38 = .ok (.iload_n 1, 1) := by decide +kernel
theorem dX11_feeds_39 : decode cX11_feeds 39 = .ok (.if_icmp .ne 6, 3) := by decide +kernel
theorem dX11_feeds_42 : decode cX11_feeds 42 = .ok (.iinc 2 1, 3) := by decide +kernel
theorem dX11_feeds_45 : decode cX11_feeds 45 = .ok (.iinc 3 1, 3) := by decide +kernel
theorem dX11_feeds_48 : decode cX11_feeds 48 = .ok (.goto (-40), 3) := by decide +kernel
theorem dX11_feeds_51 : decode cX11_feeds 51 = .ok (.iload_n 2, 1) := by decide +kernel
theorem dX11_feeds_52 : decode cX11_feeds 52 = .ok (.ifCond .ne 7, 3) := by decide +kernel
theorem dX11_feeds_55 : decode cX11_feeds 55 = .ok (.iconst (-1), 1) := by decide +kernel
theorem dX11_feeds_56 : decode cX11_feeds 56 = .ok (.goto 13, 3) := by decide +kernel
theorem dX11_feeds_59 : decode cX11_feeds 59 = .ok (.aload_n 0, 1) := by decide +kernel
theorem dX11_feeds_60 : decode cX11_feeds 60 = .ok (.getfield 19, 3) := by decide +kernel
theorem dX11_feeds_63 : decode cX11_feeds 63 = .ok (.iload_n 1, 1) := by decide +kernel
theorem dX11_feeds_64 : decode cX11_feeds 64 = .ok (.invokevirtual 149, 3) := by decide +kernel
theorem dX11_feeds_67 : decode cX11_feeds 67 = .ok (.iload_n 2, 1) := by decide +kernel
theorem dX11_feeds_68 : decode cX11_feeds 68 = .ok (.idiv, 1) := by decide +kernel
theorem dX11_feeds_69 : decode cX11_feeds 69 = .ok (.ireturn, 1) := by decide +kernel
theorem dX11_pairs_0 : decode cX11_pairs 0 = .ok (.iload_n 1, 1) := by decide +kernel
theorem dX11_pairs_1 : decode cX11_pairs 1 = .ok (.iconst (-1), 1) := by decide +kernel
theorem dX11_pairs_2 : decode cX11_pairs 2 = .ok (.if_icmp .ne 15, 3) := by decide +kernel
theorem dX11_pairs_5 : decode cX11_pairs 5 = .ok (.aload_n 0, 1) := by decide +kernel
theorem dX11_pairs_6 : decode cX11_pairs 6 = .ok (.getfield 70, 3) := by decide +kernel
theorem dX11_pairs_9 : decode cX11_pairs 9 = .ok (.aload_n 0, 1) := by decide +kernel
theorem dX11_pairs_10 : decode cX11_pairs 10 = .ok (.getfield 19, 3) := by decide +kernel
theorem dX11_pairs_13 : decode cX11_pairs 13 = .ok (.invokevirtual 303, 3) := by decide +kernel
theorem dX11_pairs_16 : decode cX11_pairs 16 = .ok (.ireturn, 1) := by decide +kernel
theorem dX11_pairs_17 : decode cX11_pairs 17 = .ok (.aload_n 0, 1) := by decide +kernel
theorem dX11_pairs_18 : decode cX11_pairs 18 = .ok (.iload_n 1, 1) := by decide +kernel
theorem dX11_pairs_19 : decode cX11_pairs 19 = .ok (.invokevirtual 128, 3) := by decide +kernel
theorem dX11_pairs_22 : decode cX11_pairs 22 = .ok (.aload_n 0, 1) := by decide +kernel
theorem dX11_pairs_23 : decode cX11_pairs 23 = .ok (.getfield 70, 3) := by decide +kernel
theorem dX11_pairs_26 : decode cX11_pairs 26 = .ok (.aload_n 0, 1) := by decide +kernel
theorem dX11_pairs_27 : decode cX11_pairs 27 = .ok (.getfield 19, 3) := by decide +kernel
theorem dX11_pairs_30 : decode cX11_pairs 30 = .ok (.iload_n 1, 1) := by decide +kernel
theorem dX11_pairs_31 : decode cX11_pairs 31 = .ok (.invokevirtual 306, 3) := by decide +kernel
theorem dX11_pairs_34 : decode cX11_pairs 34 = .ok (.ireturn, 1) := by decide +kernel
theorem dX11_watch_0 : decode cX11_watch 0 = .ok (.aload_n 0, 1) := by decide +kernel
theorem dX11_watch_1 : decode cX11_watch 1 = .ok (.getfield 70, 3) := by decide +kernel
theorem dX11_watch_4 : decode cX11_watch 4 = .ok (.aload_n 0, 1) := by decide +kernel
theorem dX11_watch_5 : decode cX11_watch 5 = .ok (.getfield 19, 3) := by decide +kernel
theorem dX11_watch_8 : decode cX11_watch 8 = .ok (.invokevirtual 309, 3) := by decide +kernel
theorem dX11_watch_11 : decode cX11_watch 11 = .ok (.ireturn, 1) := by decide +kernel
theorem dX11_chapter_0 : decode cX11_chapter 0 = .ok (.aload_n 0, 1) := by decide +kernel
theorem dX11_chapter_1 : decode cX11_chapter 1 = .ok (.getfield 70, 3) := by decide +kernel
theorem dX11_chapter_4 : decode cX11_chapter 4 = .ok (.aload_n 0, 1) := by decide +kernel
theorem dX11_chapter_5 : decode cX11_chapter 5 = .ok (.getfield 19, 3) := by decide +kernel
theorem dX11_chapter_8 : decode cX11_chapter 8 = .ok (.iload_n 1, 1) := by decide +kernel
theorem dX11_chapter_9 : decode cX11_chapter 9 = .ok (.invokevirtual 312, 3) := by decide +kernel
theorem dX11_chapter_12 : decode cX11_chapter 12 = .ok (.ireturn, 1) := by decide +kernel
theorem dX11_swings_0 : decode cX11_swings 0 = .ok (.aload_n 0, 1) := by decide +kernel
theorem dX11_swings_1 : decode cX11_swings 1 = .ok (.iload_n 1, 1) := by decide +kernel
theorem dX11_swings_2 : decode cX11_swings 2 = .ok (.invokevirtual 128, 3) := by decide +kernel
theorem dX11_swings_5 : decode cX11_swings 5 = .ok (.aload_n 0, 1) := by decide +kernel
theorem dX11_swings_6 : decode cX11_swings 6 = .ok (.getfield 70, 3) := by decide +kernel
theorem dX11_swings_9 : decode cX11_swings 9 = .ok (.aload_n 0, 1) := by decide +kernel
theorem dX11_swings_10 : decode cX11_swings 10 = .ok (.getfield 19, 3) := by decide +kernel
theorem dX11_swings_13 : decode cX11_swings 13 = .ok (.iload_n 1, 1) := by decide +kernel
theorem dX11_swings_14 : decode cX11_swings 14 = .ok (.invokevirtual 316, 3) := by decide +kernel
theorem dX11_swings_17 : decode cX11_swings 17 = .ok (.ireturn, 1) := by decide +kernel
theorem dX11_elder_0 : decode cX11_elder 0 = .ok (.aload_n 0, 1) := by decide +kernel
theorem dX11_elder_1 : decode cX11_elder 1 = .ok (.getfield 70, 3) := by decide +kernel
theorem dX11_elder_4 : decode cX11_elder 4 = .ok (.aload_n 0, 1) := by decide +kernel
theorem dX11_elder_5 : decode cX11_elder 5 = .ok (.getfield 19, 3) := by decide +kernel
theorem dX11_elder_8 : decode cX11_elder 8 = .ok (.invokevirtual 319, 3) := by decide +kernel
theorem dX11_elder_11 : decode cX11_elder 11 = .ok (.ireturn, 1) := by decide +kernel
theorem dX11_rests_0 : decode cX11_rests 0 = .ok (.aload_n 0, 1) := by decide +kernel
theorem dX11_rests_1 : decode cX11_rests 1 = .ok (.iload_n 1, 1) := by decide +kernel
theorem dX11_rests_2 : decode cX11_rests 2 = .ok (.invokevirtual 128, 3) := by decide +kernel
theorem dX11_rests_5 : decode cX11_rests 5 = .ok (.aload_n 0, 1) := by decide +kernel
theorem dX11_rests_6 : decode cX11_rests 6 = .ok (.getfield 19, 3) := by decide +kernel
theorem dX11_rests_9 : decode cX11_rests 9 = .ok (.iload_n 1, 1) := by decide +kernel
theorem dX11_rests_10 : decode cX11_rests 10 = .ok (.invokevirtual 170, 3) := by decide +kernel
theorem dX11_rests_13 : decode cX11_rests 13 = .ok (.ifCond .eq 7, 3) := by decide +kernel
theorem dX11_rests_16 : decode cX11_rests 16 = .ok (.iconst (-1), 1) := by decide +kernel
theorem dX11_rests_17 : decode cX11_rests 17 = .ok (.goto 15, 3) := by decide +kernel
theorem dX11_rests_20 : decode cX11_rests 20 = .ok (.aload_n 0, 1) := by decide +kernel
theorem dX11_rests_21 : decode cX11_rests 21 = .ok (.getfield 70, 3) := by decide +kernel
theorem dX11_rests_24 : decode cX11_rests 24 = .ok (.aload_n 0, 1) := by decide +kernel
theorem dX11_rests_25 : decode cX11_rests 25 = .ok (.getfield 19, 3) := by decide +kernel
theorem dX11_rests_28 : decode cX11_rests 28 = .ok (.iload_n 1, 1) := by decide +kernel
theorem dX11_rests_29 : decode cX11_rests 29 = .ok (.invokevirtual 322, 3) := by decide +kernel
theorem dX11_rests_32 : decode cX11_rests 32 = .ok (.ireturn, 1) := by decide +kernel
theorem dX11_odds_0 : decode cX11_odds 0 = .ok (.iload_n 1, 1) := by decide +kernel
theorem dX11_odds_1 : decode cX11_odds 1 = .ok (.bipush 6, 2) := by decide +kernel
theorem dX11_odds_3 : decode cX11_odds 3 = .ok (.invokestatic 187, 3) := by decide +kernel
theorem dX11_odds_6 : decode cX11_odds 6 = .ok (.iload_n 2, 1) := by decide +kernel
theorem dX11_odds_7 : decode cX11_odds 7 = .ok (.bipush 6, 2) := by decide +kernel
theorem dX11_odds_9 : decode cX11_odds 9 = .ok (.invokestatic 187, 3) := by decide +kernel
theorem dX11_odds_12 : decode cX11_odds 12 = .ok (.aload_n 0, 1) := by decide +kernel
theorem dX11_odds_13 : decode cX11_odds 13 = .ok (.getfield 49, 3) := by decide +kernel
theorem dX11_odds_16 : decode cX11_odds 16 = .ok (.aload_n 0, 1) := by decide +kernel
theorem dX11_odds_17 : decode cX11_odds 17 = .ok (.getfield 19, 3) := by decide +kernel
theorem dX11_odds_20 : decode cX11_odds 20 = .ok (.iload_n 1, 1) := by decide +kernel
theorem dX11_odds_21 : decode cX11_odds 21 = .ok (.iload_n 2, 1) := by decide +kernel
theorem dX11_odds_22 : decode cX11_odds 22 = .ok (.invokevirtual 325, 3) := by decide +kernel
theorem dX11_odds_25 : decode cX11_odds 25 = .ok (.ireturn, 1) := by decide +kernel
theorem dX11_empty_0 : decode cX11_empty 0 = .ok (.bipush 15, 2) := by decide +kernel
theorem dX11_empty_2 : decode cX11_empty 2 = .ok (.istore_n 1, 1) := by decide +kernel
theorem dX11_empty_3 : decode cX11_empty 3 = .ok (.iconst 0, 1) := by decide +kernel
theorem dX11_empty_4 : decode cX11_empty 4 = .ok (.istore_n 2, 1) := by decide +kernel
theorem dX11_empty_5 : decode cX11_empty 5 = .ok (.iload_n 2, 1) := by decide +kernel
theorem dX11_empty_6 : decode cX11_empty 6 = .ok (.aload_n 0, 1) := by decide +kernel
theorem dX11_empty_7 : decode cX11_empty 7 = .ok (.getfield 19, 3) := by decide +kernel
theorem dX11_empty_10 : decode cX11_empty 10 = .ok (.getfield 200, 3) := by decide +kernel
theorem dX11_empty_13 : decode cX11_empty 13 = .ok (.if_icmp .ge 24, 3) := by decide +kernel
theorem dX11_empty_16 : decode cX11_empty 16 = .ok (.iload_n 1, 1) := by decide +kernel
theorem dX11_empty_17 : decode cX11_empty 17 = .ok (.iconst 1, 1) := by decide +kernel
theorem dX11_empty_18 : decode cX11_empty 18 = .ok (.aload_n 0, 1) := by decide +kernel
theorem dX11_empty_19 : decode cX11_empty 19 = .ok (.getfield 19, 3) := by decide +kernel
theorem dX11_empty_22 : decode cX11_empty 22 = .ok (.iload_n 2, 1) := by decide +kernel
theorem dX11_empty_23 : decode cX11_empty 23 = .ok (.invokevirtual 300, 3) := by decide +kernel
theorem dX11_empty_26 : decode cX11_empty 26 = .ok (.ishl, 1) := by decide +kernel
theorem dX11_empty_27 : decode cX11_empty 27 = .ok (.iconst (-1), 1) := by decide +kernel
theorem dX11_empty_28 : decode cX11_empty 28 = .ok (.ixor, 1) := by decide +kernel
theorem dX11_empty_29 : decode cX11_empty 29 = .ok (.iand, 1) := by decide +kernel
theorem dX11_empty_30 : decode cX11_empty 30 = .ok (.istore_n 1, 1) := by decide +kernel
theorem dX11_empty_31 : decode cX11_empty 31 = .ok (.iinc 2 1, 3) := by decide +kernel
theorem dX11_empty_34 : decode cX11_empty 34 = .ok (.goto (-29), 3) := by decide +kernel
theorem dX11_empty_37 : decode cX11_empty 37 = .ok (.iload_n 1, 1) := by decide +kernel
theorem dX11_empty_38 : decode cX11_empty 38 = .ok (.ireturn, 1) := by decide +kernel
theorem dX11_throng_0 : decode cX11_throng 0 = .ok (.iconst 0, 1) := by decide +kernel
theorem dX11_throng_1 : decode cX11_throng 1 = .ok (.istore_n 1, 1) := by decide +kernel
theorem dX11_throng_2 : decode cX11_throng 2 = .ok (.iconst 1, 1) := by decide +kernel
theorem dX11_throng_3 : decode cX11_throng 3 = .ok (.istore_n 2, 1) := by decide +kernel
theorem dX11_throng_4 : decode cX11_throng 4 = .ok (.iload_n 2, 1) := by decide +kernel
theorem dX11_throng_5 : decode cX11_throng 5 = .ok (.iconst 4, 1) := by decide +kernel
theorem dX11_throng_6 : decode cX11_throng 6 = .ok (.if_icmp .ge 30, 3) := by decide +kernel
theorem dX11_throng_9 : decode cX11_throng 9 = .ok (.aload_n 0, 1) := by decide +kernel
theorem dX11_throng_10 : decode cX11_throng 10 = .ok (.getfield 19, 3) := by decide +kernel
theorem dX11_throng_13 : decode cX11_throng 13 = .ok (.iload_n 2, 1) := by decide +kernel
theorem dX11_throng_14 : decode cX11_throng 14 = .ok (.invokevirtual 329, 3) := by decide +kernel
theorem dX11_throng_17 : decode cX11_throng 17 = .ok (.aload_n 0, 1) := by decide +kernel
theorem dX11_throng_18 : decode cX11_throng 18 = .ok (.getfield 19, 3) := by decide +kernel
theorem dX11_throng_21 : decode cX11_throng 21 = .ok (.iload_n 1, 1) := by decide +kernel
theorem dX11_throng_22 : decode cX11_throng 22 = .ok (.invokevirtual 329, 3) := by decide +kernel
theorem dX11_throng_25 : decode cX11_throng 25 = .ok (.if_icmp .le 5, 3) := by decide +kernel
theorem dX11_throng_28 : decode cX11_throng 28 = .ok (.iload_n 2, 1) := by decide +kernel
theorem dX11_throng_29 : decode cX11_throng 29 = .ok (.istore_n 1, 1) := by decide +kernel
theorem dX11_throng_30 : decode cX11_throng 30 = .ok (.iinc 2 1, 3) := by decide +kernel
theorem dX11_throng_33 : decode cX11_throng 33 = .ok (.goto (-29), 3) := by decide +kernel
theorem dX11_throng_36 : decode cX11_throng 36 = .ok (.iload_n 1, 1) := by decide +kernel
theorem dX11_throng_37 : decode cX11_throng 37 = .ok (.ireturn, 1) := by decide +kernel
theorem dX11_gone_0 : decode cX11_gone 0 = .ok (.iconst 0, 1) := by decide +kernel
theorem dX11_gone_1 : decode cX11_gone 1 = .ok (.istore_n 1, 1) := by decide +kernel
theorem dX11_gone_2 : decode cX11_gone 2 = .ok (.iconst 0, 1) := by decide +kernel
theorem dX11_gone_3 : decode cX11_gone 3 = .ok (.istore_n 2, 1) := by decide +kernel
theorem dX11_gone_4 : decode cX11_gone 4 = .ok (.iload_n 2, 1) := by decide +kernel
theorem dX11_gone_5 : decode cX11_gone 5 = .ok (.aload_n 0, 1) := by decide +kernel
theorem dX11_gone_6 : decode cX11_gone 6 = .ok (.getfield 19, 3) := by decide +kernel
theorem dX11_gone_9 : decode cX11_gone 9 = .ok (.getfield 200, 3) := by decide +kernel
theorem dX11_gone_12 : decode cX11_gone 12 = .ok (.if_icmp .ge 26, 3) := by decide +kernel
theorem dX11_gone_15 : decode cX11_gone 15 = .ok (.aload_n 0, 1) := by decide +kernel
theorem dX11_gone_16 : decode cX11_gone 16 = .ok (.getfield 19, 3) := by decide +kernel
theorem dX11_gone_19 : decode cX11_gone 19 = .ok (.iload_n 2, 1) := by decide +kernel
theorem dX11_gone_20 : decode cX11_gone 20 = .ok (.invokevirtual 170, 3) := by decide +kernel
theorem dX11_gone_23 : decode cX11_gone 23 = .ok (.ifCond .eq 9, 3) := by decide +kernel
theorem dX11_gone_26 : decode cX11_gone 26 = .ok (.iload_n 1, 1) := by decide +kernel
theorem dX11_gone_27 : decode cX11_gone 27 = .ok (.iconst 1, 1) := by decide +kernel
theorem dX11_gone_28 : decode cX11_gone 28 = .ok (.iload_n 2, 1) := by decide +kernel
theorem dX11_gone_29 : decode cX11_gone 29 = .ok (.ishl, 1) := by decide +kernel
theorem dX11_gone_30 : decode cX11_gone 30 = .ok (.ior, 1) := by decide +kernel
theorem dX11_gone_31 : decode cX11_gone 31 = .ok (.istore_n 1, 1) := by decide +kernel
theorem dX11_gone_32 : decode cX11_gone 32 = .ok (.iinc 2 1, 3) := by decide +kernel
theorem dX11_gone_35 : decode cX11_gone 35 = .ok (.goto (-31), 3) := by decide +kernel
theorem dX11_gone_38 : decode cX11_gone 38 = .ok (.iload_n 1, 1) := by decide +kernel
theorem dX11_gone_39 : decode cX11_gone 39 = .ok (.ireturn, 1) := by decide +kernel
theorem dX11_round_0 : decode cX11_round 0 = .ok (.iload_n 1, 1) := by decide +kernel
theorem dX11_round_1 : decode cX11_round 1 = .ok (.sipush 999, 3) := by decide +kernel
theorem dX11_round_4 : decode cX11_round 4 = .ok (.invokestatic 187, 3) := by decide +kernel
theorem dX11_round_7 : decode cX11_round 7 = .ok (.iconst 0, 1) := by decide +kernel
theorem dX11_round_8 : decode cX11_round 8 = .ok (.istore_n 2, 1) := by decide +kernel
theorem dX11_round_9 : decode cX11_round 9 = .ok (.iconst 0, 1) := by decide +kernel
theorem dX11_round_10 : decode cX11_round 10 = .ok (.istore_n 3, 1) := by decide +kernel
theorem dX11_round_11 : decode cX11_round 11 = .ok (.iload_n 3, 1) := by decide +kernel
theorem dX11_round_12 : decode cX11_round 12 = .ok (.aload_n 0, 1) := by decide +kernel
theorem dX11_round_13 : decode cX11_round 13 = .ok (.getfield 19, 3) := by decide +kernel
theorem dX11_round_16 : decode cX11_round 16 = .ok (.getfield 200, 3) := by decide +kernel
theorem dX11_round_19 : decode cX11_round 19 = .ok (.if_icmp .ge 29, 3) := by decide +kernel
theorem dX11_round_22 : decode cX11_round 22 = .ok (.aload_n 0, 1) := by decide +kernel
theorem dX11_round_23 : decode cX11_round 23 = .ok (.getfield 19, 3) := by decide +kernel
theorem dX11_round_26 : decode cX11_round 26 = .ok (.bipush 7, 2) := by decide +kernel
theorem dX11_round_28 : decode cX11_round 28 = .ok (.iload_n 3, 1) := by decide +kernel
theorem dX11_round_29 : decode cX11_round 29 = .ok (.invokevirtual 138, 3) := by decide +kernel
theorem dX11_round_32 : decode cX11_round 32 = .ok (.iload_n 1, 1) := by decide +kernel
theorem dX11_round_33 : decode cX11_round 33 = .ok (.if_icmp .lt 9, 3) := by decide +kernel
theorem dX11_round_36 : decode cX11_round 36 = .ok (.iload_n 2, 1) := by decide +kernel
theorem dX11_round_37 : decode cX11_round 37 = .ok (.iconst 1, 1) := by decide +kernel
theorem dX11_round_38 : decode cX11_round 38 = .ok (.iload_n 3, 1) := by decide +kernel
theorem dX11_round_39 : decode cX11_round 39 = .ok (.ishl, 1) := by decide +kernel
theorem dX11_round_40 : decode cX11_round 40 = .ok (.ior, 1) := by decide +kernel
theorem dX11_round_41 : decode cX11_round 41 = .ok (.istore_n 2, 1) := by decide +kernel
theorem dX11_round_42 : decode cX11_round 42 = .ok (.iinc 3 1, 3) := by decide +kernel
theorem dX11_round_45 : decode cX11_round 45 = .ok (.goto (-34), 3) := by decide +kernel
theorem dX11_round_48 : decode cX11_round 48 = .ok (.iload_n 2, 1) := by decide +kernel
theorem dX11_round_49 : decode cX11_round 49 = .ok (.ireturn, 1) := by decide +kernel
theorem dX11_hungriest_0 : decode cX11_hungriest 0 = .ok (.iconst (-1), 1) := by decide +kernel
theorem dX11_hungriest_1 : decode cX11_hungriest 1 = .ok (.istore_n 1, 1) := by decide +kernel
theorem dX11_hungriest_2 : decode cX11_hungriest 2 = .ok (.iconst 0, 1) := by decide +kernel
theorem dX11_hungriest_3 : decode cX11_hungriest 3 = .ok (.istore_n 2, 1) := by decide +kernel
theorem dX11_hungriest_4 : decode cX11_hungriest 4 = .ok (.iconst 0, 1) := by decide +kernel
theorem dX11_hungriest_5 : decode cX11_hungriest 5 = .ok (.istore_n 3, 1) := by decide +kernel
theorem dX11_hungriest_6 : decode cX11_hungriest 6 = .ok (.iload_n 3, 1) := by decide +kernel
theorem dX11_hungriest_7 : decode cX11_hungriest 7 = .ok (.aload_n 0, 1) := by decide +kernel
theorem dX11_hungriest_8 : decode cX11_hungriest 8 = .ok (.getfield 19, 3) := by decide +kernel
theorem dX11_hungriest_11 : decode cX11_hungriest 11 = .ok (.getfield 200, 3) := by decide +kernel
theorem dX11_hungriest_14 : decode cX11_hungriest 14 = .ok (.if_icmp .ge 36, 3) := by decide +kernel
theorem dX11_hungriest_17 : decode cX11_hungriest 17 = .ok (.aload_n 0, 1) := by decide +kernel
theorem dX11_hungriest_18 : decode cX11_hungriest 18 = .ok (.getfield 19, 3) := by decide +kernel
theorem dX11_hungriest_21 : decode cX11_hungriest 21 = .ok (.bipush 6, 2) := by decide +kernel
theorem dX11_hungriest_23 : decode cX11_hungriest 23 = .ok (.iload_n 3, 1) := by decide +kernel
theorem dX11_hungriest_24 : decode cX11_hungriest 24 = .ok (.invokevirtual 138, 3) := by decide +kernel
theorem dX11_hungriest_27 : decode cX11_hungriest 27 = .ok (.iload_n 2, 1) := by decide +kernel
theorem dX11_hungriest_28 : decode cX11_hungriest 28 = .ok (.if_icmp .le 16, 3) := by decide +kernel
theorem dX11_hungriest_31 : decode cX11_hungriest 31 = .ok (.aload_n 0, 1) := by decide +kernel
theorem dX11_hungriest_32 : decode cX11_hungriest 32 = .ok (.getfield 19, 3) := by decide +kernel
theorem dX11_hungriest_35 : decode cX11_hungriest 35 = .ok (.bipush 6, 2) := by decide +kernel
theorem dX11_hungriest_37 : decode cX11_hungriest 37 = .ok (.iload_n 3, 1) := by decide +kernel
theorem dX11_hungriest_38 : decode cX11_hungriest 38 = .ok (.invokevirtual 138, 3) := by decide +kernel
theorem dX11_hungriest_41 : decode cX11_hungriest 41 = .ok (.istore_n 2, 1) := by decide +kernel
theorem dX11_hungriest_42 : decode cX11_hungriest 42 = .ok (.iload_n 3, 1) := by decide +kernel
theorem dX11_hungriest_43 : decode cX11_hungriest 43 = .ok (.istore_n 1, 1) := by decide +kernel
theorem dX11_hungriest_44 : decode cX11_hungriest 44 = .ok (.iinc 3 1, 3) := by decide +kernel
theorem dX11_hungriest_47 : decode cX11_hungriest 47 = .ok (.goto (-41), 3) := by decide +kernel
theorem dX11_hungriest_50 : decode cX11_hungriest 50 = .ok (.iload_n 1, 1) := by decide +kernel
theorem dX11_hungriest_51 : decode cX11_hungriest 51 = .ok (.ireturn, 1) := by decide +kernel
theorem dX11_alike_0 : decode cX11_alike 0 = .ok (.iconst 0, 1) := by decide +kernel
theorem dX11_alike_1 : decode cX11_alike 1 = .ok (.istore_n 1, 1) := by decide +kernel
theorem dX11_alike_2 : decode cX11_alike 2 = .ok (.iconst 0, 1) := by decide +kernel
theorem dX11_alike_3 : decode cX11_alike 3 = .ok (.istore_n 2, 1) := by decide +kernel
theorem dX11_alike_4 : decode cX11_alike 4 = .ok (.iload_n 2, 1) := by decide +kernel
theorem dX11_alike_5 : decode cX11_alike 5 = .ok (.aload_n 0, 1) := by decide +kernel
theorem dX11_alike_6 : decode cX11_alike 6 = .ok (.getfield 19, 3) := by decide +kernel
theorem dX11_alike_9 : decode cX11_alike 9 = .ok (.getfield 200, 3) := by decide +kernel
theorem dX11_alike_12 : decode cX11_alike 12 = .ok (.if_icmp .ge 67, 3) := by decide +kernel
theorem dX11_alike_15 : decode cX11_alike 15 = .ok (.iconst 0, 1) := by decide +kernel
theorem dX11_alike_16 : decode cX11_alike 16 = .ok (.istore_n 3, 1) := by decide +kernel
theorem dX11_alike_17 : decode cX11_alike 17 = .ok (.iload_n 3, 1) := by decide +kernel
theorem dX11_alike_18 : decode cX11_alike 18 = .ok (.iload_n 2, 1) := by decide +kernel
theorem dX11_alike_19 : decode cX11_alike 19 = .ok (.if_icmp .ge 54, 3) := by decide +kernel
theorem dX11_alike_22 : decode cX11_alike 22 = .ok (.aload_n 0, 1) := by decide +kernel
theorem dX11_alike_23 : decode cX11_alike 23 = .ok (.getfield 19, 3) := by decide +kernel
theorem dX11_alike_26 : decode cX11_alike 26 = .ok (.iconst 1, 1) := by decide +kernel
theorem dX11_alike_27 : decode cX11_alike 27 = .ok (.iload_n 2, 1) := by decide +kernel
theorem dX11_alike_28 : decode cX11_alike 28 = .ok (.invokevirtual 138, 3) := by decide +kernel
theorem dX11_alike_31 : decode cX11_alike 31 = .ok (.aload_n 0, 1) := by decide +kernel
theorem dX11_alike_32 : decode cX11_alike 32 = .ok (.getfield 19, 3) := by decide +kernel
theorem dX11_alike_35 : decode cX11_alike 35 = .ok (.iconst 1, 1) := by decide +kernel
theorem dX11_alike_36 : decode cX11_alike 36 = .ok (.iload_n 3, 1) := by decide +kernel
theorem dX11_alike_37 : decode cX11_alike 37 = .ok (.invokevirtual 138, 3) := by decide +kernel
theorem dX11_alike_40 : decode cX11_alike 40 = .ok (.if_icmp .ne 27, 3) := by decide +kernel
theorem dX11_alike_43 : decode cX11_alike 43 = .ok (.aload_n 0, 1) := by decide +kernel
theorem dX11_alike_44 : decode cX11_alike 44 = .ok (.getfield 19, 3) := by decide +kernel
theorem dX11_alike_47 : decode cX11_alike 47 = .ok (.iconst 0, 1) := by decide +kernel
theorem dX11_alike_48 : decode cX11_alike 48 = .ok (.iload_n 2, 1) := by decide +kernel
theorem dX11_alike_49 : decode cX11_alike 49 = .ok (.invokevirtual 138, 3) := by decide +kernel
theorem dX11_alike_52 : decode cX11_alike 52 = .ok (.aload_n 0, 1) := by decide +kernel
theorem dX11_alike_53 : decode cX11_alike 53 = .ok (.getfield 19, 3) := by decide +kernel
theorem dX11_alike_56 : decode cX11_alike 56 = .ok (.iconst 0, 1) := by decide +kernel
theorem dX11_alike_57 : decode cX11_alike 57 = .ok (.iload_n 3, 1) := by decide +kernel
theorem dX11_alike_58 : decode cX11_alike 58 = .ok (.invokevirtual 138, 3) := by decide +kernel
theorem dX11_alike_61 : decode cX11_alike 61 = .ok (.if_icmp .ne 6, 3) := by decide +kernel
theorem dX11_alike_64 : decode cX11_alike 64 = .ok (.iinc 1 1, 3) := by decide +kernel
theorem dX11_alike_67 : decode cX11_alike 67 = .ok (.iinc 3 1, 3) := by decide +kernel
theorem dX11_alike_70 : decode cX11_alike 70 = .ok (.goto (-53), 3) := by decide +kernel
theorem dX11_alike_73 : decode cX11_alike 73 = .ok (.iinc 2 1, 3) := by decide +kernel
theorem dX11_alike_76 : decode cX11_alike 76 = .ok (.goto (-72), 3) := by decide +kernel
theorem dX11_alike_79 : decode cX11_alike 79 = .ok (.iload_n 1, 1) := by decide +kernel
theorem dX11_alike_80 : decode cX11_alike 80 = .ok (.ireturn, 1) := by decide +kernel
theorem dX11_ahead_0 : decode cX11_ahead 0 = .ok (.aload_n 0, 1) := by decide +kernel
theorem dX11_ahead_1 : decode cX11_ahead 1 = .ok (.iload_n 1, 1) := by decide +kernel
theorem dX11_ahead_2 : decode cX11_ahead 2 = .ok (.invokevirtual 128, 3) := by decide +kernel
theorem dX11_ahead_5 : decode cX11_ahead 5 = .ok (.iload_n 2, 1) := by decide +kernel
theorem dX11_ahead_6 : decode cX11_ahead 6 = .ok (.bipush 72, 2) := by decide +kernel
theorem dX11_ahead_8 : decode cX11_ahead 8 = .ok (.invokestatic 187, 3) := by decide +kernel
theorem dX11_ahead_11 : decode cX11_ahead 11 = .ok (.iload_n 3, 1) := by decide +kernel
theorem dX11_ahead_12 : decode cX11_ahead 12 = .ok (.ifCond .lt 8, 3) := by decide +kernel
theorem dX11_ahead_15 : decode cX11_ahead 15 = .ok (.iload_n 3, 1) := by decide +kernel
theorem dX11_ahead_16 : decode cX11_ahead 16 = .ok (.iconst 2, 1) := by decide +kernel
theorem dX11_ahead_17 : decode cX11_ahead 17 = .ok (.if_icmp .le 11, 3) := by decide +kernel
theorem dX11_ahead_20 : decode cX11_ahead 20 = .ok (.new 131, 3) := by decide +kernel
theorem dX11_ahead_23 : decode cX11_ahead 23 = .ok (.dup, 1) := by decide +kernel
theorem dX11_ahead_24 : decode cX11_ahead 24 = .ok (.invokespecial 133, 3) := by decide +kernel
theorem dX11_ahead_27 : decode cX11_ahead 27 = .ok (.athrow, 1) := by decide +kernel
theorem dX11_ahead_28 : decode cX11_ahead 28 = .ok (.aload_n 0, 1) := by decide +kernel
theorem dX11_ahead_29 : decode cX11_ahead 29 = .ok (.getfield 49, 3) := by decide +kernel
theorem dX11_ahead_32 : decode cX11_ahead 32 = .ok (.aload_n 0, 1) := by decide +kernel
theorem dX11_ahead_33 : decode cX11_ahead 33 = .ok (.getfield 19, 3) := by decide +kernel
theorem dX11_ahead_36 : decode cX11_ahead 36 = .ok (.invokevirtual 214, 3) := by decide +kernel
theorem dX11_ahead_39 : decode cX11_ahead 39 = .ok (.aload_n 0, 1) := by decide +kernel
theorem dX11_ahead_40 : decode cX11_ahead 40 = .ok (.getfield 49, 3) := by decide +kernel
theorem dX11_ahead_43 : decode cX11_ahead 43 = .ok (.aload_n 0, 1) := by decide +kernel
theorem dX11_ahead_44 : decode cX11_ahead 44 = .ok (.getfield 32, 3) := by decide +kernel
theorem dX11_ahead_47 : decode cX11_ahead 47 = .ok (.iload_n 2, 1) := by decide +kernel
theorem dX11_ahead_48 : decode cX11_ahead 48 = .ok (.iconst 0, 1) := by decide +kernel
theorem dX11_ahead_49 : decode cX11_ahead 49 = .ok (.invokevirtual 332, 3) := by decide +kernel
theorem dX11_ahead_52 : decode cX11_ahead 52 = .ok (.iload_n 3, 1) := by decide +kernel
theorem dX11_ahead_53 : decode cX11_ahead 53 = .ok (.ifCond .ne 7, 3) := by decide +kernel
theorem dX11_ahead_56 : decode cX11_ahead 56 = .ok (.iconst 0, 1) := by decide +kernel
theorem dX11_ahead_57 : decode cX11_ahead 57 = .ok (.goto 14, 3) := by decide +kernel
theorem dX11_ahead_60 : decode cX11_ahead 60 = .ok (.iload_n 3, 1) := by decide +kernel
theorem dX11_ahead_61 : decode cX11_ahead 61 = .ok (.iconst 1, 1) := by decide +kernel
theorem dX11_ahead_62 : decode cX11_ahead 62 = .ok (.if_icmp .ne 7, 3) := by decide +kernel
theorem dX11_ahead_65 : decode cX11_ahead 65 = .ok (.iconst 5, 1) := by decide +kernel
theorem dX11_ahead_66 : decode cX11_ahead 66 = .ok (.goto 5, 3) := by decide +kernel
theorem dX11_ahead_69 : decode cX11_ahead 69 = .ok (.bipush 6, 2) := by decide +kernel
theorem dX11_ahead_71 : decode cX11_ahead 71 = .ok (.istore 4, 2) := by decide +kernel
theorem dX11_ahead_73 : decode cX11_ahead 73 = .ok (.aload_n 0, 1) := by decide +kernel
theorem dX11_ahead_74 : decode cX11_ahead 74 = .ok (.getfield 49, 3) := by decide +kernel
theorem dX11_ahead_77 : decode cX11_ahead 77 = .ok (.getfield 294, 3) := by decide +kernel
theorem dX11_ahead_80 : decode cX11_ahead 80 = .ok (.iload 4, 2) := by decide +kernel
theorem dX11_ahead_82 : decode cX11_ahead 82 = .ok (.iload_n 1, 1) := by decide +kernel
theorem dX11_ahead_83 : decode cX11_ahead 83 = .ok (.invokevirtual 138, 3) := by decide +kernel
theorem dX11_ahead_86 : decode cX11_ahead 86 = .ok (.ireturn, 1) := by decide +kernel
theorem dX11_trial_0 : decode cX11_trial 0 = .ok (.iload_n 1, 1) := by decide +kernel
theorem dX11_trial_1 : decode cX11_trial 1 = .ok (.bipush 72, 2) := by decide +kernel
theorem dX11_trial_3 : decode cX11_trial 3 = .ok (.invokestatic 187, 3) := by decide +kernel
theorem dX11_trial_6 : decode cX11_trial 6 = .ok (.aload_n 0, 1) := by decide +kernel
theorem dX11_trial_7 : decode cX11_trial 7 = .ok (.getfield 49, 3) := by decide +kernel
theorem dX11_trial_10 : decode cX11_trial 10 = .ok (.aload_n 0, 1) := by decide +kernel
theorem dX11_trial_11 : decode cX11_trial 11 = .ok (.getfield 19, 3) := by decide +kernel
theorem dX11_trial_14 : decode cX11_trial 14 = .ok (.invokevirtual 214, 3) := by decide +kernel
theorem dX11_trial_17 : decode cX11_trial 17 = .ok (.aload_n 0, 1) := by decide +kernel
theorem dX11_trial_18 : decode cX11_trial 18 = .ok (.getfield 49, 3) := by decide +kernel
theorem dX11_trial_21 : decode cX11_trial 21 = .ok (.aload_n 0, 1) := by decide +kernel
theorem dX11_trial_22 : decode cX11_trial 22 = .ok (.getfield 32, 3) := by decide +kernel
theorem dX11_trial_25 : decode cX11_trial 25 = .ok (.iload_n 1, 1) := by decide +kernel
theorem dX11_trial_26 : decode cX11_trial 26 = .ok (.iconst 1, 1) := by decide +kernel
theorem dX11_trial_27 : decode cX11_trial 27 = .ok (.invokevirtual 332, 3) := by decide +kernel
theorem dX11_trial_30 : decode cX11_trial 30 = .ok (.iload_n 2, 1) := by decide +kernel
theorem dX11_trial_31 : decode cX11_trial 31 = .ok (.ifCond .eq 16, 3) := by decide +kernel
theorem dX11_trial_34 : decode cX11_trial 34 = .ok (.aload_n 0, 1) := by decide +kernel
theorem dX11_trial_35 : decode cX11_trial 35 = .ok (.getfield 49, 3) := by decide +kernel
theorem dX11_trial_38 : decode cX11_trial 38 = .ok (.getfield 294, 3) := by decide +kernel
theorem dX11_trial_41 : decode cX11_trial 41 = .ok (.getfield 191, 3) := by decide +kernel
theorem dX11_trial_44 : decode cX11_trial 44 = .ok (.goto 14, 3) := by decide +kernel
theorem dX11_trial_47 : decode cX11_trial 47 = .ok (.aload_n 0, 1) := by decide +kernel
theorem dX11_trial_48 : decode cX11_trial 48 = .ok (.getfield 49, 3) := by decide +kernel
theorem dX11_trial_51 : decode cX11_trial 51 = .ok (.getfield 294, 3) := by decide +kernel
theorem dX11_trial_54 : decode cX11_trial 54 = .ok (.iconst 5, 1) := by decide +kernel
theorem dX11_trial_55 : decode cX11_trial 55 = .ok (.invokevirtual 336, 3) := by decide +kernel
theorem dX11_trial_58 : decode cX11_trial 58 = .ok (.ireturn, 1) := by decide +kernel
theorem dX11_span_0 : decode cX11_span 0 = .ok (.iload_n 1, 1) := by decide +kernel
theorem dX11_span_1 : decode cX11_span 1 = .ok (.bipush 72, 2) := by decide +kernel
theorem dX11_span_3 : decode cX11_span 3 = .ok (.invokestatic 187, 3) := by decide +kernel
theorem dX11_span_6 : decode cX11_span 6 = .ok (.aload_n 0, 1) := by decide +kernel
theorem dX11_span_7 : decode cX11_span 7 = .ok (.getfield 49, 3) := by decide +kernel
theorem dX11_span_10 : decode cX11_span 10 = .ok (.aload_n 0, 1) := by decide +kernel
theorem dX11_span_11 : decode cX11_span 11 = .ok (.getfield 19, 3) := by decide +kernel
theorem dX11_span_14 : decode cX11_span 14 = .ok (.aload_n 0, 1) := by decide +kernel
theorem dX11_span_15 : decode cX11_span 15 = .ok (.getfield 32, 3) := by decide +kernel
theorem dX11_span_18 : decode cX11_span 18 = .ok (.iload_n 1, 1) := by decide +kernel
theorem dX11_span_19 : decode cX11_span 19 = .ok (.iload_n 2, 1) := by decide +kernel
theorem dX11_span_20 : decode cX11_span 20 = .ok (.invokevirtual 339, 3) := by decide +kernel
theorem dX11_span_23 : decode cX11_span 23 = .ok (.ireturn, 1) := by decide +kernel
theorem dX11_led_0 : decode cX11_led 0 = .ok (.aload_n 0, 1) := by decide +kernel
theorem dX11_led_1 : decode cX11_led 1 = .ok (.iload_n 1, 1) := by decide +kernel
theorem dX11_led_2 : decode cX11_led 2 = .ok (.invokevirtual 128, 3) := by decide +kernel
theorem dX11_led_5 : decode cX11_led 5 = .ok (.iload_n 2, 1) := by decide +kernel
theorem dX11_led_6 : decode cX11_led 6 = .ok (.ifCond .eq 17, 3) := by decide +kernel
theorem dX11_led_9 : decode cX11_led 9 = .ok (.aload_n 0, 1) := by decide +kernel
theorem dX11_led_10 : decode cX11_led 10 = .ok (.getfield 19, 3) := by decide +kernel
theorem dX11_led_13 : decode cX11_led 13 = .ok (.getfield 343, 3) := by decide +kernel
theorem dX11_led_16 : decode cX11_led 16 = .ok (.iload_n 1, 1) := by decide +kernel
theorem dX11_led_17 : decode cX11_led 17 = .ok (.invokevirtual 347, 3) := by decide +kernel
theorem dX11_led_20 : decode cX11_led 20 = .ok (.goto 14, 3) := by decide +kernel
theorem dX11_led_23 : decode cX11_led 23 = .ok (.aload_n 0, 1) := by decide +kernel
theorem dX11_led_24 : decode cX11_led 24 = .ok (.getfield 19, 3) := by decide +kernel
theorem dX11_led_27 : decode cX11_led 27 = .ok (.getfield 343, 3) := by decide +kernel
theorem dX11_led_30 : decode cX11_led 30 = .ok (.iload_n 1, 1) := by decide +kernel
theorem dX11_led_31 : decode cX11_led 31 = .ok (.invokevirtual 352, 3) := by decide +kernel
theorem dX11_led_34 : decode cX11_led 34 = .ok (.ireturn, 1) := by decide +kernel
theorem dX11_log_0 : decode cX11_log 0 = .ok (.iload_n 2, 1) := by decide +kernel
theorem dX11_log_1 : decode cX11_log 1 = .ok (.ifCond .lt 8, 3) := by decide +kernel
theorem dX11_log_4 : decode cX11_log 4 = .ok (.iload_n 2, 1) := by decide +kernel
theorem dX11_log_5 : decode cX11_log 5 = .ok (.iconst 4, 1) := by decide +kernel
theorem dX11_log_6 : decode cX11_log 6 = .ok (.if_icmp .le 11, 3) := by decide +kernel
theorem dX11_log_9 : decode cX11_log 9 = .ok (.new 131, 3) := by decide +kernel
theorem dX11_log_12 : decode cX11_log 12 = .ok (.dup, 1) := by decide +kernel
theorem dX11_log_13 : decode cX11_log 13 = .ok (.invokespecial 133, 3) := by decide +kernel
theorem dX11_log_16 : decode cX11_log 16 = .ok (.athrow, 1) := by decide +kernel
theorem dX11_log_17 : decode cX11_log 17 = .ok (.aload_n 0, 1) := by decide +kernel
theorem dX11_log_18 : decode cX11_log 18 = .ok (.getfield 19, 3) := by decide +kernel
theorem dX11_log_21 : decode cX11_log 21 = .ok (.getfield 343, 3) := by decide +kernel
theorem dX11_log_24 : decode cX11_log 24 = .ok (.iload_n 1, 1) := by decide +kernel
theorem dX11_log_25 : decode cX11_log 25 = .ok (.iload_n 2, 1) := by decide +kernel
theorem dX11_log_26 : decode cX11_log 26 = .ok (.invokevirtual 355, 3) := by decide +kernel
theorem dX11_log_29 : decode cX11_log 29 = .ok (.ireturn, 1) := by decide +kernel
theorem dX11_seed_0 : decode cX11_seed 0 = .ok (.aload_n 0, 1) := by decide +kernel
theorem dX11_seed_1 : decode cX11_seed 1 = .ok (.getfield 19, 3) := by decide +kernel
theorem dX11_seed_4 : decode cX11_seed 4 = .ok (.getfield 358, 3) := by decide +kernel
theorem dX11_seed_7 : decode cX11_seed 7 = .ok (.istore_n 2, 1) := by decide +kernel
theorem dX11_seed_8 : decode cX11_seed 8 = .ok (.aload_n 0, 1) := by decide +kernel
theorem dX11_seed_9 : decode cX11_seed 9 = .ok (.getfield 19, 3) := by decide +kernel
theorem dX11_seed_12 : decode cX11_seed 12 = .ok (.iload_n 1, 1) := by decide +kernel
theorem dX11_seed_13 : decode cX11_seed 13 = .ok (.putfield 358, 3) := by decide +kernel
theorem dX11_seed_16 : decode cX11_seed 16 = .ok (.iload_n 2, 1) := by decide +kernel
theorem dX11_seed_17 : decode cX11_seed 17 = .ok (.ireturn, 1) := by decide +kernel
theorem dX11_undo_0 : decode cX11_undo 0 = .ok (.aload_n 0, 1) := by decide +kernel
theorem dX11_undo_1 : decode cX11_undo 1 = .ok (.getfield 114, 3) := by decide +kernel
theorem dX11_undo_4 : decode cX11_undo 4 = .ok (.ifCond .gt 5, 3) := by decide +kernel
theorem dX11_undo_7 : decode cX11_undo 7 = .ok (.iconst 0, 1) := by decide +kernel
theorem dX11_undo_8 : decode cX11_undo 8 = .ok (.ireturn, 1) := by decide +kernel
theorem dX11_undo_9 : decode cX11_undo 9 = .ok (.aload_n 0, 1) := by decide +kernel
theorem dX11_undo_10 : decode cX11_undo 10 = .ok (.dup, 1) := by decide +kernel
theorem dX11_undo_11 : decode cX11_undo 11 = .ok (.getfield 114, 3) := by decide +kernel
theorem dX11_undo_14 : decode cX11_undo 14 = .ok (.iconst 1, 1) := by decide +kernel
theorem dX11_undo_15 : decode cX11_undo 15 = .ok (.isub, 1) := by decide +kernel
theorem dX11_undo_16 : decode cX11_undo 16 = .ok (.putfield 114, 3) := by decide +kernel
theorem dX11_undo_19 : decode cX11_undo 19 = .ok (.aload_n 0, 1) := by decide +kernel
theorem dX11_undo_20 : decode cX11_undo 20 = .ok (.aload_n 0, 1) := by decide +kernel
theorem dX11_undo_21 : decode cX11_undo 21 = .ok (.getfield 114, 3) := by decide +kernel
theorem dX11_undo_24 : decode cX11_undo 24 = .ok (.invokevirtual 361, 3) := by decide +kernel
theorem dX11_undo_27 : decode cX11_undo 27 = .ok (.astore_n 1, 1) := by decide +kernel
theorem dX11_undo_28 : decode cX11_undo 28 = .ok (.aload_n 1, 1) := by decide +kernel
theorem dX11_undo_29 : decode cX11_undo 29 = .ok (.ifnull 11, 3) := by decide +kernel
theorem dX11_undo_32 : decode cX11_undo 32 = .ok (.aload_n 0, 1) := by decide +kernel
theorem dX11_undo_33 : decode cX11_undo 33 = .ok (.getfield 19, 3) := by decide +kernel
theorem dX11_undo_36 : decode cX11_undo 36 = .ok (.aload_n 1, 1) := by decide +kernel
theorem dX11_undo_37 : decode cX11_undo 37 = .ok (.invokevirtual 92, 3) := by decide +kernel
theorem dX11_undo_40 : decode cX11_undo 40 = .ok (.iconst 1, 1) := by decide +kernel
theorem dX11_undo_41 : decode cX11_undo 41 = .ok (.ireturn, 1) := by decide +kernel
theorem dX11_image_0 : decode cX11_image 0 = .ok (.aload_n 0, 1) := by decide +kernel
theorem dX11_image_1 : decode cX11_image 1 = .ok (.getfield 26, 3) := by decide +kernel
theorem dX11_image_4 : decode cX11_image 4 = .ok (.aload_n 0, 1) := by decide +kernel
theorem dX11_image_5 : decode cX11_image 5 = .ok (.getfield 19, 3) := by decide +kernel
theorem dX11_image_8 : decode cX11_image 8 = .ok (.invokevirtual 92, 3) := by decide +kernel
theorem dX11_image_11 : decode cX11_image 11 = .ok (.aload_n 0, 1) := by decide +kernel
theorem dX11_image_12 : decode cX11_image 12 = .ok (.getfield 39, 3) := by decide +kernel
theorem dX11_image_15 : decode cX11_image 15 = .ok (.aload_n 0, 1) := by decide +kernel
theorem dX11_image_16 : decode cX11_image 16 = .ok (.getfield 32, 3) := by decide +kernel
theorem dX11_image_19 : decode cX11_image 19 = .ok (.invokevirtual 122, 3) := by decide +kernel
theorem dX11_image_22 : decode cX11_image 22 = .ok (.aload_n 0, 1) := by decide +kernel
theorem dX11_image_23 : decode cX11_image 23 = .ok (.iconst 1, 1) := by decide +kernel
theorem dX11_image_24 : decode cX11_image 24 = .ok (.putfield 365, 3) := by decide +kernel
theorem dX11_image_27 : decode cX11_image 27 = .ok (.return_, 1) := by decide +kernel
theorem dX11_back_0 : decode cX11_back 0 = .ok (.aload_n 0, 1) := by decide +kernel
theorem dX11_back_1 : decode cX11_back 1 = .ok (.getfield 365, 3) := by decide +kernel
theorem dX11_back_4 : decode cX11_back 4 = .ok (.ifCond .ne 5, 3) := by decide +kernel
theorem dX11_back_7 : decode cX11_back 7 = .ok (.iconst 0, 1) := by decide +kernel
theorem dX11_back_8 : decode cX11_back 8 = .ok (.ireturn, 1) := by decide +kernel
theorem dX11_back_9 : decode cX11_back 9 = .ok (.aload_n 0, 1) := by decide +kernel
theorem dX11_back_10 : decode cX11_back 10 = .ok (.getfield 19, 3) := by decide +kernel
theorem dX11_back_13 : decode cX11_back 13 = .ok (.aload_n 0, 1) := by decide +kernel
theorem dX11_back_14 : decode cX11_back 14 = .ok (.getfield 26, 3) := by decide +kernel
theorem dX11_back_17 : decode cX11_back 17 = .ok (.invokevirtual 92, 3) := by decide +kernel
theorem dX11_back_20 : decode cX11_back 20 = .ok (.aload_n 0, 1) := by decide +kernel
theorem dX11_back_21 : decode cX11_back 21 = .ok (.getfield 32, 3) := by decide +kernel
theorem dX11_back_24 : decode cX11_back 24 = .ok (.aload_n 0, 1) := by decide +kernel
theorem dX11_back_25 : decode cX11_back 25 = .ok (.getfield 39, 3) := by decide +kernel
theorem dX11_back_28 : decode cX11_back 28 = .ok (.invokevirtual 122, 3) := by decide +kernel
theorem dX11_back_31 : decode cX11_back 31 = .ok (.aload_n 0, 1) := by decide +kernel
theorem dX11_back_32 : decode cX11_back 32 = .ok (.iconst 0, 1) := by decide +kernel
theorem dX11_back_33 : decode cX11_back 33 = .ok (.putfield 114, 3) := by decide +kernel
theorem dX11_back_36 : decode cX11_back 36 = .ok (.iconst 1, 1) := by decide +kernel
theorem dX11_back_37 : decode cX11_back 37 = .ok (.ireturn, 1) := by decide +kernel
theorem dX11_count_0 : decode cX11_count 0 = .ok (.iload_n 1, 1) := by decide +kernel
theorem dX11_count_1 : decode cX11_count 1 = .ok (.tableswitch 172 0 12 #[67, 75, 83, 91, 99, 107, 115, 123, 131, 139, 147, 156, 167], 67) := by decide +kernel
theorem dX11_count_68 : decode cX11_count 68 = .ok (.aload_n 0, 1) := by decide +kernel
theorem dX11_count_69 : decode cX11_count 69 = .ok (.getfield 19, 3) := by decide +kernel
theorem dX11_count_72 : decode cX11_count 72 = .ok (.getfield 200, 3) := by decide +kernel
theorem dX11_count_75 : decode cX11_count 75 = .ok (.ireturn, 1) := by decide +kernel
theorem dX11_count_76 : decode cX11_count 76 = .ok (.aload_n 0, 1) := by decide +kernel
theorem dX11_count_77 : decode cX11_count 77 = .ok (.getfield 19, 3) := by decide +kernel
theorem dX11_count_80 : decode cX11_count 80 = .ok (.getfield 108, 3) := by decide +kernel
theorem dX11_count_83 : decode cX11_count 83 = .ok (.ireturn, 1) := by decide +kernel
theorem dX11_count_84 : decode cX11_count 84 = .ok (.aload_n 0, 1) := by decide +kernel
theorem dX11_count_85 : decode cX11_count 85 = .ok (.getfield 32, 3) := by decide +kernel
theorem dX11_count_88 : decode cX11_count 88 = .ok (.getfield 125, 3) := by decide +kernel
theorem dX11_count_91 : decode cX11_count 91 = .ok (.ireturn, 1) := by decide +kernel
theorem dX11_count_92 : decode cX11_count 92 = .ok (.aload_n 0, 1) := by decide +kernel
theorem dX11_count_93 : decode cX11_count 93 = .ok (.getfield 19, 3) := by decide +kernel
theorem dX11_count_96 : decode cX11_count 96 = .ok (.getfield 369, 3) := by decide +kernel
theorem dX11_count_99 : decode cX11_count 99 = .ok (.ireturn, 1) := by decide +kernel
theorem dX11_count_100 : decode cX11_count 100 = .ok (.aload_n 0, 1) := by decide +kernel
theorem dX11_count_101 : decode cX11_count 101 = .ok (.getfield 19, 3) := by decide +kernel
theorem dX11_count_104 : decode cX11_count 104 = .ok (.getfield 372, 3) := by decide +kernel
theorem dX11_count_107 : decode cX11_count 107 = .ok (.ireturn, 1) := by decide +kernel
theorem dX11_count_108 : decode cX11_count 108 = .ok (.aload_n 0, 1) := by decide +kernel
theorem dX11_count_109 : decode cX11_count 109 = .ok (.getfield 19, 3) := by decide +kernel
theorem dX11_count_112 : decode cX11_count 112 = .ok (.getfield 184, 3) := by decide +kernel
theorem dX11_count_115 : decode cX11_count 115 = .ok (.ireturn, 1) := by decide +kernel
theorem dX11_count_116 : decode cX11_count 116 = .ok (.aload_n 0, 1) := by decide +kernel
theorem dX11_count_117 : decode cX11_count 117 = .ok (.getfield 19, 3) := by decide +kernel
theorem dX11_count_120 : decode cX11_count 120 = .ok (.getfield 191, 3) := by decide +kernel
theorem dX11_count_123 : decode cX11_count 123 = .ok (.ireturn, 1) := by decide +kernel
theorem dX11_count_124 : decode cX11_count 124 = .ok (.aload_n 0, 1) := by decide +kernel
theorem dX11_count_125 : decode cX11_count 125 = .ok (.getfield 19, 3) := by decide +kernel
theorem dX11_count_128 : decode cX11_count 128 = .ok (.getfield 375, 3) := by decide +kernel
theorem dX11_count_131 : decode cX11_count 131 = .ok (.ireturn, 1) := by decide +kernel
theorem dX11_count_132 : decode cX11_count 132 = .ok (.aload_n 0, 1) := by decide +kernel
theorem dX11_count_133 : decode cX11_count 133 = .ok (.getfield 19, 3) := by decide +kernel
theorem dX11_count_136 : decode cX11_count 136 = .ok (.getfield 181, 3) := by decide +kernel
theorem dX11_count_139 : decode cX11_count 139 = .ok (.ireturn, 1) := by decide +kernel
theorem dX11_count_140 : decode cX11_count 140 = .ok (.aload_n 0, 1) := by decide +kernel
theorem dX11_count_141 : decode cX11_count 141 = .ok (.getfield 19, 3) := by decide +kernel
theorem dX11_count_144 : decode cX11_count 144 = .ok (.invokevirtual 378, 3) := by decide +kernel
theorem dX11_count_147 : decode cX11_count 147 = .ok (.ireturn, 1) := by decide +kernel
theorem dX11_count_148 : decode cX11_count 148 = .ok (.aload_n 0, 1) := by decide +kernel
theorem dX11_count_149 : decode cX11_count 149 = .ok (.getfield 19, 3) := by decide +kernel
theorem dX11_count_152 : decode cX11_count 152 = .ok (.iconst 5, 1) := by decide +kernel
theorem dX11_count_153 : decode cX11_count 153 = .ok (.invokevirtual 336, 3) := by decide +kernel
theorem dX11_count_156 : decode cX11_count 156 = .ok (.ireturn, 1) := by decide +kernel
theorem dX11_count_157 : decode cX11_count 157 = .ok (.aload_n 0, 1) := by decide +kernel
theorem dX11_count_158 : decode cX11_count 158 = .ok (.getfield 19, 3) := by decide +kernel
theorem dX11_count_161 : decode cX11_count 161 = .ok (.getfield 343, 3) := by decide +kernel
theorem dX11_count_164 : decode cX11_count 164 = .ok (.getfield 381, 3) := by decide +kernel
theorem dX11_count_167 : decode cX11_count 167 = .ok (.ireturn, 1) := by decide +kernel
theorem dX11_count_168 : decode cX11_count 168 = .ok (.aload_n 0, 1) := by decide +kernel
theorem dX11_count_169 : decode cX11_count 169 = .ok (.getfield 114, 3) := by decide +kernel
theorem dX11_count_172 : decode cX11_count 172 = .ok (.ireturn, 1) := by decide +kernel
theorem dX11_count_173 : decode cX11_count 173 = .ok (.iconst (-1), 1) := by decide +kernel
theorem dX11_count_174 : decode cX11_count 174 = .ok (.ireturn, 1) := by decide +kernel
theorem dX11_needMonk_0 : decode cX11_needMonk 0 = .ok (.iload_n 1, 1) := by decide +kernel
theorem dX11_needMonk_1 : decode cX11_needMonk 1 = .ok (.ifCond .lt 14, 3) := by decide +kernel
theorem dX11_needMonk_4 : decode cX11_needMonk 4 = .ok (.iload_n 1, 1) := by decide +kernel
theorem dX11_needMonk_5 : decode cX11_needMonk 5 = .ok (.aload_n 0, 1) := by decide +kernel
theorem dX11_needMonk_6 : decode cX11_needMonk 6 = .ok (.getfield 19, 3) := by decide +kernel
theorem dX11_needMonk_9 : decode cX11_needMonk 9 = .ok (.getfield 200, 3) := by decide +kernel
theorem dX11_needMonk_12 : decode cX11_needMonk 12 = .ok (.if_icmp .lt 11, 3) := by decide +kernel
theorem dX11_needMonk_15 : decode cX11_needMonk 15 = .ok (.new 256, 3) := by decide +kernel
theorem dX11_needMonk_18 : decode cX11_needMonk 18 = .ok (.dup, 1) := by decide +kernel
theorem dX11_needMonk_19 : decode cX11_needMonk 19 = .ok (.invokespecial 258, 3) := by decide +kernel
theorem dX11_needMonk_22 : decode cX11_needMonk 22 = .ok (.athrow, 1) := by decide +kernel
theorem dX11_needMonk_23 : decode cX11_needMonk 23 = .ok (.return_, 1) := by decide +kernel
theorem dX11_needTwo_0 : decode cX11_needTwo 0 = .ok (.aload_n 0, 1) := by decide +kernel
theorem dX11_needTwo_1 : decode cX11_needTwo 1 = .ok (.iload_n 1, 1) := by decide +kernel
theorem dX11_needTwo_2 : decode cX11_needTwo 2 = .ok (.invokevirtual 128, 3) := by decide +kernel
theorem dX11_needTwo_5 : decode cX11_needTwo 5 = .ok (.aload_n 0, 1) := by decide +kernel
theorem dX11_needTwo_6 : decode cX11_needTwo 6 = .ok (.iload_n 2, 1) := by decide +kernel
theorem dX11_needTwo_7 : decode cX11_needTwo 7 = .ok (.invokevirtual 128, 3) := by decide +kernel
theorem dX11_needTwo_10 : decode cX11_needTwo 10 = .ok (.iload_n 1, 1) := by decide +kernel
theorem dX11_needTwo_11 : decode cX11_needTwo 11 = .ok (.iload_n 2, 1) := by decide +kernel
theorem dX11_needTwo_12 : decode cX11_needTwo 12 = .ok (.if_icmp .ne 11, 3) := by decide +kernel
theorem dX11_needTwo_15 : decode cX11_needTwo 15 = .ok (.new 105, 3) := by decide +kernel
theorem dX11_needTwo_18 : decode cX11_needTwo 18 = .ok (.dup, 1) := by decide +kernel
theorem dX11_needTwo_19 : decode cX11_needTwo 19 = .ok (.invokespecial 107, 3) := by decide +kernel
theorem dX11_needTwo_22 : decode cX11_needTwo 22 = .ok (.athrow, 1) := by decide +kernel
theorem dX11_needTwo_23 : decode cX11_needTwo 23 = .ok (.return_, 1) := by decide +kernel
theorem dX11_needFlag_0 : decode cX11_needFlag 0 = .ok (.iload_n 0, 1) := by decide +kernel
theorem dX11_needFlag_1 : decode cX11_needFlag 1 = .ok (.ifCond .lt 9, 3) := by decide +kernel
theorem dX11_needFlag_4 : decode cX11_needFlag 4 = .ok (.iload_n 0, 1) := by decide +kernel
theorem dX11_needFlag_5 : decode cX11_needFlag 5 = .ok (.bipush 16, 2) := by decide +kernel
theorem dX11_needFlag_7 : decode cX11_needFlag 7 = .ok (.if_icmp .lt 11, 3) := by decide +kernel
theorem dX11_needFlag_10 : decode cX11_needFlag 10 = .ok (.new 256, 3) := by decide +kernel
theorem dX11_needFlag_13 : decode cX11_needFlag 13 = .ok (.dup, 1) := by decide +kernel
theorem dX11_needFlag_14 : decode cX11_needFlag 14 = .ok (.invokespecial 258, 3) := by decide +kernel
theorem dX11_needFlag_17 : decode cX11_needFlag 17 = .ok (.athrow, 1) := by decide +kernel
theorem dX11_needFlag_18 : decode cX11_needFlag 18 = .ok (.return_, 1) := by decide +kernel
theorem dX11_needWalk_0 : decode cX11_needWalk 0 = .ok (.iload_n 0, 1) := by decide +kernel
theorem dX11_needWalk_1 : decode cX11_needWalk 1 = .ok (.ifCond .lt 8, 3) := by decide +kernel
theorem dX11_needWalk_4 : decode cX11_needWalk 4 = .ok (.iload_n 0, 1) := by decide +kernel
theorem dX11_needWalk_5 : decode cX11_needWalk 5 = .ok (.iconst 4, 1) := by decide +kernel
theorem dX11_needWalk_6 : decode cX11_needWalk 6 = .ok (.if_icmp .lt 11, 3) := by decide +kernel
theorem dX11_needWalk_9 : decode cX11_needWalk 9 = .ok (.new 256, 3) := by decide +kernel
theorem dX11_needWalk_12 : decode cX11_needWalk 12 = .ok (.dup, 1) := by decide +kernel
theorem dX11_needWalk_13 : decode cX11_needWalk 13 = .ok (.invokespecial 258, 3) := by decide +kernel
theorem dX11_needWalk_16 : decode cX11_needWalk 16 = .ok (.athrow, 1) := by decide +kernel
theorem dX11_needWalk_17 : decode cX11_needWalk 17 = .ok (.return_, 1) := by decide +kernel
theorem dX11_needWithin_0 : decode cX11_needWithin 0 = .ok (.iload_n 0, 1) := by decide +kernel
theorem dX11_needWithin_1 : decode cX11_needWithin 1 = .ok (.ifCond .lt 8, 3) := by decide +kernel
theorem dX11_needWithin_4 : decode cX11_needWithin 4 = .ok (.iload_n 0, 1) := by decide +kernel
theorem dX11_needWithin_5 : decode cX11_needWithin 5 = .ok (.iload_n 1, 1) := by decide +kernel
theorem dX11_needWithin_6 : decode cX11_needWithin 6 = .ok (.if_icmp .le 11, 3) := by decide +kernel
theorem dX11_needWithin_9 : decode cX11_needWithin 9 = .ok (.new 105, 3) := by decide +kernel
theorem dX11_needWithin_12 : decode cX11_needWithin 12 = .ok (.dup, 1) := by decide +kernel
theorem dX11_needWithin_13 : decode cX11_needWithin 13 = .ok (.invokespecial 107, 3) := by decide +kernel
theorem dX11_needWithin_16 : decode cX11_needWithin 16 = .ok (.athrow, 1) := by decide +kernel
theorem dX11_needWithin_17 : decode cX11_needWithin 17 = .ok (.return_, 1) := by decide +kernel
theorem dX11_needRows_0 : decode cX11_needRows 0 = .ok (.aload_n 0, 1) := by decide +kernel
theorem dX11_needRows_1 : decode cX11_needRows 1 = .ok (.getfield 10, 3) := by decide +kernel
theorem dX11_needRows_4 : decode cX11_needRows 4 = .ok (.invokevirtual 102, 3) := by decide +kernel
theorem dX11_needRows_7 : decode cX11_needRows 7 = .ok (.iload_n 1, 1) := by decide +kernel
theorem dX11_needRows_8 : decode cX11_needRows 8 = .ok (.ifCond .ne 11, 3) := by decide +kernel
theorem dX11_needRows_11 : decode cX11_needRows 11 = .ok (.new 105, 3) := by decide +kernel
theorem dX11_needRows_14 : decode cX11_needRows 14 = .ok (.dup, 1) := by decide +kernel
theorem dX11_needRows_15 : decode cX11_needRows 15 = .ok (.invokespecial 107, 3) := by decide +kernel
theorem dX11_needRows_18 : decode cX11_needRows 18 = .ok (.athrow, 1) := by decide +kernel
theorem dX11_needRows_19 : decode cX11_needRows 19 = .ok (.return_, 1) := by decide +kernel
theorem dX11_remember_0 : decode cX11_remember 0 = .ok (.aload_n 0, 1) := by decide +kernel
theorem dX11_remember_1 : decode cX11_remember 1 = .ok (.getfield 114, 3) := by decide +kernel
theorem dX11_remember_4 : decode cX11_remember 4 = .ok (.bipush 12, 2) := by decide +kernel
theorem dX11_remember_6 : decode cX11_remember 6 = .ok (.if_icmp .lt 22, 3) := by decide +kernel
theorem dX11_remember_9 : decode cX11_remember 9 = .ok (.aload_n 0, 1) := by decide +kernel
theorem dX11_remember_10 : decode cX11_remember 10 = .ok (.aload_n 0, 1) := by decide +kernel
theorem dX11_remember_11 : decode cX11_remember 11 = .ok (.getfield 382, 3) := by decide +kernel
theorem dX11_remember_14 : decode cX11_remember 14 = .ok (.iconst 1, 1) := by decide +kernel
theorem dX11_remember_15 : decode cX11_remember 15 = .ok (.iadd, 1) := by decide +kernel
theorem dX11_remember_16 : decode cX11_remember 16 = .ok (.bipush 12, 2) := by decide +kernel
theorem dX11_remember_18 : decode cX11_remember 18 = .ok (.irem, 1) := by decide +kernel
theorem dX11_remember_19 : decode cX11_remember 19 = .ok (.putfield 382, 3) := by decide +kernel
theorem dX11_remember_22 : decode cX11_remember 22 = .ok (.aload_n 0, 1) := by decide +kernel
theorem dX11_remember_23 : decode cX11_remember 23 = .ok (.bipush 11, 2) := by decide +kernel
theorem dX11_remember_25 : decode cX11_remember 25 = .ok (.putfield 114, 3) := by decide +kernel
theorem dX11_remember_28 : decode cX11_remember 28 = .ok (.aload_n 0, 1) := by decide +kernel
theorem dX11_remember_29 : decode cX11_remember 29 = .ok (.aload_n 0, 1) := by decide +kernel
theorem dX11_remember_30 : decode cX11_remember 30 = .ok (.getfield 114, 3) := by decide +kernel
theorem dX11_remember_33 : decode cX11_remember 33 = .ok (.invokevirtual 361, 3) := by decide +kernel
theorem dX11_remember_36 : decode cX11_remember 36 = .ok (.astore_n 1, 1) := by decide +kernel
theorem dX11_remember_37 : decode cX11_remember 37 = .ok (.aload_n 1, 1) := by decide +kernel
theorem dX11_remember_38 : decode cX11_remember 38 = .ok (.ifnull 11, 3) := by decide +kernel
theorem dX11_remember_41 : decode cX11_remember 41 = .ok (.aload_n 1, 1) := by decide +kernel
theorem dX11_remember_42 : decode cX11_remember 42 = .ok (.aload_n 0, 1) := by decide +kernel
theorem dX11_remember_43 : decode cX11_remember 43 = .ok (.getfield 19, 3) := by decide +kernel
theorem dX11_remember_46 : decode cX11_remember 46 = .ok (.invokevirtual 92, 3) := by decide +kernel
theorem dX11_remember_49 : decode cX11_remember 49 = .ok (.aload_n 0, 1) := by decide +kernel
theorem dX11_remember_50 : decode cX11_remember 50 = .ok (.dup, 1) := by decide +kernel
theorem dX11_remember_51 : decode cX11_remember 51 = .ok (.getfield 114, 3) := by decide +kernel
theorem dX11_remember_54 : decode cX11_remember 54 = .ok (.iconst 1, 1) := by decide +kernel
theorem dX11_remember_55 : decode cX11_remember 55 = .ok (.iadd, 1) := by decide +kernel
theorem dX11_remember_56 : decode cX11_remember 56 = .ok (.putfield 114, 3) := by decide +kernel
theorem dX11_remember_59 : decode cX11_remember 59 = .ok (.return_, 1) := by decide +kernel
theorem dX11_actAt_0 : decode cX11_actAt 0 = .ok (.aload_n 0, 1) := by decide +kernel
theorem dX11_actAt_1 : decode cX11_actAt 1 = .ok (.getfield 382, 3) := by decide +kernel
theorem dX11_actAt_4 : decode cX11_actAt 4 = .ok (.iload_n 1, 1) := by decide +kernel
theorem dX11_actAt_5 : decode cX11_actAt 5 = .ok (.iadd, 1) := by decide +kernel
theorem dX11_actAt_6 : decode cX11_actAt 6 = .ok (.bipush 12, 2) := by decide +kernel
theorem dX11_actAt_8 : decode cX11_actAt 8 = .ok (.invokestatic 385, 3) := by decide +kernel
theorem dX11_actAt_11 : decode cX11_actAt 11 = .ok (.istore_n 2, 1) := by decide +kernel
theorem dX11_actAt_12 : decode cX11_actAt 12 = .ok (.iload_n 2, 1) := by decide +kernel
theorem dX11_actAt_13 : decode cX11_actAt 13 = .ok (.aload_n 0, 1) := by decide +kernel
theorem dX11_actAt_14 : decode cX11_actAt 14 = .ok (.getfield 42, 3) := by decide +kernel
theorem dX11_actAt_17 : decode cX11_actAt 17 = .ok (.arraylength, 1) := by decide +kernel
theorem dX11_actAt_18 : decode cX11_actAt 18 = .ok (.if_icmp .ge 12, 3) := by decide +kernel
theorem dX11_actAt_21 : decode cX11_actAt 21 = .ok (.aload_n 0, 1) := by decide +kernel
theorem dX11_actAt_22 : decode cX11_actAt 22 = .ok (.getfield 42, 3) := by decide +kernel
theorem dX11_actAt_25 : decode cX11_actAt 25 = .ok (.iload_n 2, 1) := by decide +kernel
theorem dX11_actAt_26 : decode cX11_actAt 26 = .ok (.aaload, 1) := by decide +kernel
theorem dX11_actAt_27 : decode cX11_actAt 27 = .ok (.goto 4, 3) := by decide +kernel
theorem dX11_actAt_30 : decode cX11_actAt 30 = .ok (.aconst_null, 1) := by decide +kernel
theorem dX11_actAt_31 : decode cX11_actAt 31 = .ok (.areturn, 1) := by decide +kernel
theorem dX11_copyRow_0 : decode cX11_copyRow 0 = .ok (.iconst 0, 1) := by decide +kernel
theorem dX11_copyRow_1 : decode cX11_copyRow 1 = .ok (.istore_n 2, 1) := by decide +kernel
theorem dX11_copyRow_2 : decode cX11_copyRow 2 = .ok (.iload_n 2, 1) := by decide +kernel
theorem dX11_copyRow_3 : decode cX11_copyRow 3 = .ok (.aload_n 0, 1) := by decide +kernel
theorem dX11_copyRow_4 : decode cX11_copyRow 4 = .ok (.arraylength, 1) := by decide +kernel
theorem dX11_copyRow_5 : decode cX11_copyRow 5 = .ok (.if_icmp .ge 21, 3) := by decide +kernel
theorem dX11_copyRow_8 : decode cX11_copyRow 8 = .ok (.iload_n 2, 1) := by decide +kernel
theorem dX11_copyRow_9 : decode cX11_copyRow 9 = .ok (.aload_n 1, 1) := by decide +kernel
theorem dX11_copyRow_10 : decode cX11_copyRow 10 = .ok (.arraylength, 1) := by decide +kernel
theorem dX11_copyRow_11 : decode cX11_copyRow 11 = .ok (.if_icmp .ge 15, 3) := by decide +kernel
theorem dX11_copyRow_14 : decode cX11_copyRow 14 = .ok (.aload_n 1, 1) := by decide +kernel
theorem dX11_copyRow_15 : decode cX11_copyRow 15 = .ok (.iload_n 2, 1) := by decide +kernel
theorem dX11_copyRow_16 : decode cX11_copyRow 16 = .ok (.aload_n 0, 1) := by decide +kernel
theorem dX11_copyRow_17 : decode cX11_copyRow 17 = .ok (.iload_n 2, 1) := by decide +kernel
theorem dX11_copyRow_18 : decode cX11_copyRow 18 = .ok (.iaload, 1) := by decide +kernel
theorem dX11_copyRow_19 : decode cX11_copyRow 19 = .ok (.iastore, 1) := by decide +kernel
theorem dX11_copyRow_20 : decode cX11_copyRow 20 = .ok (.iinc 2 1, 3) := by decide +kernel
theorem dX11_copyRow_23 : decode cX11_copyRow 23 = .ok (.goto (-21), 3) := by decide +kernel
theorem dX11_copyRow_26 : decode cX11_copyRow 26 = .ok (.return_, 1) := by decide +kernel
theorem dX11_holdsBit_0 : decode cX11_holdsBit 0 = .ok (.iload_n 0, 1) := by decide +kernel
theorem dX11_holdsBit_1 : decode cX11_holdsBit 1 = .ok (.iload_n 1, 1) := by decide +kernel
theorem dX11_holdsBit_2 : decode cX11_holdsBit 2 = .ok (.ishr, 1) := by decide +kernel
theorem dX11_holdsBit_3 : decode cX11_holdsBit 3 = .ok (.iconst 1, 1) := by decide +kernel
theorem dX11_holdsBit_4 : decode cX11_holdsBit 4 = .ok (.iand, 1) := by decide +kernel
theorem dX11_holdsBit_5 : decode cX11_holdsBit 5 = .ok (.ifCond .eq 7, 3) := by decide +kernel
theorem dX11_holdsBit_8 : decode cX11_holdsBit 8 = .ok (.iconst 1, 1) := by decide +kernel
theorem dX11_holdsBit_9 : decode cX11_holdsBit 9 = .ok (.goto 4, 3) := by decide +kernel
theorem dX11_holdsBit_12 : decode cX11_holdsBit 12 = .ok (.iconst 0, 1) := by decide +kernel
theorem dX11_holdsBit_13 : decode cX11_holdsBit 13 = .ok (.ireturn, 1) := by decide +kernel
theorem dX11_stepsApart_0 : decode cX11_stepsApart 0 = .ok (.iload_n 1, 1) := by decide +kernel
theorem dX11_stepsApart_1 : decode cX11_stepsApart 1 = .ok (.iload_n 0, 1) := by decide +kernel
theorem dX11_stepsApart_2 : decode cX11_stepsApart 2 = .ok (.isub, 1) := by decide +kernel
theorem dX11_stepsApart_3 : decode cX11_stepsApart 3 = .ok (.bipush 16, 2) := by decide +kernel
theorem dX11_stepsApart_5 : decode cX11_stepsApart 5 = .ok (.invokestatic 385, 3) := by decide +kernel
theorem dX11_stepsApart_8 : decode cX11_stepsApart 8 = .ok (.istore_n 2, 1) := by decide +kernel
theorem dX11_stepsApart_9 : decode cX11_stepsApart 9 = .ok (.iload_n 2, 1) := by decide +kernel
theorem dX11_stepsApart_10 : decode cX11_stepsApart 10 = .ok (.bipush 16, 2) := by decide +kernel
theorem dX11_stepsApart_12 : decode cX11_stepsApart 12 = .ok (.iload_n 2, 1) := by decide +kernel
theorem dX11_stepsApart_13 : decode cX11_stepsApart 13 = .ok (.isub, 1) := by decide +kernel
theorem dX11_stepsApart_14 : decode cX11_stepsApart 14 = .ok (.invokestatic 390, 3) := by decide +kernel
theorem dX11_stepsApart_17 : decode cX11_stepsApart 17 = .ok (.ireturn, 1) := by decide +kernel
theorem dJ6_bitCount_0f7a4_0 : decode cJ6_bitCount_0f7a4 0 = .ok (.iload_n 0, 1) := by decide +kernel
theorem dJ6_bitCount_0f7a4_1 : decode cJ6_bitCount_0f7a4 1 = .ok (.iload_n 0, 1) := by decide +kernel
theorem dJ6_bitCount_0f7a4_2 : decode cJ6_bitCount_0f7a4 2 = .ok (.iconst 1, 1) := by decide +kernel
theorem dJ6_bitCount_0f7a4_3 : decode cJ6_bitCount_0f7a4 3 = .ok (.iushr, 1) := by decide +kernel
theorem dJ6_bitCount_0f7a4_4 : decode cJ6_bitCount_0f7a4 4 = .ok (.ldc_w 265, 3) := by decide +kernel
theorem dJ6_bitCount_0f7a4_7 : decode cJ6_bitCount_0f7a4 7 = .ok (.iand, 1) := by decide +kernel
theorem dJ6_bitCount_0f7a4_8 : decode cJ6_bitCount_0f7a4 8 = .ok (.isub, 1) := by decide +kernel
theorem dJ6_bitCount_0f7a4_9 : decode cJ6_bitCount_0f7a4 9 = .ok (.istore_n 0, 1) := by decide +kernel
theorem dJ6_bitCount_0f7a4_10 : decode cJ6_bitCount_0f7a4 10 = .ok (.iload_n 0, 1) := by decide +kernel
theorem dJ6_bitCount_0f7a4_11 : decode cJ6_bitCount_0f7a4 11 = .ok (.ldc_w 266, 3) := by decide +kernel
theorem dJ6_bitCount_0f7a4_14 : decode cJ6_bitCount_0f7a4 14 = .ok (.iand, 1) := by decide +kernel
theorem dJ6_bitCount_0f7a4_15 : decode cJ6_bitCount_0f7a4 15 = .ok (.iload_n 0, 1) := by decide +kernel
theorem dJ6_bitCount_0f7a4_16 : decode cJ6_bitCount_0f7a4 16 = .ok (.iconst 2, 1) := by decide +kernel
theorem dJ6_bitCount_0f7a4_17 : decode cJ6_bitCount_0f7a4 17 = .ok (.iushr, 1) := by decide +kernel
theorem dJ6_bitCount_0f7a4_18 : decode cJ6_bitCount_0f7a4 18 = .ok (.ldc_w 266, 3) := by decide +kernel
theorem dJ6_bitCount_0f7a4_21 : decode cJ6_bitCount_0f7a4 21 = .ok (.iand, 1) := by decide +kernel
theorem dJ6_bitCount_0f7a4_22 : decode cJ6_bitCount_0f7a4 22 = .ok (.iadd, 1) := by decide +kernel
theorem dJ6_bitCount_0f7a4_23 : decode cJ6_bitCount_0f7a4 23 = .ok (.istore_n 0, 1) := by decide +kernel
theorem dJ6_bitCount_0f7a4_24 : decode cJ6_bitCount_0f7a4 24 = .ok (.iload_n 0, 1) := by decide +kernel
theorem dJ6_bitCount_0f7a4_25 : decode cJ6_bitCount_0f7a4 25 = .ok (.iload_n 0, 1) := by decide +kernel
theorem dJ6_bitCount_0f7a4_26 : decode cJ6_bitCount_0f7a4 26 = .ok (.iconst 4, 1) := by decide +kernel
theorem dJ6_bitCount_0f7a4_27 : decode cJ6_bitCount_0f7a4 27 = .ok (.iushr, 1) := by decide +kernel
theorem dJ6_bitCount_0f7a4_28 : decode cJ6_bitCount_0f7a4 28 = .ok (.iadd, 1) := by decide +kernel
theorem dJ6_bitCount_0f7a4_29 : decode cJ6_bitCount_0f7a4 29 = .ok (.ldc_w 267, 3) := by decide +kernel
theorem dJ6_bitCount_0f7a4_32 : decode cJ6_bitCount_0f7a4 32 = .ok (.iand, 1) := by decide +kernel
theorem dJ6_bitCount_0f7a4_33 : decode cJ6_bitCount_0f7a4 33 = .ok (.istore_n 0, 1) := by decide +kernel
theorem dJ6_bitCount_0f7a4_34 : decode cJ6_bitCount_0f7a4 34 = .ok (.iload_n 0, 1) := by decide +kernel
theorem dJ6_bitCount_0f7a4_35 : decode cJ6_bitCount_0f7a4 35 = .ok (.iload_n 0, 1) := by decide +kernel
theorem dJ6_bitCount_0f7a4_36 : decode cJ6_bitCount_0f7a4 36 = .ok (.bipush 8, 2) := by decide +kernel
theorem dJ6_bitCount_0f7a4_38 : decode cJ6_bitCount_0f7a4 38 = .ok (.iushr, 1) := by decide +kernel
theorem dJ6_bitCount_0f7a4_39 : decode cJ6_bitCount_0f7a4 39 = .ok (.iadd, 1) := by decide +kernel
theorem dJ6_bitCount_0f7a4_40 : decode cJ6_bitCount_0f7a4 40 = .ok (.istore_n 0, 1) := by decide +kernel
theorem dJ6_bitCount_0f7a4_41 : decode cJ6_bitCount_0f7a4 41 = .ok (.iload_n 0, 1) := by decide +kernel
theorem dJ6_bitCount_0f7a4_42 : decode cJ6_bitCount_0f7a4 42 = .ok (.iload_n 0, 1) := by decide +kernel
theorem dJ6_bitCount_0f7a4_43 : decode cJ6_bitCount_0f7a4 43 = .ok (.bipush 16, 2) := by decide +kernel
theorem dJ6_bitCount_0f7a4_45 : decode cJ6_bitCount_0f7a4 45 = .ok (.iushr, 1) := by decide +kernel
theorem dJ6_bitCount_0f7a4_46 : decode cJ6_bitCount_0f7a4 46 = .ok (.iadd, 1) := by decide +kernel
theorem dJ6_bitCount_0f7a4_47 : decode cJ6_bitCount_0f7a4 47 = .ok (.istore_n 0, 1) := by decide +kernel
theorem dJ6_bitCount_0f7a4_48 : decode cJ6_bitCount_0f7a4 48 = .ok (.iload_n 0, 1) := by decide +kernel
theorem dJ6_bitCount_0f7a4_49 : decode cJ6_bitCount_0f7a4 49 = .ok (.bipush 63, 2) := by decide +kernel
theorem dJ6_bitCount_0f7a4_51 : decode cJ6_bitCount_0f7a4 51 = .ok (.iand, 1) := by decide +kernel
theorem dJ6_bitCount_0f7a4_52 : decode cJ6_bitCount_0f7a4 52 = .ok (.ireturn, 1) := by decide +kernel
theorem dJ9_floorMod_7cf53_0 : decode cJ9_floorMod_7cf53 0 = .ok (.iload_n 0, 1) := by decide +kernel
theorem dJ9_floorMod_7cf53_1 : decode cJ9_floorMod_7cf53 1 = .ok (.iload_n 1, 1) := by decide +kernel
theorem dJ9_floorMod_7cf53_2 : decode cJ9_floorMod_7cf53 2 = .ok (.irem, 1) := by decide +kernel
theorem dJ9_floorMod_7cf53_3 : decode cJ9_floorMod_7cf53 3 = .ok (.istore_n 2, 1) := by decide +kernel
theorem dJ9_floorMod_7cf53_4 : decode cJ9_floorMod_7cf53 4 = .ok (.iload_n 0, 1) := by decide +kernel
theorem dJ9_floorMod_7cf53_5 : decode cJ9_floorMod_7cf53 5 = .ok (.iload_n 1, 1) := by decide +kernel
theorem dJ9_floorMod_7cf53_6 : decode cJ9_floorMod_7cf53 6 = .ok (.ixor, 1) := by decide +kernel
theorem dJ9_floorMod_7cf53_7 : decode cJ9_floorMod_7cf53 7 = .ok (.ifCond .ge 11, 3) := by decide +kernel
theorem dJ9_floorMod_7cf53_10 : decode cJ9_floorMod_7cf53 10 = .ok (.iload_n 2, 1) := by decide +kernel
theorem dJ9_floorMod_7cf53_11 : decode cJ9_floorMod_7cf53 11 = .ok (.ifCond .eq 7, 3) := by decide +kernel
theorem dJ9_floorMod_7cf53_14 : decode cJ9_floorMod_7cf53 14 = .ok (.iload_n 2, 1) := by decide +kernel
theorem dJ9_floorMod_7cf53_15 : decode cJ9_floorMod_7cf53 15 = .ok (.iload_n 1, 1) := by decide +kernel
theorem dJ9_floorMod_7cf53_16 : decode cJ9_floorMod_7cf53 16 = .ok (.iadd, 1) := by decide +kernel
theorem dJ9_floorMod_7cf53_17 : decode cJ9_floorMod_7cf53 17 = .ok (.ireturn, 1) := by decide +kernel
theorem dJ9_floorMod_7cf53_18 : decode cJ9_floorMod_7cf53 18 = .ok (.iload_n 2, 1) := by decide +kernel
theorem dJ9_floorMod_7cf53_19 : decode cJ9_floorMod_7cf53 19 = .ok (.ireturn, 1) := by decide +kernel
theorem dJ9_max_7cf53_0 : decode cJ9_max_7cf53 0 = .ok (.iload_n 0, 1) := by decide +kernel
theorem dJ9_max_7cf53_1 : decode cJ9_max_7cf53 1 = .ok (.iload_n 1, 1) := by decide +kernel
theorem dJ9_max_7cf53_2 : decode cJ9_max_7cf53 2 = .ok (.if_icmp .lt 7, 3) := by decide +kernel
theorem dJ9_max_7cf53_5 : decode cJ9_max_7cf53 5 = .ok (.iload_n 0, 1) := by decide +kernel
theorem dJ9_max_7cf53_6 : decode cJ9_max_7cf53 6 = .ok (.goto 4, 3) := by decide +kernel
theorem dJ9_max_7cf53_9 : decode cJ9_max_7cf53 9 = .ok (.iload_n 1, 1) := by decide +kernel
theorem dJ9_max_7cf53_10 : decode cJ9_max_7cf53 10 = .ok (.ireturn, 1) := by decide +kernel
theorem dJ9_min_7cf53_0 : decode cJ9_min_7cf53 0 = .ok (.iload_n 0, 1) := by decide +kernel
theorem dJ9_min_7cf53_1 : decode cJ9_min_7cf53 1 = .ok (.iload_n 1, 1) := by decide +kernel
theorem dJ9_min_7cf53_2 : decode cJ9_min_7cf53 2 = .ok (.if_icmp .gt 7, 3) := by decide +kernel
theorem dJ9_min_7cf53_5 : decode cJ9_min_7cf53 5 = .ok (.iload_n 0, 1) := by decide +kernel
theorem dJ9_min_7cf53_6 : decode cJ9_min_7cf53 6 = .ok (.goto 4, 3) := by decide +kernel
theorem dJ9_min_7cf53_9 : decode cJ9_min_7cf53 9 = .ok (.iload_n 1, 1) := by decide +kernel
theorem dJ9_min_7cf53_10 : decode cJ9_min_7cf53 10 = .ok (.ireturn, 1) := by decide +kernel
theorem dJ0_length_8abf5_0 : decode cJ0_length_8abf5 0 = .ok (.aload_n 0, 1) := by decide +kernel
theorem dJ0_length_8abf5_1 : decode cJ0_length_8abf5 1 = .ok (.getfield 9, 3) := by decide +kernel
theorem dJ0_length_8abf5_4 : decode cJ0_length_8abf5 4 = .ok (.arraylength, 1) := by decide +kernel
theorem dJ0_length_8abf5_5 : decode cJ0_length_8abf5 5 = .ok (.aload_n 0, 1) := by decide +kernel
theorem dJ0_length_8abf5_6 : decode cJ0_length_8abf5 6 = .ok (.invokevirtual 335, 3) := by decide +kernel
theorem dJ0_length_8abf5_9 : decode cJ0_length_8abf5 9 = .ok (.ishr, 1) := by decide +kernel
theorem dJ0_length_8abf5_10 : decode cJ0_length_8abf5 10 = .ok (.ireturn, 1) := by decide +kernel
theorem dJ0_charAt_5068e_0 : decode cJ0_charAt_5068e 0 = .ok (.aload_n 0, 1) := by decide +kernel
theorem dJ0_charAt_5068e_1 : decode cJ0_charAt_5068e 1 = .ok (.invokevirtual 492, 3) := by decide +kernel
theorem dJ0_charAt_5068e_4 : decode cJ0_charAt_5068e 4 = .ok (.ifCond .eq 12, 3) := by decide +kernel
theorem dJ0_charAt_5068e_7 : decode cJ0_charAt_5068e 7 = .ok (.aload_n 0, 1) := by decide +kernel
theorem dJ0_charAt_5068e_8 : decode cJ0_charAt_5068e 8 = .ok (.getfield 9, 3) := by decide +kernel
theorem dJ0_charAt_5068e_11 : decode cJ0_charAt_5068e 11 = .ok (.iload_n 1, 1) := by decide +kernel
theorem dJ0_charAt_5068e_12 : decode cJ0_charAt_5068e 12 = .ok (.invokestatic 495, 3) := by decide +kernel
theorem dJ0_charAt_5068e_15 : decode cJ0_charAt_5068e 15 = .ok (.ireturn, 1) := by decide +kernel
theorem dJ0_charAt_5068e_16 : decode cJ0_charAt_5068e 16 = .ok (.aload_n 0, 1) := by decide +kernel
theorem dJ0_charAt_5068e_17 : decode cJ0_charAt_5068e 17 = .ok (.getfield 9, 3) := by decide +kernel
theorem dJ0_charAt_5068e_20 : decode cJ0_charAt_5068e 20 = .ok (.iload_n 1, 1) := by decide +kernel
theorem dJ0_charAt_5068e_21 : decode cJ0_charAt_5068e 21 = .ok (.invokestatic 498, 3) := by decide +kernel
theorem dJ0_charAt_5068e_24 : decode cJ0_charAt_5068e 24 = .ok (.ireturn, 1) := by decide +kernel
theorem dJ0_coder_7d493_0 : decode cJ0_coder_7d493 0 = .ok (.getstatic 38, 3) := by decide +kernel
theorem dJ0_coder_7d493_3 : decode cJ0_coder_7d493 3 = .ok (.ifCond .eq 10, 3) := by decide +kernel
theorem dJ0_coder_7d493_6 : decode cJ0_coder_7d493 6 = .ok (.aload_n 0, 1) := by decide +kernel
theorem dJ0_coder_7d493_7 : decode cJ0_coder_7d493 7 = .ok (.getfield 15, 3) := by decide +kernel
theorem dJ0_coder_7d493_10 : decode cJ0_coder_7d493 10 = .ok (.goto 4, 3) := by decide +kernel
theorem dJ0_coder_7d493_13 : decode cJ0_coder_7d493 13 = .ok (.iconst 1, 1) := by decide +kernel
theorem dJ0_coder_7d493_14 : decode cJ0_coder_7d493 14 = .ok (.ireturn, 1) := by decide +kernel
theorem dJ0_isLatin1_aae02_0 : decode cJ0_isLatin1_aae02 0 = .ok (.getstatic 38, 3) := by decide +kernel
theorem dJ0_isLatin1_aae02_3 : decode cJ0_isLatin1_aae02 3 = .ok (.ifCond .eq 14, 3) := by decide +kernel
theorem dJ0_isLatin1_aae02_6 : decode cJ0_isLatin1_aae02 6 = .ok (.aload_n 0, 1) := by decide +kernel
theorem dJ0_isLatin1_aae02_7 : decode cJ0_isLatin1_aae02 7 = .ok (.getfield 15, 3) := by decide +kernel
theorem dJ0_isLatin1_aae02_10 : decode cJ0_isLatin1_aae02 10 = .ok (.ifCond .ne 7, 3) := by decide +kernel
theorem dJ0_isLatin1_aae02_13 : decode cJ0_isLatin1_aae02 13 = .ok (.iconst 1, 1) := by decide +kernel
theorem dJ0_isLatin1_aae02_14 : decode cJ0_isLatin1_aae02 14 = .ok (.goto 4, 3) := by decide +kernel
theorem dJ0_isLatin1_aae02_17 : decode cJ0_isLatin1_aae02 17 = .ok (.iconst 0, 1) := by decide +kernel
theorem dJ0_isLatin1_aae02_18 : decode cJ0_isLatin1_aae02 18 = .ok (.ireturn, 1) := by decide +kernel
theorem dJ0_checkIndex_df160_0 : decode cJ0_checkIndex_df160 0 = .ok (.iload_n 0, 1) := by decide +kernel
theorem dJ0_checkIndex_df160_1 : decode cJ0_checkIndex_df160 1 = .ok (.iload_n 1, 1) := by decide +kernel
theorem dJ0_checkIndex_df160_2 : decode cJ0_checkIndex_df160 2 = .ok (.getstatic 1053, 3) := by decide +kernel
theorem dJ0_checkIndex_df160_5 : decode cJ0_checkIndex_df160 5 = .ok (.invokestatic 1059, 3) := by decide +kernel
theorem dJ0_checkIndex_df160_8 : decode cJ0_checkIndex_df160 8 = .ok (.pop, 1) := by decide +kernel
theorem dJ0_checkIndex_df160_9 : decode cJ0_checkIndex_df160 9 = .ok (.return_, 1) := by decide +kernel
theorem dJ1_charAt_3b067_0 : decode cJ1_charAt_3b067 0 = .ok (.iload_n 1, 1) := by decide +kernel
theorem dJ1_charAt_3b067_1 : decode cJ1_charAt_3b067 1 = .ok (.aload_n 0, 1) := by decide +kernel
theorem dJ1_charAt_3b067_2 : decode cJ1_charAt_3b067 2 = .ok (.arraylength, 1) := by decide +kernel
theorem dJ1_charAt_3b067_3 : decode cJ1_charAt_3b067 3 = .ok (.invokestatic 9, 3) := by decide +kernel
theorem dJ1_charAt_3b067_6 : decode cJ1_charAt_3b067 6 = .ok (.aload_n 0, 1) := by decide +kernel
theorem dJ1_charAt_3b067_7 : decode cJ1_charAt_3b067 7 = .ok (.iload_n 1, 1) := by decide +kernel
theorem dJ1_charAt_3b067_8 : decode cJ1_charAt_3b067 8 = .ok (.baload, 1) := by decide +kernel
theorem dJ1_charAt_3b067_9 : decode cJ1_charAt_3b067 9 = .ok (.sipush 255, 3) := by decide +kernel
theorem dJ1_charAt_3b067_12 : decode cJ1_charAt_3b067 12 = .ok (.iand, 1) := by decide +kernel
theorem dJ1_charAt_3b067_13 : decode cJ1_charAt_3b067 13 = .ok (.i2c, 1) := by decide +kernel
theorem dJ1_charAt_3b067_14 : decode cJ1_charAt_3b067 14 = .ok (.ireturn, 1) := by decide +kernel
theorem dJ2_getChar_3b067_0 : decode cJ2_getChar_3b067 0 = .ok (.getstatic 44, 3) := by decide +kernel
theorem dJ2_getChar_3b067_3 : decode cJ2_getChar_3b067 3 = .ok (.ifCond .ne 25, 3) := by decide +kernel
theorem dJ2_getChar_3b067_6 : decode cJ2_getChar_3b067 6 = .ok (.iload_n 1, 1) := by decide +kernel
theorem dJ2_getChar_3b067_7 : decode cJ2_getChar_3b067 7 = .ok (.ifCond .lt 11, 3) := by decide +kernel
theorem dJ2_getChar_3b067_10 : decode cJ2_getChar_3b067 10 = .ok (.iload_n 1, 1) := by decide +kernel
theorem dJ2_getChar_3b067_11 : decode cJ2_getChar_3b067 11 = .ok (.aload_n 0, 1) := by decide +kernel
theorem dJ2_getChar_3b067_12 : decode cJ2_getChar_3b067 12 = .ok (.invokestatic 48, 3) := by decide +kernel
theorem dJ2_getChar_3b067_15 : decode cJ2_getChar_3b067 15 = .ok (.if_icmp .lt 13, 3) := by decide +kernel
theorem dJ2_getChar_3b067_18 : decode cJ2_getChar_3b067 18 = .ok (.new 52, 3) := by decide +kernel
theorem dJ2_getChar_3b067_21 : decode cJ2_getChar_3b067 21 = .ok (.dup, 1) := by decide +kernel
theorem dJ2_getChar_3b067_22 : decode cJ2_getChar_3b067 22 = .ok (.ldc 54, 2) := by decide +kernel
theorem dJ2_getChar_3b067_24 : decode cJ2_getChar_3b067 24 = .ok (.invokespecial 56, 3) := by decide +kernel
theorem dJ2_getChar_3b067_27 : decode cJ2_getChar_3b067 27 = .ok (.athrow, 1) := by decide +kernel
theorem dJ2_getChar_3b067_28 : decode cJ2_getChar_3b067 28 = .ok (.iload_n 1, 1) := by decide +kernel
theorem dJ2_getChar_3b067_29 : decode cJ2_getChar_3b067 29 = .ok (.iconst 1, 1) := by decide +kernel
theorem dJ2_getChar_3b067_30 : decode cJ2_getChar_3b067 30 = .ok (.ishl, 1) := by decide +kernel
theorem dJ2_getChar_3b067_31 : decode cJ2_getChar_3b067 31 = .ok (.istore_n 1, 1) := by decide +kernel
theorem dJ2_getChar_3b067_32 : decode cJ2_getChar_3b067 32 = .ok (.aload_n 0, 1) := by decide +kernel
theorem dJ2_getChar_3b067_33 : decode cJ2_getChar_3b067 33 = .ok (.iload_n 1, 1) := by decide +kernel
theorem dJ2_getChar_3b067_34 : decode cJ2_getChar_3b067 34 = .ok (.iinc 1 1, 3) := by decide +kernel
theorem dJ2_getChar_3b067_37 : decode cJ2_getChar_3b067 37 = .ok (.baload, 1) := by decide +kernel
theorem dJ2_getChar_3b067_38 : decode cJ2_getChar_3b067 38 = .ok (.sipush 255, 3) := by decide +kernel
theorem dJ2_getChar_3b067_41 : decode cJ2_getChar_3b067 41 = .ok (.iand, 1) := by decide +kernel
theorem dJ2_getChar_3b067_42 : decode cJ2_getChar_3b067 42 = .ok (.getstatic 59, 3) := by decide +kernel
theorem dJ2_getChar_3b067_45 : decode cJ2_getChar_3b067 45 = .ok (.ishl, 1) := by decide +kernel
theorem dJ2_getChar_3b067_46 : decode cJ2_getChar_3b067 46 = .ok (.aload_n 0, 1) := by decide +kernel
theorem dJ2_getChar_3b067_47 : decode cJ2_getChar_3b067 47 = .ok (.iload_n 1, 1) := by decide +kernel
theorem dJ2_getChar_3b067_48 : decode cJ2_getChar_3b067 48 = .ok (.baload, 1) := by decide +kernel
theorem dJ2_getChar_3b067_49 : decode cJ2_getChar_3b067 49 = .ok (.sipush 255, 3) := by decide +kernel
theorem dJ2_getChar_3b067_52 : decode cJ2_getChar_3b067 52 = .ok (.iand, 1) := by decide +kernel
theorem dJ2_getChar_3b067_53 : decode cJ2_getChar_3b067 53 = .ok (.getstatic 63, 3) := by decide +kernel
theorem dJ2_getChar_3b067_56 : decode cJ2_getChar_3b067 56 = .ok (.ishl, 1) := by decide +kernel
theorem dJ2_getChar_3b067_57 : decode cJ2_getChar_3b067 57 = .ok (.ior, 1) := by decide +kernel
theorem dJ2_getChar_3b067_58 : decode cJ2_getChar_3b067 58 = .ok (.i2c, 1) := by decide +kernel
theorem dJ2_getChar_3b067_59 : decode cJ2_getChar_3b067 59 = .ok (.ireturn, 1) := by decide +kernel
theorem dJ2_length_9d52b_0 : decode cJ2_length_9d52b 0 = .ok (.aload_n 0, 1) := by decide +kernel
theorem dJ2_length_9d52b_1 : decode cJ2_length_9d52b 1 = .ok (.arraylength, 1) := by decide +kernel
theorem dJ2_length_9d52b_2 : decode cJ2_length_9d52b 2 = .ok (.iconst 1, 1) := by decide +kernel
theorem dJ2_length_9d52b_3 : decode cJ2_length_9d52b 3 = .ok (.ishr, 1) := by decide +kernel
theorem dJ2_length_9d52b_4 : decode cJ2_length_9d52b 4 = .ok (.ireturn, 1) := by decide +kernel
theorem dJ2_charAt_3b067_0 : decode cJ2_charAt_3b067 0 = .ok (.iload_n 1, 1) := by decide +kernel
theorem dJ2_charAt_3b067_1 : decode cJ2_charAt_3b067 1 = .ok (.aload_n 0, 1) := by decide +kernel
theorem dJ2_charAt_3b067_2 : decode cJ2_charAt_3b067 2 = .ok (.invokestatic 67, 3) := by decide +kernel
theorem dJ2_charAt_3b067_5 : decode cJ2_charAt_3b067 5 = .ok (.aload_n 0, 1) := by decide +kernel
theorem dJ2_charAt_3b067_6 : decode cJ2_charAt_3b067 6 = .ok (.iload_n 1, 1) := by decide +kernel
theorem dJ2_charAt_3b067_7 : decode cJ2_charAt_3b067 7 = .ok (.invokestatic 71, 3) := by decide +kernel
theorem dJ2_charAt_3b067_10 : decode cJ2_charAt_3b067 10 = .ok (.ireturn, 1) := by decide +kernel
theorem dJ2_checkIndex_2214a_0 : decode cJ2_checkIndex_2214a 0 = .ok (.iload_n 0, 1) := by decide +kernel
theorem dJ2_checkIndex_2214a_1 : decode cJ2_checkIndex_2214a 1 = .ok (.aload_n 1, 1) := by decide +kernel
theorem dJ2_checkIndex_2214a_2 : decode cJ2_checkIndex_2214a 2 = .ok (.invokestatic 48, 3) := by decide +kernel
theorem dJ2_checkIndex_2214a_5 : decode cJ2_checkIndex_2214a 5 = .ok (.invokestatic 414, 3) := by decide +kernel
theorem dJ2_checkIndex_2214a_8 : decode cJ2_checkIndex_2214a 8 = .ok (.return_, 1) := by decide +kernel
theorem dJ3_checkIndex_8e157_0 : decode cJ3_checkIndex_8e157 0 = .ok (.iload_n 0, 1) := by decide +kernel
theorem dJ3_checkIndex_8e157_1 : decode cJ3_checkIndex_8e157 1 = .ok (.ifCond .lt 8, 3) := by decide +kernel
theorem dJ3_checkIndex_8e157_4 : decode cJ3_checkIndex_8e157 4 = .ok (.iload_n 0, 1) := by decide +kernel
theorem dJ3_checkIndex_8e157_5 : decode cJ3_checkIndex_8e157 5 = .ok (.iload_n 1, 1) := by decide +kernel
theorem dJ3_checkIndex_8e157_6 : decode cJ3_checkIndex_8e157 6 = .ok (.if_icmp .lt 10, 3) := by decide +kernel
theorem dJ3_checkIndex_8e157_9 : decode cJ3_checkIndex_8e157 9 = .ok (.aload_n 2, 1) := by decide +kernel
theorem dJ3_checkIndex_8e157_10 : decode cJ3_checkIndex_8e157 10 = .ok (.iload_n 0, 1) := by decide +kernel
theorem dJ3_checkIndex_8e157_11 : decode cJ3_checkIndex_8e157 11 = .ok (.iload_n 1, 1) := by decide +kernel
theorem dJ3_checkIndex_8e157_12 : decode cJ3_checkIndex_8e157 12 = .ok (.invokestatic 95, 3) := by decide +kernel
theorem dJ3_checkIndex_8e157_15 : decode cJ3_checkIndex_8e157 15 = .ok (.athrow, 1) := by decide +kernel
theorem dJ3_checkIndex_8e157_16 : decode cJ3_checkIndex_8e157 16 = .ok (.iload_n 0, 1) := by decide +kernel
theorem dJ3_checkIndex_8e157_17 : decode cJ3_checkIndex_8e157 17 = .ok (.ireturn, 1) := by decide +kernel
